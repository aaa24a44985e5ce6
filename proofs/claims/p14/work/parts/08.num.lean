/-! FLOATS by their sizes (bits without the sign): digits, power, and the nearest size of digits at a power -/
def fz_dg (a : Nat) : Nat := if a < 8388608 then a else a % 8388608 + 8388608
def fz_pw (a : Nat) : Int := if a < 8388608 then -149 else ((a / 8388608 : Nat) : Int) - 150
def fz_cap (x : Nat) : Nat := if x < 2139095040 then x else 2139095040
def fz_rn (m n : Nat) (st : Bool) : Nat := if m / 2 ^ (n - 1) % 2 = 1 ∧ (st = true ∨ ¬ m % 2 ^ (n - 1) = 0 ∨ m / 2 ^ n % 2 = 1) then m / 2 ^ n + 1 else m / 2 ^ n
def fz_u (m : Nat) (e : Int) : Int := if e + (Nat.log2 m : Int) - 23 < -149 then -149 else e + (Nat.log2 m : Int) - 23
def fz (m : Nat) (e : Int) (st : Bool) : Nat := if m = 0 then 0 else if fz_u m e ≤ e then fz_cap ((fz_u m e + 149).toNat * 8388608 + m * 2 ^ (e - fz_u m e).toNat) else fz_cap ((fz_u m e + 149).toNat * 8388608 + fz_rn m (fz_u m e - e).toNat st)
theorem fz_dgB (a : Nat) : fz_dg a < 16777216 ∧ (8388608 ≤ a → 8388608 ≤ fz_dg a) ∧ (a < 8388608 → fz_dg a = a) ∧ (fz_dg a = 0 → a = 0) := by
  unfold fz_dg
  split <;> omega
theorem fz_pwB (a : Nat) : -149 ≤ fz_pw a ∧ (a ≤ 2139095040 → fz_pw a ≤ 105) ∧ (a < 2139095040 → fz_pw a ≤ 104) ∧ (a < 8388608 → fz_pw a = -149) ∧ (-149 < fz_pw a → 8388608 ≤ a) := by
  unfold fz_pw
  split <;> omega
theorem fz_val (a : Nat) : (fz_pw a + 149) * 8388608 + (fz_dg a : Int) = a := by
  unfold fz_pw fz_dg
  split <;> omega
theorem fz_valN (a : Nat) : (fz_pw a + 149).toNat * 8388608 + fz_dg a = a := by
  have h1 := fz_val a
  have h2 := (fz_pwB a).1
  omega
theorem fz_lo {m : Nat} (h0 : m ≠ 0) : 2 ^ Nat.log2 m ≤ m := (Nat.le_log2 h0).mp (Nat.le_refl _)
theorem fz_hi {m : Nat} (h0 : m ≠ 0) : m < 2 ^ (Nat.log2 m + 1) := (Nat.log2_lt h0).mp (Nat.lt_succ_self _)
theorem fz_logle {m k : Nat} (h0 : m ≠ 0) (h2 : m < 2 ^ (k + 1)) : Nat.log2 m ≤ k := Nat.le_of_lt_succ ((Nat.log2_lt h0).mpr h2)
theorem fz_logge {m k : Nat} (h0 : m ≠ 0) (h2 : 2 ^ k ≤ m) : k ≤ Nat.log2 m := (Nat.le_log2 h0).mpr h2
theorem fz_log {m k : Nat} (h1 : 2 ^ k ≤ m) (h2 : m < 2 ^ (k + 1)) : Nat.log2 m = k := by
  have h0 : m ≠ 0 := by
    have := Nat.two_pow_pos k
    omega
  exact Nat.le_antisymm (fz_logle h0 h2) (fz_logge h0 h1)
theorem fz_logdiv {a k : Nat} (h : 2 ^ k ≤ a) : Nat.log2 a = k + Nat.log2 (a / 2 ^ k) := by
  have hp := Nat.two_pow_pos k
  have hb : a / 2 ^ k ≠ 0 := by
    have := Nat.div_pos h hp
    omega
  have h1 := fz_lo hb
  have h2 := fz_hi hb
  apply fz_log
  · rw [Nat.pow_add, Nat.mul_comm]
    exact (Nat.le_div_iff_mul_le hp).mp h1
  · have h3 := (Nat.div_lt_iff_lt_mul hp).mp h2
    rw [show k + Nat.log2 (a / 2 ^ k) + 1 = (Nat.log2 (a / 2 ^ k) + 1) + k by omega, Nat.pow_add]
    exact h3
theorem fz_capE {x : Nat} (h : x ≤ 2139095040) : fz_cap x = x := by
  unfold fz_cap
  split <;> omega
theorem fz_capT {x : Nat} (h : 2139095040 ≤ x) : fz_cap x = 2139095040 := by
  unfold fz_cap
  split <;> omega
theorem fz_capB (x : Nat) : fz_cap x ≤ 2139095040 := by
  unfold fz_cap
  split <;> omega
theorem fz_B (m : Nat) (e : Int) (st : Bool) : fz m e st ≤ 2139095040 := by
  unfold fz
  split
  · omega
  · split <;> exact fz_capB _
theorem fz_zero (e : Int) (st : Bool) : fz 0 e st = 0 := if_pos rfl
theorem fz_R {m n : Nat} {e u : Int} (st : Bool) (hn : 1 ≤ n) (hu : u = e + n) (h0 : m ≠ 0) (h2 : m < 2 ^ (n + 24)) (h1 : (2 ^ (n + 23) ≤ m ∧ -149 ≤ u) ∨ u = -149) : fz m e st = fz_cap ((u + 149).toNat * 8388608 + fz_rn m n st) := by
  have hl : Nat.log2 m ≤ n + 23 := fz_logle h0 h2
  have hU : fz_u m e = u := by
    unfold fz_u
    rcases h1 with ⟨h1, h3⟩ | h1
    · have hg := fz_logge h0 h1
      split <;> omega
    · split <;> omega
  unfold fz
  rw [if_neg h0, hU, if_neg (by omega), show (u - e).toNat = n by omega]
theorem fz_L {m n : Nat} {e u : Int} (st : Bool) (hu : u + n = e) (h0 : m ≠ 0) (h2 : m * 2 ^ n < 16777216) (h1 : (8388608 ≤ m * 2 ^ n ∧ -149 ≤ u) ∨ u = -149) : fz m e st = fz_cap ((u + 149).toNat * 8388608 + m * 2 ^ n) := by
  have hn : n ≤ 23 := by
    apply Nat.le_of_not_lt
    intro h
    have a1 : 2 ^ 24 ≤ 2 ^ n := Nat.pow_le_pow_right (by decide) h
    have a2 : 1 * 2 ^ n ≤ m * 2 ^ n := Nat.mul_le_mul_right _ (by omega)
    omega
  have e24 : 2 ^ (23 - n + 1) * 2 ^ n = 16777216 := by
    rw [← Nat.pow_add, show 23 - n + 1 + n = 24 by omega]
  have e23 : 2 ^ (23 - n) * 2 ^ n = 8388608 := by
    rw [← Nat.pow_add, show 23 - n + n = 23 by omega]
  have hlt : m < 2 ^ (23 - n + 1) := Nat.lt_of_mul_lt_mul_right (a := 2 ^ n) (Nat.lt_of_lt_of_eq h2 e24.symm)
  have hl := fz_logle h0 hlt
  have hU : fz_u m e = u := by
    unfold fz_u
    rcases h1 with ⟨h1, h3⟩ | h1
    · have hge : 2 ^ (23 - n) ≤ m := Nat.le_of_mul_le_mul_right (Nat.le_trans (Nat.le_of_eq e23) h1) (Nat.two_pow_pos n)
      have hg := fz_logge h0 hge
      split <;> omega
    · split <;> omega
  unfold fz
  rw [if_neg h0, hU, if_pos (by omega), show (e - u).toNat = n by omega]
theorem fz_exact {a : Nat} (st : Bool) (h : a ≤ 2139095040) : fz (fz_dg a) (fz_pw a) st = a := by
  by_cases ha : a = 0
  · subst ha
    exact fz_zero _ _
  · have hd := fz_dgB a
    have hp := fz_pwB a
    rw [fz_L (n := 0) (u := fz_pw a) st (by omega) (fun q => ha (hd.2.2.2 q)) (by rw [Nat.pow_zero, Nat.mul_one]; exact hd.1) (by rw [Nat.pow_zero, Nat.mul_one]; by_cases hq : a < 8388608 <;> omega), Nat.pow_zero, Nat.mul_one, fz_valN, fz_capE h]
theorem fz_dv {A B t : Nat} (h : t < B) : (A * B + t) / B = A ∧ (A * B + t) % B = t := by
  refine ⟨?_, ?_⟩
  · rw [Nat.add_comm, Nat.add_mul_div_right _ _ (by omega), Nat.div_eq_of_lt h, Nat.zero_add]
  · rw [Nat.add_comm, Nat.add_mul_mod_self_right, Nat.mod_eq_of_lt h]
theorem fz_rnE {A k t : Nat} (st : Bool) (hk : 1 ≤ k) (ht : t < 2 ^ (k - 1)) : fz_rn (A * 2 ^ k + t) k st = A := by
  obtain ⟨i, rfl⟩ : ∃ i, k = i + 1 := ⟨k - 1, by omega⟩
  rw [Nat.add_sub_cancel] at ht
  have e1 : A * 2 ^ (i + 1) + t = A * 2 * 2 ^ i + t := by rw [Nat.pow_succ', Nat.mul_assoc]
  have d1 : (A * 2 ^ (i + 1) + t) / 2 ^ i = A * 2 := by rw [e1]; exact (fz_dv ht).1
  have d2 : (A * 2 ^ (i + 1) + t) / 2 ^ (i + 1) = A := (fz_dv (Nat.lt_trans ht (Nat.pow_lt_pow_right (by decide) (Nat.lt_succ_self i)))).1
  unfold fz_rn
  rw [Nat.add_sub_cancel, d1, d2, if_neg (by omega)]
theorem fz_rnM {A k t : Nat} (st : Bool) (hk : 1 ≤ k) (hA : 1 ≤ A) (h0 : 0 < t) (ht : t < 2 ^ (k - 1)) : fz_rn (A * 2 ^ k - t) k st = A := by
  obtain ⟨i, rfl⟩ : ∃ i, k = i + 1 := ⟨k - 1, by omega⟩
  obtain ⟨B, rfl⟩ : ∃ B, A = B + 1 := ⟨A - 1, by omega⟩
  rw [Nat.add_sub_cancel] at ht
  have p1 : 2 ^ (i + 1) = 2 * 2 ^ i := Nat.pow_succ'
  have e2 : (B + 1) * 2 ^ (i + 1) - t = B * 2 ^ (i + 1) + (2 ^ (i + 1) - t) := by
    rw [Nat.add_mul, Nat.one_mul]
    omega
  have e1 : (B + 1) * 2 ^ (i + 1) - t = (B * 2 + 1) * 2 ^ i + (2 ^ i - t) := by
    rw [e2, p1, Nat.add_mul, Nat.one_mul, Nat.mul_assoc]
    omega
  have d1 : ((B + 1) * 2 ^ (i + 1) - t) / 2 ^ i = B * 2 + 1 := by rw [e1]; exact (fz_dv (by omega)).1
  have d3 : ((B + 1) * 2 ^ (i + 1) - t) % 2 ^ i = 2 ^ i - t := by rw [e1]; exact (fz_dv (by omega)).2
  have d2 : ((B + 1) * 2 ^ (i + 1) - t) / 2 ^ (i + 1) = B := by rw [e2]; exact (fz_dv (by omega)).1
  unfold fz_rn
  rw [Nat.add_sub_cancel, d1, d2, d3, if_pos ⟨by omega, Or.inr (Or.inl (by omega))⟩]
theorem fz_exactJ {a j : Nat} (st : Bool) (h : a ≤ 2139095040) (hj : 1 ≤ j) : fz (fz_dg a * 2 ^ j) (fz_pw a - j) st = a := by
  by_cases ha : a = 0
  · subst ha
    rw [show fz_dg 0 = 0 from rfl, Nat.zero_mul]
    exact fz_zero _ _
  · have hd := fz_dgB a
    have hp := fz_pwB a
    have hj0 := Nat.two_pow_pos j
    have hne : fz_dg a * 2 ^ j ≠ 0 := Nat.mul_ne_zero (fun q => ha (hd.2.2.2 q)) (by omega)
    have h2 : fz_dg a * 2 ^ j < 2 ^ (j + 24) := by
      rw [Nat.pow_add, Nat.mul_comm]
      exact Nat.mul_lt_mul_of_pos_left hd.1 hj0
    have h1 : (2 ^ (j + 23) ≤ fz_dg a * 2 ^ j ∧ -149 ≤ fz_pw a) ∨ fz_pw a = -149 := by
      by_cases hq : a < 8388608
      · exact Or.inr (hp.2.2.2.1 hq)
      · refine Or.inl ⟨?_, hp.1⟩
        rw [Nat.pow_add, Nat.mul_comm]
        exact Nat.mul_le_mul_right _ (hd.2.1 (by omega))
    have hr := fz_rnE (A := fz_dg a) (k := j) (t := 0) st hj (Nat.two_pow_pos _)
    rw [Nat.add_zero] at hr
    rw [fz_R (n := j) (u := fz_pw a) st hj (by omega) hne h2 h1, hr, fz_valN, fz_capE h]
theorem fz_dbl {m : Nat} {e : Int} (st st' : Bool) (hm : m < 8388608) (he : -149 < e) : fz (m * 2) (e - 1) st = fz m e st' := by
  by_cases h0 : m = 0
  · subst h0
    rw [Nat.zero_mul, fz_zero, fz_zero]
  · have hl : Nat.log2 m ≤ 22 := fz_logle h0 (show m < 2 ^ 23 by omega)
    have hl2 : Nat.log2 (m * 2) = Nat.log2 m + 1 := by
      have a1 := fz_lo h0
      have a2 := fz_hi h0
      exact fz_log (by rw [Nat.pow_succ]; omega) (by rw [Nat.pow_succ]; omega)
    have hu : fz_u (m * 2) (e - 1) = fz_u m e := by
      unfold fz_u
      rw [hl2]
      split <;> split <;> omega
    have hle : fz_u m e ≤ e - 1 := by
      unfold fz_u
      split <;> omega
    unfold fz
    rw [if_neg h0, if_neg (by omega), hu, if_pos hle, if_pos (by omega), Nat.mul_assoc, ← Nat.pow_succ', show Nat.succ (e - 1 - fz_u m e).toNat = (e - fz_u m e).toNat by omega]
theorem fz_st {m : Nat} {e : Int} (st st' : Bool) (hm : m < 16777216) (he : -149 ≤ e) : fz m e st = fz m e st' := by
  by_cases h0 : m = 0
  · subst h0
    rw [fz_zero, fz_zero]
  · have hl : Nat.log2 m ≤ 23 := fz_logle h0 (show m < 2 ^ 24 by omega)
    have hle : fz_u m e ≤ e := by
      unfold fz_u
      split <;> omega
    unfold fz
    rw [if_neg h0, if_pos hle, if_neg h0, if_pos hle]
theorem fz_flat {m : Nat} {e : Int} (st : Bool) (hm : m < 16777216) (he : -149 ≤ e) (h : 8388608 ≤ m ∨ e = -149) : fz m e st = fz_cap ((e + 149).toNat * 8388608 + m) := by
  by_cases h0 : m = 0
  · subst h0
    rw [fz_zero, fz_capE] <;> omega
  · rw [fz_L (n := 0) (u := e) st (by omega) h0 (by rw [Nat.pow_zero, Nat.mul_one]; exact hm) (by rw [Nat.pow_zero, Nat.mul_one]; omega), Nat.pow_zero, Nat.mul_one]
theorem fz_sticky {m m' : Nat} {e : Int} (hm : 33554432 ≤ m) (h1 : m' / 2 = m / 2) (h2 : m' % 2 = 1) : fz m' e false = fz m e true := by
  have h0 : m ≠ 0 := by omega
  have h0' : m' ≠ 0 := by omega
  have hl1 := fz_logdiv (a := m) (k := 1) (by omega)
  have hl2 := fz_logdiv (a := m') (k := 1) (by omega)
  have hl : Nat.log2 m' = Nat.log2 m := by
    rw [hl1, hl2, Nat.pow_one, h1]
  have hg : 25 ≤ Nat.log2 m := fz_logge h0 (by omega)
  have hu : fz_u m' e = fz_u m e := by
    unfold fz_u
    rw [hl]
  have hle : e + 2 ≤ fz_u m e := by
    unfold fz_u
    split <;> omega
  obtain ⟨i, hi⟩ : ∃ i, (fz_u m e - e).toNat = i + 2 := ⟨(fz_u m e - e).toNat - 2, by omega⟩
  have d1 : ∀ k, m' / 2 ^ (k + 1) = m / 2 ^ (k + 1) := fun k => by
    rw [Nat.pow_succ', ← Nat.div_div_eq_div_mul, ← Nat.div_div_eq_div_mul, h1]
  have r1 : ¬ m' % 2 ^ (i + 1) = 0 := by
    have := Nat.mod_mod_of_dvd m' (show 2 ∣ 2 ^ (i + 1) from ⟨2 ^ i, Nat.pow_succ'⟩)
    omega
  have hr : fz_rn m' (i + 2) false = fz_rn m (i + 2) true := by
    unfold fz_rn
    rw [show i + 2 - 1 = i + 1 from rfl, d1 i, d1 (i + 1)]
    by_cases hb : m / 2 ^ (i + 1) % 2 = 1
    · rw [if_pos ⟨hb, Or.inr (Or.inl r1)⟩, if_pos ⟨hb, Or.inl rfl⟩]
    · rw [if_neg (fun q => hb q.1), if_neg (fun q => hb q.1)]
  unfold fz
  rw [if_neg h0, if_neg h0', hu, if_neg (by omega), if_neg (by omega), hi, hr]
theorem fz_farP {A k t : Nat} {e : Int} (st : Bool) (hA : 8388608 ≤ A) (hA2 : A < 16777216) (hk : 2 ≤ k) (ht : t < 2 ^ (k - 2)) (he : -149 ≤ e + k) (he2 : e + k ≤ 104) : fz (A * 2 ^ k + t) e st = (e + k + 149).toNat * 8388608 + A := by
  have hp := Nat.two_pow_pos k
  have hlt : t < 2 ^ (k - 1) := Nat.lt_of_lt_of_le ht (Nat.pow_le_pow_right (by decide) (by omega))
  have hlt2 : t < 2 ^ k := Nat.lt_of_lt_of_le ht (Nat.pow_le_pow_right (by decide) (by omega))
  have hm1 : 8388608 * 2 ^ k ≤ A * 2 ^ k := Nat.mul_le_mul_right _ hA
  have hm2 : A * 2 ^ k ≤ 16777215 * 2 ^ k := Nat.mul_le_mul_right _ (by omega)
  have p24 : 2 ^ (k + 24) = 16777216 * 2 ^ k := by rw [Nat.pow_add, Nat.mul_comm]
  have p23 : 2 ^ (k + 23) = 8388608 * 2 ^ k := by rw [Nat.pow_add, Nat.mul_comm]
  rw [fz_R (n := k) (u := e + k) st (by omega) rfl (by omega) (by rw [p24]; omega) (Or.inl ⟨by rw [p23]; omega, he⟩), fz_rnE st (by omega) hlt, fz_capE (by omega)]
theorem fz_farM {A k t : Nat} {e : Int} (st : Bool) (hA : 8388608 ≤ A) (hA2 : A < 16777216) (hk : 2 ≤ k) (h0 : 0 < t) (ht : t < 2 ^ (k - 2)) (he : -148 ≤ e + k) (he2 : e + k ≤ 104) : fz (A * 2 ^ k - t) e st = (e + k + 149).toNat * 8388608 + A := by
  obtain ⟨i, rfl⟩ : ∃ i, k = i + 2 := ⟨k - 2, by omega⟩
  rw [Nat.add_sub_cancel] at ht
  have hp := Nat.two_pow_pos i
  have q1 : 2 ^ (i + 1) = 2 * 2 ^ i := Nat.pow_succ'
  have q2 : 2 ^ (i + 2) = 2 * 2 ^ (i + 1) := Nat.pow_succ'
  have p24 : 2 ^ (i + 2 + 24) = 16777216 * 2 ^ (i + 2) := by rw [Nat.pow_add, Nat.mul_comm]
  have p23 : 2 ^ (i + 2 + 23) = 8388608 * 2 ^ (i + 2) := by rw [Nat.pow_add, Nat.mul_comm]
  have r24 : 2 ^ (i + 1 + 24) = 16777216 * 2 ^ (i + 1) := by rw [Nat.pow_add, Nat.mul_comm]
  have r23 : 2 ^ (i + 1 + 23) = 8388608 * 2 ^ (i + 1) := by rw [Nat.pow_add, Nat.mul_comm]
  by_cases hq : A = 8388608
  · subst hq
    have e1 : 8388608 * 2 ^ (i + 2) - t = 16777216 * 2 ^ (i + 1) - t := by omega
    rw [e1, fz_R (n := i + 1) (u := e + (i + 1 : Nat)) st (by omega) rfl (by omega) (by rw [r24]; omega) (Or.inl ⟨by rw [r23]; omega, by omega⟩), fz_rnM st (by omega) (by omega) h0 (by rw [Nat.add_sub_cancel]; exact ht), fz_capE (by omega)]
    omega
  · have hm1 : 8388609 * 2 ^ (i + 2) ≤ A * 2 ^ (i + 2) := Nat.mul_le_mul_right _ (by omega)
    have hm2 : A * 2 ^ (i + 2) ≤ 16777215 * 2 ^ (i + 2) := Nat.mul_le_mul_right _ (by omega)
    rw [fz_R (n := i + 2) (u := e + (i + 2 : Nat)) st (by omega) rfl (by omega) (by rw [p24]; omega) (Or.inl ⟨by rw [p23]; omega, by omega⟩), fz_rnM st (by omega) (by omega) h0 (by rw [show i + 2 - 1 = i + 1 from rfl]; omega), fz_capE (by omega)]
theorem fz_whole {m d : Nat} (st : Bool) (hd : 1 ≤ d) (hd2 : d ≤ 23) (h1 : 8388608 ≤ m * 2 ^ d) (h2 : m * 2 ^ d ≤ 16777216) : fz m 0 st = (149 - d) * 8388608 + m * 2 ^ d := by
  have h0 : m ≠ 0 := by
    intro q
    rw [q, Nat.zero_mul] at h1
    omega
  by_cases hq : m * 2 ^ d = 16777216
  · obtain ⟨i, rfl⟩ : ∃ i, d = i + 1 := ⟨d - 1, by omega⟩
    have e1 : m * 2 ^ (i + 1) = 2 * (m * 2 ^ i) := by rw [Nat.pow_succ', Nat.mul_left_comm]
    rw [fz_L (n := i) (u := -(i : Int)) st (by omega) h0 (by omega) (Or.inl ⟨by omega, by omega⟩), fz_capE (by omega)]
    omega
  · rw [fz_L (n := d) (u := -(d : Int)) st (by omega) h0 (by omega) (Or.inl ⟨by omega, by omega⟩), fz_capE (by omega)]
    omega
