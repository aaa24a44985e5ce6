/-! span -/
theorem wb_loop {a b c : Nat → Int32} {lo hi bl bh : Nat → Int64} {mh mn0 : Nat → Int32} {ml mm : Nat → Int64} {mn : Int32} : ∀ (fuel : Nat) (i : Int32) (vl vh : Nat → Int64), 0 ≤ i.toInt → i.toInt ≤ 4 → 4 - i.toInt < fuel → (∀ v : Nat, (v : Int) < i.toInt → vl v = lo v ∧ vh v = hi v) → ∃ BL BH : Nat → Int64, (∀ v : Nat, v < 4 → BL v = lo v ∧ BH v = hi v) ∧ kX8_wholeBox_l2_v_boxLow fuel a b c lo hi bl bh mh ml mm mn0 mn i vl vh = BL ∧ kX8_wholeBox_l2_v_boxHigh fuel a b c lo hi bl bh mh ml mm mn0 mn i vl vh = BH ∧ kX8_wholeBox_l2_v_has fuel a b c lo hi bl bh mh ml mm mn0 mn i vl vh = kX8_spans_v_has a b c BL BH mh ml mm mn0 mn ∧ kX8_wholeBox_l2_v_least fuel a b c lo hi bl bh mh ml mm mn0 mn i vl vh = kX8_spans_v_least a b c BL BH mh ml mm mn0 mn ∧ kX8_wholeBox_l2_v_most fuel a b c lo hi bl bh mh ml mm mn0 mn i vl vh = kX8_spans_v_most a b c BL BH mh ml mm mn0 mn ∧ kX8_wholeBox_l2_v_mayNone fuel a b c lo hi bl bh mh ml mm mn0 mn i vl vh = kX8_spans_v_mayNone a b c BL BH mh ml mm mn0 mn := by
  intro fuel
  induction fuel with
  | zero => intro i vl vh _ _ h; exact absurd h (by omega)
  | succ fuel ih =>
    intro i vl vh h0 h1 hf hv
    rw [kX8_wholeBox_l2_v_boxLow_S, kX8_wholeBox_l2_v_boxHigh_S, kX8_wholeBox_l2_v_has_S, kX8_wholeBox_l2_v_least_S, kX8_wholeBox_l2_v_most_S, kX8_wholeBox_l2_v_mayNone_S]
    by_cases hq : 4 ≤ i.toInt
    · simp only [if_pos hq]
      exact ⟨vl, vh, fun v hv' => hv v (by omega), rfl, rfl, rfl, rfl, rfl, rfl⟩
    · simp only [if_neg hq]
      have e := px_cl h0
      have e1 : (i + 1).toInt = i.toInt + 1 := sp_inc (by omega)
      refine ih (i + 1) _ _ (by omega) (by omega) (by omega) (fun v hv' => ?_)
      by_cases hvi : v = i.toNatClampNeg
      · rw [hvi, px_ulS, px_ulS]
        exact ⟨rfl, rfl⟩
      · rw [px_ulO _ _ hvi, px_ulO _ _ hvi]
        exact hv v (by omega)
theorem wb_all (a b c : Nat → Int32) (lo hi bl bh : Nat → Int64) (mh : Nat → Int32) (ml mm : Nat → Int64) (mn0 : Nat → Int32) (mn : Int32) : ∃ BL BH : Nat → Int64, (∀ v : Nat, v < 4 → BL v = lo v ∧ BH v = hi v) ∧ kX8_wholeBox_v_boxLow a b c lo hi bl bh mh ml mm mn0 mn = BL ∧ kX8_wholeBox_v_boxHigh a b c lo hi bl bh mh ml mm mn0 mn = BH ∧ kX8_wholeBox_v_has a b c lo hi bl bh mh ml mm mn0 mn = kX8_spans_v_has a b c BL BH mh ml mm mn0 mn ∧ kX8_wholeBox_v_least a b c lo hi bl bh mh ml mm mn0 mn = kX8_spans_v_least a b c BL BH mh ml mm mn0 mn ∧ kX8_wholeBox_v_most a b c lo hi bl bh mh ml mm mn0 mn = kX8_spans_v_most a b c BL BH mh ml mm mn0 mn ∧ kX8_wholeBox_v_mayNone a b c lo hi bl bh mh ml mm mn0 mn = kX8_spans_v_mayNone a b c BL BH mh ml mm mn0 mn := by
  have z : (0 : Int32).toInt = 0 := by decide
  exact wb_loop 6 0 bl bh (by omega) (by omega) (by omega) (fun v hv => absurd hv (by omega))
theorem fs_loop {e0 e1 e2 e3 f2 g2 f g k0 k1 k2 : Nat → Int32} {k5 : Nat → Int64} {nd sd : Int64} {cn : Int32} {f9 g9 : Nat → Int32} {mi sd9 : Int64} (hc : cn.toInt ≤ 40) : ∀ (fuel : Nat) (i : Int32) (y0 y1 y2 y3 : Nat → Int32), 0 ≤ i.toInt → i.toInt ≤ cn.toInt → cn.toInt - i.toInt < fuel → kX6_fill_l27_sd9 fuel e0 e1 e2 e3 f2 g2 f g k0 k1 k2 k5 nd sd cn mi i y0 y1 y2 y3 f9 g9 sd9 = sd9 ||| mi := by
  intro fuel
  induction fuel with
  | zero => intro i y0 y1 y2 y3 _ _ h; exact absurd h (by omega)
  | succ fuel ih =>
    intro i y0 y1 y2 y3 h0 h1 hf
    rw [kX6_fill_l27_sd9_S]
    by_cases hq : cn.toInt ≤ i.toInt
    · rw [if_pos hq]
    · rw [if_neg hq]
      have e1 : (i + 1).toInt = i.toInt + 1 := sp_inc (by omega)
      exact ih (i + 1) _ _ _ _ (by omega) (by omega) (by omega)
theorem fs_all (e0 e1 e2 e3 f2 g2 f g k0 k1 k2 : Nat → Int32) (k5 : Nat → Int64) (nd sd : Int64) {cn : Int32} (hc : 0 ≤ cn.toInt ∧ cn.toInt ≤ 40) {j : Nat} (hj : tb nd j = true) : tb (kX6_fill_sd9 e0 e1 e2 e3 f2 g2 f g k0 k1 k2 k5 nd sd cn) j = true := by
  have z : (0 : Int32).toInt = 0 := by decide
  have h : kX6_fill_sd9 e0 e1 e2 e3 f2 g2 f g k0 k1 k2 k5 nd sd cn = kX6_forget_sd9 k5 (kX1_follow f2 g2 f g) sd ||| kX6_fill_s22 e0 e1 e2 e3 f2 g2 f g k0 k1 k2 k5 nd sd cn := fs_loop hc.2 42 0 e0 e1 e2 e3 (by omega) (by omega) (by omega)
  have h64 : j < 64 := by
    apply Nat.lt_of_not_le
    intro q
    rw [tb_big q] at hj
    exact absurd hj (by decide)
  rw [h, tb_or]
  unfold kX6_fill_s22
  rw [tb_and, tb_not _ h64, hj]
  cases tb (kX6_forget_sd9 k5 (kX1_follow f2 g2 f g) sd) j <;> rfl
/-- what the fill that a call makes and the reference's whole box have of a NODE that is needed -/
theorem SR.call {e0 e1 e2 e3 f2 g2 f g k0 k1 k2 a b c : Nat → Int32} {re k5 : Nat → Int64} {nd sd : Int64} {cn : Int32} (lo hi bl bh : Nat → Int64) (mh : Nat → Int32) (ml mm : Nat → Int64) (mn0 : Nat → Int32) (hni : NI cn k0 k1 k2) (hrn : RN cn k0 k1 k2 a b c) (hyx : YX cn k0 k1 k2) (hru : RU cn k0 k1 k2 re k5) (hcv : CV cn k0 k1 k2 f2 g2 e0 e1 e2 e3 sd) (hrg : BX f g lo hi) (hnd : ∀ j : Nat, tb nd j = true → (j : Int) < cn.toInt ∧ (2 ≤ (k0 j).toInt → tb nd (k1 j).toNatClampNeg = true ∧ tb nd (k2 j).toNatClampNeg = true)) : ∀ j : Nat, tb nd j = true → SR (QA (kX6_fill_y0 e0 e1 e2 e3 f2 g2 f g k0 k1 k2 k5 nd sd cn) (kX6_fill_y1 e0 e1 e2 e3 f2 g2 f g k0 k1 k2 k5 nd sd cn) (kX6_fill_y2 e0 e1 e2 e3 f2 g2 f g k0 k1 k2 k5 nd sd cn) (kX6_fill_y3 e0 e1 e2 e3 f2 g2 f g k0 k1 k2 k5 nd sd cn) j) (rq (kX8_wholeBox_v_has a b c lo hi bl bh mh ml mm mn0 cn) (kX8_wholeBox_v_least a b c lo hi bl bh mh ml mm mn0 cn) (kX8_wholeBox_v_most a b c lo hi bl bh mh ml mm mn0 cn) (kX8_wholeBox_v_mayNone a b c lo hi bl bh mh ml mm mn0 cn) j) := by
  intro j hj
  obtain ⟨BL, BH, w1, _, _, w2, w3, w4, w5⟩ := wb_all a b c lo hi bl bh mh ml mm mn0 cn
  obtain ⟨l1, _⟩ := fl_all f2 g2 f g
  have hC := CV.fill (f := f) (g := g) hni hru hcv hnd
  have hB : BX (kX1_follow_f9 f2 g2 f g) (kX1_follow_g9 f2 g2 f g) BL BH := fun v hv => by
    rw [(w1 v hv).1, (w1 v hv).2, (l1 v hv).1, (l1 v hv).2]
    exact hrg v hv
  rw [w2, w3, w4, w5]
  exact SR.fix hni hrn hyx hB (fun u => tb (kX6_fill_sd9 e0 e1 e2 e3 f2 g2 f g k0 k1 k2 k5 nd sd cn) u = true) (fun u hu => hC u hu) (rs_all (RN.mix hni hrn) ⟨hni.1, hni.2.1⟩) j (fs_all e0 e1 e2 e3 f2 g2 f g k0 k1 k2 k5 nd sd ⟨hni.1, hni.2.1⟩ hj)
set_option maxHeartbeats 4000000 in
theorem span_eq {e0 e1 e2 e3 f2 g2 f g k0 k1 k2 a b c : Nat → Int32} {k4 k5 : Nat → Int64} {sd : Int64} {cn : Int32} (lo hi bl bh : Nat → Int64) (mh : Nat → Int32) (ml mm : Nat → Int64) (mn0 : Nat → Int32) (hni : NI cn k0 k1 k2) (hrn : RN cn k0 k1 k2 a b c) (hyx : YX cn k0 k1 k2) (hru : RU cn k0 k1 k2 k4 k5) (hcv : CV cn k0 k1 k2 f2 g2 e0 e1 e2 e3 sd) (hrg : BX f g lo hi) (i wh : Int32) : kX8_span a b c lo hi bl bh mh ml mm mn0 i wh cn = kX7_span e0 e1 e2 e3 f2 g2 f g k0 k1 k2 k4 k5 i wh sd cn := by
  have h1 := kf_has i cn
  have h2 := kf_isNode (i := i) (c := cn) ⟨hni.1, hni.2.1⟩
  have h3 := kf_inI wh 0 3 0 3 (by decide) (by decide)
  unfold kX8_span kX7_span
  by_cases h : 0 ≤ i.toInt ∧ i.toInt < cn.toInt
  · rw [if_neg (show ¬ (kX8_isNode i cn).toInt = 0 by omega), if_neg (show ¬ (kX3_has i cn).toInt = 0 by omega)]
    have e := px_cl h.1
    have hr := hru.1 i.toNatClampNeg (by omega)
    have S := SR.call (nd := k4 i.toNatClampNeg) lo hi bl bh mh ml mm mn0 hni hrn hyx hru hcv hrg (fun j hj => ⟨by have := (hr.2 j hj).1; omega, (hr.2 j hj).2⟩) i.toNatClampNeg hr.1
    by_cases hw : 0 ≤ wh.toInt ∧ wh.toInt ≤ 3
    · rw [if_neg (show ¬ (kX8_in wh.toInt64 0 3).toInt = 0 by omega), if_neg (show ¬ wh.toInt < 0 by omega), if_neg (show ¬ 3 < wh.toInt by omega)]
      have z0 : (0 : Int32).toInt = 0 := by decide
      have z1 : ¬ (1 : Int32).toInt = 0 := by decide
      rcases S with ⟨s1, r1, l, m, _, _, _, n, _⟩ | ⟨s1, r1, n, n'⟩
      · simp only [QA, rq] at s1 r1 l m n
        rw [s1, r1, l, m, ← n]
        have : wh.toInt = 0 ∨ wh.toInt = 1 ∨ wh.toInt = 2 ∨ wh.toInt = 3 := by omega
        rcases this with q | q | q | q <;> simp only [q, z1, Int.reduceEq, ↓reduceIte]
      · simp only [QA, rq] at s1 r1 n n'
        rw [s1, r1, n, n']
        have : wh.toInt = 0 ∨ wh.toInt = 1 ∨ wh.toInt = 2 ∨ wh.toInt = 3 := by omega
        rcases this with q | q | q | q <;> simp only [q, z0, z1, Int.reduceEq, ↓reduceIte]
    · rw [if_pos (show (kX8_in wh.toInt64 0 3).toInt = 0 by omega)]
      by_cases hw0 : wh.toInt < 0
      · rw [if_pos hw0]
      · rw [if_neg hw0, if_pos (by omega)]
  · rw [if_pos (by omega), if_pos (by omega)]
