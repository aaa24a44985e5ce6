/-! verdicts -/
theorem jn_eq {e0 e1 e2 e3 mh mn : Nat → Int32} {ml mm : Nat → Int64} (x : Int32) (h : SR (QA e0 e1 e2 e3 x.toNatClampNeg) (rq mh ml mm mn x.toNatClampNeg)) : (if (mh x.toNatClampNeg).toInt = 0 then 1 else (if (mn x.toNatClampNeg).toInt = 0 then 0 else 2) : Int32) = kX4_verdictOfNone e0 e1 e2 e3 x := by
  unfold kX4_verdictOfNone kX4_verdictOfNone_25_z5
  rcases h with ⟨s1, r1, l, m, _, _, _, n, _⟩ | ⟨s1, r1, n, n'⟩
  · simp only [QA, rq] at s1 r1 n
    rw [s1, r1, n]
  · simp only [QA, rq] at s1 r1 n n'
    rw [s1, r1, n, n']
set_option maxHeartbeats 4000000 in
theorem js_eq {e0 e1 e2 e3 mh mn : Nat → Int32} {ml mm : Nat → Int64} (x y : Int32) (h : SR (QA e0 e1 e2 e3 x.toNatClampNeg) (rq mh ml mm mn x.toNatClampNeg)) (h' : SR (QA e0 e1 e2 e3 y.toNatClampNeg) (rq mh ml mm mn y.toNatClampNeg)) : kX8_equal mh ml mm mn x y = kX4_verdictOfSame e0 e1 e2 e3 x y := by
  have z0 : (0 : Int32).toInt = 0 := by decide
  have z1 : (1 : Int32).toInt = 1 := by decide
  have zm : (-1 : Int32).toInt = -1 := by decide
  have a1 := kz_rank (e2 x.toNatClampNeg)
  have a2 := kz_rank (e3 x.toNatClampNeg)
  have a3 := kz_rank (e2 y.toNatClampNeg)
  have a4 := kz_rank (e3 y.toNatClampNeg)
  have b1 := kz_numb (e2 x.toNatClampNeg).toInt64
  have b2 := kz_numb (e3 x.toNatClampNeg).toInt64
  have b3 := kz_numb (e2 y.toNatClampNeg).toInt64
  have b4 := kz_numb (e3 y.toNatClampNeg).toInt64
  rw [Int32.toInt_toInt64] at b1 b2 b3 b4
  unfold kX8_equal kX8_equal_163_z63 kX8_equal_s135 kX8_equal_135_z48 kX8_equal_135_z45 kX8_equal_135_z42 kX8_equal_163_z60 kX8_equal_163_z57
  unfold kX4_verdictOfSame kX4_verdictOfSame_132_z45 kX4_verdictOfSame_s102 kX4_verdictOfSame_102_z30 kX4_verdictOfSame_102_z27 kX4_verdictOfSame_102_z24 kX4_verdictOfSame_132_z42 kX4_verdictOfSame_132_z39 kX4_verdictOfSame_s29 kX4_verdictOfSame_s39 kX4_verdictOfSame_s50 kX4_verdictOfSame_s61
  rcases h with ⟨s1, r1, l, m, _, _, _, n, _⟩ | ⟨s1, r1, _, _⟩
  · simp only [QA, rq] at s1 r1 l m n
    rcases h' with ⟨s2, r2, l', m', _, _, _, n', _⟩ | ⟨s2, r2, _, _⟩
    · simp only [QA, rq] at s2 r2 l' m' n'
      rw [s1, r1, s2, r2, l, m, l', m', n, n']
      generalize (kX2_rank (e2 x.toNatClampNeg)).toInt = A1 at a1
      generalize (kX2_rank (e3 x.toNatClampNeg)).toInt = A2 at a2
      generalize (kX2_rank (e2 y.toNatClampNeg)).toInt = A3 at a3
      generalize (kX2_rank (e3 y.toNatClampNeg)).toInt = A4 at a4
      generalize (kX8_number (e2 x.toNatClampNeg).toInt64).toInt = B1 at b1
      generalize (kX8_number (e3 x.toNatClampNeg).toInt64).toInt = B2 at b2
      generalize (kX8_number (e2 y.toNatClampNeg).toInt64).toInt = B3 at b3
      generalize (kX8_number (e3 y.toNatClampNeg).toInt64).toInt = B4 at b4
      have c1 : (A2 < A3) = (B2 < B3) := propext ⟨fun _ => by omega, fun _ => by omega⟩
      have c2 : (A1 ≤ A4) = (B1 ≤ B4) := propext ⟨fun _ => by omega, fun _ => by omega⟩
      have c3 : (A1 = A2) = (B1 = B2) := propext ⟨fun _ => by omega, fun _ => by omega⟩
      have c4 : (A3 = A4) = (B3 = B4) := propext ⟨fun _ => by omega, fun _ => by omega⟩
      have c5 : (A1 = A3) = (B1 = B3) := propext ⟨fun _ => by omega, fun _ => by omega⟩
      simp only [c1, c2, c3, c4, c5]
    · simp only [QA, rq] at s2 r2
      rw [s1, r1, s2, r2, if_neg (by decide), if_pos (by decide), if_neg (by decide), if_pos (by decide)]
  · simp only [QA, rq] at s1 r1
    rw [s1, r1, if_pos (by decide), if_pos (by decide)]
/-- the reference's answer for an order, in the class's places -/
def jOrd (k : Int32) (mh : Nat → Int32) (ml mm : Nat → Int64) (mn : Nat → Int32) (x y : Int32) : Int32 :=
  if (mh x.toNatClampNeg).toInt = 0 then 0 else if (mh y.toNatClampNeg).toInt = 0 then 0 else
  if k.toInt = 0 then (if (kX8_number (ml x.toNatClampNeg)).toInt < (kX8_number (mm y.toNatClampNeg)).toInt then (if (mn x.toNatClampNeg).toInt = 0 then (if (mn y.toNatClampNeg).toInt = 0 then (if k.toInt = 0 then (if (kX8_number (ml y.toNatClampNeg)).toInt ≤ (kX8_number (mm x.toNatClampNeg)).toInt then 2 else 1) else (if (kX8_number (ml y.toNatClampNeg)).toInt < (kX8_number (mm x.toNatClampNeg)).toInt then 2 else 1)) else 2) else 2) else 0)
  else (if (kX8_number (ml x.toNatClampNeg)).toInt ≤ (kX8_number (mm y.toNatClampNeg)).toInt then (if (mn x.toNatClampNeg).toInt = 0 then (if (mn y.toNatClampNeg).toInt = 0 then (if k.toInt = 0 then (if (kX8_number (ml y.toNatClampNeg)).toInt ≤ (kX8_number (mm x.toNatClampNeg)).toInt then 2 else 1) else (if (kX8_number (ml y.toNatClampNeg)).toInt < (kX8_number (mm x.toNatClampNeg)).toInt then 2 else 1)) else 2) else 2) else 0)
set_option maxHeartbeats 4000000 in
theorem jo_eq {e0 e1 e2 e3 mh mn : Nat → Int32} {ml mm : Nat → Int64} (k x y : Int32) (h : SR (QA e0 e1 e2 e3 x.toNatClampNeg) (rq mh ml mm mn x.toNatClampNeg)) (h' : SR (QA e0 e1 e2 e3 y.toNatClampNeg) (rq mh ml mm mn y.toNatClampNeg)) : jOrd k mh ml mm mn x y = kX4_verdictOfOrder e0 e1 e2 e3 (if k.toInt = 0 then 1 else 0) x y := by
  have z0 : (0 : Int32).toInt = 0 := by decide
  have z1 : (1 : Int32).toInt = 1 := by decide
  have zm : (-1 : Int32).toInt = -1 := by decide
  have a1 := kz_rank (e2 x.toNatClampNeg)
  have a2 := kz_rank (e3 x.toNatClampNeg)
  have a3 := kz_rank (e2 y.toNatClampNeg)
  have a4 := kz_rank (e3 y.toNatClampNeg)
  have b1 := kz_numb (e2 x.toNatClampNeg).toInt64
  have b2 := kz_numb (e3 x.toNatClampNeg).toInt64
  have b3 := kz_numb (e2 y.toNatClampNeg).toInt64
  have b4 := kz_numb (e3 y.toNatClampNeg).toInt64
  rw [Int32.toInt_toInt64] at b1 b2 b3 b4
  unfold jOrd kX4_verdictOfOrder kX4_verdictOfOrder_142_z51 kX4_verdictOfOrder_142_z48 kX4_verdictOfOrder_142_z45 kX4_verdictOfOrder_s112 kX4_verdictOfOrder_112_z36 kX4_verdictOfOrder_112_z33 kX4_verdictOfOrder_112_z27 kX4_verdictOfOrder_s41 kX4_verdictOfOrder_s83
  rcases h with ⟨s1, r1, l, m, _, _, _, n, _⟩ | ⟨s1, r1, _, _⟩
  · simp only [QA, rq] at s1 r1 l m n
    rcases h' with ⟨s2, r2, l', m', _, _, _, n', _⟩ | ⟨s2, r2, _, _⟩
    · simp only [QA, rq] at s2 r2 l' m' n'
      rw [s1, r1, s2, r2, l, m, l', m', n, n']
      have d1 := kz_comp (kX2_rank (e2 x.toNatClampNeg)) (kX2_rank (e3 y.toNatClampNeg))
      have d2 := kz_comp (kX2_rank (e3 x.toNatClampNeg)) (kX2_rank (e2 y.toNatClampNeg))
      generalize (kJ6_compare_7cf53 (kX2_rank (e2 x.toNatClampNeg)) (kX2_rank (e3 y.toNatClampNeg))).toInt = D1 at d1
      generalize (kJ6_compare_7cf53 (kX2_rank (e3 x.toNatClampNeg)) (kX2_rank (e2 y.toNatClampNeg))).toInt = D2 at d2
      generalize (kX2_rank (e2 x.toNatClampNeg)).toInt = A1 at a1 d1
      generalize (kX2_rank (e3 x.toNatClampNeg)).toInt = A2 at a2 d2
      generalize (kX2_rank (e2 y.toNatClampNeg)).toInt = A3 at a3 d2
      generalize (kX2_rank (e3 y.toNatClampNeg)).toInt = A4 at a4 d1
      generalize (kX8_number (e2 x.toNatClampNeg).toInt64).toInt = B1 at b1
      generalize (kX8_number (e3 x.toNatClampNeg).toInt64).toInt = B2 at b2
      generalize (kX8_number (e2 y.toNatClampNeg).toInt64).toInt = B3 at b3
      generalize (kX8_number (e3 y.toNatClampNeg).toInt64).toInt = B4 at b4
      by_cases hk : k.toInt = 0
      · simp only [if_pos hk, z1]
        (repeat' split) <;> first | rfl | (exfalso; omega)
      · simp only [if_neg hk, z0]
        (repeat' split) <;> first | rfl | (exfalso; omega) | exact absurd (a := True) trivial (by assumption)
    · simp only [QA, rq] at s2 r2
      rw [s1, r1, s2, r2, if_neg (by decide), if_pos (by decide), if_neg (by decide), if_pos (by decide)]
  · simp only [QA, rq] at s1 r1
    rw [s1, r1, if_pos (by decide), if_pos (by decide)]
set_option maxHeartbeats 4000000 in
theorem ver_eq {e0 e1 e2 e3 mh mn rk ra rb ma mb mc : Nat → Int32} {ml mm : Nat → Int64} {rc cn : Int32} (hrr : RRL rc cn rk ra rb ma mb mc) (i : Int32) (hi : 0 ≤ i.toInt ∧ i.toInt < rc.toInt) (h : SR (QA e0 e1 e2 e3 (ra i.toNatClampNeg).toNatClampNeg) (rq mh ml mm mn (ra i.toNatClampNeg).toNatClampNeg)) (h' : SR (QA e0 e1 e2 e3 (rb i.toNatClampNeg).toNatClampNeg) (rq mh ml mm mn (rb i.toNatClampNeg).toNatClampNeg)) : kX8_judgeOf ma mb mc mh ml mm mn i = kX4_verdict rk ra rb e0 e1 e2 e3 i := by
  have e := px_cl hi.1
  obtain ⟨q1, q2, q3, q4, q5, q6⟩ := hrr i.toNatClampNeg (by omega)
  have N := jn_eq (ra i.toNatClampNeg) h
  have S := js_eq (ra i.toNatClampNeg) (rb i.toNatClampNeg) h h'
  have O := jo_eq (rk i.toNatClampNeg) (ra i.toNatClampNeg) (rb i.toNatClampNeg) h h'
  have s13 : kX8_judgeOf_s13 ma mb mc mh ml mm mn i = rk i.toNatClampNeg := q1
  have s6 : kX8_judgeOf_s6 ma mb mc mh ml mm mn i = ra i.toNatClampNeg := q2
  have s75 : (rk i.toNatClampNeg).toInt ≤ 3 → kX8_judgeOf_s75 ma mb mc mh ml mm mn i = rb i.toNatClampNeg := q3
  have s46 : kX8_judgeOf_s46 ma mb mc mh ml mm mn i = kX4_verdictOfNone e0 e1 e2 e3 (ra i.toNatClampNeg) := by
    rw [← N]
    unfold kX8_judgeOf_s46 kX8_judgeOf_46_z96 kX8_judgeOf_46_z92
    rw [s6]
  unfold kX8_judgeOf kX4_verdict
  rw [s13]
  by_cases k3 : (rk i.toNatClampNeg).toInt ≤ 3
  · have s75 := s75 k3
    rw [if_pos k3, if_neg (show ¬ (rk i.toNatClampNeg).toInt < 0 by omega), if_neg (show ¬ 4 < (rk i.toNatClampNeg).toInt by omega)]
    by_cases e3' : (rk i.toNatClampNeg).toInt = 3
    · rw [if_pos e3', if_neg (by omega), if_neg (by omega), if_neg (by omega), if_pos e3']
      unfold kX8_judgeOf_105_z86 kX8_judgeOf_s89 kX4_turned kX4_turned_12_z4
      rw [s6, s75, S]
    · rw [if_neg e3']
      by_cases e2' : (rk i.toNatClampNeg).toInt = 2
      · rw [if_pos e2', if_neg (by omega), if_neg (by omega), if_pos e2', s6, s75, S]
      · rw [if_neg e2']
        unfold kX4_verdict_54_z17
        have R : ∀ z : Int32, (if (rk i.toNatClampNeg).toInt = 0 then kX4_verdictOfOrder e0 e1 e2 e3 (if (rk i.toNatClampNeg).toInt = 0 then 1 else 0) (ra i.toNatClampNeg) (rb i.toNatClampNeg) else if (rk i.toNatClampNeg).toInt = 1 then kX4_verdictOfOrder e0 e1 e2 e3 (if (rk i.toNatClampNeg).toInt = 0 then 1 else 0) (ra i.toNatClampNeg) (rb i.toNatClampNeg) else z) = kX4_verdictOfOrder e0 e1 e2 e3 (if (rk i.toNatClampNeg).toInt = 0 then 1 else 0) (ra i.toNatClampNeg) (rb i.toNatClampNeg) := by
          intro z
          by_cases e0' : (rk i.toNatClampNeg).toInt = 0
          · rw [if_pos e0']
          · rw [if_neg e0', if_pos (by omega)]
        rw [R, ← O]
        unfold jOrd kX8_judgeOf_258_z43 kX8_judgeOf_258_z40 kX8_judgeOf_258_z37 kX8_judgeOf_258_z34 kX8_judgeOf_258_z28 kX8_judgeOf_s149 kX8_judgeOf_s161 kX8_judgeOf_s197 kX8_judgeOf_s209
        rw [s6, s75, s13]
  · rw [if_neg k3]
    unfold kX8_judgeOf_68_z106 kX8_judgeOf_68_z103
    rw [s13, s46, if_neg (show ¬ (rk i.toNatClampNeg).toInt < 0 by omega)]
    by_cases k4 : (rk i.toNatClampNeg).toInt = 4
    · rw [if_pos k4, if_neg (by omega), if_neg (by omega), if_neg (by omega), if_neg (by omega), if_neg (by omega), if_pos k4]
    · rw [if_neg k4, if_pos (show 4 < (rk i.toNatClampNeg).toInt by omega)]
      unfold kX4_turned kX4_turned_12_z4
      by_cases h2 : (kX4_verdictOfNone e0 e1 e2 e3 (ra i.toNatClampNeg)).toInt = 2
      · rw [if_pos h2, if_pos h2]
        exact Int32.toInt_inj.mp (by rw [h2]; decide)
      · rw [if_neg h2, if_neg h2]
theorem jg_nd {k0 k1 k2 rk ra rb ma mb mc : Nat → Int32} {k4 k5 : Nat → Int64} {cn rc i : Int32} (hru : RU cn k0 k1 k2 k4 k5) (hrr : RRL rc cn rk ra rb ma mb mc) (h : 0 ≤ i.toInt ∧ i.toInt < rc.toInt) : ∀ j : Nat, tb (kX4_restOn ra rb k4 i) j = true → (j : Int) < cn.toInt ∧ (2 ≤ (k0 j).toInt → tb (kX4_restOn ra rb k4 i) (k1 j).toNatClampNeg = true ∧ tb (kX4_restOn ra rb k4 i) (k2 j).toNatClampNeg = true) := by
  have e := px_cl h.1
  obtain ⟨_, _, _, _, q5, q6⟩ := hrr i.toNatClampNeg (by omega)
  have ea := px_cl q5.1
  have eb := px_cl q6.1
  have ha := hru.1 (ra i.toNatClampNeg).toNatClampNeg (by omega)
  have hb := hru.1 (rb i.toNatClampNeg).toNatClampNeg (by omega)
  intro j hj
  unfold kX4_restOn at hj ⊢
  rw [tb_or, Bool.or_eq_true] at hj
  simp only [tb_or, Bool.or_eq_true]
  rcases hj with hj | hj
  · obtain ⟨m1, m2⟩ := ha.2 j hj
    exact ⟨by omega, fun h2 => ⟨Or.inl (m2 h2).1, Or.inl (m2 h2).2⟩⟩
  · obtain ⟨m1, m2⟩ := hb.2 j hj
    exact ⟨by omega, fun h2 => ⟨Or.inr (m2 h2).1, Or.inr (m2 h2).2⟩⟩
theorem judge_eq {e0 e1 e2 e3 f2 g2 f g k0 k1 k2 a b c rk ra rb ma mb mc : Nat → Int32} {k4 k5 : Nat → Int64} {sd : Int64} {cn rc : Int32} (lo hi bl bh : Nat → Int64) (mh : Nat → Int32) (ml mm : Nat → Int64) (mn0 : Nat → Int32) (hni : NI cn k0 k1 k2) (hrn : RN cn k0 k1 k2 a b c) (hyx : YX cn k0 k1 k2) (hru : RU cn k0 k1 k2 k4 k5) (hcv : CV cn k0 k1 k2 f2 g2 e0 e1 e2 e3 sd) (hrg : BX f g lo hi) (hrr : RRL rc cn rk ra rb ma mb mc) (hd : 0 ≤ rc.toInt ∧ rc.toInt ≤ 12) (i : Int32) : kX8_judge a b c lo hi bl bh mh ml mm mn0 ma mb mc i cn rc = kX7_judge e0 e1 e2 e3 f2 g2 f g k0 k1 k2 k4 k5 rk ra rb i sd cn rc := by
  have h1 := kf_rhas i rc
  have h2 := kf_lt (i := i) (c := rc) (by omega)
  unfold kX8_judge kX7_judge
  by_cases h : 0 ≤ i.toInt ∧ i.toInt < rc.toInt
  · rw [if_neg (show ¬ (kX8_in i.toInt64 0 ((rc - 1 : Int32).toInt64)).toInt = 0 by omega), if_neg (show ¬ (kX4_has i rc).toInt = 0 by omega)]
    have e := px_cl h.1
    obtain ⟨_, _, _, _, q5, q6⟩ := hrr i.toNatClampNeg (by omega)
    have ea := px_cl q5.1
    have eb := px_cl q6.1
    have ha := hru.1 (ra i.toNatClampNeg).toNatClampNeg (by omega)
    have hb := hru.1 (rb i.toNatClampNeg).toNatClampNeg (by omega)
    have hnd := jg_nd hru hrr h
    have S := SR.call (nd := kX4_restOn ra rb k4 i) lo hi bl bh mh ml mm mn0 hni hrn hyx hru hcv hrg hnd
    refine ver_eq hrr i h (S _ ?_) (S _ ?_)
    · unfold kX4_restOn
      rw [tb_or, ha.1]
      rfl
    · unfold kX4_restOn
      rw [tb_or, hb.1, Bool.or_true]
  · rw [if_pos (show (kX8_in i.toInt64 0 ((rc - 1 : Int32).toInt64)).toInt = 0 by omega), if_pos (show (kX4_has i rc).toInt = 0 by omega)]
