/-! the calls keep what stands -/
theorem cs_kxy {k x y k' x' y' f g e0 e1 e2 e3 : Nat → Int32} {j : Nat} (hk : k' j = k j) (hx : x' j = x j) (hy : y' j = y j) : cs1 k' x' y' f g e0 e1 e2 e3 j = cs1 k x y f g e0 e1 e2 e3 j := by
  unfold cs1
  rw [hk, hx, hy]
theorem CV.node {cn : Int32} {k0 k1 k2 f g e0 e1 e2 e3 : Nat → Int32} {sd : Int64} (h : CV cn k0 k1 k2 f g e0 e1 e2 e3 sd) (k4 k5 : Nat → Int64) (hc : 0 ≤ cn.toInt ∧ cn.toInt ≤ 40) (k x y : Int32) : CV (kX7_node_cn9 k0 k1 k2 k4 k5 k x y cn) (kX7_node_v0 k0 k1 k2 k4 k5 k x y cn) (kX7_node_v1 k0 k1 k2 k4 k5 k x y cn) (kX7_node_v2 k0 k1 k2 k4 k5 k x y cn) f g e0 e1 e2 e3 sd := by
  rw [kn_c, kn_v0, kn_v1, kn_v2]
  by_cases hs : SQN k x y cn
  · simp only [if_pos hs]
    obtain ⟨q1, q2, q3, q4, q5⟩ := hs
    have e := px_cl hc.1
    have e1' : (cn + 1).toInt = cn.toInt + 1 := sp_inc (by omega)
    intro j hj
    obtain ⟨c1, c2, c3⟩ := h j hj
    have hne : ¬ j = cn.toNatClampNeg := by omega
    refine ⟨by omega, ?_, ?_⟩
    · rw [cs_kxy (px_updO _ _ hne) (px_updO _ _ hne) (px_updO _ _ hne)]
      exact c2
    · rw [px_updO _ _ hne, px_updO _ _ hne, px_updO _ _ hne]
      exact c3
  · simp only [if_neg hs]
    exact h
/-- after a fill, in the box that the call was made for -/
theorem CV.box {cn : Int32} {k x y f g f' g' e0 e1 e2 e3 : Nat → Int32} {sd : Int64} (hni : NI cn k x y) (h : CV cn k x y f g e0 e1 e2 e3 sd) (hb : ∀ v : Nat, v < 4 → f' v = f v ∧ g' v = g v) : CV cn k x y f' g' e0 e1 e2 e3 sd := by
  intro j hj
  obtain ⟨c1, c2, c3⟩ := h j hj
  obtain ⟨p1, p2, p3, p4⟩ := hni.2.2 j c1
  refine ⟨c1, ?_, c3⟩
  rw [c2]
  exact (cs_cong (fun h1 => hb _ (sp_clamp (p3 h1).1 (p3 h1).2)) (fun _ _ u _ => ⟨rfl, rfl, rfl, rfl⟩)).symm
theorem ff_loop {e0 e1 e2 e3 f2 g2 f g k0 k1 k2 : Nat → Int32} {k5 : Nat → Int64} {nd sd : Int64} {cn : Int32} {f9 g9 : Nat → Int32} {mi sd9 : Int64} (hc : cn.toInt ≤ 40) : ∀ (fuel : Nat) (i : Int32) (y0 y1 y2 y3 : Nat → Int32), 0 ≤ i.toInt → i.toInt ≤ cn.toInt → cn.toInt - i.toInt < fuel → kX6_fill_l27_f9 fuel e0 e1 e2 e3 f2 g2 f g k0 k1 k2 k5 nd sd cn mi i y0 y1 y2 y3 f9 g9 sd9 = f9 ∧ kX6_fill_l27_g9 fuel e0 e1 e2 e3 f2 g2 f g k0 k1 k2 k5 nd sd cn mi i y0 y1 y2 y3 f9 g9 sd9 = g9 := by
  intro fuel
  induction fuel with
  | zero => intro i y0 y1 y2 y3 _ _ h; exact absurd h (by omega)
  | succ fuel ih =>
    intro i y0 y1 y2 y3 h0 h1 hf
    rw [kX6_fill_l27_f9_S, kX6_fill_l27_g9_S]
    by_cases hq : cn.toInt ≤ i.toInt
    · rw [if_pos hq, if_pos hq]
      exact ⟨rfl, rfl⟩
    · rw [if_neg hq, if_neg hq]
      have e1 : (i + 1).toInt = i.toInt + 1 := sp_inc (by omega)
      exact ih (i + 1) _ _ _ _ (by omega) (by omega) (by omega)
theorem ff_all (e0 e1 e2 e3 f2 g2 f g k0 k1 k2 : Nat → Int32) (k5 : Nat → Int64) (nd sd : Int64) {cn : Int32} (hc : 0 ≤ cn.toInt ∧ cn.toInt ≤ 40) : kX6_fill_f9 e0 e1 e2 e3 f2 g2 f g k0 k1 k2 k5 nd sd cn = kX1_follow_f9 f2 g2 f g ∧ kX6_fill_g9 e0 e1 e2 e3 f2 g2 f g k0 k1 k2 k5 nd sd cn = kX1_follow_g9 f2 g2 f g := by
  have z : (0 : Int32).toInt = 0 := by decide
  exact ff_loop hc.2 42 0 e0 e1 e2 e3 (by omega) (by omega) (by omega)
set_option maxHeartbeats 4000000 in
theorem CV.span {e0 e1 e2 e3 f2 g2 f g k0 k1 k2 : Nat → Int32} {k4 k5 : Nat → Int64} {sd : Int64} {cn : Int32} (hni : NI cn k0 k1 k2) (hru : RU cn k0 k1 k2 k4 k5) (h : CV cn k0 k1 k2 f2 g2 e0 e1 e2 e3 sd) (i wh : Int32) : CV cn k0 k1 k2 (kX7_span_f9 e0 e1 e2 e3 f2 g2 f g k0 k1 k2 k4 k5 i wh sd cn) (kX7_span_g9 e0 e1 e2 e3 f2 g2 f g k0 k1 k2 k4 k5 i wh sd cn) (kX7_span_y0 e0 e1 e2 e3 f2 g2 f g k0 k1 k2 k4 k5 i wh sd cn) (kX7_span_y1 e0 e1 e2 e3 f2 g2 f g k0 k1 k2 k4 k5 i wh sd cn) (kX7_span_y2 e0 e1 e2 e3 f2 g2 f g k0 k1 k2 k4 k5 i wh sd cn) (kX7_span_y3 e0 e1 e2 e3 f2 g2 f g k0 k1 k2 k4 k5 i wh sd cn) (kX7_span_sd9 e0 e1 e2 e3 f2 g2 f g k0 k1 k2 k4 k5 i wh sd cn) := by
  have h1 := kf_has i cn
  unfold kX7_span_f9 kX7_span_g9 kX7_span_y0 kX7_span_y1 kX7_span_y2 kX7_span_y3 kX7_span_sd9
  by_cases hi : 0 ≤ i.toInt ∧ i.toInt < cn.toInt
  · have c1 : ¬ (kX3_has i cn).toInt = 0 := by omega
    have e := px_cl hi.1
    have hr := hru.1 i.toNatClampNeg (by omega)
    have R := CV.fill (nd := k4 i.toNatClampNeg) (f := f) (g := g) hni hru h (fun j hj => ⟨by have := (hr.2 j hj).1; omega, (hr.2 j hj).2⟩)
    obtain ⟨ef, eg⟩ := ff_all e0 e1 e2 e3 f2 g2 f g k0 k1 k2 k5 (k4 i.toNatClampNeg) sd ⟨hni.1, hni.2.1⟩
    rw [← ef, ← eg] at R
    simp only [if_neg c1]
    (repeat' split) <;> exact R
  · have c1 : (kX3_has i cn).toInt = 0 := by omega
    simp only [if_pos c1]
    exact h
theorem CV.judge {e0 e1 e2 e3 f2 g2 f g k0 k1 k2 rk ra rb ma mb mc : Nat → Int32} {k4 k5 : Nat → Int64} {sd : Int64} {cn rc : Int32} (hni : NI cn k0 k1 k2) (hru : RU cn k0 k1 k2 k4 k5) (hrr : RRL rc cn rk ra rb ma mb mc) (h : CV cn k0 k1 k2 f2 g2 e0 e1 e2 e3 sd) (i : Int32) : CV cn k0 k1 k2 (kX7_judge_f9 e0 e1 e2 e3 f2 g2 f g k0 k1 k2 k4 k5 rk ra rb i sd cn rc) (kX7_judge_g9 e0 e1 e2 e3 f2 g2 f g k0 k1 k2 k4 k5 rk ra rb i sd cn rc) (kX7_judge_y0 e0 e1 e2 e3 f2 g2 f g k0 k1 k2 k4 k5 rk ra rb i sd cn rc) (kX7_judge_y1 e0 e1 e2 e3 f2 g2 f g k0 k1 k2 k4 k5 rk ra rb i sd cn rc) (kX7_judge_y2 e0 e1 e2 e3 f2 g2 f g k0 k1 k2 k4 k5 rk ra rb i sd cn rc) (kX7_judge_y3 e0 e1 e2 e3 f2 g2 f g k0 k1 k2 k4 k5 rk ra rb i sd cn rc) (kX7_judge_sd9 e0 e1 e2 e3 f2 g2 f g k0 k1 k2 k4 k5 rk ra rb i sd cn rc) := by
  have h1 := kf_rhas i rc
  unfold kX7_judge_f9 kX7_judge_g9 kX7_judge_y0 kX7_judge_y1 kX7_judge_y2 kX7_judge_y3 kX7_judge_sd9
  by_cases hi : 0 ≤ i.toInt ∧ i.toInt < rc.toInt
  · have c1 : ¬ (kX4_has i rc).toInt = 0 := by omega
    have R := CV.fill (nd := kX4_restOn ra rb k4 i) (f := f) (g := g) hni hru h (jg_nd hru hrr hi)
    obtain ⟨ef, eg⟩ := ff_all e0 e1 e2 e3 f2 g2 f g k0 k1 k2 k5 (kX4_restOn ra rb k4 i) sd ⟨hni.1, hni.2.1⟩
    rw [← ef, ← eg] at R
    simp only [if_neg c1]
    exact R
  · have c1 : (kX4_has i rc).toInt = 0 := by omega
    simp only [if_pos c1]
    exact h
/-! run keeps what stands -/
def DN (cn : Int32) (k x y : Nat → Int32) (nd : Int64) : Prop := ∀ j : Nat, tb nd j = true → (j : Int) < cn.toInt ∧ (2 ≤ (k j).toInt → tb nd (x j).toNatClampNeg = true ∧ tb nd (y j).toNatClampNeg = true)
def RC (rc cn : Int32) (ra rb : Nat → Int32) : Prop := ∀ i : Nat, (i : Int) < rc.toInt → (0 ≤ (ra i).toInt ∧ (ra i).toInt < cn.toInt) ∧ (0 ≤ (rb i).toInt ∧ (rb i).toInt < cn.toInt)
theorem RRL.rc {rc cn : Int32} {rk ra rb a b c : Nat → Int32} (h : RRL rc cn rk ra rb a b c) : RC rc cn ra rb := fun i hi => ⟨(h i hi).2.2.2.2.1, (h i hi).2.2.2.2.2⟩
theorem DN.or {cn : Int32} {k x y : Nat → Int32} {p q : Int64} (h : DN cn k x y p) (h' : DN cn k x y q) : DN cn k x y (p ||| q) := by
  intro j hj
  rw [tb_or, Bool.or_eq_true] at hj
  simp only [tb_or, Bool.or_eq_true]
  rcases hj with hj | hj
  · obtain ⟨m1, m2⟩ := h j hj
    exact ⟨m1, fun h2 => ⟨Or.inl (m2 h2).1, Or.inl (m2 h2).2⟩⟩
  · obtain ⟨m1, m2⟩ := h' j hj
    exact ⟨m1, fun h2 => ⟨Or.inr (m2 h2).1, Or.inr (m2 h2).2⟩⟩
theorem DN.rest {cn : Int32} {k x y : Nat → Int32} {re us : Nat → Int64} (hru : RU cn k x y re us) {i : Int32} (h : 0 ≤ i.toInt ∧ i.toInt < cn.toInt) : DN cn k x y (re i.toNatClampNeg) := by
  have e := px_cl h.1
  have hr := hru.1 i.toNatClampNeg (by omega)
  exact fun j hj => ⟨by have := (hr.2 j hj).1; omega, (hr.2 j hj).2⟩
theorem ar_loop {cn rc : Int32} {k0 k1 k2 ra rb : Nat → Int32} {k4 k5 : Nat → Int64} (hru : RU cn k0 k1 k2 k4 k5) (hrl : RC rc cn ra rb) (hc : rc.toInt ≤ 12) : ∀ (fuel : Nat) (al : Int64) (i : Int32), 0 ≤ i.toInt → i.toInt ≤ rc.toInt → rc.toInt - i.toInt < fuel → DN cn k0 k1 k2 al → DN cn k0 k1 k2 (kX4_allRestOn_l5 fuel ra rb k4 rc al i) := by
  intro fuel
  induction fuel with
  | zero => intro al i _ _ h; exact absurd h (by omega)
  | succ fuel ih =>
    intro al i h0 h1 hf hd
    rw [kX4_allRestOn_l5_S]
    by_cases hq : rc.toInt ≤ i.toInt
    · rw [if_pos hq]
      exact hd
    · rw [if_neg hq]
      have e := px_cl h0
      have e1 : (i + 1).toInt = i.toInt + 1 := sp_inc (by omega)
      obtain ⟨r1, r2⟩ := hrl i.toNatClampNeg (by omega)
      exact ih _ (i + 1) (by omega) (by omega) (by omega) (hd.or ((DN.rest hru r1).or (DN.rest hru r2)))
theorem ar_all {cn rc : Int32} {k0 k1 k2 ra rb : Nat → Int32} {k4 k5 : Nat → Int64} (hru : RU cn k0 k1 k2 k4 k5) (hrl : RC rc cn ra rb) (hri : RI rc ra rb) : DN cn k0 k1 k2 (kX4_allRestOn ra rb k4 rc) := by
  have z : (0 : Int32).toInt = 0 := by decide
  have h0 := hri.1
  have h1 := hri.2.1
  exact ar_loop hru hrl h1 14 0 0 (by omega) (by omega) (by omega) (fun j hj => absurd hj (by rw [tb_zero]; decide))
theorem CV.fill2 {e0 e1 e2 e3 f2 g2 f g k0 k1 k2 : Nat → Int32} {re k5 : Nat → Int64} {nd sd : Int64} {cn : Int32} (hni : NI cn k0 k1 k2) (hru : RU cn k0 k1 k2 re k5) (h : CV cn k0 k1 k2 f2 g2 e0 e1 e2 e3 sd) (hnd : DN cn k0 k1 k2 nd) : CV cn k0 k1 k2 (kX6_fill_f9 e0 e1 e2 e3 f2 g2 f g k0 k1 k2 k5 nd sd cn) (kX6_fill_g9 e0 e1 e2 e3 f2 g2 f g k0 k1 k2 k5 nd sd cn) (kX6_fill_y0 e0 e1 e2 e3 f2 g2 f g k0 k1 k2 k5 nd sd cn) (kX6_fill_y1 e0 e1 e2 e3 f2 g2 f g k0 k1 k2 k5 nd sd cn) (kX6_fill_y2 e0 e1 e2 e3 f2 g2 f g k0 k1 k2 k5 nd sd cn) (kX6_fill_y3 e0 e1 e2 e3 f2 g2 f g k0 k1 k2 k5 nd sd cn) (kX6_fill_sd9 e0 e1 e2 e3 f2 g2 f g k0 k1 k2 k5 nd sd cn) := by
  obtain ⟨ef, eg⟩ := ff_all e0 e1 e2 e3 f2 g2 f g k0 k1 k2 k5 nd sd ⟨hni.1, hni.2.1⟩
  rw [ef, eg]
  exact CV.fill hni hru h hnd
