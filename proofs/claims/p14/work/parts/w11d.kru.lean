/-! what NODES rest on, and which VARIABLES they use -/
def RU (cn : Int32) (k x y : Nat → Int32) (re us : Nat → Int64) : Prop :=
  (∀ i : Nat, (i : Int) < cn.toInt → tb (re i) i = true ∧ ∀ j : Nat, tb (re i) j = true → j ≤ i ∧ (2 ≤ (k j).toInt → tb (re i) (x j).toNatClampNeg = true ∧ tb (re i) (y j).toNatClampNeg = true)) ∧
  (∀ v : Nat, v < 4 → ∀ j : Nat, tb (us v) j = true → (j : Int) < cn.toInt) ∧
  (∀ v : Nat, v < 4 → ∀ j : Nat, (j : Int) < cn.toInt → ((k j).toInt = 1 → (x j).toNatClampNeg = v → tb (us v) j = true) ∧ (2 ≤ (k j).toInt → tb (us v) (x j).toNatClampNeg = true ∨ tb (us v) (y j).toNatClampNeg = true → tb (us v) j = true))
theorem RU.zero (k x y : Nat → Int32) (re us : Nat → Int64) (hz : ∀ v : Nat, v < 4 → us v = 0) : RU 0 k x y re us := by
  have h0 : (0 : Int32).toInt = 0 := by decide
  refine ⟨fun i hi => absurd hi (by omega), fun v hv j hj => ?_, fun v hv j hj => absurd hj (by omega)⟩
  rw [hz v hv, tb_zero] at hj
  cases hj
theorem kl_g4 (k0 k1 k2 : Nat → Int32) (k4 k5 : Nat → Int64) (i : Int32) : kX3_link_g4 k0 k1 k2 k4 k5 i = vp_updL k4 i.toNatClampNeg (kX3_link_50_z7 k0 k1 k2 k4 k5 i) := by
  have h : ∀ (fuel : Nat) (bt : Int64) (v : Int32) (g4 g5 : Nat → Int64), 0 ≤ v.toInt → v.toInt ≤ 4 → 4 - v.toInt < fuel → kX3_link_l79_g4 fuel k0 k1 k2 k4 k5 i bt v g4 g5 = g4 := by
    intro fuel
    induction fuel with
    | zero => intro bt v g4 g5 _ _ h; exact absurd h (by omega)
    | succ fuel ih =>
      intro bt v g4 g5 h0 h1 hf
      rw [kX3_link_l79_g4_S]
      by_cases hq : 4 ≤ v.toInt
      · rw [if_pos hq]
      · rw [if_neg hq]
        have e1 : (v + 1).toInt = v.toInt + 1 := sp_inc (by omega)
        exact ih _ _ _ _ (by omega) (by omega) (by omega)
  have h0 : (0 : Int32).toInt = 0 := by decide
  exact h 6 _ 0 _ _ (by omega) (by omega) (by omega)
/-- one step for each VARIABLE: its users get i if one of what i rests on is among them -/
theorem kl_g5 (k0 k1 k2 : Nat → Int32) (k4 k5 : Nat → Int64) (i : Int32) : ∀ u : Nat, u < 4 → kX3_link_g5 k0 k1 k2 k4 k5 i u = (if (kX3_link_76_z12 k0 k1 k2 k4 k5 i u &&& kX3_link_50_z7 k0 k1 k2 k4 k5 i : Int64).toInt = 0 then kX3_link_76_z12 k0 k1 k2 k4 k5 i u else kX3_link_76_z12 k0 k1 k2 k4 k5 i u ||| kX3_link_s3 k0 k1 k2 k4 k5 i) := by
  have hS : ∀ (fuel : Nat) (bt : Int64) (v : Int32) (g4 g5 : Nat → Int64), 0 ≤ v.toInt → v.toInt ≤ 4 → 4 - v.toInt < fuel → ∀ u : Nat, u < 4 → kX3_link_l79_g5 fuel k0 k1 k2 k4 k5 i bt v g4 g5 u = if (u : Int) < v.toInt then g5 u else (if (g5 u &&& g4 i.toNatClampNeg : Int64).toInt = 0 then g5 u else g5 u ||| bt) := by
    intro fuel
    induction fuel with
    | zero => intro bt v g4 g5 _ _ h; exact absurd h (by omega)
    | succ fuel ih =>
      intro bt v g4 g5 h0 h1 hf u hu
      rw [kX3_link_l79_g5_S]
      by_cases hq : 4 ≤ v.toInt
      · rw [if_pos hq, if_pos (by omega)]
      · rw [if_neg hq]
        have e := px_cl h0
        have e1 : (v + 1).toInt = v.toInt + 1 := sp_inc (by omega)
        rw [ih bt (v + 1) g4 _ (by omega) (by omega) (by omega) u hu]
        unfold kX3_link_l79_115_z6
        by_cases huv : u = v.toNatClampNeg
        · subst huv
          have d1 : ((v.toNatClampNeg : Nat) : Int) < (v + 1).toInt := by omega
          have d2 : ¬ ((v.toNatClampNeg : Nat) : Int) < v.toInt := by omega
          rw [if_pos d1, if_neg d2]
          by_cases hz : (g5 v.toNatClampNeg &&& g4 i.toNatClampNeg : Int64).toInt = 0
          · rw [if_pos hz, if_pos hz]
          · rw [if_neg hz, if_neg hz, px_ulS]
        · have hsame : (if (g5 v.toNatClampNeg &&& g4 i.toNatClampNeg : Int64).toInt = 0 then g5 else vp_updL g5 v.toNatClampNeg (g5 v.toNatClampNeg ||| bt)) u = g5 u := by
            by_cases hz : (g5 v.toNatClampNeg &&& g4 i.toNatClampNeg : Int64).toInt = 0
            · rw [if_pos hz]
            · rw [if_neg hz, px_ulO _ _ huv]
          rw [hsame]
          by_cases hlt : (u : Int) < v.toInt
          · rw [if_pos (by omega), if_pos hlt]
          · rw [if_neg (by omega), if_neg hlt]
  have h0 : (0 : Int32).toInt = 0 := by decide
  intro u hu
  have h := hS 6 (kX3_link_s3 k0 k1 k2 k4 k5 i) 0 (vp_updL k4 i.toNatClampNeg (kX3_link_50_z7 k0 k1 k2 k4 k5 i)) (kX3_link_76_z12 k0 k1 k2 k4 k5 i) (by omega) (by omega) (by omega) u hu
  rw [if_neg (by omega), px_ulS] at h
  exact h
set_option maxHeartbeats 4000000 in
theorem RU.link {cn : Int32} {k x y : Nat → Int32} {re us : Nat → Int64} (h : RU cn k x y re us) (hni : NI cn k x y) (hc : 0 ≤ cn.toInt ∧ cn.toInt < 40) {k' x' y' : Nat → Int32} (hk : ∀ j : Nat, (j : Int) < cn.toInt → k' j = k j ∧ x' j = x j ∧ y' j = y j)
    (h1 : (k' cn.toNatClampNeg).toInt = 1 → 0 ≤ (x' cn.toNatClampNeg).toInt ∧ (x' cn.toNatClampNeg).toInt < 4) (h2 : 2 ≤ (k' cn.toNatClampNeg).toInt → ((k' cn.toNatClampNeg).toInt ≤ 15 ∧ 0 ≤ (x' cn.toNatClampNeg).toInt ∧ (x' cn.toNatClampNeg).toInt < cn.toInt) ∧ (0 ≤ (y' cn.toNatClampNeg).toInt ∧ (y' cn.toNatClampNeg).toInt < cn.toInt)) : RU (cn + 1) k' x' y' (kX3_link_g4 k' x' y' re us cn) (kX3_link_g5 k' x' y' re us cn) := by
  obtain ⟨A, Bq, C⟩ := h
  have e := px_cl hc.1
  have e1 : (cn + 1).toInt = cn.toInt + 1 := sp_inc (by omega)
  have hbit : ∀ j, tb (kX3_link_s3 k' x' y' re us cn) j = decide (cn.toNatClampNeg = j) := fun j => tb_bit hc.1 (by omega) j
  have hlx := kf_lookX (k' cn.toNatClampNeg)
  -- what cn rests on
  have hz : ∀ j, tb (kX3_link_50_z7 k' x' y' re us cn) j = true → j = cn.toNatClampNeg ∨ (2 ≤ (k' cn.toNatClampNeg).toInt ∧ (tb (re (x' cn.toNatClampNeg).toNatClampNeg) j = true ∨ tb (re (y' cn.toNatClampNeg).toNatClampNeg) j = true)) := by
    intro j hj
    unfold kX3_link_50_z7 at hj
    by_cases hq : (kX3_looksAtX (k' cn.toNatClampNeg)).toInt = 0
    · rw [if_pos hq, hbit] at hj
      exact Or.inl (of_decide_eq_true hj).symm
    · rw [if_neg hq, tb_or, tb_or, hbit] at hj
      rcases Bool.or_eq_true_iff.mp hj with hj | hj
      · rcases Bool.or_eq_true_iff.mp hj with hj | hj
        · exact Or.inl (of_decide_eq_true hj).symm
        · exact Or.inr ⟨by omega, Or.inl hj⟩
      · exact Or.inr ⟨by omega, Or.inr hj⟩
  have hzs : tb (kX3_link_50_z7 k' x' y' re us cn) cn.toNatClampNeg = true := by
    unfold kX3_link_50_z7
    by_cases hq : (kX3_looksAtX (k' cn.toNatClampNeg)).toInt = 0
    · rw [if_pos hq, hbit]
      exact decide_eq_true rfl
    · rw [if_neg hq, tb_or, tb_or, hbit, decide_eq_true rfl]
      rfl
  have hzx : 2 ≤ (k' cn.toNatClampNeg).toInt → ∀ j, (tb (re (x' cn.toNatClampNeg).toNatClampNeg) j = true ∨ tb (re (y' cn.toNatClampNeg).toNatClampNeg) j = true) → tb (kX3_link_50_z7 k' x' y' re us cn) j = true := by
    intro hk2 j hj
    have := (h2 hk2).1.1
    unfold kX3_link_50_z7
    rw [if_neg (by omega), tb_or, tb_or]
    rcases hj with hj | hj
    · rw [hj, Bool.or_true, Bool.true_or]
    · rw [hj, Bool.or_true]
  rw [kl_g4]
  refine ⟨fun i hi => ?_, fun v hv j hj => ?_, fun v hv j hj => ?_⟩
  · by_cases hic : i = cn.toNatClampNeg
    · subst hic
      rw [px_ulS]
      refine ⟨hzs, fun j hj => ?_⟩
      rcases hz j hj with rfl | ⟨hk2, hj2⟩
      · refine ⟨Nat.le_refl _, fun hk2 => ?_⟩
        obtain ⟨⟨q0, q1⟩, q2⟩ := h2 hk2
        have ex := px_cl q1.1
        have ey := px_cl q2.1
        exact ⟨hzx hk2 _ (Or.inl (A _ (by omega)).1), hzx hk2 _ (Or.inr (A _ (by omega)).1)⟩
      · obtain ⟨⟨q0, q1⟩, q2⟩ := h2 hk2
        have ex := px_cl q1.1
        have ey := px_cl q2.1
        rcases hj2 with hj2 | hj2
        · obtain ⟨r1, r2⟩ := (A _ (by omega)).2 j hj2
          obtain ⟨s1, s2, s3⟩ := hk j (by omega)
          refine ⟨by omega, fun hkj => ?_⟩
          rw [s2, s3]
          rw [s1] at hkj
          exact ⟨hzx hk2 _ (Or.inl (r2 hkj).1), hzx hk2 _ (Or.inl (r2 hkj).2)⟩
        · obtain ⟨r1, r2⟩ := (A _ (by omega)).2 j hj2
          obtain ⟨s1, s2, s3⟩ := hk j (by omega)
          refine ⟨by omega, fun hkj => ?_⟩
          rw [s2, s3]
          rw [s1] at hkj
          exact ⟨hzx hk2 _ (Or.inr (r2 hkj).1), hzx hk2 _ (Or.inr (r2 hkj).2)⟩
    · rw [px_ulO _ _ hic]
      obtain ⟨r1, r2⟩ := A i (by omega)
      refine ⟨r1, fun j hj => ?_⟩
      obtain ⟨t1, t2⟩ := r2 j hj
      obtain ⟨s1, s2, s3⟩ := hk j (by omega)
      rw [s1, s2, s3]
      exact ⟨t1, t2⟩
  · rw [kl_g5 k' x' y' re us cn v hv] at hj
    have hz12 : ∀ j, tb (kX3_link_76_z12 k' x' y' re us cn v) j = true → (j : Int) < cn.toInt + 1 := by
      intro j hj
      unfold kX3_link_76_z12 at hj
      by_cases hq : (k' cn.toNatClampNeg).toInt = 1
      · rw [if_pos hq] at hj
        by_cases hvx : v = (x' cn.toNatClampNeg).toNatClampNeg
        · rw [hvx, px_ulS, tb_or, hbit] at hj
          rcases Bool.or_eq_true_iff.mp hj with hj | hj
          · have := Bq _ (by omega) j hj
            omega
          · have := of_decide_eq_true hj
            omega
        · rw [px_ulO _ _ hvx] at hj
          have := Bq v hv j hj
          omega
      · rw [if_neg hq] at hj
        have := Bq v hv j hj
        omega
    by_cases hq : (kX3_link_76_z12 k' x' y' re us cn v &&& kX3_link_50_z7 k' x' y' re us cn : Int64).toInt = 0
    · rw [if_pos hq] at hj
      have := hz12 j hj
      omega
    · rw [if_neg hq, tb_or, hbit] at hj
      rcases Bool.or_eq_true_iff.mp hj with hj | hj
      · have := hz12 j hj
        omega
      · have := of_decide_eq_true hj
        omega
  · -- users
    have hkeep : ∀ j, tb (us v) j = true → tb (kX3_link_76_z12 k' x' y' re us cn v) j = true := by
      intro j hj
      unfold kX3_link_76_z12
      by_cases hq : (k' cn.toNatClampNeg).toInt = 1
      · rw [if_pos hq]
        by_cases hvx : v = (x' cn.toNatClampNeg).toNatClampNeg
        · rw [hvx, px_ulS, tb_or, ← hvx, hj, Bool.true_or]
        · rw [px_ulO _ _ hvx]
          exact hj
      · rw [if_neg hq]
        exact hj
    have hkeep2 : ∀ j, tb (kX3_link_76_z12 k' x' y' re us cn v) j = true → tb (kX3_link_g5 k' x' y' re us cn v) j = true := by
      intro j hj
      rw [kl_g5 k' x' y' re us cn v hv]
      split
      · exact hj
      · rw [tb_or, hj, Bool.true_or]
    have hback : ∀ j, tb (kX3_link_g5 k' x' y' re us cn v) j = true → j = cn.toNatClampNeg ∨ tb (us v) j = true := by
      intro j hj
      rw [kl_g5 k' x' y' re us cn v hv] at hj
      have hz12 : ∀ j, tb (kX3_link_76_z12 k' x' y' re us cn v) j = true → j = cn.toNatClampNeg ∨ tb (us v) j = true := by
        intro j hj
        unfold kX3_link_76_z12 at hj
        by_cases hq : (k' cn.toNatClampNeg).toInt = 1
        · rw [if_pos hq] at hj
          by_cases hvx : v = (x' cn.toNatClampNeg).toNatClampNeg
          · rw [hvx, px_ulS, tb_or, hbit, ← hvx] at hj
            rcases Bool.or_eq_true_iff.mp hj with hj | hj
            · exact Or.inr hj
            · exact Or.inl (of_decide_eq_true hj).symm
          · rw [px_ulO _ _ hvx] at hj
            exact Or.inr hj
        · rw [if_neg hq] at hj
          exact Or.inr hj
      split at hj
      · exact hz12 j hj
      · rw [tb_or, hbit] at hj
        rcases Bool.or_eq_true_iff.mp hj with hj | hj
        · exact hz12 j hj
        · exact Or.inl (of_decide_eq_true hj).symm
    by_cases hjc : j = cn.toNatClampNeg
    · subst hjc
      refine ⟨fun hk1 hv1 => hkeep2 _ ?_, fun hk2 hor => ?_⟩
      · unfold kX3_link_76_z12
        rw [if_pos hk1, ← hv1, px_ulS, tb_or, hbit, decide_eq_true rfl, Bool.or_true]
      · obtain ⟨⟨q0, q1⟩, q2⟩ := h2 hk2
        have ex := px_cl q1.1
        have ey := px_cl q2.1
        have hm : ∃ u, u < 64 ∧ tb (us v) u = true ∧ tb (kX3_link_50_z7 k' x' y' re us cn) u = true := by
          rcases hor with hor | hor
          · rcases hback _ hor with q | q
            · omega
            · exact ⟨_, by omega, q, hzx hk2 _ (Or.inl (A _ (by omega)).1)⟩
          · rcases hback _ hor with q | q
            · omega
            · exact ⟨_, by omega, q, hzx hk2 _ (Or.inr (A _ (by omega)).1)⟩
        obtain ⟨u, hu1, hu2, hu3⟩ := hm
        rw [kl_g5 k' x' y' re us cn v hv, if_neg (fun q => (tb_meet _ _).mp q u hu1 ⟨hkeep u hu2, hu3⟩), tb_or, hbit, decide_eq_true rfl, Bool.or_true]
    · obtain ⟨s1, s2, s3⟩ := hk j (by omega)
      obtain ⟨c1, c2⟩ := C v hv j (by omega)
      rw [s1, s2, s3]
      refine ⟨fun hk1 hv1 => hkeep2 _ (hkeep _ (c1 hk1 hv1)), fun hk2 hor => hkeep2 _ (hkeep _ (c2 hk2 ?_))⟩
      -- x j and y j are ahead of cn
      obtain ⟨n1, n2⟩ := (hni.2.2 j (by omega)).2.2.2 hk2
      have ex := px_cl n1.1
      have ey := px_cl n2.1
      rcases hor with hor | hor
      · rcases hback _ hor with q | q
        · omega
        · exact Or.inl q
      · rcases hback _ hor with q | q
        · omega
        · exact Or.inr q
theorem kn_g4 (k0 k1 k2 : Nat → Int32) (k4 k5 : Nat → Int64) (k x y cn : Int32) : kX7_node_g4 k0 k1 k2 k4 k5 k x y cn = if SQN k x y cn then kX3_link_g4 (upd k0 cn.toNatClampNeg k) (upd k1 cn.toNatClampNeg (sq_ax k x)) (upd k2 cn.toNatClampNeg (sq_ay k x y)) k4 k5 cn else k4 := by
  have e : kX3_add_g4 k0 k1 k2 k4 k5 k x y cn = kX3_link_g4 (upd k0 cn.toNatClampNeg k) (upd k1 cn.toNatClampNeg (sq_ax k x)) (upd k2 cn.toNatClampNeg (sq_ay k x y)) k4 k5 cn := by
    unfold kX3_add_g4 sq_ax sq_ay
    (repeat' split) <;> first | rfl | (exfalso; omega)
  rw [← e]
  exact kn_gen k x y cn k4 _
theorem kn_g5 (k0 k1 k2 : Nat → Int32) (k4 k5 : Nat → Int64) (k x y cn : Int32) : kX7_node_g5 k0 k1 k2 k4 k5 k x y cn = if SQN k x y cn then kX3_link_g5 (upd k0 cn.toNatClampNeg k) (upd k1 cn.toNatClampNeg (sq_ax k x)) (upd k2 cn.toNatClampNeg (sq_ay k x y)) k4 k5 cn else k5 := by
  have e : kX3_add_g5 k0 k1 k2 k4 k5 k x y cn = kX3_link_g5 (upd k0 cn.toNatClampNeg k) (upd k1 cn.toNatClampNeg (sq_ax k x)) (upd k2 cn.toNatClampNeg (sq_ay k x y)) k4 k5 cn := by
    unfold kX3_add_g5 sq_ax sq_ay
    (repeat' split) <;> first | rfl | (exfalso; omega)
  rw [← e]
  exact kn_gen k x y cn k5 _
theorem RU.node {cn : Int32} {k0 k1 k2 : Nat → Int32} {k4 k5 : Nat → Int64} (h : RU cn k0 k1 k2 k4 k5) (hni : NI cn k0 k1 k2) (k x y : Int32) : RU (kX7_node_cn9 k0 k1 k2 k4 k5 k x y cn) (kX7_node_v0 k0 k1 k2 k4 k5 k x y cn) (kX7_node_v1 k0 k1 k2 k4 k5 k x y cn) (kX7_node_v2 k0 k1 k2 k4 k5 k x y cn) (kX7_node_g4 k0 k1 k2 k4 k5 k x y cn) (kX7_node_g5 k0 k1 k2 k4 k5 k x y cn) := by
  have hc0 := hni.1
  have hc1 := hni.2.1
  rw [kn_c, kn_v0, kn_v1, kn_v2, kn_g4, kn_g5]
  by_cases hs : SQN k x y cn
  · simp only [if_pos hs]
    obtain ⟨q1, q2, q3, q4, q5⟩ := hs
    have e := px_cl hc0
    have hly := kf_lookY k
    refine h.link hni ⟨hc0, by omega⟩ (fun j hj => ⟨px_updO _ _ (by omega), px_updO _ _ (by omega), px_updO _ _ (by omega)⟩) ?_ ?_
    · rw [px_updS, px_updS]
      intro h1
      unfold sq_ax
      rw [if_neg (by omega)]
      exact q2 h1
    · rw [px_updS, px_updS, px_updS]
      intro h2
      have hx := q3 h2
      have ax : sq_ax k x = x := by
        unfold sq_ax
        rw [if_neg (by omega)]
      rw [ax]
      refine ⟨⟨q1.2, hx⟩, ?_⟩
      unfold sq_ay
      by_cases hy : (kX3_looksAtY k).toInt = 0
      · rw [if_pos hy]
        exact hx
      · rw [if_neg hy]
        exact q4 (by omega)
  · simp only [if_neg hs]
    exact h
