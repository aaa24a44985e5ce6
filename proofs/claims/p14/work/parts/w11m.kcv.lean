/-! which SPANS stand -/
def QA (e0 e1 e2 e3 : Nat → Int32) (j : Nat) : Q4 := (e0 j, e1 j, e2 j, e3 j)
def CV (cn : Int32) (k x y f g e0 e1 e2 e3 : Nat → Int32) (sd : Int64) : Prop := ∀ j : Nat, tb sd j = true → (j : Int) < cn.toInt ∧ QA e0 e1 e2 e3 j = cs1 k x y f g e0 e1 e2 e3 j ∧ (2 ≤ (k j).toInt → tb sd (x j).toNatClampNeg = true ∧ tb sd (y j).toNatClampNeg = true)
theorem CV.zero (cn : Int32) (k x y f g e0 e1 e2 e3 : Nat → Int32) : CV cn k x y f g e0 e1 e2 e3 0 := fun j hj => absurd hj (by rw [tb_zero]; decide)
theorem PUT4.at {y0 y1 y2 y3 z0 z1 z2 z3 : Nat → Int32} {i : Nat} {q : Q4} (p : PUT4 y0 y1 y2 y3 i q z0 z1 z2 z3) : QA z0 z1 z2 z3 i = q ∧ ∀ j : Nat, ¬ j = i → z0 j = y0 j ∧ z1 j = y1 j ∧ z2 j = y2 j ∧ z3 j = y3 j := by
  obtain ⟨p1, p2, p3, p4⟩ := p
  unfold QA
  rw [p1, p2, p3, p4]
  refine ⟨?_, fun j hj => ?_⟩
  · rw [px_updS, px_updS, px_updS, px_updS]
  · exact ⟨px_updO _ _ hj, px_updO _ _ hj, px_updO _ _ hj, px_updO _ _ hj⟩
theorem cs_cong {k x y f g f' g' e0 e1 e2 e3 z0 z1 z2 z3 : Nat → Int32} {j : Nat} (h1 : (k j).toInt = 1 → f' (x j).toNatClampNeg = f (x j).toNatClampNeg ∧ g' (x j).toNatClampNeg = g (x j).toNatClampNeg) (h2 : ¬ (k j).toInt = 0 → ¬ (k j).toInt = 1 → ∀ u : Nat, u = (x j).toNatClampNeg ∨ u = (y j).toNatClampNeg → z0 u = e0 u ∧ z1 u = e1 u ∧ z2 u = e2 u ∧ z3 u = e3 u) : cs1 k x y f' g' z0 z1 z2 z3 j = cs1 k x y f g e0 e1 e2 e3 j := by
  unfold cs1 kX6_cornersTellTooLittle kX6_hasZero kX6_endsInfinite
  by_cases a0 : (k j).toInt = 0
  · rw [if_pos a0, if_pos a0]
  · rw [if_neg a0, if_neg a0]
    by_cases a1 : (k j).toInt = 1
    · rw [if_pos a1, if_pos a1, (h1 a1).1, (h1 a1).2]
    · rw [if_neg a1, if_neg a1]
      obtain ⟨x0, x1, x2, x3⟩ := h2 a0 a1 _ (Or.inl rfl)
      obtain ⟨w0, w1, w2, w3⟩ := h2 a0 a1 _ (Or.inr rfl)
      rw [x0, x1, x2, x3, w0, w1, w2, w3]
set_option maxHeartbeats 4000000 in
/-- the loop of fill -/
theorem CV.loop {e0 e1 e2 e3 f2 g2 f g k0 k1 k2 : Nat → Int32} {k5 : Nat → Int64} {nd sd : Int64} {cn : Int32} {f9 g9 : Nat → Int32} {mi sd9 : Int64} (hni : NI cn k0 k1 k2) (hmi : ∀ j : Nat, tb mi j = true → (j : Int) < cn.toInt ∧ tb sd9 j = false ∧ (2 ≤ (k0 j).toInt → (tb sd9 (k1 j).toNatClampNeg = true ∨ tb mi (k1 j).toNatClampNeg = true) ∧ (tb sd9 (k2 j).toNatClampNeg = true ∨ tb mi (k2 j).toNatClampNeg = true))) (hsd : ∀ j : Nat, tb sd9 j = true → (j : Int) < cn.toInt ∧ (2 ≤ (k0 j).toInt → tb sd9 (k1 j).toNatClampNeg = true ∧ tb sd9 (k2 j).toNatClampNeg = true)) : ∀ (fuel : Nat) (i : Int32) (y0 y1 y2 y3 : Nat → Int32), 0 ≤ i.toInt → i.toInt ≤ cn.toInt → cn.toInt - i.toInt < fuel → (∀ j : Nat, (tb sd9 j = true ∨ (tb mi j = true ∧ (j : Int) < i.toInt)) → QA y0 y1 y2 y3 j = cs1 k0 k1 k2 f9 g9 y0 y1 y2 y3 j) → CV cn k0 k1 k2 f9 g9 (kX6_fill_l27_y0 fuel e0 e1 e2 e3 f2 g2 f g k0 k1 k2 k5 nd sd cn mi i y0 y1 y2 y3 f9 g9 sd9) (kX6_fill_l27_y1 fuel e0 e1 e2 e3 f2 g2 f g k0 k1 k2 k5 nd sd cn mi i y0 y1 y2 y3 f9 g9 sd9) (kX6_fill_l27_y2 fuel e0 e1 e2 e3 f2 g2 f g k0 k1 k2 k5 nd sd cn mi i y0 y1 y2 y3 f9 g9 sd9) (kX6_fill_l27_y3 fuel e0 e1 e2 e3 f2 g2 f g k0 k1 k2 k5 nd sd cn mi i y0 y1 y2 y3 f9 g9 sd9) (kX6_fill_l27_sd9 fuel e0 e1 e2 e3 f2 g2 f g k0 k1 k2 k5 nd sd cn mi i y0 y1 y2 y3 f9 g9 sd9) := by
  intro fuel
  induction fuel with
  | zero => intro i y0 y1 y2 y3 _ _ h; exact absurd h (by omega)
  | succ fuel ih =>
    intro i y0 y1 y2 y3 h0 h1 hf hv
    obtain ⟨n0, n1, n2⟩ := hni
    rw [kX6_fill_l27_y0_S, kX6_fill_l27_y1_S, kX6_fill_l27_y2_S, kX6_fill_l27_y3_S, kX6_fill_l27_sd9_S]
    by_cases hq : cn.toInt ≤ i.toInt
    · simp only [if_pos hq]
      intro j hj
      rw [tb_or, Bool.or_eq_true] at hj
      simp only [tb_or, Bool.or_eq_true]
      rcases hj with hj | hj
      · obtain ⟨d1, d2⟩ := hsd j hj
        exact ⟨d1, hv j (Or.inl hj), fun h2 => ⟨Or.inl (d2 h2).1, Or.inl (d2 h2).2⟩⟩
      · obtain ⟨d1, d2, d3⟩ := hmi j hj
        exact ⟨d1, hv j (Or.inr ⟨hj, by omega⟩), d3⟩
    · simp only [if_neg hq]
      have e := px_cl h0
      have ei : (i + 1).toInt = i.toInt + 1 := sp_inc (by omega)
      obtain ⟨s1, s2⟩ := k6_fstep e0 e1 e2 e3 f2 g2 f g k0 k1 k2 k5 nd sd cn mi i y0 y1 y2 y3 f9 g9 sd9
      have ht := tb_test (s := mi) h0 (by omega)
      by_cases hb : (mi &&& (1 <<< (i.toInt64 &&& 63)) : Int64).toInt = 0
      · obtain ⟨t0, t1, t2, t3⟩ := s1 hb
        rw [t0, t1, t2, t3]
        refine ih (i + 1) y0 y1 y2 y3 (by omega) (by omega) (by omega) (fun j hj => hv j ?_)
        rcases hj with hj | ⟨hj, hl⟩
        · exact Or.inl hj
        · refine Or.inr ⟨hj, ?_⟩
          have hne : ¬ j = i.toNatClampNeg := by
            intro q
            rw [q, ht.mp hb] at hj
            exact absurd hj (by decide)
          omega
      · obtain ⟨t1, t2⟩ := (s2 hb).at
        have hmb : tb mi i.toNatClampNeg = true := by
          rcases hx : tb mi i.toNatClampNeg with _ | _
          · exact absurd (ht.mpr hx) hb
          · rfl
        obtain ⟨b1, b2, b3⟩ := hmi _ hmb
        refine ih (i + 1) _ _ _ _ (by omega) (by omega) (by omega) (fun j hj => ?_)
        have hjn : (j : Int) < cn.toInt := by
          rcases hj with hj | ⟨hj, _⟩
          · exact (hsd j hj).1
          · exact (hmi j hj).1
        obtain ⟨p1, p2, p3, p4⟩ := n2 j hjn
        have hcg := cs_cong (k := k0) (x := k1) (y := k2) (f := f9) (g := g9) (f' := f9) (g' := g9) (j := j) (e0 := y0) (e1 := y1) (e2 := y2) (e3 := y3) (fun _ => ⟨rfl, rfl⟩) (fun a0 a1 u hu => t2 u (by
          obtain ⟨⟨x0, x1⟩, w0, w1⟩ := p4 (by omega)
          have ex := px_cl x0
          have ey := px_cl w0
          intro q
          rcases hj with hj | ⟨hj, hl⟩
          · have d := (hsd j hj).2 (by omega)
            rcases hu with hu | hu
            · rw [← hu, q, b2] at d
              exact absurd d.1 (by decide)
            · rw [← hu, q, b2] at d
              exact absurd d.2 (by decide)
          · omega))
        rw [hcg]
        by_cases hji : j = i.toNatClampNeg
        · rw [hji]
          exact t1
        · obtain ⟨u0, u1, u2, u3⟩ := t2 j hji
          have hjj : tb sd9 j = true ∨ (tb mi j = true ∧ (j : Int) < i.toInt) := by
            rcases hj with hj | ⟨hj, hl⟩
            · exact Or.inl hj
            · exact Or.inr ⟨hj, by omega⟩
          rw [← hv j hjj]
          unfold QA
          rw [u0, u1, u2, u3]
theorem fg_loop {k5 : Nat → Int64} {ch : Int32} {sd : Int64} : ∀ (fuel : Nat) (i : Int32) (s : Int64), 0 ≤ i.toInt → i.toInt ≤ 4 → 4 - i.toInt < fuel → ∀ j : Nat, tb (kX6_forget_l2_sd9 fuel k5 ch sd i s) j = true → tb s j = true ∧ ∀ v : Int32, i.toInt ≤ v.toInt → v.toInt < 4 → ¬ (ch &&& (1 <<< (v &&& 31)) : Int32).toInt = 0 → tb (k5 v.toNatClampNeg) j = false := by
  intro fuel
  induction fuel with
  | zero => intro i s _ _ h; exact absurd h (by omega)
  | succ fuel ih =>
    intro i s h0 h1 hf j hj
    rw [kX6_forget_l2_sd9_S] at hj
    by_cases hq : 4 ≤ i.toInt
    · rw [if_pos hq] at hj
      exact ⟨hj, fun v a b _ => absurd a (by omega)⟩
    · rw [if_neg hq] at hj
      have e1 : (i + 1).toInt = i.toInt + 1 := sp_inc (by omega)
      obtain ⟨r1, r2⟩ := ih (i + 1) _ (by omega) (by omega) (by omega) j hj
      unfold kX6_forget_l2_37_z6 at r1
      by_cases hc : (ch &&& (1 <<< (i &&& 31)) : Int32).toInt = 0
      · rw [if_pos hc] at r1
        refine ⟨r1, fun v a b c => ?_⟩
        by_cases hv : v.toInt = i.toInt
        · rw [Int32.toInt_inj.mp hv] at c
          exact absurd hc c
        · exact r2 v (by omega) b c
      · rw [if_neg hc, tb_and, Bool.and_eq_true] at r1
        have hj64 : j < 64 := by
          apply Nat.lt_of_not_le
          intro q
          rw [tb_big q] at r1
          exact absurd r1.1 (by decide)
        rw [tb_not _ hj64] at r1
        refine ⟨r1.1, fun v a b c => ?_⟩
        by_cases hv : v.toInt = i.toInt
        · rw [Int32.toInt_inj.mp hv]
          rcases hx : tb (k5 i.toNatClampNeg) j with _ | _
          · rfl
          · rw [hx] at r1
            exact absurd r1.2 (by decide)
        · exact r2 v (by omega) b c
