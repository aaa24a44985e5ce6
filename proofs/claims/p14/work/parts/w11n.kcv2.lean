/-! the bits of an int; follow -/
def tc (s : Int32) (j : Nat) : Bool := s.toBitVec.getLsbD j
theorem tc_or (a b : Int32) (j : Nat) : tc (a ||| b) j = (tc a j || tc b j) := by
  unfold tc
  rw [Int32.toBitVec_or, BitVec.getLsbD_or]
theorem tc_and (a b : Int32) (j : Nat) : tc (a &&& b) j = (tc a j && tc b j) := by
  unfold tc
  rw [Int32.toBitVec_and, BitVec.getLsbD_and]
theorem tc_big {a : Int32} {j : Nat} (h : 32 ≤ j) : tc a j = false := BitVec.getLsbD_of_ge _ _ h
theorem tc_not (a : Int32) {j : Nat} (h : j < 32) : tc (a ^^^ (-1)) j = !tc a j := by
  unfold tc
  have e : (-1 : Int32).toBitVec = BitVec.allOnes 32 := by decide
  rw [Int32.toBitVec_xor, BitVec.getLsbD_xor, e, BitVec.getLsbD_allOnes]
  simp [h]
theorem tc_zero (j : Nat) : tc 0 j = false := BitVec.getLsbD_zero
theorem tc_ext {a b : Int32} (h : ∀ j, j < 32 → tc a j = tc b j) : a = b := Int32.toBitVec_inj.mp (BitVec.eq_of_getLsbD_eq (fun i hi => h i hi))
theorem tc_is0 (a : Int32) : a.toInt = 0 ↔ ∀ j, j < 32 → tc a j = false := by
  constructor
  · intro h
    have e : a = 0 := Int32.toInt_inj.mp h
    intro j _
    rw [e]
    exact tc_zero j
  · intro h
    have e : a = 0 := tc_ext (fun j hj => by rw [h j hj, tc_zero])
    rw [e]
    decide
theorem tc_or0 {a b c : Int32} (h : ((a ||| b) &&& c : Int32).toInt = 0) : (a &&& c : Int32).toInt = 0 ∧ (b &&& c : Int32).toInt = 0 := by
  have h := (tc_is0 _).mp h
  refine ⟨(tc_is0 _).mpr (fun j hj => ?_), (tc_is0 _).mpr (fun j hj => ?_)⟩
  · have := h j hj
    rw [tc_and, tc_or] at this
    rw [tc_and]
    revert this
    cases tc a j <;> cases tc b j <;> cases tc c j <;> decide
  · have := h j hj
    rw [tc_and, tc_or] at this
    rw [tc_and]
    revert this
    cases tc a j <;> cases tc b j <;> cases tc c j <;> decide
theorem tc_self {i : Int32} (h : 0 ≤ i.toInt ∧ i.toInt < 4) : ¬ ((1 <<< (i &&& 31)) &&& (1 <<< (i &&& 31)) : Int32).toInt = 0 := by
  have h4 : i = 0 ∨ i = 1 ∨ i = 2 ∨ i = 3 := by
    have z0 : (0 : Int32).toInt = 0 := by decide
    have z1 : (1 : Int32).toInt = 1 := by decide
    have z2 : (2 : Int32).toInt = 2 := by decide
    have z3 : (3 : Int32).toInt = 3 := by decide
    have : i.toInt = 0 ∨ i.toInt = 1 ∨ i.toInt = 2 ∨ i.toInt = 3 := by omega
    rcases this with q | q | q | q
    · exact Or.inl (Int32.toInt_inj.mp (by omega))
    · exact Or.inr (Or.inl (Int32.toInt_inj.mp (by omega)))
    · exact Or.inr (Or.inr (Or.inl (Int32.toInt_inj.mp (by omega))))
    · exact Or.inr (Or.inr (Or.inr (Int32.toInt_inj.mp (by omega))))
  rcases h4 with rfl | rfl | rfl | rfl <;> decide
set_option maxHeartbeats 4000000 in
theorem fl_loop {f g f2 g2 : Nat → Int32} : ∀ (fuel : Nat) (ch i : Int32) (f9 g9 : Nat → Int32), 0 ≤ i.toInt → i.toInt ≤ 4 → 4 - i.toInt < fuel → (∀ v : Nat, (v : Int) < i.toInt → f9 v = f2 v ∧ g9 v = g2 v) → (∀ v : Nat, i.toInt ≤ v → f9 v = f v ∧ g9 v = g v) → (∀ v : Int32, 0 ≤ v.toInt → v.toInt < i.toInt → (ch &&& (1 <<< (v &&& 31)) : Int32).toInt = 0 → f v.toNatClampNeg = f2 v.toNatClampNeg ∧ g v.toNatClampNeg = g2 v.toNatClampNeg) → (∀ v : Nat, v < 4 → kX1_follow_l4_f9 fuel f g f2 g2 ch i f9 g9 v = f2 v ∧ kX1_follow_l4_g9 fuel f g f2 g2 ch i f9 g9 v = g2 v) ∧ (∀ v : Int32, 0 ≤ v.toInt → v.toInt < 4 → (kX1_follow_l4 fuel f g f2 g2 ch i f9 g9 &&& (1 <<< (v &&& 31)) : Int32).toInt = 0 → f v.toNatClampNeg = f2 v.toNatClampNeg ∧ g v.toNatClampNeg = g2 v.toNatClampNeg) := by
  intro fuel
  induction fuel with
  | zero => intro ch i f9 g9 _ _ h; exact absurd h (by omega)
  | succ fuel ih =>
    intro ch i f9 g9 h0 h1 hf ha hb hc
    rw [kX1_follow_l4_S, kX1_follow_l4_f9_S, kX1_follow_l4_g9_S]
    by_cases hq : 4 ≤ i.toInt
    · simp only [if_pos hq]
      exact ⟨fun v hv => ha v (by omega), fun v a b => hc v a (by omega)⟩
    · simp only [if_neg hq]
      have e := px_cl h0
      have e1 : (i + 1).toInt = i.toInt + 1 := sp_inc (by omega)
      obtain ⟨o1, o2⟩ := hb i.toNatClampNeg (by omega)
      have put := ih (ch ||| (1 <<< (i &&& 31))) (i + 1) (upd f9 i.toNatClampNeg (f2 i.toNatClampNeg)) (upd g9 i.toNatClampNeg (g2 i.toNatClampNeg)) (by omega) (by omega) (by omega) (fun v hv => by
          by_cases hvi : v = i.toNatClampNeg
          · rw [hvi, px_updS, px_updS]
            exact ⟨rfl, rfl⟩
          · rw [px_updO _ _ hvi, px_updO _ _ hvi]
            exact ha v (by omega)) (fun v hv => by
          have hvi : ¬ v = i.toNatClampNeg := by omega
          rw [px_updO _ _ hvi, px_updO _ _ hvi]
          exact hb v (by omega)) (fun v a b c => by
          obtain ⟨c1, c2⟩ := tc_or0 c
          by_cases hvi : v.toInt = i.toInt
          · rw [Int32.toInt_inj.mp hvi] at c2
            exact absurd c2 (tc_self ⟨h0, by omega⟩)
          · exact hc v a (by omega) c1)
      unfold kX1_follow_l4_62_z23 kX1_follow_l4_62_z24 kX1_follow_l4_62_z25
      by_cases hfe : (f9 i.toNatClampNeg).toInt = (f2 i.toNatClampNeg).toInt
      · simp only [if_pos hfe]
        unfold kX1_follow_l4_62_z18 kX1_follow_l4_62_z19 kX1_follow_l4_62_z20
        by_cases hge : (g9 i.toNatClampNeg).toInt = (g2 i.toNatClampNeg).toInt
        · simp only [if_pos hge]
          have q1 := Int32.toInt_inj.mp hfe
          have q2 := Int32.toInt_inj.mp hge
          refine ih ch (i + 1) f9 g9 (by omega) (by omega) (by omega) (fun v hv => ?_) (fun v hv => hb v (by omega)) (fun v a b c => ?_)
          · by_cases hvi : v = i.toNatClampNeg
            · rw [hvi]
              exact ⟨q1, q2⟩
            · exact ha v (by omega)
          · by_cases hvi : v.toInt = i.toInt
            · rw [Int32.toInt_inj.mp hvi, ← o1, ← o2]
              exact ⟨q1, q2⟩
            · exact hc v a (by omega) c
        · simp only [if_neg hge]
          exact put
      · simp only [if_neg hfe]
        exact put
theorem fl_all (f g f2 g2 : Nat → Int32) : (∀ v : Nat, v < 4 → kX1_follow_f9 f g f2 g2 v = f2 v ∧ kX1_follow_g9 f g f2 g2 v = g2 v) ∧ (∀ v : Int32, 0 ≤ v.toInt → v.toInt < 4 → (kX1_follow f g f2 g2 &&& (1 <<< (v &&& 31)) : Int32).toInt = 0 → f v.toNatClampNeg = f2 v.toNatClampNeg ∧ g v.toNatClampNeg = g2 v.toNatClampNeg) := by
  have z : (0 : Int32).toInt = 0 := by decide
  exact fl_loop 6 0 0 f g (by omega) (by omega) (by omega) (fun v hv => absurd hv (by omega)) (fun v _ => ⟨rfl, rfl⟩) (fun v a b => absurd b (by omega))
theorem fg_back {k5 : Nat → Int64} {ch : Int32} {sd : Int64} : ∀ (fuel : Nat) (i : Int32) (s : Int64), 0 ≤ i.toInt → i.toInt ≤ 4 → 4 - i.toInt < fuel → ∀ j : Nat, tb s j = true → (∀ v : Int32, i.toInt ≤ v.toInt → v.toInt < 4 → ¬ (ch &&& (1 <<< (v &&& 31)) : Int32).toInt = 0 → tb (k5 v.toNatClampNeg) j = false) → tb (kX6_forget_l2_sd9 fuel k5 ch sd i s) j = true := by
  intro fuel
  induction fuel with
  | zero => intro i s _ _ h; exact absurd h (by omega)
  | succ fuel ih =>
    intro i s h0 h1 hf j hj hv
    rw [kX6_forget_l2_sd9_S]
    by_cases hq : 4 ≤ i.toInt
    · rw [if_pos hq]
      exact hj
    · rw [if_neg hq]
      have e1 : (i + 1).toInt = i.toInt + 1 := sp_inc (by omega)
      refine ih (i + 1) _ (by omega) (by omega) (by omega) j ?_ (fun v a b c => hv v (by omega) b c)
      unfold kX6_forget_l2_37_z6
      by_cases hc : (ch &&& (1 <<< (i &&& 31)) : Int32).toInt = 0
      · rw [if_pos hc]
        exact hj
      · have hj64 : j < 64 := by
          apply Nat.lt_of_not_le
          intro q
          rw [tb_big q] at hj
          exact absurd hj (by decide)
        rw [if_neg hc, tb_and, tb_not _ hj64, hj, hv i (by omega) (by omega) hc]
        rfl
/-- what stands still stands after follow and forget -/
theorem CV.forget {cn : Int32} {k x y f2 g2 f g e0 e1 e2 e3 : Nat → Int32} {re us : Nat → Int64} {sd : Int64} (hni : NI cn k x y) (hru : RU cn k x y re us) (h : CV cn k x y f2 g2 e0 e1 e2 e3 sd) : CV cn k x y (kX1_follow_f9 f2 g2 f g) (kX1_follow_g9 f2 g2 f g) e0 e1 e2 e3 (kX6_forget_sd9 us (kX1_follow f2 g2 f g) sd) ∧ ∀ j : Nat, tb (kX6_forget_sd9 us (kX1_follow f2 g2 f g) sd) j = true → tb sd j = true := by
  have z : (0 : Int32).toInt = 0 := by decide
  obtain ⟨n0, n1, n2⟩ := hni
  obtain ⟨u1, u2, u3⟩ := hru
  obtain ⟨w1, w2⟩ := fl_all f2 g2 f g
  generalize hch : kX1_follow f2 g2 f g = ch at w2
  have F : ∀ j : Nat, tb (kX6_forget_sd9 us ch sd) j = true → tb sd j = true ∧ ∀ v : Int32, 0 ≤ v.toInt → v.toInt < 4 → ¬ (ch &&& (1 <<< (v &&& 31)) : Int32).toInt = 0 → tb (us v.toNatClampNeg) j = false := fun j hj => by
    obtain ⟨a, b⟩ := fg_loop 6 0 sd (by omega) (by omega) (by omega) j hj
    exact ⟨a, fun v c d => b v (by omega) d⟩
  -- a NODE that stood and that none of the changed VARIABLES' users holds stands on
  have B : ∀ j : Nat, tb sd j = true → (∀ v : Int32, 0 ≤ v.toInt → v.toInt < 4 → ¬ (ch &&& (1 <<< (v &&& 31)) : Int32).toInt = 0 → tb (us v.toNatClampNeg) j = false) → tb (kX6_forget_sd9 us ch sd) j = true := fun j a b => fg_back 6 0 sd (by omega) (by omega) (by omega) j a (fun v c d => b v (by omega) d)
  refine ⟨fun j hj => ?_, fun j hj => (F j hj).1⟩
  obtain ⟨s1, s2⟩ := F j hj
  obtain ⟨c1, c2, c3⟩ := h j s1
  obtain ⟨p1, p2, p3, p4⟩ := n2 j c1
  refine ⟨c1, ?_, fun h2 => ?_⟩
  · rw [c2]
    refine (cs_cong (fun h1 => ?_) (fun _ _ u _ => ⟨rfl, rfl, rfl, rfl⟩)).symm
    have hv := p3 h1
    obtain ⟨r1, r2⟩ := w1 (x j).toNatClampNeg (sp_clamp hv.1 hv.2)
    rw [r1, r2]
    have hz : (ch &&& (1 <<< (x j &&& 31)) : Int32).toInt = 0 := by
      apply Decidable.byContradiction
      intro q
      have := s2 (x j) hv.1 hv.2 q
      rw [(u3 _ (sp_clamp hv.1 hv.2) j c1).1 h1 rfl] at this
      exact absurd this (by decide)
    obtain ⟨a, b⟩ := w2 (x j) hv.1 hv.2 hz
    exact ⟨a.symm, b.symm⟩
  · obtain ⟨t1, t2⟩ := c3 h2
    have up : ∀ v : Int32, 0 ≤ v.toInt → v.toInt < 4 → ¬ (ch &&& (1 <<< (v &&& 31)) : Int32).toInt = 0 → tb (us v.toNatClampNeg) (x j).toNatClampNeg = false ∧ tb (us v.toNatClampNeg) (y j).toNatClampNeg = false := by
      intro v a b c
      have d := s2 v a b c
      have m := (u3 v.toNatClampNeg (sp_clamp a b) j c1).2 h2
      constructor
      · rcases hx : tb (us v.toNatClampNeg) (x j).toNatClampNeg with _ | _
        · rfl
        · rw [m (Or.inl hx)] at d
          exact absurd d (by decide)
      · rcases hx : tb (us v.toNatClampNeg) (y j).toNatClampNeg with _ | _
        · rfl
        · rw [m (Or.inr hx)] at d
          exact absurd d (by decide)
    exact ⟨B _ t1 (fun v a b c => (up v a b c).1), B _ t2 (fun v a b c => (up v a b c).2)⟩
/-- fill: all that is needed stands, in the new box -/
theorem CV.fill {e0 e1 e2 e3 f2 g2 f g k0 k1 k2 : Nat → Int32} {re k5 : Nat → Int64} {nd sd : Int64} {cn : Int32} (hni : NI cn k0 k1 k2) (hru : RU cn k0 k1 k2 re k5) (h : CV cn k0 k1 k2 f2 g2 e0 e1 e2 e3 sd) (hnd : ∀ j : Nat, tb nd j = true → (j : Int) < cn.toInt ∧ (2 ≤ (k0 j).toInt → tb nd (k1 j).toNatClampNeg = true ∧ tb nd (k2 j).toNatClampNeg = true)) : CV cn k0 k1 k2 (kX1_follow_f9 f2 g2 f g) (kX1_follow_g9 f2 g2 f g) (kX6_fill_y0 e0 e1 e2 e3 f2 g2 f g k0 k1 k2 k5 nd sd cn) (kX6_fill_y1 e0 e1 e2 e3 f2 g2 f g k0 k1 k2 k5 nd sd cn) (kX6_fill_y2 e0 e1 e2 e3 f2 g2 f g k0 k1 k2 k5 nd sd cn) (kX6_fill_y3 e0 e1 e2 e3 f2 g2 f g k0 k1 k2 k5 nd sd cn) (kX6_fill_sd9 e0 e1 e2 e3 f2 g2 f g k0 k1 k2 k5 nd sd cn) := by
  have z : (0 : Int32).toInt = 0 := by decide
  obtain ⟨h1, _⟩ := CV.forget (f := f) (g := g) hni hru h
  have hs : ∀ j : Nat, tb (kX6_fill_s22 e0 e1 e2 e3 f2 g2 f g k0 k1 k2 k5 nd sd cn) j = true ↔ tb nd j = true ∧ tb (kX6_forget_sd9 k5 (kX1_follow f2 g2 f g) sd) j = false := by
    intro j
    unfold kX6_fill_s22
    rw [tb_and]
    by_cases hj : j < 64
    · rw [tb_not _ hj]
      cases tb nd j <;> cases tb (kX6_forget_sd9 k5 (kX1_follow f2 g2 f g) sd) j <;> decide
    · rw [tb_big (a := nd) (by omega)]
      exact ⟨fun q => absurd q (by simp), fun q => absurd q.1 (by decide)⟩
  refine CV.loop hni (fun j hj => ?_) (fun j hj => ⟨(h1 j hj).1, (h1 j hj).2.2⟩) 42 0 e0 e1 e2 e3 (by omega) (by have := hni.1; omega) (by have := hni.2.1; omega) (fun j hj => ?_)
  · obtain ⟨a, b⟩ := (hs j).mp hj
    obtain ⟨c, d⟩ := hnd j a
    refine ⟨c, b, fun h2 => ?_⟩
    have m : ∀ u : Nat, tb nd u = true → tb (kX6_forget_sd9 k5 (kX1_follow f2 g2 f g) sd) u = true ∨ tb (kX6_fill_s22 e0 e1 e2 e3 f2 g2 f g k0 k1 k2 k5 nd sd cn) u = true := by
      intro u hu
      rcases hx : tb (kX6_forget_sd9 k5 (kX1_follow f2 g2 f g) sd) u with _ | _
      · exact Or.inr ((hs u).mpr ⟨hu, hx⟩)
      · exact Or.inl rfl
    exact ⟨m _ (d h2).1, m _ (d h2).2⟩
  · rcases hj with hj | ⟨_, hj⟩
    · exact (h1 j hj).2.1
    · exact absurd hj (by omega)
