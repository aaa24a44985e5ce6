/-! verdicts are 0, 1 or 2 -/
def V3 (x : Int32) : Prop := x = 0 ∨ x = 1 ∨ x = 2
theorem V3.v0 : V3 0 := Or.inl rfl
theorem V3.v1 : V3 1 := Or.inr (Or.inl rfl)
theorem V3.v2 : V3 2 := Or.inr (Or.inr rfl)
theorem V3.ite {c : Prop} [Decidable c] {x y : Int32} (hx : V3 x) (hy : V3 y) : V3 (if c then x else y) := by
  by_cases h : c
  · rw [if_pos h]
    exact hx
  · rw [if_neg h]
    exact hy
theorem V3.order (e0 e1 e2 e3 : Nat → Int32) (sg x y : Int32) : V3 (kX4_verdictOfOrder e0 e1 e2 e3 sg x y) := by
  have h1 : V3 (kX4_verdictOfOrder_142_z51 e0 e1 e2 e3 sg x y) := V3.ite V3.v2 (V3.ite (V3.ite V3.v1 V3.v2) V3.v2)
  exact V3.ite V3.v0 (V3.ite V3.v0 (V3.ite (V3.ite h1 V3.v0) (V3.ite h1 V3.v0)))
theorem V3.same (e0 e1 e2 e3 : Nat → Int32) (x y : Int32) : V3 (kX4_verdictOfSame e0 e1 e2 e3 x y) := by
  have h1 : V3 (kX4_verdictOfSame_132_z45 e0 e1 e2 e3 x y) := V3.ite V3.v2 (V3.ite (V3.ite V3.v1 V3.v2) V3.v2)
  exact V3.ite V3.v0 (V3.ite V3.v0 (V3.ite V3.v0 (V3.ite h1 V3.v0)))
theorem V3.none (e0 e1 e2 e3 : Nat → Int32) (x : Int32) : V3 (kX4_verdictOfNone e0 e1 e2 e3 x) := V3.ite V3.v1 (V3.ite V3.v0 V3.v2)
theorem V3.turned {x : Int32} (h : V3 x) : V3 (kX4_turned x) := by
  rcases h with h | h | h <;> subst h
  · exact V3.v1
  · exact V3.v0
  · exact V3.v2
theorem V3.verdict (rk ra rb e0 e1 e2 e3 : Nat → Int32) (i : Int32) : V3 (kX4_verdict rk ra rb e0 e1 e2 e3 i) := by
  unfold kX4_verdict
  exact V3.ite (V3.turned (V3.none _ _ _ _ _)) (V3.ite (V3.turned (V3.none _ _ _ _ _)) (V3.ite (V3.order _ _ _ _ _ _ _) (V3.ite (V3.order _ _ _ _ _ _ _) (V3.ite (V3.same _ _ _ _ _ _) (V3.ite (V3.turned (V3.same _ _ _ _ _ _)) (V3.ite (V3.none _ _ _ _ _) (V3.none _ _ _ _ _)))))))
theorem V3.jdv {f g k0 k1 k2 a b c rk ra rb ma mb mc : Nat → Int32} {k4 k5 : Nat → Int64} {cn rc : Int32} (hni : NI cn k0 k1 k2) (hrn : RN cn k0 k1 k2 a b c) (hyx : YX cn k0 k1 k2) (hru : RU cn k0 k1 k2 k4 k5) (hp : PBX f g) (hrr : RRL rc cn rk ra rb ma mb mc) (hri : RI rc ra rb) (i : Int32) (h0 : 0 ≤ i.toInt) (h1 : i.toInt < rc.toInt) : V3 (jd a b c ma mb mc cn f g i) := by
  have hcv : CV cn k0 k1 k2 f g (fun _ => 0) (fun _ => 0) (fun _ => 0) (fun _ => 0) 0 := CV.zero _ _ _ _ _ _ _ _ _ _
  rw [← jd_cls hni hrn hyx hru hcv hp hrr hri i h0 h1]
  exact V3.verdict _ _ _ _ _ _ _ _
theorem V3.va {v : Int32 → Int32} {rc : Int32} : ∀ (n : Nat) (al i : Int32), V3 al → V3 (vall v rc n al i) := by
  intro n
  induction n with
  | zero => intro al i _; exact V3.v0
  | succ n ih =>
    intro al i h
    unfold vall
    exact V3.ite h (V3.ite V3.v0 (ih _ _ (V3.ite V3.v2 h)))
theorem V3.i {x : Int32} (h : V3 x) : (x = 0 ∧ x.toInt = 0) ∨ (x = 1 ∧ x.toInt = 1) ∨ (x = 2 ∧ x.toInt = 2) := by
  rcases h with h | h | h <;> subst h
  · exact Or.inl ⟨rfl, by decide⟩
  · exact Or.inr (Or.inl ⟨rfl, by decide⟩)
  · exact Or.inr (Or.inr ⟨rfl, by decide⟩)
/-! lay, lift, solves -/
theorem lay_loop {lo hi S0 : Nat → Int64} {z : Int32} (hz : 0 ≤ z.toInt ∧ z.toInt < 150) : ∀ (fuel : Nat) (i : Int32) (S : Nat → Int64), 0 ≤ i.toInt → i.toInt ≤ 4 → 4 - i.toInt < fuel → LY S0 S lo hi z.toNatClampNeg i.toNatClampNeg → LY S0 (kX8_lay_l2_v_stack fuel lo hi S0 z i S) lo hi z.toNatClampNeg 4 := by
  intro fuel
  induction fuel with
  | zero => intro i S _ _ h; exact absurd h (by omega)
  | succ fuel ih =>
    intro i S h0 h1 hf hl
    have e := px_cl h0
    rw [kX8_lay_l2_v_stack_S]
    by_cases hq : 4 ≤ i.toInt
    · rw [if_pos hq]
      rw [show i.toNatClampNeg = 4 by omega] at hl
      exact hl
    · rw [if_neg hq]
      have e1 : (i + 1).toInt = i.toInt + 1 := sp_inc (by omega)
      obtain ⟨x1, x2, x3, x4⟩ := px_ix (z := z) (v := i) hz ⟨h0, by omega⟩
      refine ih (i + 1) _ (by omega) (by omega) (by omega) ?_
      rw [x3, x4, px_clS h0 e1]
      exact LY.step hl (by omega)
theorem lay_all (lo hi S0 : Nat → Int64) {z : Int32} (hz : 0 ≤ z.toInt ∧ z.toInt < 150) : LY S0 (kX8_lay_v_stack lo hi S0 z) lo hi z.toNatClampNeg 4 := by
  have h0 : (0 : Int32).toInt = 0 := by decide
  exact lay_loop hz 6 0 S0 (by omega) (by omega) (by omega) (LY.zero _ _ _ _)
theorem lift_loop {lo hi S : Nat → Int64} {z : Int32} (hz : 0 ≤ (z - 1).toInt ∧ (z - 1).toInt < 150) : ∀ (fuel : Nat) (i : Int32) (L H : Nat → Int64), 0 ≤ i.toInt → i.toInt ≤ 4 → 4 - i.toInt < fuel → LF S L H (z - 1).toNatClampNeg i.toNatClampNeg → LF S (kX8_lift_l12_v_boxLow fuel lo hi S z i L H) (kX8_lift_l12_v_boxHigh fuel lo hi S z i L H) (z - 1).toNatClampNeg 4 := by
  intro fuel
  induction fuel with
  | zero => intro i L H _ _ h; exact absurd h (by omega)
  | succ fuel ih =>
    intro i L H h0 h1 hf hl
    have e := px_cl h0
    rw [kX8_lift_l12_v_boxLow_S, kX8_lift_l12_v_boxHigh_S]
    by_cases hq : 4 ≤ i.toInt
    · rw [if_pos hq, if_pos hq]
      rw [show i.toNatClampNeg = 4 by omega] at hl
      exact hl
    · rw [if_neg hq, if_neg hq]
      have e1 : (i + 1).toInt = i.toInt + 1 := sp_inc (by omega)
      obtain ⟨x1, x2, x3, x4⟩ := px_ix (z := z - 1) (v := i) hz ⟨h0, by omega⟩
      refine ih (i + 1) _ _ (by omega) (by omega) (by omega) ?_
      rw [x3, x4, px_clS h0 e1]
      exact LF.step hl
theorem lift_all (lo hi S : Nat → Int64) {z : Int32} (hz : 0 ≤ (z - 1).toInt ∧ (z - 1).toInt < 150) : LF S (kX8_lift_v_boxLow lo hi S z) (kX8_lift_v_boxHigh lo hi S z) (z - 1).toNatClampNeg 4 := by
  have h0 : (0 : Int32).toInt = 0 := by decide
  exact lift_loop hz 6 0 lo hi (by omega) (by omega) (by omega) (LF.zero _ _ _ _)
theorem slv_loop {fo bl : Nat → Int64} : ∀ (fuel : Nat) (i : Int32) (F : Nat → Int64), 0 ≤ i.toInt → i.toInt ≤ 4 → 4 - i.toInt < fuel → (∀ u : Nat, (u : Int) < i.toInt → F u = bl u) → ∀ u : Nat, u < 4 → kX8_solves_l7_v_found fuel fo bl i F u = bl u := by
  intro fuel
  induction fuel with
  | zero => intro i F _ _ h; exact absurd h (by omega)
  | succ fuel ih =>
    intro i F h0 h1 hf hl u hu
    have e := px_cl h0
    rw [kX8_solves_l7_v_found_S]
    by_cases hq : 4 ≤ i.toInt
    · rw [if_pos hq]
      exact hl u (by omega)
    · rw [if_neg hq]
      have e1 : (i + 1).toInt = i.toInt + 1 := sp_inc (by omega)
      refine ih (i + 1) _ (by omega) (by omega) (by omega) (fun v hv => ?_) u hu
      by_cases q : v = i.toNatClampNeg
      · rw [q, px_ulS]
      · rw [px_ulO _ _ q]
        exact hl v (by omega)
theorem slv_all (fo bl : Nat → Int64) : ∀ u : Nat, u < 4 → kX8_solves_v_found fo bl u = bl u := by
  have h0 : (0 : Int32).toInt = 0 := by decide
  exact slv_loop 6 0 fo (by omega) (by omega) (by omega) (fun u hu => absurd hu (by omega))
def lkH (bl bh sk : Nat → Int64) (mz i : Int32) : Nat → Int64 := kX8_lay_v_stack (vp_updL (vp_updL bl i.toNatClampNeg (((bl i.toNatClampNeg + bh i.toNatClampNeg) >>> ((1 : Int32).toInt64 &&& 63)) + 1)) i.toNatClampNeg (bl i.toNatClampNeg)) (vp_updL bh i.toNatClampNeg ((bl i.toNatClampNeg + bh i.toNatClampNeg) >>> ((1 : Int32).toInt64 &&& 63))) (kX8_lay_v_stack (vp_updL bl i.toNatClampNeg (((bl i.toNatClampNeg + bh i.toNatClampNeg) >>> ((1 : Int32).toInt64 &&& 63)) + 1)) bh sk mz) (mz + 1)
theorem lk110_mw9 {a b c ma mb mc : Nat → Int32} {fo wo bl bh : Nat → Int64} {h : Nat → Int32} {l m : Nat → Int64} {n : Nat → Int32} {sk : Nat → Int64} {cn rc mw mh mz : Int32} (vh : Nat → Int32) (vl vm : Nat → Int64) (vn : Nat → Int32) (W : Nat → Int64) (hc : rc.toInt ≤ 12) : ∀ (fuel : Nat) (go i : Int32), (go = 0 ∨ go = 1) → 0 ≤ i.toInt → i.toInt ≤ rc.toInt → rc.toInt - i.toInt < fuel → kX8_look_l110_mw9 fuel a b c ma mb mc fo wo bl bh h l m n sk cn rc mw mh mz go i vh vl vm vn W = if go.toInt = 0 then mw else if (tall (fun i => kX8_isTrue ma mb mc W i) rc fuel i).toInt = 0 then mw else 1 := by
  have z0 : (0 : Int32).toInt = 0 := by decide
  have z1 : ¬ (1 : Int32).toInt = 0 := by decide
  intro fuel
  induction fuel with
  | zero => intro go i _ _ _ q; exact absurd q (by omega)
  | succ fuel ih =>
    intro go i hg h0 h1 hf
    rw [kX8_look_l110_mw9_S]
    unfold tall
    by_cases hq : rc.toInt ≤ i.toInt
    · rw [if_pos hq, if_pos hq, if_neg z1]
    · have e1 : (i + 1).toInt = i.toInt + 1 := sp_inc (by omega)
      rw [if_neg hq, if_neg hq]
      unfold kX8_look_l110_137_z14 kX8_look_l110_137_z11
      by_cases hg0 : go.toInt = 0
      · rw [if_pos hg0, if_pos hg0, ih 0 (i + 1) (Or.inl rfl) (by omega) (by omega) (by omega), if_pos z0]
      · rw [if_neg hg0, if_neg hg0]
        by_cases ht : (kX8_isTrue ma mb mc W i).toInt = 0
        · rw [if_pos ht, if_pos ht, ih 0 (i + 1) (Or.inl rfl) (by omega) (by omega) (by omega), if_pos z0, if_pos z0]
        · rw [if_neg ht, if_neg ht, ih 1 (i + 1) (Or.inr rfl) (by omega) (by omega) (by omega), if_neg z1]
theorem lk59_mw9 {a b c ma mb mc : Nat → Int32} {fo wo bl bh : Nat → Int64} {h : Nat → Int32} {l m : Nat → Int64} {n : Nat → Int32} {sk : Nat → Int64} {cn rc mw mh mz : Int32} (vh : Nat → Int32) (vl vm : Nat → Int64) (vn : Nat → Int32) {f g : Nat → Int32} (hb : ∀ v : Nat, v < 4 → bl v = (f v).toInt64 ∧ bh v = (g v).toInt64) : ∀ (fuel : Nat) (i : Int32), 0 ≤ i.toInt → i.toInt ≤ 4 → 4 - i.toInt < fuel → kX8_look_l59_mw9 fuel a b c ma mb mc fo wo bl bh h l m n sk cn rc mw mh mz i vh vl vm vn = (fun i => if i.toInt = 4 then kX8_look_l110_mw9 14 a b c ma mb mc fo wo bl bh h l m n sk cn rc mw mh mz 1 0 vh vl vm vn (kX8_work_v_worth a b c wo bl (cn - 1)) else mw) (kX1_firstWide_l2 fuel f g i) := by
  intro fuel
  induction fuel with
  | zero => intro i _ _ q; exact absurd q (by omega)
  | succ fuel ih =>
    intro i h0 h1 hf
    rw [kX8_look_l59_mw9_S, kX1_firstWide_l2_S]
    by_cases hq : 4 ≤ i.toInt
    · rw [if_pos hq, if_pos hq]
      try unfold lkH
      try rfl
    · have e := px_cl h0
      have e1 : (i + 1).toInt = i.toInt + 1 := sp_inc (by omega)
      obtain ⟨b1, b2⟩ := hb i.toNatClampNeg (by omega)
      have c1 : (bl i.toNatClampNeg).toInt = (f i.toNatClampNeg).toInt := by rw [b1, Int32.toInt_toInt64]
      have c2 : (bh i.toNatClampNeg).toInt = (g i.toNatClampNeg).toInt := by rw [b2, Int32.toInt_toInt64]
      rw [if_neg hq, if_neg hq]
      by_cases hs : (f i.toNatClampNeg).toInt = (g i.toNatClampNeg).toInt
      · rw [if_pos hs, if_pos (show (bl i.toNatClampNeg).toInt = (bh i.toNatClampNeg).toInt by omega)]
        exact ih (i + 1) (by omega) (by omega) (by omega)
      · rw [if_neg hs, if_neg (show ¬ (bl i.toNatClampNeg).toInt = (bh i.toNatClampNeg).toInt by omega)]
        try unfold lkH
        try rfl
theorem lk8_mw9 {a b c ma mb mc : Nat → Int32} {fo wo bl bh : Nat → Int64} {h : Nat → Int32} {l m : Nat → Int64} {n : Nat → Int32} {sk : Nat → Int64} {cn rc mw mh mz : Int32} (vh : Nat → Int32) (vl vm : Nat → Int64) (vn : Nat → Int32) (hc : rc.toInt ≤ 12) (hj : ∀ i : Int32, 0 ≤ i.toInt → i.toInt < rc.toInt → V3 (kX8_judgeOf ma mb mc vh vl vm vn i)) : ∀ (fuel : Nat) (ev al i : Int32), ((ev = 0 ∧ al = 2) ∨ (ev = 1 ∧ al = 1)) → 0 ≤ i.toInt → i.toInt ≤ rc.toInt → rc.toInt - i.toInt < fuel → kX8_look_l8_mw9 fuel a b c ma mb mc fo wo bl bh h l m n sk cn rc mw mh mz ev i vh vl vm vn = (fun V : Int32 => if V.toInt = 0 then mw else if V.toInt = 1 then 1 else kX8_look_l59_mw9 6 a b c ma mb mc fo wo bl bh h l m n sk cn rc mw mh mz 0 vh vl vm vn) (vall (fun i => kX8_judgeOf ma mb mc vh vl vm vn i) rc fuel al i) := by
  have z0 : (0 : Int32).toInt = 0 := by decide
  have z1 : (1 : Int32).toInt = 1 := by decide
  have z2 : (2 : Int32).toInt = 2 := by decide
  intro fuel
  induction fuel with
  | zero => intro ev al i _ _ _ q; exact absurd q (by omega)
  | succ fuel ih =>
    intro ev al i he h0 h1 hf
    rw [kX8_look_l8_mw9_S]
    unfold vall
    by_cases hq : rc.toInt ≤ i.toInt
    · rw [if_pos hq, if_pos hq]
      rcases he with ⟨e1, e2⟩ | ⟨e1, e2⟩ <;> subst e1 <;> subst e2
      · show (if (0 : Int32).toInt = 0 then _ else _) = (if (2 : Int32).toInt = 0 then _ else (if (2 : Int32).toInt = 1 then _ else _))
        rw [if_pos z0, if_neg (show ¬ (2 : Int32).toInt = 0 by decide), if_neg (show ¬ (2 : Int32).toInt = 1 by decide)]
      · show (if (1 : Int32).toInt = 0 then _ else _) = (if (1 : Int32).toInt = 0 then _ else (if (1 : Int32).toInt = 1 then _ else _))
        rw [if_neg (show ¬ (1 : Int32).toInt = 0 by decide), if_neg (show ¬ (1 : Int32).toInt = 0 by decide), if_pos z1]
    · have e1 : (i + 1).toInt = i.toInt + 1 := sp_inc (by omega)
      rw [if_neg hq, if_neg hq]
      rcases (hj i h0 (by omega)).i with ⟨_, j0⟩ | ⟨_, j0⟩ | ⟨_, j0⟩
      · rw [if_pos j0, if_pos j0]
        show _ = (if (0 : Int32).toInt = 0 then _ else _)
        rw [if_pos z0]
      · have j1 : ¬ (kX8_judgeOf ma mb mc vh vl vm vn i).toInt = 0 := by omega
        have j2 : ¬ (kX8_judgeOf ma mb mc vh vl vm vn i).toInt = 2 := by omega
        rw [if_neg j1, if_neg j1, if_neg j2]
        refine ih _ al (i + 1) ?_ (by omega) (by omega) (by omega)
        unfold kX8_look_l8_41_z20 kX8_look_l8_41_z17
        rw [if_pos j0]
        rcases he with ⟨e1, e2⟩ | ⟨e1, e2⟩ <;> subst e1 <;> subst e2
        · exact Or.inl ⟨rfl, rfl⟩
        · exact Or.inr ⟨rfl, rfl⟩
      · have j1 : ¬ (kX8_judgeOf ma mb mc vh vl vm vn i).toInt = 0 := by omega
        have j2 : ¬ (kX8_judgeOf ma mb mc vh vl vm vn i).toInt = 1 := by omega
        rw [if_neg j1, if_neg j1, if_pos j0]
        refine ih _ 2 (i + 1) (Or.inl ⟨?_, rfl⟩) (by omega) (by omega) (by omega)
        unfold kX8_look_l8_41_z20 kX8_look_l8_41_z17
        rw [if_neg j2]
        split <;> rfl
theorem look_mw9 {a b c ma mb mc : Nat → Int32} {fo wo bl bh : Nat → Int64} {h : Nat → Int32} {l m : Nat → Int64} {n : Nat → Int32} {sk : Nat → Int64} {cn rc mw mh mz : Int32} {f g k0 k1 k2 rk ra rb : Nat → Int32} {k4 k5 : Nat → Int64} (hni : NI cn k0 k1 k2) (hrn : RN cn k0 k1 k2 a b c) (hyx : YX cn k0 k1 k2) (hru : RU cn k0 k1 k2 k4 k5) (hrr : RRL rc cn rk ra rb ma mb mc) (hri : RI rc ra rb) (hp : BX f g bl bh) : kX8_look_mw9 a b c ma mb mc fo wo bl bh h l m n sk cn rc mw mh mz = (fun (V : Int32) (i : Int32) => if V.toInt = 0 then mw else if V.toInt = 1 then 1 else mw) (FJ a b c ma mb mc cn rc f g) (kX1_firstWide f g) := by
  have z0 : (0 : Int32).toInt = 0 := by decide
  have z1 : ¬ (1 : Int32).toInt = 0 := by decide
  have zz1 : (1 : Int32).toInt = 1 := by decide
  have hc0 := hri.1
  have hc := hri.2.1
  have hpx : PBX f g := fun v hv => (hp v hv).2.2
  have hJ : ∀ i : Int32, 0 ≤ i.toInt → i.toInt < rc.toInt → (fun i => kX8_judgeOf ma mb mc (kX8_spans_v_has a b c bl bh h l m n cn) (kX8_spans_v_least a b c bl bh h l m n cn) (kX8_spans_v_most a b c bl bh h l m n cn) (kX8_spans_v_mayNone a b c bl bh h l m n cn) i) i = jd a b c ma mb mc cn f g i := fun i i0 i1 => jd_ref h l m n hni hrn hyx hru hp hrr hri i i0 i1
  have hT : ∀ i : Int32, 0 ≤ i.toInt → i.toInt < rc.toInt → (fun i => kX8_isTrue ma mb mc (kX8_work_v_worth a b c wo bl (cn - 1)) i) i = jt a b c ma mb mc cn f i := fun i i0 i1 => jt_ref bl wo hni hrn hpx (fun v hv => (hp v hv).1) hrr i i0 i1
  have hb : ∀ v : Nat, v < 4 → bl v = (f v).toInt64 ∧ bh v = (g v).toInt64 := fun v hv => ⟨(hp v hv).1, (hp v hv).2.1⟩
  unfold kX8_look_mw9
  rw [lk8_mw9 _ _ _ _ hc (fun i i0 i1 => by rw [show kX8_judgeOf ma mb mc (kX8_spans_v_has a b c bl bh h l m n cn) (kX8_spans_v_least a b c bl bh h l m n cn) (kX8_spans_v_most a b c bl bh h l m n cn) (kX8_spans_v_mayNone a b c bl bh h l m n cn) i = jd a b c ma mb mc cn f g i from hJ i i0 i1]; exact V3.jdv hni hrn hyx hru hpx hrr hri i i0 i1) 14 1 1 0 (Or.inr ⟨rfl, rfl⟩) (by omega) (by omega) (by omega), vall_cong hc hJ 14 1 0 (by omega), lk59_mw9 _ _ _ _ hb 6 0 (by omega) (by omega) (by omega)]
  have hw : kX1_firstWide_l2 6 f g 0 = kX1_firstWide f g := rfl
  rw [hw]
  unfold FJ
  have hV := (V3.va (v := jd a b c ma mb mc cn f g) (rc := rc) 14 1 0 V3.v1).i
  generalize vall (jd a b c ma mb mc cn f g) rc 14 1 0 = V at hV ⊢
  rcases hV with ⟨v1, v2⟩ | ⟨v1, v2⟩ | ⟨v1, v2⟩ <;> subst v1
  · rw [if_neg (show ¬ (0 : Int32).toInt = 2 by decide)]
    show (if (0 : Int32).toInt = 0 then _ else _) = (if (0 : Int32).toInt = 0 then _ else _)
    rw [if_pos z0, if_pos z0]
  · rw [if_neg (show ¬ (1 : Int32).toInt = 2 by decide)]
    show (if (1 : Int32).toInt = 0 then _ else (if (1 : Int32).toInt = 1 then _ else _)) = (if (1 : Int32).toInt = 0 then _ else (if (1 : Int32).toInt = 1 then _ else _))
    rw [if_neg z1, if_pos zz1, if_neg z1, if_pos zz1]
  · show (if (2 : Int32).toInt = 0 then _ else (if (2 : Int32).toInt = 1 then _ else _)) = _
    rw [if_neg (show ¬ (2 : Int32).toInt = 0 by decide), if_neg (show ¬ (2 : Int32).toInt = 1 by decide)]
    show (if (kX1_firstWide f g).toInt = 4 then _ else _) = _
    by_cases q : (kX1_firstWide f g).toInt = 4
    · have hL := lk110_mw9 (a := a) (b := b) (c := c) (ma := ma) (mb := mb) (mc := mc) (fo := fo) (wo := wo) (bl := bl) (bh := bh) (h := h) (l := l) (m := m) (n := n) (sk := sk) (cn := cn) (mw := mw) (mh := mh) (mz := mz) (kX8_spans_v_has a b c bl bh h l m n cn) (kX8_spans_v_least a b c bl bh h l m n cn) (kX8_spans_v_most a b c bl bh h l m n cn) (kX8_spans_v_mayNone a b c bl bh h l m n cn) (kX8_work_v_worth a b c wo bl (cn - 1)) hc 14 1 0 (Or.inr rfl) (by omega) (by omega) (by omega)
      rw [if_neg z1, tall_cong hc hT 14 0 (by omega)] at hL
      rw [if_pos v2, if_pos q, if_pos q, hL]
      rcases tall01 (jt a b c ma mb mc cn f) rc 14 0 with e | e <;> rw [e]
      · show (if (0 : Int32).toInt = 0 then _ else _) = (if (0 : Int32).toInt = 0 then _ else _)
        rw [if_pos z0, if_pos z0]
      · show (if (1 : Int32).toInt = 0 then _ else _) = (if (1 : Int32).toInt = 0 then _ else (if (1 : Int32).toInt = 1 then _ else _))
        rw [if_neg z1, if_neg z1, if_pos zz1]
    · rw [if_pos v2, if_neg q, if_neg q]
      show _ = (if (2 : Int32).toInt = 0 then _ else (if (2 : Int32).toInt = 1 then _ else _))
      rw [if_neg (show ¬ (2 : Int32).toInt = 0 by decide), if_neg (show ¬ (2 : Int32).toInt = 1 by decide)]
theorem lk110_mh9 {a b c ma mb mc : Nat → Int32} {fo wo bl bh : Nat → Int64} {h : Nat → Int32} {l m : Nat → Int64} {n : Nat → Int32} {sk : Nat → Int64} {cn rc mw mh mz : Int32} (vh : Nat → Int32) (vl vm : Nat → Int64) (vn : Nat → Int32) (W : Nat → Int64) (hc : rc.toInt ≤ 12) : ∀ (fuel : Nat) (go i : Int32), (go = 0 ∨ go = 1) → 0 ≤ i.toInt → i.toInt ≤ rc.toInt → rc.toInt - i.toInt < fuel → kX8_look_l110_mh9 fuel a b c ma mb mc fo wo bl bh h l m n sk cn rc mw mh mz go i vh vl vm vn W = if go.toInt = 0 then mh else if (tall (fun i => kX8_isTrue ma mb mc W i) rc fuel i).toInt = 0 then mh else mh := by
  have z0 : (0 : Int32).toInt = 0 := by decide
  have z1 : ¬ (1 : Int32).toInt = 0 := by decide
  intro fuel
  induction fuel with
  | zero => intro go i _ _ _ q; exact absurd q (by omega)
  | succ fuel ih =>
    intro go i hg h0 h1 hf
    rw [kX8_look_l110_mh9_S]
    unfold tall
    by_cases hq : rc.toInt ≤ i.toInt
    · rw [if_pos hq, if_pos hq, if_neg z1]
    · have e1 : (i + 1).toInt = i.toInt + 1 := sp_inc (by omega)
      rw [if_neg hq, if_neg hq]
      unfold kX8_look_l110_137_z14 kX8_look_l110_137_z11
      by_cases hg0 : go.toInt = 0
      · rw [if_pos hg0, if_pos hg0, ih 0 (i + 1) (Or.inl rfl) (by omega) (by omega) (by omega), if_pos z0]
      · rw [if_neg hg0, if_neg hg0]
        by_cases ht : (kX8_isTrue ma mb mc W i).toInt = 0
        · rw [if_pos ht, if_pos ht, ih 0 (i + 1) (Or.inl rfl) (by omega) (by omega) (by omega), if_pos z0, if_pos z0]
        · rw [if_neg ht, if_neg ht, ih 1 (i + 1) (Or.inr rfl) (by omega) (by omega) (by omega), if_neg z1]
theorem lk59_mh9 {a b c ma mb mc : Nat → Int32} {fo wo bl bh : Nat → Int64} {h : Nat → Int32} {l m : Nat → Int64} {n : Nat → Int32} {sk : Nat → Int64} {cn rc mw mh mz : Int32} (vh : Nat → Int32) (vl vm : Nat → Int64) (vn : Nat → Int32) {f g : Nat → Int32} (hb : ∀ v : Nat, v < 4 → bl v = (f v).toInt64 ∧ bh v = (g v).toInt64) : ∀ (fuel : Nat) (i : Int32), 0 ≤ i.toInt → i.toInt ≤ 4 → 4 - i.toInt < fuel → kX8_look_l59_mh9 fuel a b c ma mb mc fo wo bl bh h l m n sk cn rc mw mh mz i vh vl vm vn = (fun i => if i.toInt = 4 then kX8_look_l110_mh9 14 a b c ma mb mc fo wo bl bh h l m n sk cn rc mw mh mz 1 0 vh vl vm vn (kX8_work_v_worth a b c wo bl (cn - 1)) else (mh + 1)) (kX1_firstWide_l2 fuel f g i) := by
  intro fuel
  induction fuel with
  | zero => intro i _ _ q; exact absurd q (by omega)
  | succ fuel ih =>
    intro i h0 h1 hf
    rw [kX8_look_l59_mh9_S, kX1_firstWide_l2_S]
    by_cases hq : 4 ≤ i.toInt
    · rw [if_pos hq, if_pos hq]
      try unfold lkH
      try rfl
    · have e := px_cl h0
      have e1 : (i + 1).toInt = i.toInt + 1 := sp_inc (by omega)
      obtain ⟨b1, b2⟩ := hb i.toNatClampNeg (by omega)
      have c1 : (bl i.toNatClampNeg).toInt = (f i.toNatClampNeg).toInt := by rw [b1, Int32.toInt_toInt64]
      have c2 : (bh i.toNatClampNeg).toInt = (g i.toNatClampNeg).toInt := by rw [b2, Int32.toInt_toInt64]
      rw [if_neg hq, if_neg hq]
      by_cases hs : (f i.toNatClampNeg).toInt = (g i.toNatClampNeg).toInt
      · rw [if_pos hs, if_pos (show (bl i.toNatClampNeg).toInt = (bh i.toNatClampNeg).toInt by omega)]
        exact ih (i + 1) (by omega) (by omega) (by omega)
      · rw [if_neg hs, if_neg (show ¬ (bl i.toNatClampNeg).toInt = (bh i.toNatClampNeg).toInt by omega)]
        try unfold lkH
        try rfl
theorem lk8_mh9 {a b c ma mb mc : Nat → Int32} {fo wo bl bh : Nat → Int64} {h : Nat → Int32} {l m : Nat → Int64} {n : Nat → Int32} {sk : Nat → Int64} {cn rc mw mh mz : Int32} (vh : Nat → Int32) (vl vm : Nat → Int64) (vn : Nat → Int32) (hc : rc.toInt ≤ 12) (hj : ∀ i : Int32, 0 ≤ i.toInt → i.toInt < rc.toInt → V3 (kX8_judgeOf ma mb mc vh vl vm vn i)) : ∀ (fuel : Nat) (ev al i : Int32), ((ev = 0 ∧ al = 2) ∨ (ev = 1 ∧ al = 1)) → 0 ≤ i.toInt → i.toInt ≤ rc.toInt → rc.toInt - i.toInt < fuel → kX8_look_l8_mh9 fuel a b c ma mb mc fo wo bl bh h l m n sk cn rc mw mh mz ev i vh vl vm vn = (fun V : Int32 => if V.toInt = 0 then mh else if V.toInt = 1 then mh else kX8_look_l59_mh9 6 a b c ma mb mc fo wo bl bh h l m n sk cn rc mw mh mz 0 vh vl vm vn) (vall (fun i => kX8_judgeOf ma mb mc vh vl vm vn i) rc fuel al i) := by
  have z0 : (0 : Int32).toInt = 0 := by decide
  have z1 : (1 : Int32).toInt = 1 := by decide
  have z2 : (2 : Int32).toInt = 2 := by decide
  intro fuel
  induction fuel with
  | zero => intro ev al i _ _ _ q; exact absurd q (by omega)
  | succ fuel ih =>
    intro ev al i he h0 h1 hf
    rw [kX8_look_l8_mh9_S]
    unfold vall
    by_cases hq : rc.toInt ≤ i.toInt
    · rw [if_pos hq, if_pos hq]
      rcases he with ⟨e1, e2⟩ | ⟨e1, e2⟩ <;> subst e1 <;> subst e2
      · show (if (0 : Int32).toInt = 0 then _ else _) = (if (2 : Int32).toInt = 0 then _ else (if (2 : Int32).toInt = 1 then _ else _))
        rw [if_pos z0, if_neg (show ¬ (2 : Int32).toInt = 0 by decide), if_neg (show ¬ (2 : Int32).toInt = 1 by decide)]
      · show (if (1 : Int32).toInt = 0 then _ else _) = (if (1 : Int32).toInt = 0 then _ else (if (1 : Int32).toInt = 1 then _ else _))
        rw [if_neg (show ¬ (1 : Int32).toInt = 0 by decide), if_neg (show ¬ (1 : Int32).toInt = 0 by decide), if_pos z1]
    · have e1 : (i + 1).toInt = i.toInt + 1 := sp_inc (by omega)
      rw [if_neg hq, if_neg hq]
      rcases (hj i h0 (by omega)).i with ⟨_, j0⟩ | ⟨_, j0⟩ | ⟨_, j0⟩
      · rw [if_pos j0, if_pos j0]
        show _ = (if (0 : Int32).toInt = 0 then _ else _)
        rw [if_pos z0]
      · have j1 : ¬ (kX8_judgeOf ma mb mc vh vl vm vn i).toInt = 0 := by omega
        have j2 : ¬ (kX8_judgeOf ma mb mc vh vl vm vn i).toInt = 2 := by omega
        rw [if_neg j1, if_neg j1, if_neg j2]
        refine ih _ al (i + 1) ?_ (by omega) (by omega) (by omega)
        unfold kX8_look_l8_41_z20 kX8_look_l8_41_z17
        rw [if_pos j0]
        rcases he with ⟨e1, e2⟩ | ⟨e1, e2⟩ <;> subst e1 <;> subst e2
        · exact Or.inl ⟨rfl, rfl⟩
        · exact Or.inr ⟨rfl, rfl⟩
      · have j1 : ¬ (kX8_judgeOf ma mb mc vh vl vm vn i).toInt = 0 := by omega
        have j2 : ¬ (kX8_judgeOf ma mb mc vh vl vm vn i).toInt = 1 := by omega
        rw [if_neg j1, if_neg j1, if_pos j0]
        refine ih _ 2 (i + 1) (Or.inl ⟨?_, rfl⟩) (by omega) (by omega) (by omega)
        unfold kX8_look_l8_41_z20 kX8_look_l8_41_z17
        rw [if_neg j2]
        split <;> rfl
theorem look_mh9 {a b c ma mb mc : Nat → Int32} {fo wo bl bh : Nat → Int64} {h : Nat → Int32} {l m : Nat → Int64} {n : Nat → Int32} {sk : Nat → Int64} {cn rc mw mh mz : Int32} {f g k0 k1 k2 rk ra rb : Nat → Int32} {k4 k5 : Nat → Int64} (hni : NI cn k0 k1 k2) (hrn : RN cn k0 k1 k2 a b c) (hyx : YX cn k0 k1 k2) (hru : RU cn k0 k1 k2 k4 k5) (hrr : RRL rc cn rk ra rb ma mb mc) (hri : RI rc ra rb) (hp : BX f g bl bh) : kX8_look_mh9 a b c ma mb mc fo wo bl bh h l m n sk cn rc mw mh mz = (fun (V : Int32) (i : Int32) => if V.toInt = 0 then mh else if V.toInt = 1 then mh else (mh + 1)) (FJ a b c ma mb mc cn rc f g) (kX1_firstWide f g) := by
  have z0 : (0 : Int32).toInt = 0 := by decide
  have z1 : ¬ (1 : Int32).toInt = 0 := by decide
  have zz1 : (1 : Int32).toInt = 1 := by decide
  have hc0 := hri.1
  have hc := hri.2.1
  have hpx : PBX f g := fun v hv => (hp v hv).2.2
  have hJ : ∀ i : Int32, 0 ≤ i.toInt → i.toInt < rc.toInt → (fun i => kX8_judgeOf ma mb mc (kX8_spans_v_has a b c bl bh h l m n cn) (kX8_spans_v_least a b c bl bh h l m n cn) (kX8_spans_v_most a b c bl bh h l m n cn) (kX8_spans_v_mayNone a b c bl bh h l m n cn) i) i = jd a b c ma mb mc cn f g i := fun i i0 i1 => jd_ref h l m n hni hrn hyx hru hp hrr hri i i0 i1
  have hT : ∀ i : Int32, 0 ≤ i.toInt → i.toInt < rc.toInt → (fun i => kX8_isTrue ma mb mc (kX8_work_v_worth a b c wo bl (cn - 1)) i) i = jt a b c ma mb mc cn f i := fun i i0 i1 => jt_ref bl wo hni hrn hpx (fun v hv => (hp v hv).1) hrr i i0 i1
  have hb : ∀ v : Nat, v < 4 → bl v = (f v).toInt64 ∧ bh v = (g v).toInt64 := fun v hv => ⟨(hp v hv).1, (hp v hv).2.1⟩
  unfold kX8_look_mh9
  rw [lk8_mh9 _ _ _ _ hc (fun i i0 i1 => by rw [show kX8_judgeOf ma mb mc (kX8_spans_v_has a b c bl bh h l m n cn) (kX8_spans_v_least a b c bl bh h l m n cn) (kX8_spans_v_most a b c bl bh h l m n cn) (kX8_spans_v_mayNone a b c bl bh h l m n cn) i = jd a b c ma mb mc cn f g i from hJ i i0 i1]; exact V3.jdv hni hrn hyx hru hpx hrr hri i i0 i1) 14 1 1 0 (Or.inr ⟨rfl, rfl⟩) (by omega) (by omega) (by omega), vall_cong hc hJ 14 1 0 (by omega), lk59_mh9 _ _ _ _ hb 6 0 (by omega) (by omega) (by omega)]
  have hw : kX1_firstWide_l2 6 f g 0 = kX1_firstWide f g := rfl
  rw [hw]
  unfold FJ
  have hV := (V3.va (v := jd a b c ma mb mc cn f g) (rc := rc) 14 1 0 V3.v1).i
  generalize vall (jd a b c ma mb mc cn f g) rc 14 1 0 = V at hV ⊢
  rcases hV with ⟨v1, v2⟩ | ⟨v1, v2⟩ | ⟨v1, v2⟩ <;> subst v1
  · rw [if_neg (show ¬ (0 : Int32).toInt = 2 by decide)]
    show (if (0 : Int32).toInt = 0 then _ else _) = (if (0 : Int32).toInt = 0 then _ else _)
    rw [if_pos z0, if_pos z0]
  · rw [if_neg (show ¬ (1 : Int32).toInt = 2 by decide)]
    show (if (1 : Int32).toInt = 0 then _ else (if (1 : Int32).toInt = 1 then _ else _)) = (if (1 : Int32).toInt = 0 then _ else (if (1 : Int32).toInt = 1 then _ else _))
    rw [if_neg z1, if_pos zz1, if_neg z1, if_pos zz1]
  · show (if (2 : Int32).toInt = 0 then _ else (if (2 : Int32).toInt = 1 then _ else _)) = _
    rw [if_neg (show ¬ (2 : Int32).toInt = 0 by decide), if_neg (show ¬ (2 : Int32).toInt = 1 by decide)]
    show (if (kX1_firstWide f g).toInt = 4 then _ else _) = _
    by_cases q : (kX1_firstWide f g).toInt = 4
    · have hL := lk110_mh9 (a := a) (b := b) (c := c) (ma := ma) (mb := mb) (mc := mc) (fo := fo) (wo := wo) (bl := bl) (bh := bh) (h := h) (l := l) (m := m) (n := n) (sk := sk) (cn := cn) (mw := mw) (mh := mh) (mz := mz) (kX8_spans_v_has a b c bl bh h l m n cn) (kX8_spans_v_least a b c bl bh h l m n cn) (kX8_spans_v_most a b c bl bh h l m n cn) (kX8_spans_v_mayNone a b c bl bh h l m n cn) (kX8_work_v_worth a b c wo bl (cn - 1)) hc 14 1 0 (Or.inr rfl) (by omega) (by omega) (by omega)
      rw [if_neg z1, tall_cong hc hT 14 0 (by omega)] at hL
      rw [if_pos v2, if_pos q, if_pos q, hL]
      rcases tall01 (jt a b c ma mb mc cn f) rc 14 0 with e | e <;> rw [e]
      · show (if (0 : Int32).toInt = 0 then _ else _) = (if (0 : Int32).toInt = 0 then _ else _)
        rw [if_pos z0, if_pos z0]
      · show (if (1 : Int32).toInt = 0 then _ else _) = (if (1 : Int32).toInt = 0 then _ else (if (1 : Int32).toInt = 1 then _ else _))
        rw [if_neg z1, if_neg z1, if_pos zz1]
    · rw [if_pos v2, if_neg q, if_neg q]
      show _ = (if (2 : Int32).toInt = 0 then _ else (if (2 : Int32).toInt = 1 then _ else _))
      rw [if_neg (show ¬ (2 : Int32).toInt = 0 by decide), if_neg (show ¬ (2 : Int32).toInt = 1 by decide)]
theorem lk110_mz9 {a b c ma mb mc : Nat → Int32} {fo wo bl bh : Nat → Int64} {h : Nat → Int32} {l m : Nat → Int64} {n : Nat → Int32} {sk : Nat → Int64} {cn rc mw mh mz : Int32} (vh : Nat → Int32) (vl vm : Nat → Int64) (vn : Nat → Int32) (W : Nat → Int64) (hc : rc.toInt ≤ 12) : ∀ (fuel : Nat) (go i : Int32), (go = 0 ∨ go = 1) → 0 ≤ i.toInt → i.toInt ≤ rc.toInt → rc.toInt - i.toInt < fuel → kX8_look_l110_mz9 fuel a b c ma mb mc fo wo bl bh h l m n sk cn rc mw mh mz go i vh vl vm vn W = if go.toInt = 0 then mz else if (tall (fun i => kX8_isTrue ma mb mc W i) rc fuel i).toInt = 0 then mz else mz := by
  have z0 : (0 : Int32).toInt = 0 := by decide
  have z1 : ¬ (1 : Int32).toInt = 0 := by decide
  intro fuel
  induction fuel with
  | zero => intro go i _ _ _ q; exact absurd q (by omega)
  | succ fuel ih =>
    intro go i hg h0 h1 hf
    rw [kX8_look_l110_mz9_S]
    unfold tall
    by_cases hq : rc.toInt ≤ i.toInt
    · rw [if_pos hq, if_pos hq, if_neg z1]
    · have e1 : (i + 1).toInt = i.toInt + 1 := sp_inc (by omega)
      rw [if_neg hq, if_neg hq]
      unfold kX8_look_l110_137_z14 kX8_look_l110_137_z11
      by_cases hg0 : go.toInt = 0
      · rw [if_pos hg0, if_pos hg0, ih 0 (i + 1) (Or.inl rfl) (by omega) (by omega) (by omega), if_pos z0]
      · rw [if_neg hg0, if_neg hg0]
        by_cases ht : (kX8_isTrue ma mb mc W i).toInt = 0
        · rw [if_pos ht, if_pos ht, ih 0 (i + 1) (Or.inl rfl) (by omega) (by omega) (by omega), if_pos z0, if_pos z0]
        · rw [if_neg ht, if_neg ht, ih 1 (i + 1) (Or.inr rfl) (by omega) (by omega) (by omega), if_neg z1]
theorem lk59_mz9 {a b c ma mb mc : Nat → Int32} {fo wo bl bh : Nat → Int64} {h : Nat → Int32} {l m : Nat → Int64} {n : Nat → Int32} {sk : Nat → Int64} {cn rc mw mh mz : Int32} (vh : Nat → Int32) (vl vm : Nat → Int64) (vn : Nat → Int32) {f g : Nat → Int32} (hb : ∀ v : Nat, v < 4 → bl v = (f v).toInt64 ∧ bh v = (g v).toInt64) : ∀ (fuel : Nat) (i : Int32), 0 ≤ i.toInt → i.toInt ≤ 4 → 4 - i.toInt < fuel → kX8_look_l59_mz9 fuel a b c ma mb mc fo wo bl bh h l m n sk cn rc mw mh mz i vh vl vm vn = (fun i => if i.toInt = 4 then kX8_look_l110_mz9 14 a b c ma mb mc fo wo bl bh h l m n sk cn rc mw mh mz 1 0 vh vl vm vn (kX8_work_v_worth a b c wo bl (cn - 1)) else ((mz + 1) + 1)) (kX1_firstWide_l2 fuel f g i) := by
  intro fuel
  induction fuel with
  | zero => intro i _ _ q; exact absurd q (by omega)
  | succ fuel ih =>
    intro i h0 h1 hf
    rw [kX8_look_l59_mz9_S, kX1_firstWide_l2_S]
    by_cases hq : 4 ≤ i.toInt
    · rw [if_pos hq, if_pos hq]
      try unfold lkH
      try rfl
    · have e := px_cl h0
      have e1 : (i + 1).toInt = i.toInt + 1 := sp_inc (by omega)
      obtain ⟨b1, b2⟩ := hb i.toNatClampNeg (by omega)
      have c1 : (bl i.toNatClampNeg).toInt = (f i.toNatClampNeg).toInt := by rw [b1, Int32.toInt_toInt64]
      have c2 : (bh i.toNatClampNeg).toInt = (g i.toNatClampNeg).toInt := by rw [b2, Int32.toInt_toInt64]
      rw [if_neg hq, if_neg hq]
      by_cases hs : (f i.toNatClampNeg).toInt = (g i.toNatClampNeg).toInt
      · rw [if_pos hs, if_pos (show (bl i.toNatClampNeg).toInt = (bh i.toNatClampNeg).toInt by omega)]
        exact ih (i + 1) (by omega) (by omega) (by omega)
      · rw [if_neg hs, if_neg (show ¬ (bl i.toNatClampNeg).toInt = (bh i.toNatClampNeg).toInt by omega)]
        try unfold lkH
        try rfl
theorem lk8_mz9 {a b c ma mb mc : Nat → Int32} {fo wo bl bh : Nat → Int64} {h : Nat → Int32} {l m : Nat → Int64} {n : Nat → Int32} {sk : Nat → Int64} {cn rc mw mh mz : Int32} (vh : Nat → Int32) (vl vm : Nat → Int64) (vn : Nat → Int32) (hc : rc.toInt ≤ 12) (hj : ∀ i : Int32, 0 ≤ i.toInt → i.toInt < rc.toInt → V3 (kX8_judgeOf ma mb mc vh vl vm vn i)) : ∀ (fuel : Nat) (ev al i : Int32), ((ev = 0 ∧ al = 2) ∨ (ev = 1 ∧ al = 1)) → 0 ≤ i.toInt → i.toInt ≤ rc.toInt → rc.toInt - i.toInt < fuel → kX8_look_l8_mz9 fuel a b c ma mb mc fo wo bl bh h l m n sk cn rc mw mh mz ev i vh vl vm vn = (fun V : Int32 => if V.toInt = 0 then mz else if V.toInt = 1 then mz else kX8_look_l59_mz9 6 a b c ma mb mc fo wo bl bh h l m n sk cn rc mw mh mz 0 vh vl vm vn) (vall (fun i => kX8_judgeOf ma mb mc vh vl vm vn i) rc fuel al i) := by
  have z0 : (0 : Int32).toInt = 0 := by decide
  have z1 : (1 : Int32).toInt = 1 := by decide
  have z2 : (2 : Int32).toInt = 2 := by decide
  intro fuel
  induction fuel with
  | zero => intro ev al i _ _ _ q; exact absurd q (by omega)
  | succ fuel ih =>
    intro ev al i he h0 h1 hf
    rw [kX8_look_l8_mz9_S]
    unfold vall
    by_cases hq : rc.toInt ≤ i.toInt
    · rw [if_pos hq, if_pos hq]
      rcases he with ⟨e1, e2⟩ | ⟨e1, e2⟩ <;> subst e1 <;> subst e2
      · show (if (0 : Int32).toInt = 0 then _ else _) = (if (2 : Int32).toInt = 0 then _ else (if (2 : Int32).toInt = 1 then _ else _))
        rw [if_pos z0, if_neg (show ¬ (2 : Int32).toInt = 0 by decide), if_neg (show ¬ (2 : Int32).toInt = 1 by decide)]
      · show (if (1 : Int32).toInt = 0 then _ else _) = (if (1 : Int32).toInt = 0 then _ else (if (1 : Int32).toInt = 1 then _ else _))
        rw [if_neg (show ¬ (1 : Int32).toInt = 0 by decide), if_neg (show ¬ (1 : Int32).toInt = 0 by decide), if_pos z1]
    · have e1 : (i + 1).toInt = i.toInt + 1 := sp_inc (by omega)
      rw [if_neg hq, if_neg hq]
      rcases (hj i h0 (by omega)).i with ⟨_, j0⟩ | ⟨_, j0⟩ | ⟨_, j0⟩
      · rw [if_pos j0, if_pos j0]
        show _ = (if (0 : Int32).toInt = 0 then _ else _)
        rw [if_pos z0]
      · have j1 : ¬ (kX8_judgeOf ma mb mc vh vl vm vn i).toInt = 0 := by omega
        have j2 : ¬ (kX8_judgeOf ma mb mc vh vl vm vn i).toInt = 2 := by omega
        rw [if_neg j1, if_neg j1, if_neg j2]
        refine ih _ al (i + 1) ?_ (by omega) (by omega) (by omega)
        unfold kX8_look_l8_41_z20 kX8_look_l8_41_z17
        rw [if_pos j0]
        rcases he with ⟨e1, e2⟩ | ⟨e1, e2⟩ <;> subst e1 <;> subst e2
        · exact Or.inl ⟨rfl, rfl⟩
        · exact Or.inr ⟨rfl, rfl⟩
      · have j1 : ¬ (kX8_judgeOf ma mb mc vh vl vm vn i).toInt = 0 := by omega
        have j2 : ¬ (kX8_judgeOf ma mb mc vh vl vm vn i).toInt = 1 := by omega
        rw [if_neg j1, if_neg j1, if_pos j0]
        refine ih _ 2 (i + 1) (Or.inl ⟨?_, rfl⟩) (by omega) (by omega) (by omega)
        unfold kX8_look_l8_41_z20 kX8_look_l8_41_z17
        rw [if_neg j2]
        split <;> rfl
theorem look_mz9 {a b c ma mb mc : Nat → Int32} {fo wo bl bh : Nat → Int64} {h : Nat → Int32} {l m : Nat → Int64} {n : Nat → Int32} {sk : Nat → Int64} {cn rc mw mh mz : Int32} {f g k0 k1 k2 rk ra rb : Nat → Int32} {k4 k5 : Nat → Int64} (hni : NI cn k0 k1 k2) (hrn : RN cn k0 k1 k2 a b c) (hyx : YX cn k0 k1 k2) (hru : RU cn k0 k1 k2 k4 k5) (hrr : RRL rc cn rk ra rb ma mb mc) (hri : RI rc ra rb) (hp : BX f g bl bh) : kX8_look_mz9 a b c ma mb mc fo wo bl bh h l m n sk cn rc mw mh mz = (fun (V : Int32) (i : Int32) => if V.toInt = 0 then mz else if V.toInt = 1 then mz else ((mz + 1) + 1)) (FJ a b c ma mb mc cn rc f g) (kX1_firstWide f g) := by
  have z0 : (0 : Int32).toInt = 0 := by decide
  have z1 : ¬ (1 : Int32).toInt = 0 := by decide
  have zz1 : (1 : Int32).toInt = 1 := by decide
  have hc0 := hri.1
  have hc := hri.2.1
  have hpx : PBX f g := fun v hv => (hp v hv).2.2
  have hJ : ∀ i : Int32, 0 ≤ i.toInt → i.toInt < rc.toInt → (fun i => kX8_judgeOf ma mb mc (kX8_spans_v_has a b c bl bh h l m n cn) (kX8_spans_v_least a b c bl bh h l m n cn) (kX8_spans_v_most a b c bl bh h l m n cn) (kX8_spans_v_mayNone a b c bl bh h l m n cn) i) i = jd a b c ma mb mc cn f g i := fun i i0 i1 => jd_ref h l m n hni hrn hyx hru hp hrr hri i i0 i1
  have hT : ∀ i : Int32, 0 ≤ i.toInt → i.toInt < rc.toInt → (fun i => kX8_isTrue ma mb mc (kX8_work_v_worth a b c wo bl (cn - 1)) i) i = jt a b c ma mb mc cn f i := fun i i0 i1 => jt_ref bl wo hni hrn hpx (fun v hv => (hp v hv).1) hrr i i0 i1
  have hb : ∀ v : Nat, v < 4 → bl v = (f v).toInt64 ∧ bh v = (g v).toInt64 := fun v hv => ⟨(hp v hv).1, (hp v hv).2.1⟩
  unfold kX8_look_mz9
  rw [lk8_mz9 _ _ _ _ hc (fun i i0 i1 => by rw [show kX8_judgeOf ma mb mc (kX8_spans_v_has a b c bl bh h l m n cn) (kX8_spans_v_least a b c bl bh h l m n cn) (kX8_spans_v_most a b c bl bh h l m n cn) (kX8_spans_v_mayNone a b c bl bh h l m n cn) i = jd a b c ma mb mc cn f g i from hJ i i0 i1]; exact V3.jdv hni hrn hyx hru hpx hrr hri i i0 i1) 14 1 1 0 (Or.inr ⟨rfl, rfl⟩) (by omega) (by omega) (by omega), vall_cong hc hJ 14 1 0 (by omega), lk59_mz9 _ _ _ _ hb 6 0 (by omega) (by omega) (by omega)]
  have hw : kX1_firstWide_l2 6 f g 0 = kX1_firstWide f g := rfl
  rw [hw]
  unfold FJ
  have hV := (V3.va (v := jd a b c ma mb mc cn f g) (rc := rc) 14 1 0 V3.v1).i
  generalize vall (jd a b c ma mb mc cn f g) rc 14 1 0 = V at hV ⊢
  rcases hV with ⟨v1, v2⟩ | ⟨v1, v2⟩ | ⟨v1, v2⟩ <;> subst v1
  · rw [if_neg (show ¬ (0 : Int32).toInt = 2 by decide)]
    show (if (0 : Int32).toInt = 0 then _ else _) = (if (0 : Int32).toInt = 0 then _ else _)
    rw [if_pos z0, if_pos z0]
  · rw [if_neg (show ¬ (1 : Int32).toInt = 2 by decide)]
    show (if (1 : Int32).toInt = 0 then _ else (if (1 : Int32).toInt = 1 then _ else _)) = (if (1 : Int32).toInt = 0 then _ else (if (1 : Int32).toInt = 1 then _ else _))
    rw [if_neg z1, if_pos zz1, if_neg z1, if_pos zz1]
  · show (if (2 : Int32).toInt = 0 then _ else (if (2 : Int32).toInt = 1 then _ else _)) = _
    rw [if_neg (show ¬ (2 : Int32).toInt = 0 by decide), if_neg (show ¬ (2 : Int32).toInt = 1 by decide)]
    show (if (kX1_firstWide f g).toInt = 4 then _ else _) = _
    by_cases q : (kX1_firstWide f g).toInt = 4
    · have hL := lk110_mz9 (a := a) (b := b) (c := c) (ma := ma) (mb := mb) (mc := mc) (fo := fo) (wo := wo) (bl := bl) (bh := bh) (h := h) (l := l) (m := m) (n := n) (sk := sk) (cn := cn) (mw := mw) (mh := mh) (mz := mz) (kX8_spans_v_has a b c bl bh h l m n cn) (kX8_spans_v_least a b c bl bh h l m n cn) (kX8_spans_v_most a b c bl bh h l m n cn) (kX8_spans_v_mayNone a b c bl bh h l m n cn) (kX8_work_v_worth a b c wo bl (cn - 1)) hc 14 1 0 (Or.inr rfl) (by omega) (by omega) (by omega)
      rw [if_neg z1, tall_cong hc hT 14 0 (by omega)] at hL
      rw [if_pos v2, if_pos q, if_pos q, hL]
      rcases tall01 (jt a b c ma mb mc cn f) rc 14 0 with e | e <;> rw [e]
      · show (if (0 : Int32).toInt = 0 then _ else _) = (if (0 : Int32).toInt = 0 then _ else _)
        rw [if_pos z0, if_pos z0]
      · show (if (1 : Int32).toInt = 0 then _ else _) = (if (1 : Int32).toInt = 0 then _ else (if (1 : Int32).toInt = 1 then _ else _))
        rw [if_neg z1, if_neg z1, if_pos zz1]
    · rw [if_pos v2, if_neg q, if_neg q]
      show _ = (if (2 : Int32).toInt = 0 then _ else (if (2 : Int32).toInt = 1 then _ else _))
      rw [if_neg (show ¬ (2 : Int32).toInt = 0 by decide), if_neg (show ¬ (2 : Int32).toInt = 1 by decide)]
theorem lk110_v_stack {a b c ma mb mc : Nat → Int32} {fo wo bl bh : Nat → Int64} {h : Nat → Int32} {l m : Nat → Int64} {n : Nat → Int32} {sk : Nat → Int64} {cn rc mw mh mz : Int32} (vh : Nat → Int32) (vl vm : Nat → Int64) (vn : Nat → Int32) (W : Nat → Int64) (hc : rc.toInt ≤ 12) : ∀ (fuel : Nat) (go i : Int32), (go = 0 ∨ go = 1) → 0 ≤ i.toInt → i.toInt ≤ rc.toInt → rc.toInt - i.toInt < fuel → kX8_look_l110_v_stack fuel a b c ma mb mc fo wo bl bh h l m n sk cn rc mw mh mz go i vh vl vm vn W = if go.toInt = 0 then sk else if (tall (fun i => kX8_isTrue ma mb mc W i) rc fuel i).toInt = 0 then sk else sk := by
  have z0 : (0 : Int32).toInt = 0 := by decide
  have z1 : ¬ (1 : Int32).toInt = 0 := by decide
  intro fuel
  induction fuel with
  | zero => intro go i _ _ _ q; exact absurd q (by omega)
  | succ fuel ih =>
    intro go i hg h0 h1 hf
    rw [kX8_look_l110_v_stack_S]
    unfold tall
    by_cases hq : rc.toInt ≤ i.toInt
    · rw [if_pos hq, if_pos hq, if_neg z1]
    · have e1 : (i + 1).toInt = i.toInt + 1 := sp_inc (by omega)
      rw [if_neg hq, if_neg hq]
      unfold kX8_look_l110_137_z14 kX8_look_l110_137_z11
      by_cases hg0 : go.toInt = 0
      · rw [if_pos hg0, if_pos hg0, ih 0 (i + 1) (Or.inl rfl) (by omega) (by omega) (by omega), if_pos z0]
      · rw [if_neg hg0, if_neg hg0]
        by_cases ht : (kX8_isTrue ma mb mc W i).toInt = 0
        · rw [if_pos ht, if_pos ht, ih 0 (i + 1) (Or.inl rfl) (by omega) (by omega) (by omega), if_pos z0, if_pos z0]
        · rw [if_neg ht, if_neg ht, ih 1 (i + 1) (Or.inr rfl) (by omega) (by omega) (by omega), if_neg z1]
theorem lk59_v_stack {a b c ma mb mc : Nat → Int32} {fo wo bl bh : Nat → Int64} {h : Nat → Int32} {l m : Nat → Int64} {n : Nat → Int32} {sk : Nat → Int64} {cn rc mw mh mz : Int32} (vh : Nat → Int32) (vl vm : Nat → Int64) (vn : Nat → Int32) {f g : Nat → Int32} (hb : ∀ v : Nat, v < 4 → bl v = (f v).toInt64 ∧ bh v = (g v).toInt64) : ∀ (fuel : Nat) (i : Int32), 0 ≤ i.toInt → i.toInt ≤ 4 → 4 - i.toInt < fuel → kX8_look_l59_v_stack fuel a b c ma mb mc fo wo bl bh h l m n sk cn rc mw mh mz i vh vl vm vn = (fun i => if i.toInt = 4 then kX8_look_l110_v_stack 14 a b c ma mb mc fo wo bl bh h l m n sk cn rc mw mh mz 1 0 vh vl vm vn (kX8_work_v_worth a b c wo bl (cn - 1)) else (lkH bl bh sk mz i)) (kX1_firstWide_l2 fuel f g i) := by
  intro fuel
  induction fuel with
  | zero => intro i _ _ q; exact absurd q (by omega)
  | succ fuel ih =>
    intro i h0 h1 hf
    rw [kX8_look_l59_v_stack_S, kX1_firstWide_l2_S]
    by_cases hq : 4 ≤ i.toInt
    · rw [if_pos hq, if_pos hq]
      try unfold lkH
      try rfl
    · have e := px_cl h0
      have e1 : (i + 1).toInt = i.toInt + 1 := sp_inc (by omega)
      obtain ⟨b1, b2⟩ := hb i.toNatClampNeg (by omega)
      have c1 : (bl i.toNatClampNeg).toInt = (f i.toNatClampNeg).toInt := by rw [b1, Int32.toInt_toInt64]
      have c2 : (bh i.toNatClampNeg).toInt = (g i.toNatClampNeg).toInt := by rw [b2, Int32.toInt_toInt64]
      rw [if_neg hq, if_neg hq]
      by_cases hs : (f i.toNatClampNeg).toInt = (g i.toNatClampNeg).toInt
      · rw [if_pos hs, if_pos (show (bl i.toNatClampNeg).toInt = (bh i.toNatClampNeg).toInt by omega)]
        exact ih (i + 1) (by omega) (by omega) (by omega)
      · rw [if_neg hs, if_neg (show ¬ (bl i.toNatClampNeg).toInt = (bh i.toNatClampNeg).toInt by omega)]
        try unfold lkH
        try rfl
theorem lk8_v_stack {a b c ma mb mc : Nat → Int32} {fo wo bl bh : Nat → Int64} {h : Nat → Int32} {l m : Nat → Int64} {n : Nat → Int32} {sk : Nat → Int64} {cn rc mw mh mz : Int32} (vh : Nat → Int32) (vl vm : Nat → Int64) (vn : Nat → Int32) (hc : rc.toInt ≤ 12) (hj : ∀ i : Int32, 0 ≤ i.toInt → i.toInt < rc.toInt → V3 (kX8_judgeOf ma mb mc vh vl vm vn i)) : ∀ (fuel : Nat) (ev al i : Int32), ((ev = 0 ∧ al = 2) ∨ (ev = 1 ∧ al = 1)) → 0 ≤ i.toInt → i.toInt ≤ rc.toInt → rc.toInt - i.toInt < fuel → kX8_look_l8_v_stack fuel a b c ma mb mc fo wo bl bh h l m n sk cn rc mw mh mz ev i vh vl vm vn = (fun V : Int32 => if V.toInt = 0 then sk else if V.toInt = 1 then sk else kX8_look_l59_v_stack 6 a b c ma mb mc fo wo bl bh h l m n sk cn rc mw mh mz 0 vh vl vm vn) (vall (fun i => kX8_judgeOf ma mb mc vh vl vm vn i) rc fuel al i) := by
  have z0 : (0 : Int32).toInt = 0 := by decide
  have z1 : (1 : Int32).toInt = 1 := by decide
  have z2 : (2 : Int32).toInt = 2 := by decide
  intro fuel
  induction fuel with
  | zero => intro ev al i _ _ _ q; exact absurd q (by omega)
  | succ fuel ih =>
    intro ev al i he h0 h1 hf
    rw [kX8_look_l8_v_stack_S]
    unfold vall
    by_cases hq : rc.toInt ≤ i.toInt
    · rw [if_pos hq, if_pos hq]
      rcases he with ⟨e1, e2⟩ | ⟨e1, e2⟩ <;> subst e1 <;> subst e2
      · show (if (0 : Int32).toInt = 0 then _ else _) = (if (2 : Int32).toInt = 0 then _ else (if (2 : Int32).toInt = 1 then _ else _))
        rw [if_pos z0, if_neg (show ¬ (2 : Int32).toInt = 0 by decide), if_neg (show ¬ (2 : Int32).toInt = 1 by decide)]
      · show (if (1 : Int32).toInt = 0 then _ else _) = (if (1 : Int32).toInt = 0 then _ else (if (1 : Int32).toInt = 1 then _ else _))
        rw [if_neg (show ¬ (1 : Int32).toInt = 0 by decide), if_neg (show ¬ (1 : Int32).toInt = 0 by decide), if_pos z1]
    · have e1 : (i + 1).toInt = i.toInt + 1 := sp_inc (by omega)
      rw [if_neg hq, if_neg hq]
      rcases (hj i h0 (by omega)).i with ⟨_, j0⟩ | ⟨_, j0⟩ | ⟨_, j0⟩
      · rw [if_pos j0, if_pos j0]
        show _ = (if (0 : Int32).toInt = 0 then _ else _)
        rw [if_pos z0]
      · have j1 : ¬ (kX8_judgeOf ma mb mc vh vl vm vn i).toInt = 0 := by omega
        have j2 : ¬ (kX8_judgeOf ma mb mc vh vl vm vn i).toInt = 2 := by omega
        rw [if_neg j1, if_neg j1, if_neg j2]
        refine ih _ al (i + 1) ?_ (by omega) (by omega) (by omega)
        unfold kX8_look_l8_41_z20 kX8_look_l8_41_z17
        rw [if_pos j0]
        rcases he with ⟨e1, e2⟩ | ⟨e1, e2⟩ <;> subst e1 <;> subst e2
        · exact Or.inl ⟨rfl, rfl⟩
        · exact Or.inr ⟨rfl, rfl⟩
      · have j1 : ¬ (kX8_judgeOf ma mb mc vh vl vm vn i).toInt = 0 := by omega
        have j2 : ¬ (kX8_judgeOf ma mb mc vh vl vm vn i).toInt = 1 := by omega
        rw [if_neg j1, if_neg j1, if_pos j0]
        refine ih _ 2 (i + 1) (Or.inl ⟨?_, rfl⟩) (by omega) (by omega) (by omega)
        unfold kX8_look_l8_41_z20 kX8_look_l8_41_z17
        rw [if_neg j2]
        split <;> rfl
theorem look_v_stack {a b c ma mb mc : Nat → Int32} {fo wo bl bh : Nat → Int64} {h : Nat → Int32} {l m : Nat → Int64} {n : Nat → Int32} {sk : Nat → Int64} {cn rc mw mh mz : Int32} {f g k0 k1 k2 rk ra rb : Nat → Int32} {k4 k5 : Nat → Int64} (hni : NI cn k0 k1 k2) (hrn : RN cn k0 k1 k2 a b c) (hyx : YX cn k0 k1 k2) (hru : RU cn k0 k1 k2 k4 k5) (hrr : RRL rc cn rk ra rb ma mb mc) (hri : RI rc ra rb) (hp : BX f g bl bh) : kX8_look_v_stack a b c ma mb mc fo wo bl bh h l m n sk cn rc mw mh mz = (fun (V : Int32) (i : Int32) => if V.toInt = 0 then sk else if V.toInt = 1 then sk else (lkH bl bh sk mz i)) (FJ a b c ma mb mc cn rc f g) (kX1_firstWide f g) := by
  have z0 : (0 : Int32).toInt = 0 := by decide
  have z1 : ¬ (1 : Int32).toInt = 0 := by decide
  have zz1 : (1 : Int32).toInt = 1 := by decide
  have hc0 := hri.1
  have hc := hri.2.1
  have hpx : PBX f g := fun v hv => (hp v hv).2.2
  have hJ : ∀ i : Int32, 0 ≤ i.toInt → i.toInt < rc.toInt → (fun i => kX8_judgeOf ma mb mc (kX8_spans_v_has a b c bl bh h l m n cn) (kX8_spans_v_least a b c bl bh h l m n cn) (kX8_spans_v_most a b c bl bh h l m n cn) (kX8_spans_v_mayNone a b c bl bh h l m n cn) i) i = jd a b c ma mb mc cn f g i := fun i i0 i1 => jd_ref h l m n hni hrn hyx hru hp hrr hri i i0 i1
  have hT : ∀ i : Int32, 0 ≤ i.toInt → i.toInt < rc.toInt → (fun i => kX8_isTrue ma mb mc (kX8_work_v_worth a b c wo bl (cn - 1)) i) i = jt a b c ma mb mc cn f i := fun i i0 i1 => jt_ref bl wo hni hrn hpx (fun v hv => (hp v hv).1) hrr i i0 i1
  have hb : ∀ v : Nat, v < 4 → bl v = (f v).toInt64 ∧ bh v = (g v).toInt64 := fun v hv => ⟨(hp v hv).1, (hp v hv).2.1⟩
  unfold kX8_look_v_stack
  rw [lk8_v_stack _ _ _ _ hc (fun i i0 i1 => by rw [show kX8_judgeOf ma mb mc (kX8_spans_v_has a b c bl bh h l m n cn) (kX8_spans_v_least a b c bl bh h l m n cn) (kX8_spans_v_most a b c bl bh h l m n cn) (kX8_spans_v_mayNone a b c bl bh h l m n cn) i = jd a b c ma mb mc cn f g i from hJ i i0 i1]; exact V3.jdv hni hrn hyx hru hpx hrr hri i i0 i1) 14 1 1 0 (Or.inr ⟨rfl, rfl⟩) (by omega) (by omega) (by omega), vall_cong hc hJ 14 1 0 (by omega), lk59_v_stack _ _ _ _ hb 6 0 (by omega) (by omega) (by omega)]
  have hw : kX1_firstWide_l2 6 f g 0 = kX1_firstWide f g := rfl
  rw [hw]
  unfold FJ
  have hV := (V3.va (v := jd a b c ma mb mc cn f g) (rc := rc) 14 1 0 V3.v1).i
  generalize vall (jd a b c ma mb mc cn f g) rc 14 1 0 = V at hV ⊢
  rcases hV with ⟨v1, v2⟩ | ⟨v1, v2⟩ | ⟨v1, v2⟩ <;> subst v1
  · rw [if_neg (show ¬ (0 : Int32).toInt = 2 by decide)]
    show (if (0 : Int32).toInt = 0 then _ else _) = (if (0 : Int32).toInt = 0 then _ else _)
    rw [if_pos z0, if_pos z0]
  · rw [if_neg (show ¬ (1 : Int32).toInt = 2 by decide)]
    show (if (1 : Int32).toInt = 0 then _ else (if (1 : Int32).toInt = 1 then _ else _)) = (if (1 : Int32).toInt = 0 then _ else (if (1 : Int32).toInt = 1 then _ else _))
    rw [if_neg z1, if_pos zz1, if_neg z1, if_pos zz1]
  · show (if (2 : Int32).toInt = 0 then _ else (if (2 : Int32).toInt = 1 then _ else _)) = _
    rw [if_neg (show ¬ (2 : Int32).toInt = 0 by decide), if_neg (show ¬ (2 : Int32).toInt = 1 by decide)]
    show (if (kX1_firstWide f g).toInt = 4 then _ else _) = _
    by_cases q : (kX1_firstWide f g).toInt = 4
    · have hL := lk110_v_stack (a := a) (b := b) (c := c) (ma := ma) (mb := mb) (mc := mc) (fo := fo) (wo := wo) (bl := bl) (bh := bh) (h := h) (l := l) (m := m) (n := n) (sk := sk) (cn := cn) (mw := mw) (mh := mh) (mz := mz) (kX8_spans_v_has a b c bl bh h l m n cn) (kX8_spans_v_least a b c bl bh h l m n cn) (kX8_spans_v_most a b c bl bh h l m n cn) (kX8_spans_v_mayNone a b c bl bh h l m n cn) (kX8_work_v_worth a b c wo bl (cn - 1)) hc 14 1 0 (Or.inr rfl) (by omega) (by omega) (by omega)
      rw [if_neg z1, tall_cong hc hT 14 0 (by omega)] at hL
      rw [if_pos v2, if_pos q, if_pos q, hL]
      rcases tall01 (jt a b c ma mb mc cn f) rc 14 0 with e | e <;> rw [e]
      · show (if (0 : Int32).toInt = 0 then _ else _) = (if (0 : Int32).toInt = 0 then _ else _)
        rw [if_pos z0, if_pos z0]
      · show (if (1 : Int32).toInt = 0 then _ else _) = (if (1 : Int32).toInt = 0 then _ else (if (1 : Int32).toInt = 1 then _ else _))
        rw [if_neg z1, if_neg z1, if_pos zz1]
    · rw [if_pos v2, if_neg q, if_neg q]
      show _ = (if (2 : Int32).toInt = 0 then _ else (if (2 : Int32).toInt = 1 then _ else _))
      rw [if_neg (show ¬ (2 : Int32).toInt = 0 by decide), if_neg (show ¬ (2 : Int32).toInt = 1 by decide)]
theorem lk110_v_found {a b c ma mb mc : Nat → Int32} {fo wo bl bh : Nat → Int64} {h : Nat → Int32} {l m : Nat → Int64} {n : Nat → Int32} {sk : Nat → Int64} {cn rc mw mh mz : Int32} (vh : Nat → Int32) (vl vm : Nat → Int64) (vn : Nat → Int32) (W : Nat → Int64) (hc : rc.toInt ≤ 12) : ∀ (fuel : Nat) (go i : Int32), (go = 0 ∨ go = 1) → 0 ≤ i.toInt → i.toInt ≤ rc.toInt → rc.toInt - i.toInt < fuel → kX8_look_l110_v_found fuel a b c ma mb mc fo wo bl bh h l m n sk cn rc mw mh mz go i vh vl vm vn W = if go.toInt = 0 then fo else if (tall (fun i => kX8_isTrue ma mb mc W i) rc fuel i).toInt = 0 then fo else (kX8_solves_v_found fo bl) := by
  have z0 : (0 : Int32).toInt = 0 := by decide
  have z1 : ¬ (1 : Int32).toInt = 0 := by decide
  intro fuel
  induction fuel with
  | zero => intro go i _ _ _ q; exact absurd q (by omega)
  | succ fuel ih =>
    intro go i hg h0 h1 hf
    rw [kX8_look_l110_v_found_S]
    unfold tall
    by_cases hq : rc.toInt ≤ i.toInt
    · rw [if_pos hq, if_pos hq, if_neg z1]
    · have e1 : (i + 1).toInt = i.toInt + 1 := sp_inc (by omega)
      rw [if_neg hq, if_neg hq]
      unfold kX8_look_l110_137_z14 kX8_look_l110_137_z11
      by_cases hg0 : go.toInt = 0
      · rw [if_pos hg0, if_pos hg0, ih 0 (i + 1) (Or.inl rfl) (by omega) (by omega) (by omega), if_pos z0]
      · rw [if_neg hg0, if_neg hg0]
        by_cases ht : (kX8_isTrue ma mb mc W i).toInt = 0
        · rw [if_pos ht, if_pos ht, ih 0 (i + 1) (Or.inl rfl) (by omega) (by omega) (by omega), if_pos z0, if_pos z0]
        · rw [if_neg ht, if_neg ht, ih 1 (i + 1) (Or.inr rfl) (by omega) (by omega) (by omega), if_neg z1]
theorem lk59_v_found {a b c ma mb mc : Nat → Int32} {fo wo bl bh : Nat → Int64} {h : Nat → Int32} {l m : Nat → Int64} {n : Nat → Int32} {sk : Nat → Int64} {cn rc mw mh mz : Int32} (vh : Nat → Int32) (vl vm : Nat → Int64) (vn : Nat → Int32) {f g : Nat → Int32} (hb : ∀ v : Nat, v < 4 → bl v = (f v).toInt64 ∧ bh v = (g v).toInt64) : ∀ (fuel : Nat) (i : Int32), 0 ≤ i.toInt → i.toInt ≤ 4 → 4 - i.toInt < fuel → kX8_look_l59_v_found fuel a b c ma mb mc fo wo bl bh h l m n sk cn rc mw mh mz i vh vl vm vn = (fun i => if i.toInt = 4 then kX8_look_l110_v_found 14 a b c ma mb mc fo wo bl bh h l m n sk cn rc mw mh mz 1 0 vh vl vm vn (kX8_work_v_worth a b c wo bl (cn - 1)) else fo) (kX1_firstWide_l2 fuel f g i) := by
  intro fuel
  induction fuel with
  | zero => intro i _ _ q; exact absurd q (by omega)
  | succ fuel ih =>
    intro i h0 h1 hf
    rw [kX8_look_l59_v_found_S, kX1_firstWide_l2_S]
    by_cases hq : 4 ≤ i.toInt
    · rw [if_pos hq, if_pos hq]
      try unfold lkH
      try rfl
    · have e := px_cl h0
      have e1 : (i + 1).toInt = i.toInt + 1 := sp_inc (by omega)
      obtain ⟨b1, b2⟩ := hb i.toNatClampNeg (by omega)
      have c1 : (bl i.toNatClampNeg).toInt = (f i.toNatClampNeg).toInt := by rw [b1, Int32.toInt_toInt64]
      have c2 : (bh i.toNatClampNeg).toInt = (g i.toNatClampNeg).toInt := by rw [b2, Int32.toInt_toInt64]
      rw [if_neg hq, if_neg hq]
      by_cases hs : (f i.toNatClampNeg).toInt = (g i.toNatClampNeg).toInt
      · rw [if_pos hs, if_pos (show (bl i.toNatClampNeg).toInt = (bh i.toNatClampNeg).toInt by omega)]
        exact ih (i + 1) (by omega) (by omega) (by omega)
      · rw [if_neg hs, if_neg (show ¬ (bl i.toNatClampNeg).toInt = (bh i.toNatClampNeg).toInt by omega)]
        try unfold lkH
        try rfl
theorem lk8_v_found {a b c ma mb mc : Nat → Int32} {fo wo bl bh : Nat → Int64} {h : Nat → Int32} {l m : Nat → Int64} {n : Nat → Int32} {sk : Nat → Int64} {cn rc mw mh mz : Int32} (vh : Nat → Int32) (vl vm : Nat → Int64) (vn : Nat → Int32) (hc : rc.toInt ≤ 12) (hj : ∀ i : Int32, 0 ≤ i.toInt → i.toInt < rc.toInt → V3 (kX8_judgeOf ma mb mc vh vl vm vn i)) : ∀ (fuel : Nat) (ev al i : Int32), ((ev = 0 ∧ al = 2) ∨ (ev = 1 ∧ al = 1)) → 0 ≤ i.toInt → i.toInt ≤ rc.toInt → rc.toInt - i.toInt < fuel → kX8_look_l8_v_found fuel a b c ma mb mc fo wo bl bh h l m n sk cn rc mw mh mz ev i vh vl vm vn = (fun V : Int32 => if V.toInt = 0 then fo else if V.toInt = 1 then (kX8_solves_v_found fo bl) else kX8_look_l59_v_found 6 a b c ma mb mc fo wo bl bh h l m n sk cn rc mw mh mz 0 vh vl vm vn) (vall (fun i => kX8_judgeOf ma mb mc vh vl vm vn i) rc fuel al i) := by
  have z0 : (0 : Int32).toInt = 0 := by decide
  have z1 : (1 : Int32).toInt = 1 := by decide
  have z2 : (2 : Int32).toInt = 2 := by decide
  intro fuel
  induction fuel with
  | zero => intro ev al i _ _ _ q; exact absurd q (by omega)
  | succ fuel ih =>
    intro ev al i he h0 h1 hf
    rw [kX8_look_l8_v_found_S]
    unfold vall
    by_cases hq : rc.toInt ≤ i.toInt
    · rw [if_pos hq, if_pos hq]
      rcases he with ⟨e1, e2⟩ | ⟨e1, e2⟩ <;> subst e1 <;> subst e2
      · show (if (0 : Int32).toInt = 0 then _ else _) = (if (2 : Int32).toInt = 0 then _ else (if (2 : Int32).toInt = 1 then _ else _))
        rw [if_pos z0, if_neg (show ¬ (2 : Int32).toInt = 0 by decide), if_neg (show ¬ (2 : Int32).toInt = 1 by decide)]
      · show (if (1 : Int32).toInt = 0 then _ else _) = (if (1 : Int32).toInt = 0 then _ else (if (1 : Int32).toInt = 1 then _ else _))
        rw [if_neg (show ¬ (1 : Int32).toInt = 0 by decide), if_neg (show ¬ (1 : Int32).toInt = 0 by decide), if_pos z1]
    · have e1 : (i + 1).toInt = i.toInt + 1 := sp_inc (by omega)
      rw [if_neg hq, if_neg hq]
      rcases (hj i h0 (by omega)).i with ⟨_, j0⟩ | ⟨_, j0⟩ | ⟨_, j0⟩
      · rw [if_pos j0, if_pos j0]
        show _ = (if (0 : Int32).toInt = 0 then _ else _)
        rw [if_pos z0]
      · have j1 : ¬ (kX8_judgeOf ma mb mc vh vl vm vn i).toInt = 0 := by omega
        have j2 : ¬ (kX8_judgeOf ma mb mc vh vl vm vn i).toInt = 2 := by omega
        rw [if_neg j1, if_neg j1, if_neg j2]
        refine ih _ al (i + 1) ?_ (by omega) (by omega) (by omega)
        unfold kX8_look_l8_41_z20 kX8_look_l8_41_z17
        rw [if_pos j0]
        rcases he with ⟨e1, e2⟩ | ⟨e1, e2⟩ <;> subst e1 <;> subst e2
        · exact Or.inl ⟨rfl, rfl⟩
        · exact Or.inr ⟨rfl, rfl⟩
      · have j1 : ¬ (kX8_judgeOf ma mb mc vh vl vm vn i).toInt = 0 := by omega
        have j2 : ¬ (kX8_judgeOf ma mb mc vh vl vm vn i).toInt = 1 := by omega
        rw [if_neg j1, if_neg j1, if_pos j0]
        refine ih _ 2 (i + 1) (Or.inl ⟨?_, rfl⟩) (by omega) (by omega) (by omega)
        unfold kX8_look_l8_41_z20 kX8_look_l8_41_z17
        rw [if_neg j2]
        split <;> rfl
theorem look_v_found {a b c ma mb mc : Nat → Int32} {fo wo bl bh : Nat → Int64} {h : Nat → Int32} {l m : Nat → Int64} {n : Nat → Int32} {sk : Nat → Int64} {cn rc mw mh mz : Int32} {f g k0 k1 k2 rk ra rb : Nat → Int32} {k4 k5 : Nat → Int64} (hni : NI cn k0 k1 k2) (hrn : RN cn k0 k1 k2 a b c) (hyx : YX cn k0 k1 k2) (hru : RU cn k0 k1 k2 k4 k5) (hrr : RRL rc cn rk ra rb ma mb mc) (hri : RI rc ra rb) (hp : BX f g bl bh) : kX8_look_v_found a b c ma mb mc fo wo bl bh h l m n sk cn rc mw mh mz = (fun (V : Int32) (i : Int32) => if V.toInt = 0 then fo else if V.toInt = 1 then (kX8_solves_v_found fo bl) else fo) (FJ a b c ma mb mc cn rc f g) (kX1_firstWide f g) := by
  have z0 : (0 : Int32).toInt = 0 := by decide
  have z1 : ¬ (1 : Int32).toInt = 0 := by decide
  have zz1 : (1 : Int32).toInt = 1 := by decide
  have hc0 := hri.1
  have hc := hri.2.1
  have hpx : PBX f g := fun v hv => (hp v hv).2.2
  have hJ : ∀ i : Int32, 0 ≤ i.toInt → i.toInt < rc.toInt → (fun i => kX8_judgeOf ma mb mc (kX8_spans_v_has a b c bl bh h l m n cn) (kX8_spans_v_least a b c bl bh h l m n cn) (kX8_spans_v_most a b c bl bh h l m n cn) (kX8_spans_v_mayNone a b c bl bh h l m n cn) i) i = jd a b c ma mb mc cn f g i := fun i i0 i1 => jd_ref h l m n hni hrn hyx hru hp hrr hri i i0 i1
  have hT : ∀ i : Int32, 0 ≤ i.toInt → i.toInt < rc.toInt → (fun i => kX8_isTrue ma mb mc (kX8_work_v_worth a b c wo bl (cn - 1)) i) i = jt a b c ma mb mc cn f i := fun i i0 i1 => jt_ref bl wo hni hrn hpx (fun v hv => (hp v hv).1) hrr i i0 i1
  have hb : ∀ v : Nat, v < 4 → bl v = (f v).toInt64 ∧ bh v = (g v).toInt64 := fun v hv => ⟨(hp v hv).1, (hp v hv).2.1⟩
  unfold kX8_look_v_found
  rw [lk8_v_found _ _ _ _ hc (fun i i0 i1 => by rw [show kX8_judgeOf ma mb mc (kX8_spans_v_has a b c bl bh h l m n cn) (kX8_spans_v_least a b c bl bh h l m n cn) (kX8_spans_v_most a b c bl bh h l m n cn) (kX8_spans_v_mayNone a b c bl bh h l m n cn) i = jd a b c ma mb mc cn f g i from hJ i i0 i1]; exact V3.jdv hni hrn hyx hru hpx hrr hri i i0 i1) 14 1 1 0 (Or.inr ⟨rfl, rfl⟩) (by omega) (by omega) (by omega), vall_cong hc hJ 14 1 0 (by omega), lk59_v_found _ _ _ _ hb 6 0 (by omega) (by omega) (by omega)]
  have hw : kX1_firstWide_l2 6 f g 0 = kX1_firstWide f g := rfl
  rw [hw]
  unfold FJ
  have hV := (V3.va (v := jd a b c ma mb mc cn f g) (rc := rc) 14 1 0 V3.v1).i
  generalize vall (jd a b c ma mb mc cn f g) rc 14 1 0 = V at hV ⊢
  rcases hV with ⟨v1, v2⟩ | ⟨v1, v2⟩ | ⟨v1, v2⟩ <;> subst v1
  · rw [if_neg (show ¬ (0 : Int32).toInt = 2 by decide)]
    show (if (0 : Int32).toInt = 0 then _ else _) = (if (0 : Int32).toInt = 0 then _ else _)
    rw [if_pos z0, if_pos z0]
  · rw [if_neg (show ¬ (1 : Int32).toInt = 2 by decide)]
    show (if (1 : Int32).toInt = 0 then _ else (if (1 : Int32).toInt = 1 then _ else _)) = (if (1 : Int32).toInt = 0 then _ else (if (1 : Int32).toInt = 1 then _ else _))
    rw [if_neg z1, if_pos zz1, if_neg z1, if_pos zz1]
  · show (if (2 : Int32).toInt = 0 then _ else (if (2 : Int32).toInt = 1 then _ else _)) = _
    rw [if_neg (show ¬ (2 : Int32).toInt = 0 by decide), if_neg (show ¬ (2 : Int32).toInt = 1 by decide)]
    show (if (kX1_firstWide f g).toInt = 4 then _ else _) = _
    by_cases q : (kX1_firstWide f g).toInt = 4
    · have hL := lk110_v_found (a := a) (b := b) (c := c) (ma := ma) (mb := mb) (mc := mc) (fo := fo) (wo := wo) (bl := bl) (bh := bh) (h := h) (l := l) (m := m) (n := n) (sk := sk) (cn := cn) (mw := mw) (mh := mh) (mz := mz) (kX8_spans_v_has a b c bl bh h l m n cn) (kX8_spans_v_least a b c bl bh h l m n cn) (kX8_spans_v_most a b c bl bh h l m n cn) (kX8_spans_v_mayNone a b c bl bh h l m n cn) (kX8_work_v_worth a b c wo bl (cn - 1)) hc 14 1 0 (Or.inr rfl) (by omega) (by omega) (by omega)
      rw [if_neg z1, tall_cong hc hT 14 0 (by omega)] at hL
      rw [if_pos v2, if_pos q, if_pos q, hL]
      rcases tall01 (jt a b c ma mb mc cn f) rc 14 0 with e | e <;> rw [e]
      · show (if (0 : Int32).toInt = 0 then _ else _) = (if (0 : Int32).toInt = 0 then _ else _)
        rw [if_pos z0, if_pos z0]
      · show (if (1 : Int32).toInt = 0 then _ else _) = (if (1 : Int32).toInt = 0 then _ else (if (1 : Int32).toInt = 1 then _ else _))
        rw [if_neg z1, if_neg z1, if_pos zz1]
    · rw [if_pos v2, if_neg q, if_neg q]
      show _ = (if (2 : Int32).toInt = 0 then _ else (if (2 : Int32).toInt = 1 then _ else _))
      rw [if_neg (show ¬ (2 : Int32).toInt = 0 by decide), if_neg (show ¬ (2 : Int32).toInt = 1 by decide)]
