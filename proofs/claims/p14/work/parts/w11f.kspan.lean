/-! SPANS, the class's: what a NODE's four arrays become (some, none, low, high) -/
abbrev Q4 := Int32 × Int32 × Int32 × Int32
def PUT4 (y0 y1 y2 y3 : Nat → Int32) (i : Nat) (q : Q4) (z0 z1 z2 z3 : Nat → Int32) : Prop := z0 = upd y0 i q.1 ∧ z1 = upd y1 i q.2.1 ∧ z2 = upd y2 i q.2.2.1 ∧ z3 = upd y3 i q.2.2.2
theorem kz_nar {b : Int32} (h : b = 0 ∨ b = 1) : vp_nar .boolean b = b := by
  rcases h with rfl | rfl <;> rfl
theorem kz_uu (f : Nat → Int32) (i : Nat) (a b : Int32) : upd (upd f i a) i b = upd f i b := by
  funext j
  by_cases h : j = i
  · rw [h, px_updS, px_updS]
  · rw [px_updO _ _ h, px_updO _ _ h, px_updO _ _ h]
theorem kz_isNone01 (v : Int32) : kX2_isNone v = 0 ∨ kX2_isNone v = 1 := by
  unfold kX2_isNone
  split
  · exact Or.inl rfl
  · exact Or.inr rfl
def qAll : Q4 := (1, 1, -2139095041, 2139095040)
def qVal (v : Int32) : Q4 := (if (kX2_isNone v).toInt = 0 then 1 else 0, kX2_isNone v, kX2_placeOf v, kX2_placeOf v)
theorem k6_put (e0 e1 e2 e3 : Nat → Int32) (i lo hi b : Int32) (hb : b = 0 ∨ b = 1) : PUT4 e0 e1 e2 e3 i.toNatClampNeg (1, b, lo, hi) (kX6_put_y0 e0 e1 e2 e3 i lo hi b) (kX6_put_y1 e0 e1 e2 e3 i lo hi b) (kX6_put_y2 e0 e1 e2 e3 i lo hi b) (kX6_put_y3 e0 e1 e2 e3 i lo hi b) := by
  refine ⟨?_, ?_, rfl, rfl⟩
  · show upd e0 i.toNatClampNeg (vp_nar .boolean 1) = upd e0 i.toNatClampNeg 1
    rw [kz_nar (Or.inr rfl)]
  · show upd e1 i.toNatClampNeg (vp_nar .boolean b) = upd e1 i.toNatClampNeg b
    rw [kz_nar hb]
theorem k6_all (e0 e1 e2 e3 : Nat → Int32) (i : Int32) : PUT4 e0 e1 e2 e3 i.toNatClampNeg qAll (kX6_putAll_y0 e0 e1 e2 e3 i) (kX6_putAll_y1 e0 e1 e2 e3 i) (kX6_putAll_y2 e0 e1 e2 e3 i) (kX6_putAll_y3 e0 e1 e2 e3 i) := k6_put e0 e1 e2 e3 i (-2139095041) 2139095040 1 (Or.inr rfl)
theorem k6_val (e0 e1 e2 e3 : Nat → Int32) (i v : Int32) : PUT4 e0 e1 e2 e3 i.toNatClampNeg (qVal v) (kX6_putValue_y0 e0 e1 e2 e3 i v) (kX6_putValue_y1 e0 e1 e2 e3 i v) (kX6_putValue_y2 e0 e1 e2 e3 i v) (kX6_putValue_y3 e0 e1 e2 e3 i v) := by
  have h01 := kz_isNone01 v
  obtain ⟨p0, p1, p2, p3⟩ := k6_put e0 e1 e2 e3 i (kX2_placeOf v) (kX2_placeOf v) (kX2_isNone v) h01
  refine ⟨?_, p1, p2, p3⟩
  unfold kX6_putValue_y0 kX6_putValue_36_z20
  rw [p1, p0, kz_uu]
  show upd e0 i.toNatClampNeg (vp_nar .boolean (if (upd e1 i.toNatClampNeg (kX2_isNone v) i.toNatClampNeg).toInt = 0 then 1 else 0)) = upd e0 i.toNatClampNeg (if (kX2_isNone v).toInt = 0 then 1 else 0)
  rw [px_updS, kz_nar (by split <;> first | exact Or.inl rfl | exact Or.inr rfl)]
def qEnd (k nx lx hx : Int32) : Q4 :=
  let one := kX2_placeOf (kX0_ofOne k (kX2_bitsAt lx))
  let other := kX2_placeOf (kX0_ofOne k (kX2_bitsAt hx))
  let least := if k.toInt = 7 then (if -1 < lx.toInt then kmin one other else (if hx.toInt < 0 then kmin one other else 0)) else kmin one other
  if k.toInt = 15 ∧ lx.toInt < -1 then qAll else
  (1, (if nx.toInt = 0 then 0 else (if k.toInt = 13 then 0 else 1)), (if k.toInt = 13 then (if nx.toInt = 0 then least else kmin least 0) else least), (if k.toInt = 13 then (if nx.toInt = 0 then kmax one other else kmax (kmax one other) 0) else kmax one other))
theorem k6_ends (e0 e1 e2 e3 : Nat → Int32) (i k x : Int32) : PUT4 e0 e1 e2 e3 i.toNatClampNeg (qEnd k (e1 x.toNatClampNeg) (e2 x.toNatClampNeg) (e3 x.toNatClampNeg)) (kX6_fillFromEnds_y0 e0 e1 e2 e3 i k x) (kX6_fillFromEnds_y1 e0 e1 e2 e3 i k x) (kX6_fillFromEnds_y2 e0 e1 e2 e3 i k x) (kX6_fillFromEnds_y3 e0 e1 e2 e3 i k x) := by
  have hz : kX6_fillFromEnds_161_z55 e0 e1 e2 e3 i k x = 0 ∨ kX6_fillFromEnds_161_z55 e0 e1 e2 e3 i k x = 1 := by
    unfold kX6_fillFromEnds_161_z55 kX6_fillFromEnds_161_z52
    (repeat' split) <;> first | exact Or.inl rfl | exact Or.inr rfl
  have hp := k6_put e0 e1 e2 e3 i (kX6_fillFromEnds_135_z45 e0 e1 e2 e3 i k x) (kX6_fillFromEnds_135_z44 e0 e1 e2 e3 i k x) (kX6_fillFromEnds_161_z55 e0 e1 e2 e3 i k x) hz
  have ha := k6_all e0 e1 e2 e3 i
  unfold kX6_fillFromEnds_y0 kX6_fillFromEnds_y1 kX6_fillFromEnds_y2 kX6_fillFromEnds_y3
  by_cases h15 : k.toInt = 15
  · by_cases hl : -1 ≤ (e2 x.toNatClampNeg).toInt
    · have hq : ¬ (k.toInt = 15 ∧ (e2 x.toNatClampNeg).toInt < -1) := by omega
      simp only [if_pos h15, if_pos hl]
      unfold qEnd
      rw [if_neg hq]
      exact hp
    · have hq : k.toInt = 15 ∧ (e2 x.toNatClampNeg).toInt < -1 := by omega
      simp only [if_pos h15, if_neg hl]
      unfold qEnd
      rw [if_pos hq]
      exact ha
  · have hq : ¬ (k.toInt = 15 ∧ (e2 x.toNatClampNeg).toInt < -1) := by omega
    simp only [if_neg h15]
    unfold qEnd
    rw [if_neg hq]
    exact hp
def qNN (nx ny : Int32) : Int32 := if nx.toInt = 0 then (if ny.toInt = 0 then 0 else 1) else 1
theorem qNN01 (nx ny : Int32) : qNN nx ny = 0 ∨ qNN nx ny = 1 := by
  unfold qNN
  (repeat' split) <;> first | exact Or.inl rfl | exact Or.inr rfl
def qPair (z nx lx hx ny ly hy : Int32) : Q4 := (1, qNN nx ny, (if z.toInt = 0 then kmax lx ly else kmin lx ly), (if z.toInt = 0 then kmax hx hy else kmin hx hy))
theorem k6_pairs (e0 e1 e2 e3 : Nat → Int32) (i z x y : Int32) : PUT4 e0 e1 e2 e3 i.toNatClampNeg (qPair z (e1 x.toNatClampNeg) (e2 x.toNatClampNeg) (e3 x.toNatClampNeg) (e1 y.toNatClampNeg) (e2 y.toNatClampNeg) (e3 y.toNatClampNeg)) (kX6_fillFromPairs_y0 e0 e1 e2 e3 i z x y) (kX6_fillFromPairs_y1 e0 e1 e2 e3 i z x y) (kX6_fillFromPairs_y2 e0 e1 e2 e3 i z x y) (kX6_fillFromPairs_y3 e0 e1 e2 e3 i z x y) := k6_put e0 e1 e2 e3 i _ _ _ (qNN01 (e1 x.toNatClampNeg) (e1 y.toNatClampNeg))
def qRem (nx lx hx ny ly hy : Int32) : Q4 := if lx.toInt = hx.toInt ∧ ly.toInt = hy.toInt ∧ nx.toInt = 0 ∧ ny.toInt = 0 then qVal (kX0_ofTwo 14 (kX2_bitsAt lx) (kX2_bitsAt ly)) else qAll
theorem k6_point (e2 e3 : Nat → Int32) (i : Int32) : ((kX6_isPoint e2 e3 i).toInt = 1 ∧ (e2 i.toNatClampNeg).toInt = (e3 i.toNatClampNeg).toInt) ∨ ((kX6_isPoint e2 e3 i).toInt = 0 ∧ ¬ (e2 i.toNatClampNeg).toInt = (e3 i.toNatClampNeg).toInt) := by
  unfold kX6_isPoint
  split
  · exact Or.inl ⟨by decide, by assumption⟩
  · exact Or.inr ⟨by decide, by assumption⟩
/-- a corner: what it comes to with what the ones ahead came to; none: it is NONE -/
def qC (skip : Prop) [Decidable skip] (w : Int32) (a : Option (Int32 × Int32)) : Option (Int32 × Int32) := match a with
  | none => none
  | some (le, gr) => if skip then some (le, gr) else if (kX2_isNone w).toInt = 0 then some (kmin le (kX2_placeOf w), kmax gr (kX2_placeOf w)) else none
def qTooLittle (k lx hx ly hy : Int32) : Prop := (k.toInt = 4 ∧ (((lx.toInt ≤ 0 ∧ -1 ≤ hx.toInt) ∧ (ly.toInt = -2139095041 ∨ hy.toInt = 2139095040)) ∨ ((ly.toInt ≤ 0 ∧ -1 ≤ hy.toInt) ∧ (lx.toInt = -2139095041 ∨ hx.toInt = 2139095040)))) ∨ (k.toInt = 5 ∧ ((ly.toInt ≤ 0 ∧ -1 ≤ hy.toInt) ∨ ((lx.toInt = -2139095041 ∨ hx.toInt = 2139095040) ∧ (ly.toInt = -2139095041 ∨ hy.toInt = 2139095040))))
