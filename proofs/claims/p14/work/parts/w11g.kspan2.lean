theorem k6_cs0 (fuel : Nat) (e0 e1 e2 e3 : Nat → Int32) (i k x y le gr : Int32) (co : Int32) (h4 : co.toInt < 4) : kX6_fillFromCorners_l28_y0 (fuel + 1) e0 e1 e2 e3 i k x y le gr co = if ((¬ (co &&& 1).toInt = 0 ∧ (e2 x.toNatClampNeg).toInt = (e3 x.toNatClampNeg).toInt) ∨ (¬ (co &&& 2).toInt = 0 ∧ (e2 y.toNatClampNeg).toInt = (e3 y.toNatClampNeg).toInt)) then kX6_fillFromCorners_l28_y0 fuel e0 e1 e2 e3 i k x y le gr (co + 1) else if (kX2_isNone (kX6_fillFromCorners_l28_s152 e0 e1 e2 e3 i k x y le gr co)).toInt = 0 then kX6_fillFromCorners_l28_y0 fuel e0 e1 e2 e3 i k x y (kmin le (kX2_placeOf (kX6_fillFromCorners_l28_s152 e0 e1 e2 e3 i k x y le gr co))) (kmax gr (kX2_placeOf (kX6_fillFromCorners_l28_s152 e0 e1 e2 e3 i k x y le gr co))) (co + 1) else kX6_putAll_y0 e0 e1 e2 e3 i := by
  have h46 : ((co &&& 1).toInt = 0 ∧ (kX6_fillFromCorners_l28_s46 e0 e1 e2 e3 i k x y le gr co).toInt = 0) ∨ (¬ (co &&& 1).toInt = 0 ∧ (kX6_fillFromCorners_l28_s46 e0 e1 e2 e3 i k x y le gr co).toInt = 1) := by
    unfold kX6_fillFromCorners_l28_s46 kX6_fillFromCorners_l28_46_z22
    split
    · exact Or.inl ⟨by assumption, by decide⟩
    · exact Or.inr ⟨by assumption, by decide⟩
  have h60 : ((co &&& 2).toInt = 0 ∧ (kX6_fillFromCorners_l28_s60 e0 e1 e2 e3 i k x y le gr co).toInt = 0) ∨ (¬ (co &&& 2).toInt = 0 ∧ (kX6_fillFromCorners_l28_s60 e0 e1 e2 e3 i k x y le gr co).toInt = 1) := by
    unfold kX6_fillFromCorners_l28_s60 kX6_fillFromCorners_l28_60_z27
    split
    · exact Or.inl ⟨by assumption, by decide⟩
    · exact Or.inr ⟨by assumption, by decide⟩
  have hx := k6_point e2 e3 x
  have hy := k6_point e2 e3 y
  rw [kX6_fillFromCorners_l28_y0_S, if_neg (by omega)]
  unfold kX6_fillFromCorners_l28_s178 kX6_fillFromCorners_l28_s190
  by_cases hs : ((¬ (co &&& 1).toInt = 0 ∧ (e2 x.toNatClampNeg).toInt = (e3 x.toNatClampNeg).toInt) ∨ (¬ (co &&& 2).toInt = 0 ∧ (e2 y.toNatClampNeg).toInt = (e3 y.toNatClampNeg).toInt))
  · rw [if_pos hs]
    (repeat' split) <;> first | rfl | (exfalso; omega)
  · rw [if_neg hs]
    (repeat' split) <;> first | rfl | (exfalso; omega)
theorem k6_cs1 (fuel : Nat) (e0 e1 e2 e3 : Nat → Int32) (i k x y le gr : Int32) (co : Int32) (h4 : co.toInt < 4) : kX6_fillFromCorners_l28_y1 (fuel + 1) e0 e1 e2 e3 i k x y le gr co = if ((¬ (co &&& 1).toInt = 0 ∧ (e2 x.toNatClampNeg).toInt = (e3 x.toNatClampNeg).toInt) ∨ (¬ (co &&& 2).toInt = 0 ∧ (e2 y.toNatClampNeg).toInt = (e3 y.toNatClampNeg).toInt)) then kX6_fillFromCorners_l28_y1 fuel e0 e1 e2 e3 i k x y le gr (co + 1) else if (kX2_isNone (kX6_fillFromCorners_l28_s152 e0 e1 e2 e3 i k x y le gr co)).toInt = 0 then kX6_fillFromCorners_l28_y1 fuel e0 e1 e2 e3 i k x y (kmin le (kX2_placeOf (kX6_fillFromCorners_l28_s152 e0 e1 e2 e3 i k x y le gr co))) (kmax gr (kX2_placeOf (kX6_fillFromCorners_l28_s152 e0 e1 e2 e3 i k x y le gr co))) (co + 1) else kX6_putAll_y1 e0 e1 e2 e3 i := by
  have h46 : ((co &&& 1).toInt = 0 ∧ (kX6_fillFromCorners_l28_s46 e0 e1 e2 e3 i k x y le gr co).toInt = 0) ∨ (¬ (co &&& 1).toInt = 0 ∧ (kX6_fillFromCorners_l28_s46 e0 e1 e2 e3 i k x y le gr co).toInt = 1) := by
    unfold kX6_fillFromCorners_l28_s46 kX6_fillFromCorners_l28_46_z22
    split
    · exact Or.inl ⟨by assumption, by decide⟩
    · exact Or.inr ⟨by assumption, by decide⟩
  have h60 : ((co &&& 2).toInt = 0 ∧ (kX6_fillFromCorners_l28_s60 e0 e1 e2 e3 i k x y le gr co).toInt = 0) ∨ (¬ (co &&& 2).toInt = 0 ∧ (kX6_fillFromCorners_l28_s60 e0 e1 e2 e3 i k x y le gr co).toInt = 1) := by
    unfold kX6_fillFromCorners_l28_s60 kX6_fillFromCorners_l28_60_z27
    split
    · exact Or.inl ⟨by assumption, by decide⟩
    · exact Or.inr ⟨by assumption, by decide⟩
  have hx := k6_point e2 e3 x
  have hy := k6_point e2 e3 y
  rw [kX6_fillFromCorners_l28_y1_S, if_neg (by omega)]
  unfold kX6_fillFromCorners_l28_s178 kX6_fillFromCorners_l28_s190
  by_cases hs : ((¬ (co &&& 1).toInt = 0 ∧ (e2 x.toNatClampNeg).toInt = (e3 x.toNatClampNeg).toInt) ∨ (¬ (co &&& 2).toInt = 0 ∧ (e2 y.toNatClampNeg).toInt = (e3 y.toNatClampNeg).toInt))
  · rw [if_pos hs]
    (repeat' split) <;> first | rfl | (exfalso; omega)
  · rw [if_neg hs]
    (repeat' split) <;> first | rfl | (exfalso; omega)
theorem k6_cs2 (fuel : Nat) (e0 e1 e2 e3 : Nat → Int32) (i k x y le gr : Int32) (co : Int32) (h4 : co.toInt < 4) : kX6_fillFromCorners_l28_y2 (fuel + 1) e0 e1 e2 e3 i k x y le gr co = if ((¬ (co &&& 1).toInt = 0 ∧ (e2 x.toNatClampNeg).toInt = (e3 x.toNatClampNeg).toInt) ∨ (¬ (co &&& 2).toInt = 0 ∧ (e2 y.toNatClampNeg).toInt = (e3 y.toNatClampNeg).toInt)) then kX6_fillFromCorners_l28_y2 fuel e0 e1 e2 e3 i k x y le gr (co + 1) else if (kX2_isNone (kX6_fillFromCorners_l28_s152 e0 e1 e2 e3 i k x y le gr co)).toInt = 0 then kX6_fillFromCorners_l28_y2 fuel e0 e1 e2 e3 i k x y (kmin le (kX2_placeOf (kX6_fillFromCorners_l28_s152 e0 e1 e2 e3 i k x y le gr co))) (kmax gr (kX2_placeOf (kX6_fillFromCorners_l28_s152 e0 e1 e2 e3 i k x y le gr co))) (co + 1) else kX6_putAll_y2 e0 e1 e2 e3 i := by
  have h46 : ((co &&& 1).toInt = 0 ∧ (kX6_fillFromCorners_l28_s46 e0 e1 e2 e3 i k x y le gr co).toInt = 0) ∨ (¬ (co &&& 1).toInt = 0 ∧ (kX6_fillFromCorners_l28_s46 e0 e1 e2 e3 i k x y le gr co).toInt = 1) := by
    unfold kX6_fillFromCorners_l28_s46 kX6_fillFromCorners_l28_46_z22
    split
    · exact Or.inl ⟨by assumption, by decide⟩
    · exact Or.inr ⟨by assumption, by decide⟩
  have h60 : ((co &&& 2).toInt = 0 ∧ (kX6_fillFromCorners_l28_s60 e0 e1 e2 e3 i k x y le gr co).toInt = 0) ∨ (¬ (co &&& 2).toInt = 0 ∧ (kX6_fillFromCorners_l28_s60 e0 e1 e2 e3 i k x y le gr co).toInt = 1) := by
    unfold kX6_fillFromCorners_l28_s60 kX6_fillFromCorners_l28_60_z27
    split
    · exact Or.inl ⟨by assumption, by decide⟩
    · exact Or.inr ⟨by assumption, by decide⟩
  have hx := k6_point e2 e3 x
  have hy := k6_point e2 e3 y
  rw [kX6_fillFromCorners_l28_y2_S, if_neg (by omega)]
  unfold kX6_fillFromCorners_l28_s178 kX6_fillFromCorners_l28_s190
  by_cases hs : ((¬ (co &&& 1).toInt = 0 ∧ (e2 x.toNatClampNeg).toInt = (e3 x.toNatClampNeg).toInt) ∨ (¬ (co &&& 2).toInt = 0 ∧ (e2 y.toNatClampNeg).toInt = (e3 y.toNatClampNeg).toInt))
  · rw [if_pos hs]
    (repeat' split) <;> first | rfl | (exfalso; omega)
  · rw [if_neg hs]
    (repeat' split) <;> first | rfl | (exfalso; omega)
theorem k6_cs3 (fuel : Nat) (e0 e1 e2 e3 : Nat → Int32) (i k x y le gr : Int32) (co : Int32) (h4 : co.toInt < 4) : kX6_fillFromCorners_l28_y3 (fuel + 1) e0 e1 e2 e3 i k x y le gr co = if ((¬ (co &&& 1).toInt = 0 ∧ (e2 x.toNatClampNeg).toInt = (e3 x.toNatClampNeg).toInt) ∨ (¬ (co &&& 2).toInt = 0 ∧ (e2 y.toNatClampNeg).toInt = (e3 y.toNatClampNeg).toInt)) then kX6_fillFromCorners_l28_y3 fuel e0 e1 e2 e3 i k x y le gr (co + 1) else if (kX2_isNone (kX6_fillFromCorners_l28_s152 e0 e1 e2 e3 i k x y le gr co)).toInt = 0 then kX6_fillFromCorners_l28_y3 fuel e0 e1 e2 e3 i k x y (kmin le (kX2_placeOf (kX6_fillFromCorners_l28_s152 e0 e1 e2 e3 i k x y le gr co))) (kmax gr (kX2_placeOf (kX6_fillFromCorners_l28_s152 e0 e1 e2 e3 i k x y le gr co))) (co + 1) else kX6_putAll_y3 e0 e1 e2 e3 i := by
  have h46 : ((co &&& 1).toInt = 0 ∧ (kX6_fillFromCorners_l28_s46 e0 e1 e2 e3 i k x y le gr co).toInt = 0) ∨ (¬ (co &&& 1).toInt = 0 ∧ (kX6_fillFromCorners_l28_s46 e0 e1 e2 e3 i k x y le gr co).toInt = 1) := by
    unfold kX6_fillFromCorners_l28_s46 kX6_fillFromCorners_l28_46_z22
    split
    · exact Or.inl ⟨by assumption, by decide⟩
    · exact Or.inr ⟨by assumption, by decide⟩
  have h60 : ((co &&& 2).toInt = 0 ∧ (kX6_fillFromCorners_l28_s60 e0 e1 e2 e3 i k x y le gr co).toInt = 0) ∨ (¬ (co &&& 2).toInt = 0 ∧ (kX6_fillFromCorners_l28_s60 e0 e1 e2 e3 i k x y le gr co).toInt = 1) := by
    unfold kX6_fillFromCorners_l28_s60 kX6_fillFromCorners_l28_60_z27
    split
    · exact Or.inl ⟨by assumption, by decide⟩
    · exact Or.inr ⟨by assumption, by decide⟩
  have hx := k6_point e2 e3 x
  have hy := k6_point e2 e3 y
  rw [kX6_fillFromCorners_l28_y3_S, if_neg (by omega)]
  unfold kX6_fillFromCorners_l28_s178 kX6_fillFromCorners_l28_s190
  by_cases hs : ((¬ (co &&& 1).toInt = 0 ∧ (e2 x.toNatClampNeg).toInt = (e3 x.toNatClampNeg).toInt) ∨ (¬ (co &&& 2).toInt = 0 ∧ (e2 y.toNatClampNeg).toInt = (e3 y.toNatClampNeg).toInt))
  · rw [if_pos hs]
    (repeat' split) <;> first | rfl | (exfalso; omega)
  · rw [if_neg hs]
    (repeat' split) <;> first | rfl | (exfalso; omega)
def qFin (nn : Int32) (a : Option (Int32 × Int32)) : Q4 := match a with
  | none => qAll
  | some (le, gr) => (1, nn, le, gr)
theorem qC_none (p : Prop) [Decidable p] (w : Int32) : qC p w none = none := rfl
theorem qC_skip {p : Prop} [Decidable p] (h : p) (w a b : Int32) : qC p w (some (a, b)) = some (a, b) := by
  show (if p then some (a, b) else _) = _
  rw [if_pos h]
theorem qC_put {p : Prop} [Decidable p] (h : ¬ p) {w : Int32} (hz : (kX2_isNone w).toInt = 0) (a b : Int32) : qC p w (some (a, b)) = some (kmin a (kX2_placeOf w), kmax b (kX2_placeOf w)) := by
  show (if p then some (a, b) else if (kX2_isNone w).toInt = 0 then _ else _) = _
  rw [if_neg h, if_pos hz]
theorem qC_no {p : Prop} [Decidable p] (h : ¬ p) {w : Int32} (hz : ¬ (kX2_isNone w).toInt = 0) (a b : Int32) : qC p w (some (a, b)) = none := by
  show (if p then some (a, b) else if (kX2_isNone w).toInt = 0 then _ else _) = _
  rw [if_neg h, if_neg hz]
theorem k6_c4 (fuel : Nat) (e0 e1 e2 e3 : Nat → Int32) (i k x y le gr : Int32) : PUT4 e0 e1 e2 e3 i.toNatClampNeg (qFin (qNN (e1 x.toNatClampNeg) (e1 y.toNatClampNeg)) (some (le, gr))) (kX6_fillFromCorners_l28_y0 (fuel + 1) e0 e1 e2 e3 i k x y le gr 4) (kX6_fillFromCorners_l28_y1 (fuel + 1) e0 e1 e2 e3 i k x y le gr 4) (kX6_fillFromCorners_l28_y2 (fuel + 1) e0 e1 e2 e3 i k x y le gr 4) (kX6_fillFromCorners_l28_y3 (fuel + 1) e0 e1 e2 e3 i k x y le gr 4) := by
  have h4 : (4 : Int) ≤ (4 : Int32).toInt := by decide
  simp only [kX6_fillFromCorners_l28_y0_S, kX6_fillFromCorners_l28_y1_S, kX6_fillFromCorners_l28_y2_S, kX6_fillFromCorners_l28_y3_S, if_pos h4]
  exact k6_put e0 e1 e2 e3 i le gr _ (qNN01 _ _)
set_option maxHeartbeats 4000000 in
theorem k6_c3 (fuel : Nat) (e0 e1 e2 e3 : Nat → Int32) (i k x y le gr : Int32) : PUT4 e0 e1 e2 e3 i.toNatClampNeg (qFin (qNN (e1 x.toNatClampNeg) (e1 y.toNatClampNeg)) (qC (((e2 x.toNatClampNeg).toInt = (e3 x.toNatClampNeg).toInt ∨ (e2 y.toNatClampNeg).toInt = (e3 y.toNatClampNeg).toInt)) (kX0_ofTwo k (kX2_bitsAt (e3 x.toNatClampNeg)) (kX2_bitsAt (e3 y.toNatClampNeg))) (some (le, gr)))) (kX6_fillFromCorners_l28_y0 (fuel + 2) e0 e1 e2 e3 i k x y le gr 3) (kX6_fillFromCorners_l28_y1 (fuel + 2) e0 e1 e2 e3 i k x y le gr 3) (kX6_fillFromCorners_l28_y2 (fuel + 2) e0 e1 e2 e3 i k x y le gr 3) (kX6_fillFromCorners_l28_y3 (fuel + 2) e0 e1 e2 e3 i k x y le gr 3) := by
  have h4 : (3 : Int32).toInt < 4 := by decide
  have b1 : ((3 : Int32) &&& 1).toInt = 1 := by decide
  have b2 : ((3 : Int32) &&& 2).toInt = 2 := by decide
  have hn : (3 : Int32) + 1 = 4 := by decide
  have hw : kX6_fillFromCorners_l28_s152 e0 e1 e2 e3 i k x y le gr 3 = (kX0_ofTwo k (kX2_bitsAt (e3 x.toNatClampNeg)) (kX2_bitsAt (e3 y.toNatClampNeg))) := rfl
  rw [k6_cs0 _ _ _ _ _ _ _ _ _ _ _ _ h4, k6_cs1 _ _ _ _ _ _ _ _ _ _ _ _ h4, k6_cs2 _ _ _ _ _ _ _ _ _ _ _ _ h4, k6_cs3 _ _ _ _ _ _ _ _ _ _ _ _ h4, hn, hw, b1, b2]
  by_cases hs : ((e2 x.toNatClampNeg).toInt = (e3 x.toNatClampNeg).toInt ∨ (e2 y.toNatClampNeg).toInt = (e3 y.toNatClampNeg).toInt)
  · have hq : ((¬ (1 : Int) = 0 ∧ (e2 x.toNatClampNeg).toInt = (e3 x.toNatClampNeg).toInt) ∨ (¬ (2 : Int) = 0 ∧ (e2 y.toNatClampNeg).toInt = (e3 y.toNatClampNeg).toInt)) := by first | exact hs.elim | omega
    rw [if_pos hq, if_pos hq, if_pos hq, if_pos hq]
    rw [qC_skip hs]
    exact k6_c4 _ _ _ _ _ _ _ _ _ _ _
  · have hq : ¬ ((¬ (1 : Int) = 0 ∧ (e2 x.toNatClampNeg).toInt = (e3 x.toNatClampNeg).toInt) ∨ (¬ (2 : Int) = 0 ∧ (e2 y.toNatClampNeg).toInt = (e3 y.toNatClampNeg).toInt)) := by omega
    rw [if_neg hq, if_neg hq, if_neg hq, if_neg hq]
    by_cases hz : (kX2_isNone (kX0_ofTwo k (kX2_bitsAt (e3 x.toNatClampNeg)) (kX2_bitsAt (e3 y.toNatClampNeg)))).toInt = 0
    · rw [if_pos hz, if_pos hz, if_pos hz, if_pos hz]
      rw [qC_put hs hz]
      exact k6_c4 _ _ _ _ _ _ _ _ _ _ _
    · rw [if_neg hz, if_neg hz, if_neg hz, if_neg hz]
      rw [qC_no hs hz]
      try simp only [qC_none]
      exact k6_all e0 e1 e2 e3 i
set_option maxHeartbeats 4000000 in
theorem k6_c2 (fuel : Nat) (e0 e1 e2 e3 : Nat → Int32) (i k x y le gr : Int32) : PUT4 e0 e1 e2 e3 i.toNatClampNeg (qFin (qNN (e1 x.toNatClampNeg) (e1 y.toNatClampNeg)) (qC (((e2 x.toNatClampNeg).toInt = (e3 x.toNatClampNeg).toInt ∨ (e2 y.toNatClampNeg).toInt = (e3 y.toNatClampNeg).toInt)) (kX0_ofTwo k (kX2_bitsAt (e3 x.toNatClampNeg)) (kX2_bitsAt (e3 y.toNatClampNeg))) (qC ((e2 y.toNatClampNeg).toInt = (e3 y.toNatClampNeg).toInt) (kX0_ofTwo k (kX2_bitsAt (e2 x.toNatClampNeg)) (kX2_bitsAt (e3 y.toNatClampNeg))) (some (le, gr))))) (kX6_fillFromCorners_l28_y0 (fuel + 3) e0 e1 e2 e3 i k x y le gr 2) (kX6_fillFromCorners_l28_y1 (fuel + 3) e0 e1 e2 e3 i k x y le gr 2) (kX6_fillFromCorners_l28_y2 (fuel + 3) e0 e1 e2 e3 i k x y le gr 2) (kX6_fillFromCorners_l28_y3 (fuel + 3) e0 e1 e2 e3 i k x y le gr 2) := by
  have h4 : (2 : Int32).toInt < 4 := by decide
  have b1 : ((2 : Int32) &&& 1).toInt = 0 := by decide
  have b2 : ((2 : Int32) &&& 2).toInt = 2 := by decide
  have hn : (2 : Int32) + 1 = 3 := by decide
  have hw : kX6_fillFromCorners_l28_s152 e0 e1 e2 e3 i k x y le gr 2 = (kX0_ofTwo k (kX2_bitsAt (e2 x.toNatClampNeg)) (kX2_bitsAt (e3 y.toNatClampNeg))) := rfl
  rw [k6_cs0 _ _ _ _ _ _ _ _ _ _ _ _ h4, k6_cs1 _ _ _ _ _ _ _ _ _ _ _ _ h4, k6_cs2 _ _ _ _ _ _ _ _ _ _ _ _ h4, k6_cs3 _ _ _ _ _ _ _ _ _ _ _ _ h4, hn, hw, b1, b2]
  by_cases hs : (e2 y.toNatClampNeg).toInt = (e3 y.toNatClampNeg).toInt
  · have hq : ((¬ (0 : Int) = 0 ∧ (e2 x.toNatClampNeg).toInt = (e3 x.toNatClampNeg).toInt) ∨ (¬ (2 : Int) = 0 ∧ (e2 y.toNatClampNeg).toInt = (e3 y.toNatClampNeg).toInt)) := by first | exact hs.elim | omega
    rw [if_pos hq, if_pos hq, if_pos hq, if_pos hq]
    rw [qC_skip hs]
    exact k6_c3 _ _ _ _ _ _ _ _ _ _ _
  · have hq : ¬ ((¬ (0 : Int) = 0 ∧ (e2 x.toNatClampNeg).toInt = (e3 x.toNatClampNeg).toInt) ∨ (¬ (2 : Int) = 0 ∧ (e2 y.toNatClampNeg).toInt = (e3 y.toNatClampNeg).toInt)) := by omega
    rw [if_neg hq, if_neg hq, if_neg hq, if_neg hq]
    by_cases hz : (kX2_isNone (kX0_ofTwo k (kX2_bitsAt (e2 x.toNatClampNeg)) (kX2_bitsAt (e3 y.toNatClampNeg)))).toInt = 0
    · rw [if_pos hz, if_pos hz, if_pos hz, if_pos hz]
      rw [qC_put hs hz]
      exact k6_c3 _ _ _ _ _ _ _ _ _ _ _
    · rw [if_neg hz, if_neg hz, if_neg hz, if_neg hz]
      rw [qC_no hs hz]
      try simp only [qC_none]
      exact k6_all e0 e1 e2 e3 i
set_option maxHeartbeats 4000000 in
theorem k6_c1 (fuel : Nat) (e0 e1 e2 e3 : Nat → Int32) (i k x y le gr : Int32) : PUT4 e0 e1 e2 e3 i.toNatClampNeg (qFin (qNN (e1 x.toNatClampNeg) (e1 y.toNatClampNeg)) (qC (((e2 x.toNatClampNeg).toInt = (e3 x.toNatClampNeg).toInt ∨ (e2 y.toNatClampNeg).toInt = (e3 y.toNatClampNeg).toInt)) (kX0_ofTwo k (kX2_bitsAt (e3 x.toNatClampNeg)) (kX2_bitsAt (e3 y.toNatClampNeg))) (qC ((e2 y.toNatClampNeg).toInt = (e3 y.toNatClampNeg).toInt) (kX0_ofTwo k (kX2_bitsAt (e2 x.toNatClampNeg)) (kX2_bitsAt (e3 y.toNatClampNeg))) (qC ((e2 x.toNatClampNeg).toInt = (e3 x.toNatClampNeg).toInt) (kX0_ofTwo k (kX2_bitsAt (e3 x.toNatClampNeg)) (kX2_bitsAt (e2 y.toNatClampNeg))) (some (le, gr)))))) (kX6_fillFromCorners_l28_y0 (fuel + 4) e0 e1 e2 e3 i k x y le gr 1) (kX6_fillFromCorners_l28_y1 (fuel + 4) e0 e1 e2 e3 i k x y le gr 1) (kX6_fillFromCorners_l28_y2 (fuel + 4) e0 e1 e2 e3 i k x y le gr 1) (kX6_fillFromCorners_l28_y3 (fuel + 4) e0 e1 e2 e3 i k x y le gr 1) := by
  have h4 : (1 : Int32).toInt < 4 := by decide
  have b1 : ((1 : Int32) &&& 1).toInt = 1 := by decide
  have b2 : ((1 : Int32) &&& 2).toInt = 0 := by decide
  have hn : (1 : Int32) + 1 = 2 := by decide
  have hw : kX6_fillFromCorners_l28_s152 e0 e1 e2 e3 i k x y le gr 1 = (kX0_ofTwo k (kX2_bitsAt (e3 x.toNatClampNeg)) (kX2_bitsAt (e2 y.toNatClampNeg))) := rfl
  rw [k6_cs0 _ _ _ _ _ _ _ _ _ _ _ _ h4, k6_cs1 _ _ _ _ _ _ _ _ _ _ _ _ h4, k6_cs2 _ _ _ _ _ _ _ _ _ _ _ _ h4, k6_cs3 _ _ _ _ _ _ _ _ _ _ _ _ h4, hn, hw, b1, b2]
  by_cases hs : (e2 x.toNatClampNeg).toInt = (e3 x.toNatClampNeg).toInt
  · have hq : ((¬ (1 : Int) = 0 ∧ (e2 x.toNatClampNeg).toInt = (e3 x.toNatClampNeg).toInt) ∨ (¬ (0 : Int) = 0 ∧ (e2 y.toNatClampNeg).toInt = (e3 y.toNatClampNeg).toInt)) := by first | exact hs.elim | omega
    rw [if_pos hq, if_pos hq, if_pos hq, if_pos hq]
    rw [qC_skip hs]
    exact k6_c2 _ _ _ _ _ _ _ _ _ _ _
  · have hq : ¬ ((¬ (1 : Int) = 0 ∧ (e2 x.toNatClampNeg).toInt = (e3 x.toNatClampNeg).toInt) ∨ (¬ (0 : Int) = 0 ∧ (e2 y.toNatClampNeg).toInt = (e3 y.toNatClampNeg).toInt)) := by omega
    rw [if_neg hq, if_neg hq, if_neg hq, if_neg hq]
    by_cases hz : (kX2_isNone (kX0_ofTwo k (kX2_bitsAt (e3 x.toNatClampNeg)) (kX2_bitsAt (e2 y.toNatClampNeg)))).toInt = 0
    · rw [if_pos hz, if_pos hz, if_pos hz, if_pos hz]
      rw [qC_put hs hz]
      exact k6_c2 _ _ _ _ _ _ _ _ _ _ _
    · rw [if_neg hz, if_neg hz, if_neg hz, if_neg hz]
      rw [qC_no hs hz]
      try simp only [qC_none]
      exact k6_all e0 e1 e2 e3 i
set_option maxHeartbeats 4000000 in
theorem k6_c0 (fuel : Nat) (e0 e1 e2 e3 : Nat → Int32) (i k x y le gr : Int32) : PUT4 e0 e1 e2 e3 i.toNatClampNeg (qFin (qNN (e1 x.toNatClampNeg) (e1 y.toNatClampNeg)) (qC (((e2 x.toNatClampNeg).toInt = (e3 x.toNatClampNeg).toInt ∨ (e2 y.toNatClampNeg).toInt = (e3 y.toNatClampNeg).toInt)) (kX0_ofTwo k (kX2_bitsAt (e3 x.toNatClampNeg)) (kX2_bitsAt (e3 y.toNatClampNeg))) (qC ((e2 y.toNatClampNeg).toInt = (e3 y.toNatClampNeg).toInt) (kX0_ofTwo k (kX2_bitsAt (e2 x.toNatClampNeg)) (kX2_bitsAt (e3 y.toNatClampNeg))) (qC ((e2 x.toNatClampNeg).toInt = (e3 x.toNatClampNeg).toInt) (kX0_ofTwo k (kX2_bitsAt (e3 x.toNatClampNeg)) (kX2_bitsAt (e2 y.toNatClampNeg))) (qC (False) (kX0_ofTwo k (kX2_bitsAt (e2 x.toNatClampNeg)) (kX2_bitsAt (e2 y.toNatClampNeg))) (some (le, gr))))))) (kX6_fillFromCorners_l28_y0 (fuel + 5) e0 e1 e2 e3 i k x y le gr 0) (kX6_fillFromCorners_l28_y1 (fuel + 5) e0 e1 e2 e3 i k x y le gr 0) (kX6_fillFromCorners_l28_y2 (fuel + 5) e0 e1 e2 e3 i k x y le gr 0) (kX6_fillFromCorners_l28_y3 (fuel + 5) e0 e1 e2 e3 i k x y le gr 0) := by
  have h4 : (0 : Int32).toInt < 4 := by decide
  have b1 : ((0 : Int32) &&& 1).toInt = 0 := by decide
  have b2 : ((0 : Int32) &&& 2).toInt = 0 := by decide
  have hn : (0 : Int32) + 1 = 1 := by decide
  have hw : kX6_fillFromCorners_l28_s152 e0 e1 e2 e3 i k x y le gr 0 = (kX0_ofTwo k (kX2_bitsAt (e2 x.toNatClampNeg)) (kX2_bitsAt (e2 y.toNatClampNeg))) := rfl
  rw [k6_cs0 _ _ _ _ _ _ _ _ _ _ _ _ h4, k6_cs1 _ _ _ _ _ _ _ _ _ _ _ _ h4, k6_cs2 _ _ _ _ _ _ _ _ _ _ _ _ h4, k6_cs3 _ _ _ _ _ _ _ _ _ _ _ _ h4, hn, hw, b1, b2]
  by_cases hs : False
  · have hq : ((¬ (0 : Int) = 0 ∧ (e2 x.toNatClampNeg).toInt = (e3 x.toNatClampNeg).toInt) ∨ (¬ (0 : Int) = 0 ∧ (e2 y.toNatClampNeg).toInt = (e3 y.toNatClampNeg).toInt)) := by first | exact hs.elim | omega
    rw [if_pos hq, if_pos hq, if_pos hq, if_pos hq]
    rw [qC_skip hs]
    exact k6_c1 _ _ _ _ _ _ _ _ _ _ _
  · have hq : ¬ ((¬ (0 : Int) = 0 ∧ (e2 x.toNatClampNeg).toInt = (e3 x.toNatClampNeg).toInt) ∨ (¬ (0 : Int) = 0 ∧ (e2 y.toNatClampNeg).toInt = (e3 y.toNatClampNeg).toInt)) := by omega
    rw [if_neg hq, if_neg hq, if_neg hq, if_neg hq]
    by_cases hz : (kX2_isNone (kX0_ofTwo k (kX2_bitsAt (e2 x.toNatClampNeg)) (kX2_bitsAt (e2 y.toNatClampNeg)))).toInt = 0
    · rw [if_pos hz, if_pos hz, if_pos hz, if_pos hz]
      rw [qC_put hs hz]
      exact k6_c1 _ _ _ _ _ _ _ _ _ _ _
    · rw [if_neg hz, if_neg hz, if_neg hz, if_neg hz]
      rw [qC_no hs hz]
      try simp only [qC_none]
      exact k6_all e0 e1 e2 e3 i
def qCorn (k nx lx hx ny ly hy : Int32) : Q4 := qFin (qNN nx ny) (qC ((lx.toInt = hx.toInt ∨ ly.toInt = hy.toInt)) (kX0_ofTwo k (kX2_bitsAt hx) (kX2_bitsAt hy)) (qC (ly.toInt = hy.toInt) (kX0_ofTwo k (kX2_bitsAt lx) (kX2_bitsAt hy)) (qC (lx.toInt = hx.toInt) (kX0_ofTwo k (kX2_bitsAt hx) (kX2_bitsAt ly)) (qC (False) (kX0_ofTwo k (kX2_bitsAt lx) (kX2_bitsAt ly)) (some ((2139095040 : Int32), (-2139095041 : Int32)))))))
theorem k6_corners (e0 e1 e2 e3 : Nat → Int32) (i k x y : Int32) : PUT4 e0 e1 e2 e3 i.toNatClampNeg (if (kX6_cornersTellTooLittle e2 e3 k x y).toInt = 0 then qCorn k (e1 x.toNatClampNeg) (e2 x.toNatClampNeg) (e3 x.toNatClampNeg) (e1 y.toNatClampNeg) (e2 y.toNatClampNeg) (e3 y.toNatClampNeg) else qAll) (kX6_fillFromCorners_y0 e0 e1 e2 e3 i k x y) (kX6_fillFromCorners_y1 e0 e1 e2 e3 i k x y) (kX6_fillFromCorners_y2 e0 e1 e2 e3 i k x y) (kX6_fillFromCorners_y3 e0 e1 e2 e3 i k x y) := by
  unfold kX6_fillFromCorners_y0 kX6_fillFromCorners_y1 kX6_fillFromCorners_y2 kX6_fillFromCorners_y3
  by_cases h : (kX6_cornersTellTooLittle e2 e3 k x y).toInt = 0
  · simp only [if_pos h]
    exact k6_c0 1 e0 e1 e2 e3 i k x y 2139095040 (-2139095041)
  · simp only [if_neg h]
    exact k6_all e0 e1 e2 e3 i
theorem k6_rem (e0 e1 e2 e3 : Nat → Int32) (i x y : Int32) : PUT4 e0 e1 e2 e3 i.toNatClampNeg (qRem (e1 x.toNatClampNeg) (e2 x.toNatClampNeg) (e3 x.toNatClampNeg) (e1 y.toNatClampNeg) (e2 y.toNatClampNeg) (e3 y.toNatClampNeg)) (kX6_fillRemainder_y0 e0 e1 e2 e3 i x y) (kX6_fillRemainder_y1 e0 e1 e2 e3 i x y) (kX6_fillRemainder_y2 e0 e1 e2 e3 i x y) (kX6_fillRemainder_y3 e0 e1 e2 e3 i x y) := by
  have hx := k6_point e2 e3 x
  have hy := k6_point e2 e3 y
  have hv := k6_val e0 e1 e2 e3 i (kX0_ofTwo 14 (kX2_bitsAt (e2 x.toNatClampNeg)) (kX2_bitsAt (e2 y.toNatClampNeg)))
  have ha := k6_all e0 e1 e2 e3 i
  unfold qRem
  by_cases h : (e2 x.toNatClampNeg).toInt = (e3 x.toNatClampNeg).toInt ∧ (e2 y.toNatClampNeg).toInt = (e3 y.toNatClampNeg).toInt ∧ (e1 x.toNatClampNeg).toInt = 0 ∧ (e1 y.toNatClampNeg).toInt = 0
  · rw [if_pos h]
    have h1 : ¬ (kX6_isPoint e2 e3 x).toInt = 0 := by omega
    have h2 : ¬ (kX6_isPoint e2 e3 y).toInt = 0 := by omega
    simp only [kX6_fillRemainder_70_z60, kX6_fillRemainder_70_z61, kX6_fillRemainder_70_z62, kX6_fillRemainder_70_z63, kX6_fillRemainder_70_z66, kX6_fillRemainder_70_z67, kX6_fillRemainder_70_z68, kX6_fillRemainder_70_z69, kX6_fillRemainder_70_z72, kX6_fillRemainder_70_z73, kX6_fillRemainder_70_z74, kX6_fillRemainder_70_z75, kX6_fillRemainder_70_z78, kX6_fillRemainder_70_z79, kX6_fillRemainder_70_z80, kX6_fillRemainder_70_z81, kX6_fillRemainder_y0, kX6_fillRemainder_y1, kX6_fillRemainder_y2, kX6_fillRemainder_y3, if_neg h1, if_neg h2, if_pos h.2.2.1, if_pos h.2.2.2]
    exact hv
  · rw [if_neg h]
    by_cases h1 : (kX6_isPoint e2 e3 x).toInt = 0
    · simp only [kX6_fillRemainder_70_z60, kX6_fillRemainder_70_z61, kX6_fillRemainder_70_z62, kX6_fillRemainder_70_z63, kX6_fillRemainder_70_z66, kX6_fillRemainder_70_z67, kX6_fillRemainder_70_z68, kX6_fillRemainder_70_z69, kX6_fillRemainder_70_z72, kX6_fillRemainder_70_z73, kX6_fillRemainder_70_z74, kX6_fillRemainder_70_z75, kX6_fillRemainder_70_z78, kX6_fillRemainder_70_z79, kX6_fillRemainder_70_z80, kX6_fillRemainder_70_z81, kX6_fillRemainder_y0, kX6_fillRemainder_y1, kX6_fillRemainder_y2, kX6_fillRemainder_y3, if_pos h1]
      exact ha
    · by_cases h2 : (kX6_isPoint e2 e3 y).toInt = 0
      · simp only [kX6_fillRemainder_70_z60, kX6_fillRemainder_70_z61, kX6_fillRemainder_70_z62, kX6_fillRemainder_70_z63, kX6_fillRemainder_70_z66, kX6_fillRemainder_70_z67, kX6_fillRemainder_70_z68, kX6_fillRemainder_70_z69, kX6_fillRemainder_70_z72, kX6_fillRemainder_70_z73, kX6_fillRemainder_70_z74, kX6_fillRemainder_70_z75, kX6_fillRemainder_70_z78, kX6_fillRemainder_70_z79, kX6_fillRemainder_70_z80, kX6_fillRemainder_70_z81, kX6_fillRemainder_y0, kX6_fillRemainder_y1, kX6_fillRemainder_y2, kX6_fillRemainder_y3, if_neg h1, if_pos h2]
        exact ha
      · by_cases h3 : (e1 x.toNatClampNeg).toInt = 0
        · have h4 : ¬ (e1 y.toNatClampNeg).toInt = 0 := by omega
          simp only [kX6_fillRemainder_70_z60, kX6_fillRemainder_70_z61, kX6_fillRemainder_70_z62, kX6_fillRemainder_70_z63, kX6_fillRemainder_70_z66, kX6_fillRemainder_70_z67, kX6_fillRemainder_70_z68, kX6_fillRemainder_70_z69, kX6_fillRemainder_70_z72, kX6_fillRemainder_70_z73, kX6_fillRemainder_70_z74, kX6_fillRemainder_70_z75, kX6_fillRemainder_70_z78, kX6_fillRemainder_70_z79, kX6_fillRemainder_70_z80, kX6_fillRemainder_70_z81, kX6_fillRemainder_y0, kX6_fillRemainder_y1, kX6_fillRemainder_y2, kX6_fillRemainder_y3, if_neg h1, if_neg h2, if_pos h3, if_neg h4]
          exact ha
        · simp only [kX6_fillRemainder_70_z60, kX6_fillRemainder_70_z61, kX6_fillRemainder_70_z62, kX6_fillRemainder_70_z63, kX6_fillRemainder_70_z66, kX6_fillRemainder_70_z67, kX6_fillRemainder_70_z68, kX6_fillRemainder_70_z69, kX6_fillRemainder_70_z72, kX6_fillRemainder_70_z73, kX6_fillRemainder_70_z74, kX6_fillRemainder_70_z75, kX6_fillRemainder_70_z78, kX6_fillRemainder_70_z79, kX6_fillRemainder_70_z80, kX6_fillRemainder_70_z81, kX6_fillRemainder_y0, kX6_fillRemainder_y1, kX6_fillRemainder_y2, kX6_fillRemainder_y3, if_neg h1, if_neg h2, if_neg h3]
          exact ha
