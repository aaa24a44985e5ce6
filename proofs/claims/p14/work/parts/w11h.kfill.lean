/-! one NODE's SPAN by those ahead of it -/
def q13 (k : Int32) : Int32 := if k.toInt = 13 then 0 else 2143289344
def cs1 (k x y f g e0 e1 e2 e3 : Nat → Int32) (j : Nat) : Q4 :=
  if (k j).toInt = 0 then qVal (x j) else if (k j).toInt = 1 then (1, 0, f (x j).toNatClampNeg, g (x j).toNatClampNeg)
  else if (e0 (x j).toNatClampNeg).toInt = 0 then qVal (q13 (k j)) else if (e0 (y j).toNatClampNeg).toInt = 0 then qVal (q13 (k j))
  else if 5 < (k j).toInt then (if (k j).toInt = 8 then qPair 1 (e1 (x j).toNatClampNeg) (e2 (x j).toNatClampNeg) (e3 (x j).toNatClampNeg) (e1 (y j).toNatClampNeg) (e2 (y j).toNatClampNeg) (e3 (y j).toNatClampNeg)
    else if (k j).toInt = 9 then qPair 0 (e1 (x j).toNatClampNeg) (e2 (x j).toNatClampNeg) (e3 (x j).toNatClampNeg) (e1 (y j).toNatClampNeg) (e2 (y j).toNatClampNeg) (e3 (y j).toNatClampNeg)
    else if (k j).toInt = 14 then qRem (e1 (x j).toNatClampNeg) (e2 (x j).toNatClampNeg) (e3 (x j).toNatClampNeg) (e1 (y j).toNatClampNeg) (e2 (y j).toNatClampNeg) (e3 (y j).toNatClampNeg)
    else qEnd (k j) (e1 (x j).toNatClampNeg) (e2 (x j).toNatClampNeg) (e3 (x j).toNatClampNeg))
  else if (kX6_cornersTellTooLittle e2 e3 (k j) (x j) (y j)).toInt = 0 then qCorn (k j) (e1 (x j).toNatClampNeg) (e2 (x j).toNatClampNeg) (e3 (x j).toNatClampNeg) (e1 (y j).toNatClampNeg) (e2 (y j).toNatClampNeg) (e3 (y j).toNatClampNeg) else qAll
set_option maxHeartbeats 8000000 in
theorem k6_fstep (e0 e1 e2 e3 f2 g2 f g k0 k1 k2 : Nat → Int32) (k5 : Nat → Int64) (nd sd : Int64) (cn : Int32) (mi : Int64) (i : Int32) (y0 y1 y2 y3 f9 g9 : Nat → Int32) (sd9 : Int64) : (((mi &&& (1 <<< (i.toInt64 &&& 63)) : Int64).toInt = 0) → kX6_fill_l27_346_z153 e0 e1 e2 e3 f2 g2 f g k0 k1 k2 k5 nd sd cn mi i y0 y1 y2 y3 f9 g9 sd9 = y0 ∧ kX6_fill_l27_346_z154 e0 e1 e2 e3 f2 g2 f g k0 k1 k2 k5 nd sd cn mi i y0 y1 y2 y3 f9 g9 sd9 = y1 ∧ kX6_fill_l27_346_z155 e0 e1 e2 e3 f2 g2 f g k0 k1 k2 k5 nd sd cn mi i y0 y1 y2 y3 f9 g9 sd9 = y2 ∧ kX6_fill_l27_346_z156 e0 e1 e2 e3 f2 g2 f g k0 k1 k2 k5 nd sd cn mi i y0 y1 y2 y3 f9 g9 sd9 = y3) ∧ (¬ ((mi &&& (1 <<< (i.toInt64 &&& 63)) : Int64).toInt = 0) → PUT4 y0 y1 y2 y3 i.toNatClampNeg (cs1 k0 k1 k2 f9 g9 y0 y1 y2 y3 i.toNatClampNeg) (kX6_fill_l27_346_z153 e0 e1 e2 e3 f2 g2 f g k0 k1 k2 k5 nd sd cn mi i y0 y1 y2 y3 f9 g9 sd9) (kX6_fill_l27_346_z154 e0 e1 e2 e3 f2 g2 f g k0 k1 k2 k5 nd sd cn mi i y0 y1 y2 y3 f9 g9 sd9) (kX6_fill_l27_346_z155 e0 e1 e2 e3 f2 g2 f g k0 k1 k2 k5 nd sd cn mi i y0 y1 y2 y3 f9 g9 sd9) (kX6_fill_l27_346_z156 e0 e1 e2 e3 f2 g2 f g k0 k1 k2 k5 nd sd cn mi i y0 y1 y2 y3 f9 g9 sd9)) := by
  unfold kX6_fill_l27_346_z153 kX6_fill_l27_346_z154 kX6_fill_l27_346_z155 kX6_fill_l27_346_z156
  refine ⟨fun h => ?_, fun h => ?_⟩
  · simp only [if_pos h, and_self]
  · simp only [if_neg h]
    unfold kX6_fill_l27_346_z149 kX6_fill_l27_346_z148 kX6_fill_l27_346_z147 kX6_fill_l27_346_z146 kX6_fill_l27_346_z135 kX6_fill_l27_346_z134 kX6_fill_l27_346_z133 kX6_fill_l27_346_z132 kX6_fill_l27_346_z121 kX6_fill_l27_346_z120 kX6_fill_l27_346_z119 kX6_fill_l27_346_z118 kX6_fill_l27_346_z115 kX6_fill_l27_346_z114 kX6_fill_l27_346_z113 kX6_fill_l27_346_z112 kX6_fill_l27_346_z96 kX6_fill_l27_346_z95 kX6_fill_l27_346_z94 kX6_fill_l27_346_z93 kX6_fill_l27_346_z82 kX6_fill_l27_346_z81 kX6_fill_l27_346_z80 kX6_fill_l27_346_z79 kX6_fill_l27_346_z76 kX6_fill_l27_346_z75 kX6_fill_l27_346_z74 kX6_fill_l27_346_z73 kX6_fill_l27_346_z57 kX6_fill_l27_346_z56 kX6_fill_l27_346_z55 kX6_fill_l27_346_z54 kX6_fill_l27_194_z10 kX6_fill_l27_266_z26
    unfold cs1
    by_cases h0 : (k0 i.toNatClampNeg).toInt = 0
    · simp only [if_pos h0]
      exact k6_val _ _ _ _ _ _
    · simp only [if_neg h0]
      by_cases h1 : (k0 i.toNatClampNeg).toInt = 1
      · simp only [if_pos h1]
        exact k6_put _ _ _ _ _ _ _ _ (Or.inl rfl)
      · simp only [if_neg h1]
        by_cases hx : (y0 (k1 i.toNatClampNeg).toNatClampNeg).toInt = 0
        · simp only [if_pos hx]
          exact k6_val _ _ _ _ _ _
        · simp only [if_neg hx]
          by_cases hy : (y0 (k2 i.toNatClampNeg).toNatClampNeg).toInt = 0
          · simp only [if_pos hy]
            exact k6_val _ _ _ _ _ _
          · simp only [if_neg hy]
            by_cases h5 : 5 < (k0 i.toNatClampNeg).toInt
            · simp only [if_pos h5]
              by_cases h8 : (k0 i.toNatClampNeg).toInt = 8
              · simp only [if_pos h8]
                exact k6_pairs _ _ _ _ _ _ _ _
              · simp only [if_neg h8]
                by_cases h9 : (k0 i.toNatClampNeg).toInt = 9
                · simp only [if_pos h9]
                  exact k6_pairs _ _ _ _ _ _ _ _
                · simp only [if_neg h9]
                  by_cases h14 : (k0 i.toNatClampNeg).toInt = 14
                  · simp only [if_pos h14]
                    exact k6_rem _ _ _ _ _ _ _
                  · simp only [if_neg h14]
                    exact k6_ends _ _ _ _ _ _ _
            · simp only [if_neg h5]
              exact k6_corners _ _ _ _ _ _ _ _
