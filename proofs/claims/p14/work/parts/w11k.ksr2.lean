/-! one NODE's SPAN, both sides; goes behind krel, ksr, kfill (never compiled yet) -/
/-- a NODE with one operand has it twice (sq_ay) -/
def YX (c : Int32) (k x y : Nat → Int32) : Prop := ∀ i : Nat, (i : Int) < c.toInt → 2 ≤ (k i).toInt → ¬ YK (k i) → y i = x i
/-- the box of the class and the reference's -/
def BX (f g : Nat → Int32) (bl bh : Nat → Int64) : Prop := ∀ v : Nat, v < 4 → bl v = (f v).toInt64 ∧ bh v = (g v).toInt64 ∧ PB (f v) (g v)
theorem sr_op {c : Q4} {r : R4} (h : SR c r) : (¬ c.1.toInt = 0 ∧ ¬ r.1.toInt = 0 ∧ r.2.1 = c.2.2.1.toInt64 ∧ r.2.2.1 = c.2.2.2.toInt64 ∧ PB c.2.2.1 c.2.2.2 ∧ r.2.2.2 = c.2.1) ∨ (c.1.toInt = 0 ∧ r.1.toInt = 0) := by
  rcases h with ⟨h1, h2, h3, h4, h5, h6, h7, h8, h9⟩ | ⟨h1, h2, h3, h4⟩
  · refine Or.inl ⟨?_, ?_, h3, h4, ⟨h5, h6, h7⟩, h8.symm⟩
    · rw [h1]
      decide
    · rw [h2]
      decide
  · refine Or.inr ⟨?_, ?_⟩
    · rw [h1]
      decide
    · rw [h2]
      decide
set_option maxHeartbeats 4000000 in
theorem SR.step {cn : Int32} {k x y a b c f g e0 e1 e2 e3 mh mn : Nat → Int32} {bl bh ml mm : Nat → Int64} (hni : NI cn k x y) (hrn : RN cn k x y a b c) (hyx : YX cn k x y) (hbx : BX f g bl bh) (j : Nat) (hj : (j : Int) < cn.toInt) (ih : ∀ i : Nat, i < j → 2 ≤ (k j).toInt → (i = (x j).toNatClampNeg ∨ i = (y j).toNatClampNeg) → SR (e0 i, e1 i, e2 i, e3 i) (rq mh ml mm mn i)) : SR (cs1 k x y f g e0 e1 e2 e3 j) (rs1 (a j) (b j) (bl (b j).toNatClampNeg) (bh (b j).toNatClampNeg) (rq mh ml mm mn (b j).toNatClampNeg) (rq mh ml mm mn (rY a b c j))) := by
  obtain ⟨q0, q1, q2⟩ := hni
  obtain ⟨p1, p2, p3, p4⟩ := q2 j hj
  obtain ⟨r1, r2, r3, r4⟩ := hrn j hj
  have hyx := hyx j hj
  unfold cs1 rs1 rY
  rw [r1]
  by_cases k0 : (k j).toInt = 0
  · rw [if_pos k0, if_pos k0]
    exact SR.val (r2 k0)
  · rw [if_neg k0, if_neg k0, r3 (by omega)]
    by_cases k1 : (k j).toInt = 1
    · have hv := p3 k1
      obtain ⟨b1, b2, b3, b4, b5⟩ := hbx (x j).toNatClampNeg (sp_clamp hv.1 hv.2)
      rw [if_pos k1, if_pos k1]
      exact Or.inl ⟨rfl, rfl, b1, b2, b3, b4, b5, rfl, Or.inl rfl⟩
    · rw [if_neg k1, if_neg k1]
      obtain ⟨⟨x0, x1⟩, y0, y1⟩ := p4 (by omega)
      have ex := px_cl x0
      have ey := px_cl y0
      have X := sr_op (ih (x j).toNatClampNeg (by omega) (by omega) (Or.inl rfl))
      have Y := sr_op (ih (y j).toNatClampNeg (by omega) (by omega) (Or.inr rfl))
      have hY : (if (kX8_hasTwo (k j)).toInt = 0 then x j else c j) = y j := by
        rcases kf_two (k j) with ⟨h1, h2⟩ | ⟨h1, h2⟩
        · rw [if_neg (by omega), r4 h2]
        · rw [if_pos h1, hyx (by omega) h2]
      rw [hY]
      rcases X with ⟨sx, tx, lx, hx, bx, nx⟩ | ⟨sx, tx⟩
      · have sx : ¬ (e0 (x j).toNatClampNeg).toInt = 0 := sx
        rw [if_neg sx, if_neg tx]
        rcases Y with ⟨sy, ty, ly, hy, by', ny⟩ | ⟨sy, ty⟩
        · have sy : ¬ (e0 (y j).toNatClampNeg).toInt = 0 := sy
          rw [if_neg sy, if_neg ty, lx, hx, ly, hy, nx, ny]
          rcases kf_two (k j) with ⟨h1, h2⟩ | ⟨h1, h2⟩
          · rw [if_neg (show ¬ (kX8_hasTwo (k j)).toInt = 0 by omega)]
            by_cases h5 : 5 < (k j).toInt
            · rw [if_pos h5]
              by_cases h8 : (k j).toInt = 8
              · rw [if_pos h8]
                exact SR.pair8 h8 bx by'
              · rw [if_neg h8]
                by_cases h9 : (k j).toInt = 9
                · rw [if_pos h9]
                  exact SR.pair9 h9 bx by'
                · rw [if_neg h9, if_pos (show (k j).toInt = 14 by omega)]
                  exact SR.rem (by omega) bx by'
            · have hk : 2 ≤ (k j).toInt ∧ (k j).toInt ≤ 5 := by omega
              rw [if_neg h5, sr_ne hk]
              have c6 := sr_c6 e2 e3 (k j) (x j) (y j)
              have cl := sr_lit (k := k j) bx by'
              by_cases hl : (kX6_cornersTellTooLittle e2 e3 (k j) (x j) (y j)).toInt = 0
              · rw [if_pos hl]
                exact SR.corn hk bx by' (cl.mpr (c6.mp hl))
              · rw [if_neg hl, sr_lit1 (fun q => hl (c6.mpr (cl.mp q)))]
                exact SR.all
          · rw [if_pos h1, if_pos (show 5 < (k j).toInt by omega), if_neg (by omega), if_neg (by omega), if_neg (by omega)]
            rw [hyx (by omega) h2]
            exact SR.ends (by omega) bx
        · have sy : (e0 (y j).toNatClampNeg).toInt = 0 := sy
          rw [if_pos sy, if_pos ty]
          exact SR.no (k j)
      · have sx : (e0 (x j).toNatClampNeg).toInt = 0 := sx
        rw [if_pos sx, if_pos tx]
        exact SR.no (k j)
theorem YX.zero (k x y : Nat → Int32) : YX 0 k x y := by
  have h0 : (0 : Int32).toInt = 0 := by decide
  exact fun i hi => absurd hi (by omega)
theorem YX.node {cn : Int32} {k0 k1 k2 : Nat → Int32} (h : YX cn k0 k1 k2) (k4 k5 : Nat → Int64) (hc : 0 ≤ cn.toInt ∧ cn.toInt ≤ 40) (k x y : Int32) : YX (kX7_node_cn9 k0 k1 k2 k4 k5 k x y cn) (kX7_node_v0 k0 k1 k2 k4 k5 k x y cn) (kX7_node_v1 k0 k1 k2 k4 k5 k x y cn) (kX7_node_v2 k0 k1 k2 k4 k5 k x y cn) := by
  rw [kn_c, kn_v0, kn_v1, kn_v2]
  by_cases hs : SQN k x y cn
  · simp only [if_pos hs]
    obtain ⟨q1, q2, q3, q4, q5⟩ := hs
    have e := px_cl hc.1
    have e1 : (cn + 1).toInt = cn.toInt + 1 := sp_inc (by omega)
    intro i hi
    by_cases hj : i = cn.toNatClampNeg
    · subst hj
      simp only [px_updS]
      intro h2 hy
      have hl := kf_lookY k
      unfold YK at hy
      unfold sq_ay sq_ax
      rw [if_pos (by omega), if_neg (by omega)]
    · simp only [px_updO _ _ hj]
      exact h i (by omega)
  · simp only [if_neg hs]
    exact h
