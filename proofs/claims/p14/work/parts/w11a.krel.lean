/-! what belongs together: NODES, settings, RULES of class and reference -/
theorem kf_isVar (v : Int32) : ((kX7_isVariable v).toInt = 1 ∧ (0 ≤ v.toInt ∧ v.toInt < 4)) ∨ ((kX7_isVariable v).toInt = 0 ∧ ¬ (0 ≤ v.toInt ∧ v.toInt < 4)) := by
  unfold kX7_isVariable
  (repeat' split) <;> first | exact Or.inl ⟨rfl, by omega⟩ | exact Or.inr ⟨rfl, by omega⟩
theorem kf_isPlace (v : Int32) : ((kX7_isPlace v).toInt = 1 ∧ (-2139095041 ≤ v.toInt ∧ v.toInt ≤ 2139095040)) ∨ ((kX7_isPlace v).toInt = 0 ∧ ¬ (-2139095041 ≤ v.toInt ∧ v.toInt ≤ 2139095040)) := by
  unfold kX7_isPlace
  (repeat' split) <;> first | exact Or.inl ⟨rfl, by omega⟩ | exact Or.inr ⟨rfl, by omega⟩
theorem kf_lookX (v : Int32) : ((kX3_looksAtX v).toInt = 1 ∧ (2 ≤ v.toInt ∧ v.toInt ≤ 15)) ∨ ((kX3_looksAtX v).toInt = 0 ∧ ¬ (2 ≤ v.toInt ∧ v.toInt ≤ 15)) := by
  unfold kX3_looksAtX
  (repeat' split) <;> first | exact Or.inl ⟨rfl, by omega⟩ | exact Or.inr ⟨rfl, by omega⟩
theorem kf_lookY (v : Int32) : ((kX3_looksAtY v).toInt = 1 ∧ ((2 ≤ v.toInt ∧ v.toInt ≤ 5) ∨ v.toInt = 8 ∨ v.toInt = 9 ∨ v.toInt = 14)) ∨ ((kX3_looksAtY v).toInt = 0 ∧ ¬ ((2 ≤ v.toInt ∧ v.toInt ≤ 5) ∨ v.toInt = 8 ∨ v.toInt = 9 ∨ v.toInt = 14)) := by
  unfold kX3_looksAtY
  rcases (show v.toInt < 2 ∨ 14 < v.toInt ∨ v.toInt = 2 ∨ v.toInt = 3 ∨ v.toInt = 4 ∨ v.toInt = 5 ∨ v.toInt = 6 ∨ v.toInt = 7 ∨ v.toInt = 8 ∨ v.toInt = 9 ∨ v.toInt = 10 ∨ v.toInt = 11 ∨ v.toInt = 12 ∨ v.toInt = 13 ∨ v.toInt = 14 by omega) with h | h | h | h | h | h | h | h | h | h | h | h | h | h | h
  · rw [if_pos h]
    exact Or.inr ⟨by decide, by omega⟩
  · rw [if_neg (by omega), if_pos h]
    exact Or.inr ⟨by decide, by omega⟩
  · simp only [h, Int.reduceLT, Int.reduceEq, ↓reduceIte]
    decide
  · simp only [h, Int.reduceLT, Int.reduceEq, ↓reduceIte]
    decide
  · simp only [h, Int.reduceLT, Int.reduceEq, ↓reduceIte]
    decide
  · simp only [h, Int.reduceLT, Int.reduceEq, ↓reduceIte]
    decide
  · simp only [h, Int.reduceLT, Int.reduceEq, ↓reduceIte]
    decide
  · simp only [h, Int.reduceLT, Int.reduceEq, ↓reduceIte]
    decide
  · simp only [h, Int.reduceLT, Int.reduceEq, ↓reduceIte]
    decide
  · simp only [h, Int.reduceLT, Int.reduceEq, ↓reduceIte]
    decide
  · simp only [h, Int.reduceLT, Int.reduceEq, ↓reduceIte]
    decide
  · simp only [h, Int.reduceLT, Int.reduceEq, ↓reduceIte]
    decide
  · simp only [h, Int.reduceLT, Int.reduceEq, ↓reduceIte]
    decide
  · simp only [h, Int.reduceLT, Int.reduceEq, ↓reduceIte]
    decide
  · simp only [h, Int.reduceLT, Int.reduceEq, ↓reduceIte]
    decide
theorem kf_has (i c : Int32) : ((kX3_has i c).toInt = 1 ∧ (0 ≤ i.toInt ∧ i.toInt < c.toInt)) ∨ ((kX3_has i c).toInt = 0 ∧ ¬ (0 ≤ i.toInt ∧ i.toInt < c.toInt)) := by
  unfold kX3_has
  (repeat' split) <;> first | exact Or.inl ⟨rfl, by omega⟩ | exact Or.inr ⟨rfl, by omega⟩
theorem kf_rhas (i c : Int32) : ((kX4_has i c).toInt = 1 ∧ (0 ≤ i.toInt ∧ i.toInt < c.toInt)) ∨ ((kX4_has i c).toInt = 0 ∧ ¬ (0 ≤ i.toInt ∧ i.toInt < c.toInt)) := by
  unfold kX4_has
  (repeat' split) <;> first | exact Or.inl ⟨rfl, by omega⟩ | exact Or.inr ⟨rfl, by omega⟩
theorem kf_in (a b c : Int64) : ((kX8_in a b c).toInt = 1 ∧ (b.toInt ≤ a.toInt ∧ a.toInt ≤ c.toInt)) ∨ ((kX8_in a b c).toInt = 0 ∧ ¬ (b.toInt ≤ a.toInt ∧ a.toInt ≤ c.toInt)) := by
  unfold kX8_in
  (repeat' split) <;> first | exact Or.inl ⟨rfl, by omega⟩ | exact Or.inr ⟨rfl, by omega⟩
theorem kf_inI (a : Int32) (b c : Int64) (b' c' : Int) (hb : b.toInt = b') (hc : c.toInt = c') : ((kX8_in a.toInt64 b c).toInt = 1 ∧ (b' ≤ a.toInt ∧ a.toInt ≤ c')) ∨ ((kX8_in a.toInt64 b c).toInt = 0 ∧ ¬ (b' ≤ a.toInt ∧ a.toInt ≤ c')) := by
  have h := kf_in a.toInt64 b c
  rw [Int32.toInt_toInt64, hb, hc] at h
  exact h
theorem kf_lt {i c : Int32} (hc : 0 ≤ c.toInt ∧ c.toInt ≤ 40) : ((kX8_in i.toInt64 0 ((c - 1 : Int32).toInt64)).toInt = 1 ∧ (0 ≤ i.toInt ∧ i.toInt < c.toInt)) ∨ ((kX8_in i.toInt64 0 ((c - 1 : Int32).toInt64)).toInt = 0 ∧ ¬ (0 ≤ i.toInt ∧ i.toInt < c.toInt)) := by
  have c1 : (1 : Int32).toInt = 1 := by decide
  have h1 : (c - 1 : Int32).toInt = c.toInt - 1 := by rw [px_isub (by omega) (by omega), c1]
  have h := kf_inI i 0 ((c - 1 : Int32).toInt64) 0 (c.toInt - 1) (by decide) (by rw [Int32.toInt_toInt64, h1])
  omega
theorem kf_isNode {i c : Int32} (hc : 0 ≤ c.toInt ∧ c.toInt ≤ 40) : ((kX8_isNode i c).toInt = 1 ∧ (0 ≤ i.toInt ∧ i.toInt < c.toInt)) ∨ ((kX8_isNode i c).toInt = 0 ∧ ¬ (0 ≤ i.toInt ∧ i.toInt < c.toInt)) := kf_lt hc
theorem kf_two (v : Int32) : ((kX8_hasTwo v).toInt = 1 ∧ ((2 ≤ v.toInt ∧ v.toInt ≤ 5) ∨ v.toInt = 8 ∨ v.toInt = 9 ∨ v.toInt = 14)) ∨ ((kX8_hasTwo v).toInt = 0 ∧ ¬ ((2 ≤ v.toInt ∧ v.toInt ≤ 5) ∨ v.toInt = 8 ∨ v.toInt = 9 ∨ v.toInt = 14)) := by
  have h := kf_inI v 2 5 2 5 (by decide) (by decide)
  unfold kX8_hasTwo
  (repeat' split) <;> first | exact Or.inl ⟨rfl, by omega⟩ | exact Or.inr ⟨rfl, by omega⟩
abbrev SQN (k x y c : Int32) : Prop := (0 ≤ k.toInt ∧ k.toInt ≤ 15) ∧ (k.toInt = 1 → 0 ≤ x.toInt ∧ x.toInt < 4) ∧ (2 ≤ k.toInt → 0 ≤ x.toInt ∧ x.toInt < c.toInt) ∧ ((2 ≤ k.toInt ∧ k.toInt ≤ 5) ∨ k.toInt = 8 ∨ k.toInt = 9 ∨ k.toInt = 14 → 0 ≤ y.toInt ∧ y.toInt < c.toInt) ∧ ¬ c.toInt = 40
def sq_ax (k x : Int32) : Int32 := if k.toInt = 0 then (if (kX2_isNone x).toInt = 0 then x else 2143289344) else x
def sq_ay (k x y : Int32) : Int32 := if (kX3_looksAtY k).toInt = 0 then x else y
theorem ka_v0 (k0 k1 k2 : Nat → Int32) (k4 k5 : Nat → Int64) (k x y cn : Int32) : kX3_add_v0 k0 k1 k2 k4 k5 k x y cn = upd k0 cn.toNatClampNeg k := by
  unfold kX3_add_v0
  simp only [ite_self]
theorem ka_v1 (k0 k1 k2 : Nat → Int32) (k4 k5 : Nat → Int64) (k x y cn : Int32) : kX3_add_v1 k0 k1 k2 k4 k5 k x y cn = upd k1 cn.toNatClampNeg (sq_ax k x) := by
  unfold kX3_add_v1 sq_ax
  simp only [ite_self]
  (repeat' split) <;> first | rfl | (exfalso; omega)
theorem ka_v2 (k0 k1 k2 : Nat → Int32) (k4 k5 : Nat → Int64) (k x y cn : Int32) : kX3_add_v2 k0 k1 k2 k4 k5 k x y cn = upd k2 cn.toNatClampNeg (sq_ay k x y) := by
  unfold kX3_add_v2 sq_ay
  simp only [ite_self]
  (repeat' split) <;> first | rfl | (exfalso; omega)
theorem kn_gen {α : Type} (k x y cn : Int32) (f g : α) : (if k.toInt < 0 then f else (if k.toInt ≤ 15 then (if k.toInt = 1 then (if (kX7_isVariable x).toInt = 0 then f else (if (kX3_looksAtX k).toInt = 0 then (if (kX3_looksAtY k).toInt = 0 then (if cn.toInt = 40 then f else g) else (if (kX3_has y cn).toInt = 0 then f else (if cn.toInt = 40 then f else g))) else (if (kX3_has x cn).toInt = 0 then f else (if (kX3_looksAtY k).toInt = 0 then (if cn.toInt = 40 then f else g) else (if (kX3_has y cn).toInt = 0 then f else (if cn.toInt = 40 then f else g)))))) else (if (kX3_looksAtX k).toInt = 0 then (if (kX3_looksAtY k).toInt = 0 then (if cn.toInt = 40 then f else g) else (if (kX3_has y cn).toInt = 0 then f else (if cn.toInt = 40 then f else g))) else (if (kX3_has x cn).toInt = 0 then f else (if (kX3_looksAtY k).toInt = 0 then (if cn.toInt = 40 then f else g) else (if (kX3_has y cn).toInt = 0 then f else (if cn.toInt = 40 then f else g)))))) else f)) = if SQN k x y cn then g else f := by
  have h1 := kf_isVar x
  have h2 := kf_lookX k
  have h3 := kf_lookY k
  have h4 := kf_has x cn
  have h5 := kf_has y cn
  by_cases h : SQN k x y cn
  · rw [if_pos h]
    obtain ⟨q1, q2, q3, q4, q5⟩ := h
    (repeat' split) <;> first | rfl | (exfalso; omega)
  · rw [if_neg h]
    have hq : ¬ ((0 ≤ k.toInt ∧ k.toInt ≤ 15) ∧ (k.toInt = 1 → 0 ≤ x.toInt ∧ x.toInt < 4) ∧ (2 ≤ k.toInt → 0 ≤ x.toInt ∧ x.toInt < cn.toInt) ∧ ((2 ≤ k.toInt ∧ k.toInt ≤ 5) ∨ k.toInt = 8 ∨ k.toInt = 9 ∨ k.toInt = 14 → 0 ≤ y.toInt ∧ y.toInt < cn.toInt) ∧ ¬ cn.toInt = 40) := h
    clear h
    (repeat' split) <;> first | rfl | (exfalso; omega)
theorem kn_c (k0 k1 k2 : Nat → Int32) (k4 k5 : Nat → Int64) (k x y cn : Int32) : kX7_node_cn9 k0 k1 k2 k4 k5 k x y cn = if SQN k x y cn then cn + 1 else cn := kn_gen k x y cn cn (cn + 1)
theorem kn_v0 (k0 k1 k2 : Nat → Int32) (k4 k5 : Nat → Int64) (k x y cn : Int32) : kX7_node_v0 k0 k1 k2 k4 k5 k x y cn = if SQN k x y cn then upd k0 cn.toNatClampNeg k else k0 := by
  rw [← ka_v0 k0 k1 k2 k4 k5 k x y cn]
  exact kn_gen k x y cn k0 _
theorem kn_v1 (k0 k1 k2 : Nat → Int32) (k4 k5 : Nat → Int64) (k x y cn : Int32) : kX7_node_v1 k0 k1 k2 k4 k5 k x y cn = if SQN k x y cn then upd k1 cn.toNatClampNeg (sq_ax k x) else k1 := by
  rw [← ka_v1 k0 k1 k2 k4 k5 k x y cn]
  exact kn_gen k x y cn k1 _
theorem kn_v2 (k0 k1 k2 : Nat → Int32) (k4 k5 : Nat → Int64) (k x y cn : Int32) : kX7_node_v2 k0 k1 k2 k4 k5 k x y cn = if SQN k x y cn then upd k2 cn.toNatClampNeg (sq_ay k x y) else k2 := by
  rw [← ka_v2 k0 k1 k2 k4 k5 k x y cn]
  exact kn_gen k x y cn k2 _
theorem km_gen {α : Type} (k x y mn : Int32) (hmn : 0 ≤ mn.toInt ∧ mn.toInt ≤ 40) (f g : α) : (if k.toInt = 1 then (if (kX8_in x.toInt64 0 3).toInt = 0 then f else (if (kX8_in k.toInt64 0 15).toInt = 0 then f else (if mn.toInt = 40 then f else g))) else (if (kX8_in k.toInt64 2 15).toInt = 0 then (if (kX8_in k.toInt64 0 15).toInt = 0 then f else (if mn.toInt = 40 then f else g)) else (if (kX8_isNode x mn).toInt = 0 then f else (if (kX8_hasTwo k).toInt = 0 then (if (kX8_in k.toInt64 0 15).toInt = 0 then f else (if mn.toInt = 40 then f else g)) else (if (kX8_isNode y mn).toInt = 0 then f else (if (kX8_in k.toInt64 0 15).toInt = 0 then f else (if mn.toInt = 40 then f else g))))))) = if SQN k x y mn then g else f := by
  have h1 := kf_inI x 0 3 0 3 (by decide) (by decide)
  have h2 := kf_inI k 0 15 0 15 (by decide) (by decide)
  have h3 := kf_inI k 2 15 2 15 (by decide) (by decide)
  have h4 := kf_isNode (i := x) hmn
  have h5 := kf_isNode (i := y) hmn
  have h6 := kf_two k
  by_cases h : SQN k x y mn
  · rw [if_pos h]
    obtain ⟨q1, q2, q3, q4, q5⟩ := h
    (repeat' split) <;> first | rfl | (exfalso; omega)
  · rw [if_neg h]
    have hq : ¬ ((0 ≤ k.toInt ∧ k.toInt ≤ 15) ∧ (k.toInt = 1 → 0 ≤ x.toInt ∧ x.toInt < 4) ∧ (2 ≤ k.toInt → 0 ≤ x.toInt ∧ x.toInt < mn.toInt) ∧ ((2 ≤ k.toInt ∧ k.toInt ≤ 5) ∨ k.toInt = 8 ∨ k.toInt = 9 ∨ k.toInt = 14 → 0 ≤ y.toInt ∧ y.toInt < mn.toInt) ∧ ¬ mn.toInt = 40) := h
    clear h
    (repeat' split) <;> first | rfl | (exfalso; omega)
theorem km_c (a b c : Nat → Int32) (k x y mn : Int32) (hmn : 0 ≤ mn.toInt ∧ mn.toInt ≤ 40) : kX8_node_mn9 a b c k x y mn = if SQN k x y mn then mn + 1 else mn := km_gen k x y mn hmn mn (mn + 1)
theorem km_k (a b c : Nat → Int32) (k x y mn : Int32) (hmn : 0 ≤ mn.toInt ∧ mn.toInt ≤ 40) : kX8_node_v_kind a b c k x y mn = if SQN k x y mn then upd a mn.toNatClampNeg k else a := km_gen k x y mn hmn a _
theorem km_x (a b c : Nat → Int32) (k x y mn : Int32) (hmn : 0 ≤ mn.toInt ∧ mn.toInt ≤ 40) : kX8_node_v_opX a b c k x y mn = if SQN k x y mn then upd b mn.toNatClampNeg x else b := km_gen k x y mn hmn b _
theorem km_y (a b c : Nat → Int32) (k x y mn : Int32) (hmn : 0 ≤ mn.toInt ∧ mn.toInt ≤ 40) : kX8_node_v_opY a b c k x y mn = if SQN k x y mn then upd c mn.toNatClampNeg y else c := km_gen k x y mn hmn c _
theorem km_eq (k0 k1 k2 : Nat → Int32) (k4 k5 : Nat → Int64) (a b c : Nat → Int32) (k x y cn : Int32) (hc : 0 ≤ cn.toInt ∧ cn.toInt ≤ 40) : kX8_node_mn9 a b c k x y cn = kX7_node_cn9 k0 k1 k2 k4 k5 k x y cn := by rw [km_c a b c k x y cn hc, kn_c]
/-! NODES -/
def YK (k : Int32) : Prop := (2 ≤ k.toInt ∧ k.toInt ≤ 5) ∨ k.toInt = 8 ∨ k.toInt = 9 ∨ k.toInt = 14
def RN (c : Int32) (k x y k' x' y' : Nat → Int32) : Prop := ∀ i : Nat, (i : Int) < c.toInt → k' i = k i ∧ ((k i).toInt = 0 → VR (x i) (kX8_fromBits (x' i))) ∧ (1 ≤ (k i).toInt → x' i = x i) ∧ (YK (k i) → y' i = y i)
theorem RN.zero (k x y k' x' y' : Nat → Int32) : RN 0 k x y k' x' y' := by
  have h0 : (0 : Int32).toInt = 0 := by decide
  exact fun i hi => absurd hi (by omega)
theorem sq_ax0 {k x : Int32} (h : k.toInt = 0) : VR (sq_ax k x) (kX8_fromBits x) := by
  unfold sq_ax
  rw [if_pos h]
  exact kv_bits x
theorem RN.node {cn : Int32} {k0 k1 k2 a b c : Nat → Int32} (h : RN cn k0 k1 k2 a b c) (k4 k5 : Nat → Int64) (hc : 0 ≤ cn.toInt ∧ cn.toInt ≤ 40) (k x y : Int32) : RN (kX7_node_cn9 k0 k1 k2 k4 k5 k x y cn) (kX7_node_v0 k0 k1 k2 k4 k5 k x y cn) (kX7_node_v1 k0 k1 k2 k4 k5 k x y cn) (kX7_node_v2 k0 k1 k2 k4 k5 k x y cn) (kX8_node_v_kind a b c k x y cn) (kX8_node_v_opX a b c k x y cn) (kX8_node_v_opY a b c k x y cn) := by
  rw [kn_c, kn_v0, kn_v1, kn_v2, km_k a b c k x y cn hc, km_x a b c k x y cn hc, km_y a b c k x y cn hc]
  by_cases hs : SQN k x y cn
  · simp only [if_pos hs]
    obtain ⟨q1, q2, q3, q4, q5⟩ := hs
    have e := px_cl hc.1
    have e1 : (cn + 1).toInt = cn.toInt + 1 := sp_inc (by omega)
    intro i hi
    by_cases hj : i = cn.toNatClampNeg
    · subst hj
      simp only [px_updS]
      refine ⟨trivial, fun h0 => sq_ax0 h0, fun h1 => ?_, fun h2 => ?_⟩
      · unfold sq_ax
        rw [if_neg (by omega)]
      · have hy := kf_lookY k
        unfold YK at h2
        unfold sq_ay
        rw [if_neg (by omega)]
    · simp only [px_updO _ _ hj]
      exact h i (by omega)
  · simp only [if_neg hs]
    exact h
/-! VALUES of all NODES: each is what its kind makes of those ahead of it -/
def cv1 (k x y s v : Nat → Int32) (j : Nat) : Int32 := if (k j).toInt = 0 then x j else if (k j).toInt = 1 then kX2_bitsAt (s (x j).toNatClampNeg) else if (kX3_looksAtY (k j)).toInt = 0 then kX0_ofOne (k j) (v (x j).toNatClampNeg) else kX0_ofTwo (k j) (v (x j).toNatClampNeg) (v (y j).toNatClampNeg)
def rv1 (k x y : Nat → Int32) (s w : Nat → Int64) (j : Nat) : Int64 := if (k j).toInt = 0 then kX8_fromBits (x j) else if (k j).toInt = 1 then s (x j).toNatClampNeg else kX8_valueOf (k j) (w (x j).toNatClampNeg) (if (kX8_hasTwo (k j)).toInt = 0 then 0 else w (y j).toNatClampNeg)
theorem cv_step (k0 k1 k2 k3 fs : Nat → Int32) (cn i : Int32) (v : Nat → Int32) : kX3_evaluate_l2_142_z28 k0 k1 k2 k3 fs cn i v = upd v i.toNatClampNeg (cv1 k0 k1 k2 fs v i.toNatClampNeg) := by
  unfold kX3_evaluate_l2_142_z28 kX3_evaluate_l2_142_z24 kX3_evaluate_l2_142_z17 cv1
  (repeat' split) <;> first | rfl | (exfalso; omega)
theorem rv_step (a b c : Nat → Int32) (d fr : Nat → Int64) (up i : Int32) (v : Nat → Int64) : kX8_work_l2_102_z25 a b c d fr up i v = rv1 a b c fr v i.toNatClampNeg := by
  unfold kX8_work_l2_102_z25 kX8_work_l2_102_z18 kX8_work_l2_99_z11 rv1
  rfl
theorem cv_cong {k x y s v v' : Nat → Int32} {c : Int32} (hni : NI c k x y) {j : Nat} (hj : (j : Int) < c.toInt) (h : ∀ u : Nat, u < j → v' u = v u) : cv1 k x y s v' j = cv1 k x y s v j := by
  obtain ⟨q0, q1, q2⟩ := hni
  obtain ⟨p1, p2, p3, p4⟩ := q2 j hj
  unfold cv1
  by_cases h0 : (k j).toInt = 0
  · rw [if_pos h0, if_pos h0]
  · rw [if_neg h0, if_neg h0]
    by_cases h1 : (k j).toInt = 1
    · rw [if_pos h1, if_pos h1]
    · rw [if_neg h1, if_neg h1]
      obtain ⟨r1, r2⟩ := p4 (by omega)
      have e1 := px_cl r1.1
      have e2 := px_cl r2.1
      rw [h _ (by omega), h _ (by omega)]
theorem cv_fix {k0 k1 k2 k3 fs : Nat → Int32} {cn : Int32} (hni : NI cn k0 k1 k2) : ∀ (fuel : Nat) (i : Int32) (v : Nat → Int32), 0 ≤ i.toInt → i.toInt ≤ cn.toInt → cn.toInt - i.toInt < fuel → (∀ j : Nat, (j : Int) < i.toInt → v j = cv1 k0 k1 k2 fs v j) → ∀ j : Nat, (j : Int) < cn.toInt → kX3_evaluate_l2_v3 fuel k0 k1 k2 k3 fs cn i v j = cv1 k0 k1 k2 fs (kX3_evaluate_l2_v3 fuel k0 k1 k2 k3 fs cn i v) j := by
  intro fuel
  induction fuel with
  | zero => intro i v _ _ h; exact absurd h (by omega)
  | succ fuel ih =>
    intro i v h0 h1 hf hv
    have hc := hni.2.1
    rw [kX3_evaluate_l2_v3_S]
    by_cases hq : cn.toInt ≤ i.toInt
    · rw [if_pos hq]
      exact fun j hj => hv j (by omega)
    · rw [if_neg hq, cv_step]
      have e := px_cl h0
      have e1 : (i + 1).toInt = i.toInt + 1 := sp_inc (by omega)
      refine ih (i + 1) _ (by omega) (by omega) (by omega) (fun j hj => ?_)
      by_cases hji : j = i.toNatClampNeg
      · rw [cv_cong (v := v) hni (by omega) (fun u hu => px_updO _ _ (by omega)), hji, px_updS]
      · rw [px_updO _ _ hji, cv_cong (v := v) hni (by omega) (fun u hu => px_updO _ _ (by omega))]
        exact hv j (by omega)
def MIX (c : Int32) (k x y : Nat → Int32) : Prop := ∀ i : Nat, (i : Int) < c.toInt → (2 ≤ (k i).toInt → (0 ≤ (x i).toInt ∧ (x i).toInt < i)) ∧ (YK (k i) → 0 ≤ (y i).toInt ∧ (y i).toInt < i) ∧ 0 ≤ (k i).toInt
theorem rv_cong {k x y : Nat → Int32} {s w w' : Nat → Int64} {c : Int32} (hm : MIX c k x y) {j : Nat} (hj : (j : Int) < c.toInt) (h : ∀ u : Nat, u < j → w' u = w u) : rv1 k x y s w' j = rv1 k x y s w j := by
  obtain ⟨p1, p2, p3⟩ := hm j hj
  have ht := kf_two (k j)
  unfold rv1
  by_cases h0 : (k j).toInt = 0
  · rw [if_pos h0, if_pos h0]
  · rw [if_neg h0, if_neg h0]
    by_cases h1 : (k j).toInt = 1
    · rw [if_pos h1, if_pos h1]
    · rw [if_neg h1, if_neg h1]
      have r1 := p1 (by omega)
      have e1 := px_cl r1.1
      rw [h _ (by omega)]
      by_cases h2 : (kX8_hasTwo (k j)).toInt = 0
      · rw [if_pos h2, if_pos h2]
      · have r2 := p2 (by unfold YK; omega)
        have e2 := px_cl r2.1
        rw [if_neg h2, if_neg h2, h _ (by omega)]
theorem rv_fix {a b c : Nat → Int32} {d fr : Nat → Int64} {cn up : Int32} (hm : MIX cn a b c) (hc : cn.toInt ≤ 40) (hup : up.toInt < cn.toInt) : ∀ (fuel : Nat) (i : Int32) (v : Nat → Int64), 0 ≤ i.toInt → i.toInt ≤ up.toInt + 1 → up.toInt + 1 - i.toInt < fuel → (∀ j : Nat, (j : Int) < i.toInt → v j = rv1 a b c fr v j) → ∀ j : Nat, (j : Int) ≤ up.toInt → kX8_work_l2_v_worth fuel a b c d fr up i v j = rv1 a b c fr (kX8_work_l2_v_worth fuel a b c d fr up i v) j := by
  intro fuel
  induction fuel with
  | zero => intro i v _ _ h; exact absurd h (by omega)
  | succ fuel ih =>
    intro i v h0 h1 hf hv
    rw [kX8_work_l2_v_worth_S]
    by_cases hq : up.toInt < i.toInt
    · rw [if_pos hq]
      exact fun j hj => hv j (by omega)
    · rw [if_neg hq, rv_step]
      have e := px_cl h0
      have e1 : (i + 1).toInt = i.toInt + 1 := sp_inc (by omega)
      refine ih (i + 1) _ (by omega) (by omega) (by omega) (fun j hj => ?_)
      by_cases hji : j = i.toNatClampNeg
      · rw [rv_cong (w := v) hm (by omega) (fun u hu => px_ulO _ _ (by omega)), hji, px_ulS]
      · rw [px_ulO _ _ hji, rv_cong (w := v) hm (by omega) (fun u hu => px_ulO _ _ (by omega))]
        exact hv j (by omega)
def RS (fs : Nat → Int32) (mv : Nat → Int64) : Prop := ∀ v : Nat, v < 4 → mv v = (fs v).toInt64 ∧ -2139095041 ≤ (fs v).toInt ∧ (fs v).toInt ≤ 2139095040
theorem RS.start : RS (fun _ => 0) (fun _ => 0) := fun v _ => ⟨by show (0 : Int64) = (0 : Int32).toInt64; decide, by show (-2139095041 : Int) ≤ (0 : Int32).toInt; decide, by show (0 : Int32).toInt ≤ 2139095040; decide⟩
theorem RS.set {fs : Nat → Int32} {mv : Nat → Int64} (h : RS fs mv) (v lo : Int32) : RS (kX7_set_fs9 fs v lo) (kX8_set_v_var mv v lo) := by
  have h1 := kf_isVar v
  have h2 := kf_isPlace lo
  have h3 := kf_inI v 0 3 0 3 (by decide) (by decide)
  have h4 := kf_inI lo (-2139095041) 2139095040 (-2139095041) 2139095040 (by decide) (by decide)
  unfold kX7_set_fs9 kX8_set_v_var
  by_cases hv : 0 ≤ v.toInt ∧ v.toInt < 4
  · have a1 : ¬ (kX7_isVariable v).toInt = 0 := by omega
    have a2 : ¬ (kX8_in v.toInt64 0 3).toInt = 0 := by omega
    rw [if_neg a1, if_neg a2]
    by_cases hp : -2139095041 ≤ lo.toInt ∧ lo.toInt ≤ 2139095040
    · have b1 : ¬ (kX7_isPlace lo).toInt = 0 := by omega
      have b2 : ¬ (kX8_in lo.toInt64 (-2139095041) 2139095040).toInt = 0 := by omega
      rw [if_neg b1, if_neg b2]
      intro u hu
      by_cases hu2 : u = v.toNatClampNeg
      · subst hu2
        rw [px_ulS, px_updS]
        exact ⟨rfl, hp.1, hp.2⟩
      · rw [px_ulO _ _ hu2, px_updO _ _ hu2]
        exact h u hu
    · have b1 : (kX7_isPlace lo).toInt = 0 := by omega
      have b2 : (kX8_in lo.toInt64 (-2139095041) 2139095040).toInt = 0 := by omega
      rw [if_pos b1, if_pos b2]
      exact h
  · have a1 : (kX7_isVariable v).toInt = 0 := by omega
    have a2 : (kX8_in v.toInt64 0 3).toInt = 0 := by omega
    rw [if_pos a1, if_pos a2]
    exact h
theorem RN.mix {cn : Int32} {k0 k1 k2 a b c : Nat → Int32} (hni : NI cn k0 k1 k2) (h : RN cn k0 k1 k2 a b c) : MIX cn a b c := by
  intro i hi
  obtain ⟨q0, q1, q2⟩ := hni
  obtain ⟨p1, p2, p3, p4⟩ := q2 i hi
  obtain ⟨r1, r2, r3, r4⟩ := h i hi
  rw [r1]
  refine ⟨fun h2 => ?_, fun hy => ?_, p1⟩
  · rw [r3 (by omega)]
    exact (p4 h2).1
  · rw [r4 hy]
    exact (p4 (by unfold YK at hy; omega)).2
theorem ev_VR {cn up : Int32} {k0 k1 k2 k3 fs a b c : Nat → Int32} {d fr : Nat → Int64} (hni : NI cn k0 k1 k2) (hrn : RN cn k0 k1 k2 a b c) (hrs : RS fs fr) (hup : -1 ≤ up.toInt ∧ up.toInt < cn.toInt) : ∀ j : Nat, (j : Int) ≤ up.toInt → VR (kX3_evaluate_v3 k0 k1 k2 k3 fs cn j) (kX8_work_v_worth a b c d fr up j) := by
  have hm := RN.mix hni hrn
  have h0 : (0 : Int32).toInt = 0 := by decide
  have hc := hni.2.1
  have hc0 := hni.1
  have C := cv_fix (k3 := k3) (fs := fs) hni 42 0 k3 (by omega) (by omega) (by omega) (fun j hj => absurd hj (by omega))
  have R := rv_fix (d := d) (fr := fr) hm hc hup.2 44 0 d (by omega) (by omega) (by omega) (fun j hj => absurd hj (by omega))
  have eC : kX3_evaluate_v3 k0 k1 k2 k3 fs cn = kX3_evaluate_l2_v3 42 k0 k1 k2 k3 fs cn 0 k3 := rfl
  have eR : kX8_work_v_worth a b c d fr up = kX8_work_l2_v_worth 44 a b c d fr up 0 d := rfl
  rw [← eC] at C
  rw [← eR] at R
  intro j
  induction j using Nat.strongRecOn with
  | ind j ih =>
    intro hj
    obtain ⟨p1, p2, p3, p4⟩ := hni.2.2 j (by omega)
    obtain ⟨r1, r2, r3, r4⟩ := hrn j (by omega)
    have hy := kf_lookY (k0 j)
    have ht := kf_two (k0 j)
    rw [C j (by omega), R j hj]
    unfold cv1 rv1
    rw [r1]
    by_cases g0 : (k0 j).toInt = 0
    · rw [if_pos g0, if_pos g0]
      exact r2 g0
    · rw [if_neg g0, if_neg g0, r3 (by omega)]
      by_cases g1 : (k0 j).toInt = 1
      · rw [if_pos g1, if_pos g1]
        have hx := p3 g1
        obtain ⟨s1, s2, s3⟩ := hrs (k1 j).toNatClampNeg (sp_clamp hx.1 hx.2)
        exact kv_placeV s1.symm s2 s3
      · rw [if_neg g1, if_neg g1]
        obtain ⟨x1, x2⟩ := p4 (by omega)
        have e1 := px_cl x1.1
        have e2 := px_cl x2.1
        have V1 := ih (k1 j).toNatClampNeg (by omega) (by omega)
        by_cases g2 : (kX3_looksAtY (k0 j)).toInt = 0
        · rw [if_pos g2]
          exact kv_one _ V1 (by omega)
        · rw [if_neg g2, if_neg (by omega), r4 (by unfold YK; omega)]
          exact kv_two V1 (ih (k2 j).toNatClampNeg (by omega) (by omega)) (by omega)
theorem val_eq {cn : Int32} {k0 k1 k2 k3 fs a b c : Nat → Int32} {d mv : Nat → Int64} (hni : NI cn k0 k1 k2) (hrn : RN cn k0 k1 k2 a b c) (hrs : RS fs mv) (i : Int32) : kX8_value a b c d mv i cn = kX7_value k0 k1 k2 k3 fs i cn := by
  have h1 := kf_has i cn
  have h2 := kf_isNode (i := i) (c := cn) ⟨hni.1, hni.2.1⟩
  unfold kX8_value kX7_value
  by_cases h : 0 ≤ i.toInt ∧ i.toInt < cn.toInt
  · rw [if_neg (by omega), if_neg (by omega)]
    have e := px_cl h.1
    exact kv_toBits (ev_VR hni hrn hrs ⟨by omega, h.2⟩ _ (by omega))
  · rw [if_pos (by omega), if_pos (by omega)]
/-! RULES -/
abbrev SQR (k x y c d : Int32) : Prop := (0 ≤ x.toInt ∧ x.toInt < c.toInt) ∧ (¬ k.toInt = 4 ∧ ¬ k.toInt = 5 → 0 ≤ y.toInt ∧ y.toInt < c.toInt) ∧ (0 ≤ k.toInt ∧ k.toInt ≤ 5) ∧ ¬ d.toInt = 12
theorem kr_c (rk ra rb : Nat → Int32) (k x y cn rc : Int32) : kX7_rule_rc9 rk ra rb k x y cn rc = if SQR k x y cn rc then rc + 1 else rc := by
  have h4 := kf_has x cn
  have h5 := kf_has y cn
  unfold kX7_rule_rc9
  by_cases h : SQR k x y cn rc
  · rw [if_pos h]
    obtain ⟨q1, q2, q3, q4⟩ := h
    (repeat' split) <;> first | rfl | (exfalso; omega)
  · rw [if_neg h]
    have hq : ¬ ((0 ≤ x.toInt ∧ x.toInt < cn.toInt) ∧ (¬ k.toInt = 4 ∧ ¬ k.toInt = 5 → 0 ≤ y.toInt ∧ y.toInt < cn.toInt) ∧ (0 ≤ k.toInt ∧ k.toInt ≤ 5) ∧ ¬ rc.toInt = 12) := h
    clear h
    (repeat' split) <;> first | rfl | (exfalso; omega)
theorem kmr_gen {α : Type} (k x y mn mr : Int32) (hmn : 0 ≤ mn.toInt ∧ mn.toInt ≤ 40) (f g : α) : (if (kX8_isNode x mn).toInt = 0 then f else (if 4 ≤ k.toInt then (if (kX8_in k.toInt64 0 5).toInt = 0 then f else (if mr.toInt = 12 then f else g)) else (if (kX8_isNode y mn).toInt = 0 then f else (if (kX8_in k.toInt64 0 5).toInt = 0 then f else (if mr.toInt = 12 then f else g))))) = if SQR k x y mn mr then g else f := by
  have h2 := kf_inI k 0 5 0 5 (by decide) (by decide)
  have h4 := kf_isNode (i := x) hmn
  have h5 := kf_isNode (i := y) hmn
  by_cases h : SQR k x y mn mr
  · rw [if_pos h]
    obtain ⟨q1, q2, q3, q4⟩ := h
    (repeat' split) <;> first | rfl | (exfalso; omega)
  · rw [if_neg h]
    have hq : ¬ ((0 ≤ x.toInt ∧ x.toInt < mn.toInt) ∧ (¬ k.toInt = 4 ∧ ¬ k.toInt = 5 → 0 ≤ y.toInt ∧ y.toInt < mn.toInt) ∧ (0 ≤ k.toInt ∧ k.toInt ≤ 5) ∧ ¬ mr.toInt = 12) := h
    clear h
    (repeat' split) <;> first | rfl | (exfalso; omega)
theorem kmr_c (a b c : Nat → Int32) (k x y mn mr : Int32) (hmn : 0 ≤ mn.toInt ∧ mn.toInt ≤ 40) : kX8_rule_mr9 a b c k x y mn mr = if SQR k x y mn mr then mr + 1 else mr := kmr_gen k x y mn mr hmn mr (mr + 1)
theorem kr_eq (rk ra rb a b c : Nat → Int32) (k x y cn rc : Int32) (hc : 0 ≤ cn.toInt ∧ cn.toInt ≤ 40) : kX8_rule_mr9 a b c k x y cn rc = kX7_rule_rc9 rk ra rb k x y cn rc := by rw [kmr_c a b c k x y cn rc hc, kr_c]
