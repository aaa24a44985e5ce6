/-! RULES: kept alike, true alike -/
theorem kr_gen {α : Type} (k x y cn rc : Int32) (f g1 g2 : α) : (if k.toInt = 4 then (if (kX3_has x cn).toInt = 0 then f else (if k.toInt < 0 then f else (if k.toInt ≤ 5 then (if rc.toInt = 12 then f else g1) else f))) else (if k.toInt = 5 then (if (kX3_has x cn).toInt = 0 then f else (if k.toInt < 0 then f else (if k.toInt ≤ 5 then (if rc.toInt = 12 then f else g1) else f))) else (if (kX3_has x cn).toInt = 0 then f else (if (kX3_has y cn).toInt = 0 then f else (if k.toInt < 0 then f else (if k.toInt ≤ 5 then (if rc.toInt = 12 then f else g2) else f)))))) = if SQR k x y cn rc then (if 4 ≤ k.toInt then g1 else g2) else f := by
  have h4 := kf_has x cn
  have h5 := kf_has y cn
  by_cases h : SQR k x y cn rc
  · rw [if_pos h]
    obtain ⟨q1, q2, q3, q4⟩ := h
    (repeat' split) <;> first | rfl | (exfalso; omega)
  · rw [if_neg h]
    have hq : ¬ ((0 ≤ x.toInt ∧ x.toInt < cn.toInt) ∧ (¬ k.toInt = 4 ∧ ¬ k.toInt = 5 → 0 ≤ y.toInt ∧ y.toInt < cn.toInt) ∧ (0 ≤ k.toInt ∧ k.toInt ≤ 5) ∧ ¬ rc.toInt = 12) := h
    clear h
    (repeat' split) <;> first | rfl | (exfalso; omega)
theorem kr_w0 (rk ra rb : Nat → Int32) (k x y cn rc : Int32) : kX7_rule_w0 rk ra rb k x y cn rc = if SQR k x y cn rc then upd rk rc.toNatClampNeg k else rk := by
  have h := kr_gen k x y cn rc rk (kX4_add_w0 rk ra rb k x x rc) (kX4_add_w0 rk ra rb k x y rc)
  have e : (if 4 ≤ k.toInt then kX4_add_w0 rk ra rb k x x rc else kX4_add_w0 rk ra rb k x y rc) = upd rk rc.toNatClampNeg k := ite_self _
  rw [e] at h
  exact h
theorem kr_w1 (rk ra rb : Nat → Int32) (k x y cn rc : Int32) : kX7_rule_w1 rk ra rb k x y cn rc = if SQR k x y cn rc then upd ra rc.toNatClampNeg x else ra := by
  have h := kr_gen k x y cn rc ra (kX4_add_w1 rk ra rb k x x rc) (kX4_add_w1 rk ra rb k x y rc)
  have e : (if 4 ≤ k.toInt then kX4_add_w1 rk ra rb k x x rc else kX4_add_w1 rk ra rb k x y rc) = upd ra rc.toNatClampNeg x := ite_self _
  rw [e] at h
  exact h
theorem kr_w2 (rk ra rb : Nat → Int32) (k x y cn rc : Int32) : kX7_rule_w2 rk ra rb k x y cn rc = if SQR k x y cn rc then upd rb rc.toNatClampNeg (if 4 ≤ k.toInt then x else y) else rb := by
  have h := kr_gen k x y cn rc rb (kX4_add_w2 rk ra rb k x x rc) (kX4_add_w2 rk ra rb k x y rc)
  have e : (if 4 ≤ k.toInt then kX4_add_w2 rk ra rb k x x rc else kX4_add_w2 rk ra rb k x y rc) = upd rb rc.toNatClampNeg (if 4 ≤ k.toInt then x else y) := by
    by_cases h4 : 4 ≤ k.toInt
    · rw [if_pos h4, if_pos h4]
      rfl
    · rw [if_neg h4, if_neg h4]
      rfl
  rw [e] at h
  exact h
theorem kmr_k (a b c : Nat → Int32) (k x y mn mr : Int32) (hmn : 0 ≤ mn.toInt ∧ mn.toInt ≤ 40) : kX8_rule_v_ruleKind a b c k x y mn mr = if SQR k x y mn mr then upd a mr.toNatClampNeg k else a := kmr_gen k x y mn mr hmn a _
theorem kmr_a (a b c : Nat → Int32) (k x y mn mr : Int32) (hmn : 0 ≤ mn.toInt ∧ mn.toInt ≤ 40) : kX8_rule_v_ruleA a b c k x y mn mr = if SQR k x y mn mr then upd b mr.toNatClampNeg x else b := kmr_gen k x y mn mr hmn b _
theorem kmr_b (a b c : Nat → Int32) (k x y mn mr : Int32) (hmn : 0 ≤ mn.toInt ∧ mn.toInt ≤ 40) : kX8_rule_v_ruleB a b c k x y mn mr = if SQR k x y mn mr then upd c mr.toNatClampNeg y else c := kmr_gen k x y mn mr hmn c _
def RRL (rc cn : Int32) (rk ra rb a b c : Nat → Int32) : Prop := ∀ i : Nat, (i : Int) < rc.toInt → a i = rk i ∧ b i = ra i ∧ ((rk i).toInt ≤ 3 → c i = rb i) ∧ (0 ≤ (rk i).toInt ∧ (rk i).toInt ≤ 5) ∧ (0 ≤ (ra i).toInt ∧ (ra i).toInt < cn.toInt) ∧ (0 ≤ (rb i).toInt ∧ (rb i).toInt < cn.toInt)
theorem RRL.zero (cn : Int32) (rk ra rb a b c : Nat → Int32) : RRL 0 cn rk ra rb a b c := by
  have h0 : (0 : Int32).toInt = 0 := by decide
  exact fun i hi => absurd hi (by omega)
theorem RRL.grow {rc cn cn' : Int32} {rk ra rb a b c : Nat → Int32} (h : RRL rc cn rk ra rb a b c) (hc : cn.toInt ≤ cn'.toInt) : RRL rc cn' rk ra rb a b c := by
  intro i hi
  obtain ⟨q1, q2, q3, q4, q5, q6⟩ := h i hi
  exact ⟨q1, q2, q3, q4, ⟨q5.1, by omega⟩, ⟨q6.1, by omega⟩⟩
theorem RRL.node {rc cn : Int32} {rk ra rb a b c : Nat → Int32} (h : RRL rc cn rk ra rb a b c) (hc : 0 ≤ cn.toInt ∧ cn.toInt ≤ 40) (k0 k1 k2 : Nat → Int32) (k4 k5 : Nat → Int64) (k x y : Int32) : RRL rc (kX7_node_cn9 k0 k1 k2 k4 k5 k x y cn) rk ra rb a b c := by
  refine h.grow ?_
  have e1 : (cn + 1).toInt = cn.toInt + 1 := sp_inc (by omega)
  rw [kn_c]
  split <;> omega
theorem RRL.rule {rc cn : Int32} {rk ra rb a b c : Nat → Int32} (h : RRL rc cn rk ra rb a b c) (hc : 0 ≤ cn.toInt ∧ cn.toInt ≤ 40) (hd : 0 ≤ rc.toInt ∧ rc.toInt ≤ 12) (k x y : Int32) : RRL (kX7_rule_rc9 rk ra rb k x y cn rc) cn (kX7_rule_w0 rk ra rb k x y cn rc) (kX7_rule_w1 rk ra rb k x y cn rc) (kX7_rule_w2 rk ra rb k x y cn rc) (kX8_rule_v_ruleKind a b c k x y cn rc) (kX8_rule_v_ruleA a b c k x y cn rc) (kX8_rule_v_ruleB a b c k x y cn rc) := by
  rw [kr_c, kr_w0, kr_w1, kr_w2, kmr_k a b c k x y cn rc hc, kmr_a a b c k x y cn rc hc, kmr_b a b c k x y cn rc hc]
  by_cases hs : SQR k x y cn rc
  · simp only [if_pos hs]
    obtain ⟨q1, q2, q3, q4⟩ := hs
    have e := px_cl hd.1
    have e1 : (rc + 1).toInt = rc.toInt + 1 := sp_inc (by omega)
    intro i hi
    by_cases hj : i = rc.toNatClampNeg
    · subst hj
      simp only [px_updS]
      refine ⟨trivial, trivial, fun h3 => ?_, q3, q1, ?_⟩
      · rw [if_neg (by omega)]
      · by_cases h4 : 4 ≤ k.toInt
        · rw [if_pos h4]
          exact q1
        · rw [if_neg h4]
          exact q2 (by omega)
    · simp only [px_updO _ _ hj]
      exact h i (by omega)
  · simp only [if_neg hs]
    exact h
theorem kz_rank (z : Int32) : (z.toInt < 0 ∧ (kX2_rank z).toInt = z.toInt + 1) ∨ (0 ≤ z.toInt ∧ (kX2_rank z).toInt = z.toInt) := by
  unfold kX2_rank
  by_cases h : 0 ≤ z.toInt
  · rw [if_pos h]
    exact Or.inr ⟨h, rfl⟩
  · rw [if_neg h]
    exact Or.inl ⟨by omega, sp_inc (by omega)⟩
theorem kz_numb (g : Int64) : (g.toInt = -1 ∧ (kX8_number g).toInt = 0) ∨ (¬ g.toInt = -1 ∧ (kX8_number g).toInt = g.toInt) := by
  unfold kX8_number
  by_cases h : g.toInt = -1
  · rw [if_pos h]
    exact Or.inl ⟨h, by decide⟩
  · rw [if_neg h]
    exact Or.inr ⟨h, rfl⟩
theorem kz_comp (x y : Int32) : (x.toInt < y.toInt ∧ (kJ6_compare_7cf53 x y).toInt = -1) ∨ (x.toInt = y.toInt ∧ (kJ6_compare_7cf53 x y).toInt = 0) ∨ (y.toInt < x.toInt ∧ (kJ6_compare_7cf53 x y).toInt = 1) := by
  unfold kJ6_compare_7cf53
  by_cases h : y.toInt ≤ x.toInt
  · rw [if_pos h]
    by_cases h2 : x.toInt = y.toInt
    · rw [if_pos h2]
      exact Or.inr (Or.inl ⟨h2, by decide⟩)
    · rw [if_neg h2]
      exact Or.inr (Or.inr ⟨by omega, by decide⟩)
  · rw [if_neg h]
    exact Or.inl ⟨by omega, by decide⟩
theorem VR.facts {x : Int32} {p : Int64} (h : VR x p) : ((kX2_isNone x).toInt = 0 ∧ ¬ p.toInt = 9000000000 ∧ (kX2_placeOf x).toInt = p.toInt) ∨ ((kX2_isNone x).toInt = 1 ∧ p.toInt = 9000000000) := by
  rcases h with ⟨s, a, ha, rfl, rfl⟩ | ⟨rfl, rfl⟩
  · exact Or.inl ⟨kz_isNoneN s ha, kz_plc9 s (by omega), kz_placeC s (by omega)⟩
  · exact Or.inr ⟨by decide, by decide⟩
set_option maxHeartbeats 4000000 in
theorem kt_eq {rk ra rb v a b c : Nat → Int32} {w : Nat → Int64} {i : Int32} (hk : a i.toNatClampNeg = rk i.toNatClampNeg) (ha : b i.toNatClampNeg = ra i.toNatClampNeg) (hb : (rk i.toNatClampNeg).toInt ≤ 3 → c i.toNatClampNeg = rb i.toNatClampNeg) (hr : 0 ≤ (rk i.toNatClampNeg).toInt ∧ (rk i.toNatClampNeg).toInt ≤ 5) (V1 : VR (v (ra i.toNatClampNeg).toNatClampNeg) (w (ra i.toNatClampNeg).toNatClampNeg)) (V2 : VR (v (rb i.toNatClampNeg).toNatClampNeg) (w (rb i.toNatClampNeg).toNatClampNeg)) : kX8_isTrue a b c w i = kX4_isTrue rk ra rb v i := by
  have e18 : kX8_isTrue_s18 a b c w i = rk i.toNatClampNeg := hk
  have e11 : kX8_isTrue_s11 a b c w i = w (ra i.toNatClampNeg).toNatClampNeg := by
    unfold kX8_isTrue_s11
    rw [ha]
  have e70 : (rk i.toNatClampNeg).toInt ≤ 3 → kX8_isTrue_s70 a b c w i = w (rb i.toNatClampNeg).toNatClampNeg := fun h => by
    unfold kX8_isTrue_s70
    rw [hb h]
  have e8 : kX4_isTrue_s8 rk ra rb v i = v (ra i.toNatClampNeg).toNatClampNeg := rfl
  have e17 : kX4_isTrue_s17 rk ra rb v i = v (rb i.toNatClampNeg).toNatClampNeg := rfl
  have F1 := V1.facts
  have F2 := V2.facts
  have z22 : ((w (ra i.toNatClampNeg).toNatClampNeg).toInt = 9000000000 ∧ (kX8_isTrue_39_z22 a b c w i).toInt = 1) ∨ (¬ (w (ra i.toNatClampNeg).toNatClampNeg).toInt = 9000000000 ∧ (kX8_isTrue_39_z22 a b c w i).toInt = 0) := by
    unfold kX8_isTrue_39_z22
    rw [e11]
    by_cases h : (w (ra i.toNatClampNeg).toNatClampNeg).toInt = 9000000000
    · rw [if_pos h]
      exact Or.inl ⟨h, by decide⟩
    · rw [if_neg h]
      exact Or.inr ⟨h, by decide⟩
  have z27 : ((rk i.toNatClampNeg).toInt = 4 ∧ (kX8_isTrue_50_z27 a b c w i).toInt = 1) ∨ (¬ (rk i.toNatClampNeg).toInt = 4 ∧ (kX8_isTrue_50_z27 a b c w i).toInt = 0) := by
    unfold kX8_isTrue_50_z27
    rw [e18]
    by_cases h : (rk i.toNatClampNeg).toInt = 4
    · rw [if_pos h]
      exact Or.inl ⟨h, by decide⟩
    · rw [if_neg h]
      exact Or.inr ⟨h, by decide⟩
  have z9 : ((rk i.toNatClampNeg).toInt = 4 ∧ (kX4_isTrue_58_z8 rk ra rb v i).toInt = 1) ∨ (¬ (rk i.toNatClampNeg).toInt = 4 ∧ (kX4_isTrue_58_z8 rk ra rb v i).toInt = 0) := by
    unfold kX4_isTrue_58_z8
    by_cases h : (rk i.toNatClampNeg).toInt = 4
    · rw [if_pos h]
      exact Or.inl ⟨h, by decide⟩
    · rw [if_neg h]
      exact Or.inr ⟨h, by decide⟩
  have cmp : (kX4_isTrue_s116 rk ra rb v i) = kJ6_compare_7cf53 (kX2_rank (kX2_placeOf (v (ra i.toNatClampNeg).toNatClampNeg))) (kX2_rank (kX2_placeOf (v (rb i.toNatClampNeg).toNatClampNeg))) := rfl
  have G1 := kz_comp (kX2_rank (kX2_placeOf (v (ra i.toNatClampNeg).toNatClampNeg))) (kX2_rank (kX2_placeOf (v (rb i.toNatClampNeg).toNatClampNeg)))
  rw [← cmp] at G1
  have G2 := kz_rank (kX2_placeOf (v (ra i.toNatClampNeg).toNatClampNeg))
  have G3 := kz_rank (kX2_placeOf (v (rb i.toNatClampNeg).toNatClampNeg))
  have G4 := kz_numb (w (ra i.toNatClampNeg).toNatClampNeg)
  have G5 := kz_numb (w (rb i.toNatClampNeg).toNatClampNeg)
  have e105 : kX8_isTrue_s105 a b c w i = kX8_number (w (ra i.toNatClampNeg).toNatClampNeg) := by
    unfold kX8_isTrue_s105
    rw [e11]
  have e112 : (rk i.toNatClampNeg).toInt ≤ 3 → kX8_isTrue_s112 a b c w i = kX8_number (w (rb i.toNatClampNeg).toNatClampNeg) := fun h => by
    unfold kX8_isTrue_s112
    rw [e70 h]
  unfold kX8_isTrue kX4_isTrue
  rw [e18, e11, e105, e8, e17]
  clear V1 V2 cmp e8 e17 e18 e11 e105 hk ha hb
  by_cases h3 : (rk i.toNatClampNeg).toInt ≤ 3
  · rw [if_pos h3, e70 h3, e112 h3]
    clear e70 e112 z22 z27 z9
    rcases F1 with ⟨a1, a2, a3⟩ | ⟨a1, a2⟩
    · rcases F2 with ⟨b1, b2, b3⟩ | ⟨b1, b2⟩
      · rw [if_neg a2, if_neg b2, if_neg (show ¬ (rk i.toNatClampNeg).toInt = 4 by omega), if_neg (show ¬ (rk i.toNatClampNeg).toInt = 5 by omega), if_pos a1, if_pos b1, if_neg (show ¬ (rk i.toNatClampNeg).toInt < 0 by omega)]
        rw [a3] at G2
        rw [b3] at G3
        (repeat' split) <;> first | rfl | (exfalso; omega)
      · rw [if_neg a2, if_pos b2, if_neg (show ¬ (rk i.toNatClampNeg).toInt = 4 by omega), if_neg (show ¬ (rk i.toNatClampNeg).toInt = 5 by omega), if_pos a1, if_neg (show ¬ (kX2_isNone (v (rb i.toNatClampNeg).toNatClampNeg)).toInt = 0 by omega)]
    · rw [if_pos a2, if_neg (show ¬ (rk i.toNatClampNeg).toInt = 4 by omega), if_neg (show ¬ (rk i.toNatClampNeg).toInt = 5 by omega), if_neg (show ¬ (kX2_isNone (v (ra i.toNatClampNeg).toNatClampNeg)).toInt = 0 by omega)]
  · rw [if_neg h3]
    clear e70 e112 G1 G2 G3 G4 G5 F2
    (repeat' split) <;> first | rfl | (exfalso; omega)
theorem holds_eq {cn rc : Int32} {k0 k1 k2 k3 fs rk ra rb a b c ma mb mc : Nat → Int32} {d mv : Nat → Int64} (hni : NI cn k0 k1 k2) (hrn : RN cn k0 k1 k2 a b c) (hrs : RS fs mv) (hrr : RRL rc cn rk ra rb ma mb mc) (hd : 0 ≤ rc.toInt ∧ rc.toInt ≤ 12) (i : Int32) : kX8_holds a b c ma mb mc d mv i cn rc = kX7_holds k0 k1 k2 k3 fs rk ra rb i cn rc := by
  have h1 := kf_rhas i rc
  have h2 := kf_lt (i := i) (c := rc) (by omega)
  unfold kX8_holds kX7_holds
  by_cases h : 0 ≤ i.toInt ∧ i.toInt < rc.toInt
  · have b1 : ¬ (kX8_in i.toInt64 0 ((rc - 1 : Int32).toInt64)).toInt = 0 := by omega
    have b2 : ¬ (kX4_has i rc).toInt = 0 := by omega
    rw [if_neg b1, if_neg b2]
    have e := px_cl h.1
    obtain ⟨q1, q2, q3, q4, q5, q6⟩ := hrr i.toNatClampNeg (by omega)
    have hc0 := hni.1
    have hc1 := hni.2.1
    have c1 : (1 : Int32).toInt = 1 := by decide
    have e1 : (cn - 1 : Int32).toInt = cn.toInt - 1 := by rw [px_isub (by omega) (by omega), c1]
    have hv := ev_VR (k3 := k3) (d := d) hni hrn hrs (up := cn - 1) ⟨by omega, by omega⟩
    have x1 := px_cl q5.1
    have x2 := px_cl q6.1
    rw [kt_eq q1 q2 q3 q4 (hv _ (by omega)) (hv _ (by omega))]
  · have b1 : (kX8_in i.toInt64 0 ((rc - 1 : Int32).toInt64)).toInt = 0 := by omega
    have b2 : (kX4_has i rc).toInt = 0 := by omega
    rw [if_pos b1, if_pos b2]
