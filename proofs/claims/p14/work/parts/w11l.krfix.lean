/-! the reference's SPANS after its loop -/
theorem RPUT4.at {h : Nat → Int32} {l m : Nat → Int64} {n : Nat → Int32} {i : Nat} {q : R4} {zh : Nat → Int32} {zl zm : Nat → Int64} {zn : Nat → Int32} (p : RPUT4 h l m n i q zh zl zm zn) : rq zh zl zm zn i = q ∧ ∀ j : Nat, ¬ j = i → rq zh zl zm zn j = rq h l m n j := by
  obtain ⟨p1, p2, p3, p4⟩ := p
  unfold rq
  rw [p1, p2, p3, p4]
  refine ⟨?_, fun j hj => ?_⟩
  · rw [px_updS, px_updS, px_ulS, px_ulS]
  · rw [px_updO _ _ hj, px_updO _ _ hj, px_ulO _ _ hj, px_ulO _ _ hj]
def rsN (a b c : Nat → Int32) (bl bh : Nat → Int64) (q : Nat → R4) (j : Nat) : R4 := rs1 (a j) (b j) (bl (b j).toNatClampNeg) (bh (b j).toNatClampNeg) (q (b j).toNatClampNeg) (q (rY a b c j))
theorem rs_cong {a b c : Nat → Int32} {bl bh : Nat → Int64} {q q' : Nat → R4} {cn : Int32} (hm : MIX cn a b c) {j : Nat} (hj : (j : Int) < cn.toInt) (h : ∀ u : Nat, u < j → q' u = q u) : rsN a b c bl bh q' j = rsN a b c bl bh q j := by
  obtain ⟨p1, p2, p3⟩ := hm j hj
  have ht := kf_two (a j)
  unfold rsN rs1
  by_cases h0 : (a j).toInt = 0
  · rw [if_pos h0, if_pos h0]
  · rw [if_neg h0, if_neg h0]
    by_cases h1 : (a j).toInt = 1
    · rw [if_pos h1, if_pos h1]
    · rw [if_neg h1, if_neg h1]
      have r1 := p1 (by omega)
      have e1 := px_cl r1.1
      have hY : rY a b c j < j := by
        unfold rY
        by_cases h2 : (kX8_hasTwo (a j)).toInt = 0
        · rw [if_pos h2]
          omega
        · have r2 := p2 (by unfold YK; omega)
          have e2 := px_cl r2.1
          rw [if_neg h2]
          omega
      rw [h _ (by omega), h _ hY]
set_option maxHeartbeats 4000000 in
theorem rs_fix {a b c : Nat → Int32} {bl bh : Nat → Int64} {mh mn0 : Nat → Int32} {ml mm : Nat → Int64} {mn : Int32} (hm : MIX mn a b c) (hc : mn.toInt ≤ 40) : ∀ (fuel : Nat) (i : Int32) (h : Nat → Int32) (l m : Nat → Int64) (n : Nat → Int32), 0 ≤ i.toInt → i.toInt ≤ mn.toInt → mn.toInt - i.toInt < fuel → (∀ j : Nat, (j : Int) < i.toInt → rq h l m n j = rsN a b c bl bh (rq h l m n) j) → ∀ j : Nat, (j : Int) < mn.toInt → rq (kX8_spans_l2_v_has fuel a b c bl bh mh ml mm mn0 mn i h l m n) (kX8_spans_l2_v_least fuel a b c bl bh mh ml mm mn0 mn i h l m n) (kX8_spans_l2_v_most fuel a b c bl bh mh ml mm mn0 mn i h l m n) (kX8_spans_l2_v_mayNone fuel a b c bl bh mh ml mm mn0 mn i h l m n) j = rsN a b c bl bh (rq (kX8_spans_l2_v_has fuel a b c bl bh mh ml mm mn0 mn i h l m n) (kX8_spans_l2_v_least fuel a b c bl bh mh ml mm mn0 mn i h l m n) (kX8_spans_l2_v_most fuel a b c bl bh mh ml mm mn0 mn i h l m n) (kX8_spans_l2_v_mayNone fuel a b c bl bh mh ml mm mn0 mn i h l m n)) j := by
  intro fuel
  induction fuel with
  | zero => intro i h l m n _ _ q; exact absurd q (by omega)
  | succ fuel ih =>
    intro i h l m n h0 h1 hf hv
    rw [kX8_spans_l2_v_has_S, kX8_spans_l2_v_least_S, kX8_spans_l2_v_most_S, kX8_spans_l2_v_mayNone_S]
    by_cases hq : mn.toInt ≤ i.toInt
    · simp only [if_pos hq]
      exact fun j hj => hv j (by omega)
    · simp only [if_neg hq]
      have e := px_cl h0
      have e1 : (i + 1).toInt = i.toInt + 1 := sp_inc (by omega)
      obtain ⟨s1, s2⟩ := (r_one a b c bl bh h l m n i).at
      refine ih (i + 1) _ _ _ _ (by omega) (by omega) (by omega) (fun j hj => ?_)
      have hcg : rsN a b c bl bh (rq (kX8_spanOf_v_has a b c bl bh h l m n i) (kX8_spanOf_v_least a b c bl bh h l m n i) (kX8_spanOf_v_most a b c bl bh h l m n i) (kX8_spanOf_v_mayNone a b c bl bh h l m n i)) j = rsN a b c bl bh (rq h l m n) j := rs_cong hm (by omega) (fun u hu => s2 u (by omega))
      by_cases hji : j = i.toNatClampNeg
      · rw [hcg, hji, s1]
        rfl
      · rw [hcg, s2 j hji]
        exact hv j (by omega)
theorem rs_all {a b c : Nat → Int32} {bl bh : Nat → Int64} {mh mn0 : Nat → Int32} {ml mm : Nat → Int64} {mn : Int32} (hm : MIX mn a b c) (hc : 0 ≤ mn.toInt ∧ mn.toInt ≤ 40) : ∀ j : Nat, (j : Int) < mn.toInt → rq (kX8_spans_v_has a b c bl bh mh ml mm mn0 mn) (kX8_spans_v_least a b c bl bh mh ml mm mn0 mn) (kX8_spans_v_most a b c bl bh mh ml mm mn0 mn) (kX8_spans_v_mayNone a b c bl bh mh ml mm mn0 mn) j = rsN a b c bl bh (rq (kX8_spans_v_has a b c bl bh mh ml mm mn0 mn) (kX8_spans_v_least a b c bl bh mh ml mm mn0 mn) (kX8_spans_v_most a b c bl bh mh ml mm mn0 mn) (kX8_spans_v_mayNone a b c bl bh mh ml mm mn0 mn)) j := by
  have z : (0 : Int32).toInt = 0 := by decide
  exact rs_fix hm hc.2 42 0 mh ml mm mn0 (by omega) (by omega) (by omega) (fun j hj => absurd hj (by omega))
/-- the class's quads that stand are those of the reference: D, closed downward, says which stand -/
theorem SR.fix {cn : Int32} {k x y a b c f g e0 e1 e2 e3 mh mn : Nat → Int32} {bl bh ml mm : Nat → Int64} (hni : NI cn k x y) (hrn : RN cn k x y a b c) (hyx : YX cn k x y) (hbx : BX f g bl bh) (D : Nat → Prop) (hD : ∀ j : Nat, D j → (j : Int) < cn.toInt ∧ (e0 j, e1 j, e2 j, e3 j) = cs1 k x y f g e0 e1 e2 e3 j ∧ (2 ≤ (k j).toInt → D (x j).toNatClampNeg ∧ D (y j).toNatClampNeg)) (hR : ∀ j : Nat, (j : Int) < cn.toInt → rq mh ml mm mn j = rsN a b c bl bh (rq mh ml mm mn) j) : ∀ j : Nat, D j → SR (e0 j, e1 j, e2 j, e3 j) (rq mh ml mm mn j) := by
  intro j
  induction j using Nat.strongRecOn with
  | ind j ih =>
    intro hj
    obtain ⟨d1, d2, d3⟩ := hD j hj
    rw [d2, hR j d1]
    refine SR.step hni hrn hyx hbx j d1 (fun i hi h2 hxy => ih i hi (by
      rcases hxy with rfl | rfl
      · exact (d3 h2).1
      · exact (d3 h2).2))
