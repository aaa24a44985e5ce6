/-! what a box comes to, on both sides: vall (verdicts of all RULES), tall (all true), FJ -/
def vall (v : Int32 → Int32) (rc : Int32) : Nat → Int32 → Int32 → Int32
  | 0, _, _ => 0
  | n + 1, al, i => if rc.toInt ≤ i.toInt then al else if (v i).toInt = 0 then 0 else vall v rc n (if (v i).toInt = 2 then 2 else al) (i + 1)
def tall (t : Int32 → Int32) (rc : Int32) : Nat → Int32 → Int32
  | 0, _ => 0
  | n + 1, i => if rc.toInt ≤ i.toInt then 1 else if (t i).toInt = 0 then 0 else tall t rc n (i + 1)
theorem vall_cong {v v' : Int32 → Int32} {rc : Int32} (hc : rc.toInt ≤ 12) (h : ∀ i : Int32, 0 ≤ i.toInt → i.toInt < rc.toInt → v i = v' i) : ∀ (n : Nat) (al i : Int32), 0 ≤ i.toInt → vall v rc n al i = vall v' rc n al i := by
  intro n
  induction n with
  | zero => intro al i _; rfl
  | succ n ih =>
    intro al i h0
    unfold vall
    by_cases hq : rc.toInt ≤ i.toInt
    · rw [if_pos hq, if_pos hq]
    · have e1 : (i + 1).toInt = i.toInt + 1 := sp_inc (by omega)
      rw [if_neg hq, if_neg hq, h i h0 (by omega)]
      by_cases h2 : (v' i).toInt = 0
      · rw [if_pos h2, if_pos h2]
      · rw [if_neg h2, if_neg h2]
        exact ih _ _ (by omega)
theorem tall_cong {v v' : Int32 → Int32} {rc : Int32} (hc : rc.toInt ≤ 12) (h : ∀ i : Int32, 0 ≤ i.toInt → i.toInt < rc.toInt → v i = v' i) : ∀ (n : Nat) (i : Int32), 0 ≤ i.toInt → tall v rc n i = tall v' rc n i := by
  intro n
  induction n with
  | zero => intro i _; rfl
  | succ n ih =>
    intro i h0
    unfold tall
    by_cases hq : rc.toInt ≤ i.toInt
    · rw [if_pos hq, if_pos hq]
    · have e1 : (i + 1).toInt = i.toInt + 1 := sp_inc (by omega)
      rw [if_neg hq, if_neg hq, h i h0 (by omega)]
      by_cases h2 : (v' i).toInt = 0
      · rw [if_pos h2, if_pos h2]
      · rw [if_neg h2, if_neg h2]
        exact ih _ (by omega)
theorem va_cls (rk ra rb e0 e1 e2 e3 : Nat → Int32) (rc : Int32) : ∀ (n : Nat) (al i : Int32), kX4_verdictOfAll_l4 n rk ra rb e0 e1 e2 e3 rc al i = vall (fun i => kX4_verdict rk ra rb e0 e1 e2 e3 i) rc n al i := by
  intro n
  induction n with
  | zero => intro al i; rfl
  | succ n ih =>
    intro al i
    rw [kX4_verdictOfAll_l4_S, ih]
    rfl
theorem ta_cls (rk ra rb vv : Nat → Int32) (rc : Int32) : ∀ (n : Nat) (i : Int32), kX4_areTrue_l2 n rk ra rb vv rc i = tall (fun i => kX4_isTrue rk ra rb vv i) rc n i := by
  intro n
  induction n with
  | zero => intro i; rfl
  | succ n ih =>
    intro i
    rw [kX4_areTrue_l2_S, ih]
    rfl
/-! boxes of four -/
def nf (f : Nat → Int32) : Nat → Int32 := fun v => if v < 4 then f v else 0
def b8 (f : Nat → Int32) : Nat → Int64 := fun v => if v < 4 then (f v).toInt64 else 0
theorem nf_at {f : Nat → Int32} {v : Nat} (h : v < 4) : nf f v = f v := if_pos h
theorem b8_at {f : Nat → Int32} {v : Nat} (h : v < 4) : b8 f v = (f v).toInt64 := if_pos h
theorem nf_ext {f g : Nat → Int32} (h : ∀ v : Nat, v < 4 → f v = g v) : nf f = nf g := by
  funext v
  unfold nf
  by_cases hv : v < 4
  · rw [if_pos hv, if_pos hv, h v hv]
  · rw [if_neg hv, if_neg hv]
theorem nf_nf (f : Nat → Int32) : nf (nf f) = nf f := nf_ext (fun v hv => nf_at hv)
theorem b8_nf (f : Nat → Int32) : b8 (nf f) = b8 f := by
  funext v
  unfold b8
  by_cases hv : v < 4
  · rw [if_pos hv, if_pos hv, nf_at hv]
  · rw [if_neg hv, if_neg hv]
theorem nf_upd {f : Nat → Int32} {v : Nat} (h : v < 4) (x : Int32) : nf (upd f v x) = upd (nf f) v x := by
  funext u
  by_cases hu : u = v
  · subst hu
    rw [px_updS, nf_at h, px_updS]
  · rw [px_updO _ _ hu]
    unfold nf
    rw [px_updO _ _ hu]
/-- a box's places: PB of each -/
def PBX (f g : Nat → Int32) : Prop := ∀ v : Nat, v < 4 → PB (f v) (g v)
theorem PBX.bx {f g : Nat → Int32} (h : PBX f g) : BX f g (b8 f) (b8 g) := fun v hv => ⟨b8_at hv, b8_at hv, h v hv⟩
theorem SR.fill {e0 e1 e2 e3 f2 g2 f g k0 k1 k2 a b c : Nat → Int32} {re k5 : Nat → Int64} {nd sd : Int64} {cn : Int32} (bl bh : Nat → Int64) (mh : Nat → Int32) (ml mm : Nat → Int64) (mn0 : Nat → Int32) (hni : NI cn k0 k1 k2) (hrn : RN cn k0 k1 k2 a b c) (hyx : YX cn k0 k1 k2) (hru : RU cn k0 k1 k2 re k5) (hcv : CV cn k0 k1 k2 f2 g2 e0 e1 e2 e3 sd) (hbx : BX f g bl bh) (hnd : DN cn k0 k1 k2 nd) : ∀ j : Nat, tb nd j = true → SR (QA (kX6_fill_y0 e0 e1 e2 e3 f2 g2 f g k0 k1 k2 k5 nd sd cn) (kX6_fill_y1 e0 e1 e2 e3 f2 g2 f g k0 k1 k2 k5 nd sd cn) (kX6_fill_y2 e0 e1 e2 e3 f2 g2 f g k0 k1 k2 k5 nd sd cn) (kX6_fill_y3 e0 e1 e2 e3 f2 g2 f g k0 k1 k2 k5 nd sd cn) j) (rq (kX8_spans_v_has a b c bl bh mh ml mm mn0 cn) (kX8_spans_v_least a b c bl bh mh ml mm mn0 cn) (kX8_spans_v_most a b c bl bh mh ml mm mn0 cn) (kX8_spans_v_mayNone a b c bl bh mh ml mm mn0 cn) j) := by
  intro j hj
  obtain ⟨l1, _⟩ := fl_all f2 g2 f g
  have hC := CV.fill (f := f) (g := g) hni hru hcv hnd
  have hB : BX (kX1_follow_f9 f2 g2 f g) (kX1_follow_g9 f2 g2 f g) bl bh := fun v hv => by
    rw [(l1 v hv).1, (l1 v hv).2]
    exact hbx v hv
  exact SR.fix hni hrn hyx hB (fun u => tb (kX6_fill_sd9 e0 e1 e2 e3 f2 g2 f g k0 k1 k2 k5 nd sd cn) u = true) (fun u hu => hC u hu) (rs_all (RN.mix hni hrn) ⟨hni.1, hni.2.1⟩) j (fs_all e0 e1 e2 e3 f2 g2 f g k0 k1 k2 k5 nd sd ⟨hni.1, hni.2.1⟩ hj)
/-- what RULE i comes to in a box: the reference's, from nothing -/
def jd (a b c ma mb mc : Nat → Int32) (cn : Int32) (f g : Nat → Int32) (i : Int32) : Int32 := kX8_judgeOf ma mb mc (kX8_spans_v_has a b c (b8 f) (b8 g) (fun _ => 0) (fun _ => 0) (fun _ => 0) (fun _ => 0) cn) (kX8_spans_v_least a b c (b8 f) (b8 g) (fun _ => 0) (fun _ => 0) (fun _ => 0) (fun _ => 0) cn) (kX8_spans_v_most a b c (b8 f) (b8 g) (fun _ => 0) (fun _ => 0) (fun _ => 0) (fun _ => 0) cn) (kX8_spans_v_mayNone a b c (b8 f) (b8 g) (fun _ => 0) (fun _ => 0) (fun _ => 0) (fun _ => 0) cn) i
def jt (a b c ma mb mc : Nat → Int32) (cn : Int32) (f : Nat → Int32) (i : Int32) : Int32 := kX8_isTrue ma mb mc (kX8_work_v_worth a b c (fun _ => 0) (b8 f) (cn - 1)) i
theorem ar_keep {ra rb : Nat → Int32} {k4 : Nat → Int64} {rc : Int32} (hc : rc.toInt ≤ 12) : ∀ (fuel : Nat) (al : Int64) (i : Int32), 0 ≤ i.toInt → i.toInt ≤ rc.toInt → rc.toInt - i.toInt < fuel → (∀ j : Nat, tb al j = true → tb (kX4_allRestOn_l5 fuel ra rb k4 rc al i) j = true) ∧ ∀ u : Int32, i.toInt ≤ u.toInt → u.toInt < rc.toInt → ∀ j : Nat, tb (kX4_restOn ra rb k4 u) j = true → tb (kX4_allRestOn_l5 fuel ra rb k4 rc al i) j = true := by
  intro fuel
  induction fuel with
  | zero => intro al i _ _ h; exact absurd h (by omega)
  | succ fuel ih =>
    intro al i h0 h1 hf
    rw [kX4_allRestOn_l5_S]
    by_cases hq : rc.toInt ≤ i.toInt
    · rw [if_pos hq]
      exact ⟨fun j hj => hj, fun u hu hu2 => absurd hu2 (by omega)⟩
    · rw [if_neg hq]
      have e1 : (i + 1).toInt = i.toInt + 1 := sp_inc (by omega)
      obtain ⟨p1, p2⟩ := ih (kX4_allRestOn_l5_s23 ra rb k4 rc al i) (i + 1) (by omega) (by omega) (by omega)
      have hs : kX4_allRestOn_l5_s23 ra rb k4 rc al i = al ||| kX4_restOn ra rb k4 i := rfl
      refine ⟨fun j hj => p1 j ?_, fun u hu hu2 j hj => ?_⟩
      · rw [hs, tb_or, hj]
        rfl
      · by_cases hui : u.toInt = i.toInt
        · have hue : u = i := Int32.toInt_inj.mp hui
          subst hue
          refine p1 j ?_
          rw [hs, tb_or, hj, Bool.or_true]
        · exact p2 u (by omega) hu2 j hj
theorem ar_bits {cn rc : Int32} {k0 k1 k2 rk ra rb ma mb mc : Nat → Int32} {k4 k5 : Nat → Int64} (hru : RU cn k0 k1 k2 k4 k5) (hrr : RRL rc cn rk ra rb ma mb mc) (hd : 0 ≤ rc.toInt ∧ rc.toInt ≤ 12) {i : Int32} (h : 0 ≤ i.toInt ∧ i.toInt < rc.toInt) : (tb (kX4_restOn ra rb k4 i) (ra i.toNatClampNeg).toNatClampNeg = true ∧ tb (kX4_restOn ra rb k4 i) (rb i.toNatClampNeg).toNatClampNeg = true) ∧ (tb (kX4_allRestOn ra rb k4 rc) (ra i.toNatClampNeg).toNatClampNeg = true ∧ tb (kX4_allRestOn ra rb k4 rc) (rb i.toNatClampNeg).toNatClampNeg = true) := by
  have e := px_cl h.1
  have z : (0 : Int32).toInt = 0 := by decide
  obtain ⟨_, _, _, _, q5, q6⟩ := hrr i.toNatClampNeg (by omega)
  have ea := px_cl q5.1
  have eb := px_cl q6.1
  have ha := hru.1 (ra i.toNatClampNeg).toNatClampNeg (by omega)
  have hb := hru.1 (rb i.toNatClampNeg).toNatClampNeg (by omega)
  have r1 : tb (kX4_restOn ra rb k4 i) (ra i.toNatClampNeg).toNatClampNeg = true := by
    unfold kX4_restOn
    rw [tb_or, ha.1]
    rfl
  have r2 : tb (kX4_restOn ra rb k4 i) (rb i.toNatClampNeg).toNatClampNeg = true := by
    unfold kX4_restOn
    rw [tb_or, hb.1, Bool.or_true]
  obtain ⟨_, p2⟩ := ar_keep (ra := ra) (rb := rb) (k4 := k4) hd.2 14 0 0 (by omega) (by omega) (by omega)
  exact ⟨⟨r1, r2⟩, p2 i (by omega) h.2 _ r1, p2 i (by omega) h.2 _ r2⟩
/-- the class's verdict, after a fill with all that the RULES rest on -/
theorem jd_cls {e0 e1 e2 e3 f2 g2 f g k0 k1 k2 a b c rk ra rb ma mb mc : Nat → Int32} {k4 k5 : Nat → Int64} {sd : Int64} {cn rc : Int32} (hni : NI cn k0 k1 k2) (hrn : RN cn k0 k1 k2 a b c) (hyx : YX cn k0 k1 k2) (hru : RU cn k0 k1 k2 k4 k5) (hcv : CV cn k0 k1 k2 f2 g2 e0 e1 e2 e3 sd) (hp : PBX f g) (hrr : RRL rc cn rk ra rb ma mb mc) (hri : RI rc ra rb) (i : Int32) (h0 : 0 ≤ i.toInt) (h1 : i.toInt < rc.toInt) : kX4_verdict rk ra rb (kX6_fill_y0 e0 e1 e2 e3 f2 g2 f g k0 k1 k2 k5 (kX4_allRestOn ra rb k4 rc) sd cn) (kX6_fill_y1 e0 e1 e2 e3 f2 g2 f g k0 k1 k2 k5 (kX4_allRestOn ra rb k4 rc) sd cn) (kX6_fill_y2 e0 e1 e2 e3 f2 g2 f g k0 k1 k2 k5 (kX4_allRestOn ra rb k4 rc) sd cn) (kX6_fill_y3 e0 e1 e2 e3 f2 g2 f g k0 k1 k2 k5 (kX4_allRestOn ra rb k4 rc) sd cn) i = jd a b c ma mb mc cn f g i := by
  have hb := (ar_bits hru hrr ⟨hri.1, hri.2.1⟩ ⟨h0, h1⟩).2
  have S := SR.fill (nd := kX4_allRestOn ra rb k4 rc) (b8 f) (b8 g) (fun _ => 0) (fun _ => 0) (fun _ => 0) (fun _ => 0) hni hrn hyx hru hcv hp.bx (ar_all hru (RRL.rc hrr) hri)
  exact (ver_eq hrr i ⟨h0, h1⟩ (S _ hb.1) (S _ hb.2)).symm
/-- the reference's, whatever stood in its rows before -/
theorem jd_ref {f g k0 k1 k2 a b c rk ra rb ma mb mc : Nat → Int32} {k4 k5 : Nat → Int64} {cn rc : Int32} {bl bh : Nat → Int64} (mh : Nat → Int32) (ml mm : Nat → Int64) (mn0 : Nat → Int32) (hni : NI cn k0 k1 k2) (hrn : RN cn k0 k1 k2 a b c) (hyx : YX cn k0 k1 k2) (hru : RU cn k0 k1 k2 k4 k5) (hp : BX f g bl bh) (hrr : RRL rc cn rk ra rb ma mb mc) (hri : RI rc ra rb) (i : Int32) (h0 : 0 ≤ i.toInt) (h1 : i.toInt < rc.toInt) : kX8_judgeOf ma mb mc (kX8_spans_v_has a b c bl bh mh ml mm mn0 cn) (kX8_spans_v_least a b c bl bh mh ml mm mn0 cn) (kX8_spans_v_most a b c bl bh mh ml mm mn0 cn) (kX8_spans_v_mayNone a b c bl bh mh ml mm mn0 cn) i = jd a b c ma mb mc cn f g i := by
  have hpx : PBX f g := fun v hv => (hp v hv).2.2
  have hb := (ar_bits hru hrr ⟨hri.1, hri.2.1⟩ ⟨h0, h1⟩).2
  have hcv : CV cn k0 k1 k2 f g (fun _ => 0) (fun _ => 0) (fun _ => 0) (fun _ => 0) 0 := CV.zero _ _ _ _ _ _ _ _ _ _
  have S := SR.fill (nd := kX4_allRestOn ra rb k4 rc) bl bh mh ml mm mn0 hni hrn hyx hru hcv hp (ar_all hru (RRL.rc hrr) hri)
  rw [← jd_cls hni hrn hyx hru hcv hpx hrr hri i h0 h1]
  exact ver_eq hrr i ⟨h0, h1⟩ (S _ hb.1) (S _ hb.2)
theorem PBX.rs {f g : Nat → Int32} (h : PBX f g) {bl : Nat → Int64} (hb : ∀ v : Nat, v < 4 → bl v = (f v).toInt64) : RS f bl := fun v hv => ⟨hb v hv, (h v hv).1, by have := h v hv; unfold PB at this; omega⟩
theorem jt_cls {k0 k1 k2 v3 f g a b c rk ra rb ma mb mc : Nat → Int32} {cn rc : Int32} (bl d : Nat → Int64) (hni : NI cn k0 k1 k2) (hrn : RN cn k0 k1 k2 a b c) (hp : PBX f g) (hbl : ∀ v : Nat, v < 4 → bl v = (f v).toInt64) (hrr : RRL rc cn rk ra rb ma mb mc) (i : Int32) (h0 : 0 ≤ i.toInt) (h1 : i.toInt < rc.toInt) : kX8_isTrue ma mb mc (kX8_work_v_worth a b c d bl (cn - 1)) i = kX4_isTrue rk ra rb (kX3_evaluate_v3 k0 k1 k2 v3 f cn) i := by
  have e := px_cl h0
  have n0 := hni.1
  have n1 := hni.2.1
  have e1 : (1 : Int32).toInt = 1 := by decide
  have ec : (cn - 1).toInt = cn.toInt - 1 := by rw [px_isub (by omega) (by omega), e1]
  obtain ⟨q1, q2, q3, q4, q5, q6⟩ := hrr i.toNatClampNeg (by omega)
  have ea := px_cl q5.1
  have eb := px_cl q6.1
  have V := ev_VR (k3 := v3) (d := d) (up := cn - 1) hni hrn (hp.rs hbl) ⟨by omega, by omega⟩
  exact kt_eq q1 q2 q3 q4 (V _ (by omega)) (V _ (by omega))
theorem jt_ref {k0 k1 k2 f g a b c rk ra rb ma mb mc : Nat → Int32} {cn rc : Int32} (bl d : Nat → Int64) (hni : NI cn k0 k1 k2) (hrn : RN cn k0 k1 k2 a b c) (hp : PBX f g) (hbl : ∀ v : Nat, v < 4 → bl v = (f v).toInt64) (hrr : RRL rc cn rk ra rb ma mb mc) (i : Int32) (h0 : 0 ≤ i.toInt) (h1 : i.toInt < rc.toInt) : kX8_isTrue ma mb mc (kX8_work_v_worth a b c d bl (cn - 1)) i = jt a b c ma mb mc cn f i := by
  rw [jt_cls (v3 := fun _ => 0) bl d hni hrn hp hbl hrr i h0 h1]
  exact (jt_cls (v3 := fun _ => 0) (b8 f) (fun _ => 0) hni hrn hp (fun v hv => b8_at hv) hrr i h0 h1).symm
/-- what a box comes to: 1 solved, 0 none in it, 2 to be halved -/
def FJ (a b c ma mb mc : Nat → Int32) (cn rc : Int32) (f g : Nat → Int32) : Int32 := if (vall (jd a b c ma mb mc cn f g) rc 14 1 0).toInt = 2 then (if (kX1_firstWide f g).toInt = 4 then tall (jt a b c ma mb mc cn f) rc 14 0 else 2) else vall (jd a b c ma mb mc cn f g) rc 14 1 0
theorem jd_nf (a b c ma mb mc : Nat → Int32) (cn : Int32) (f g : Nat → Int32) : jd a b c ma mb mc cn (nf f) (nf g) = jd a b c ma mb mc cn f g := by
  funext i
  unfold jd
  rw [b8_nf, b8_nf]
theorem jt_nf (a b c ma mb mc : Nat → Int32) (cn : Int32) (f : Nat → Int32) : jt a b c ma mb mc cn (nf f) = jt a b c ma mb mc cn f := by
  funext i
  unfold jt
  rw [b8_nf]
theorem fw_nf (f g : Nat → Int32) : ∀ (n : Nat) (i : Int32), 0 ≤ i.toInt → kX1_firstWide_l2 n (nf f) (nf g) i = kX1_firstWide_l2 n f g i := by
  intro n
  induction n with
  | zero => intro i _; rfl
  | succ n ih =>
    intro i h0
    rw [kX1_firstWide_l2_S, kX1_firstWide_l2_S]
    by_cases hq : 4 ≤ i.toInt
    · rw [if_pos hq, if_pos hq]
    · have e := px_cl h0
      have e1 : (i + 1).toInt = i.toInt + 1 := sp_inc (by omega)
      rw [if_neg hq, if_neg hq, nf_at (by omega), nf_at (by omega), ih (i + 1) (by omega)]
theorem FJ_nf (a b c ma mb mc : Nat → Int32) (cn rc : Int32) (f g : Nat → Int32) : FJ a b c ma mb mc cn rc (nf f) (nf g) = FJ a b c ma mb mc cn rc f g := by
  have h0 : (0 : Int32).toInt = 0 := by decide
  have hw : kX1_firstWide (nf f) (nf g) = kX1_firstWide f g := fw_nf f g 6 0 (by omega)
  unfold FJ
  rw [jd_nf, jt_nf, hw]
