theorem CI.halve {fb gb qv f g : Nat → Int32} {k : Nat} (h : CI fb gb qv k f g) (hv : fwn f g < 4) (m : Int32) {x : Int32} (h0 : 0 ≤ x.toInt) (hx : x.toNatClampNeg = fwn f g) : CI fb gb (upd qv k x) (k + 1) f (upd g (fwn f g) m) := by
  obtain ⟨h1, h2, h3⟩ := h
  obtain ⟨_, _, p3, _⟩ := fw_spec f g
  have ex := px_cl h0
  have hge : fwn f g ≤ fwn f (upd g (fwn f g) m) := fw_ge (by omega) (fun u hu => by rw [px_updO _ _ (by omega)]; exact p3 u hu)
  refine ⟨fun u hu hw => ?_, fun j hj => ?_, fun j j' hj hj' => ?_⟩
  · rw [px_updO _ _ (by omega)]
    exact h1 u hu (by omega)
  · by_cases q : j = k
    · subst q
      rw [px_updS]
      exact ⟨⟨h0, by omega⟩, by omega⟩
    · rw [px_updO _ _ q]
      obtain ⟨a1, a2⟩ := h2 j (by omega)
      exact ⟨a1, by omega⟩
  · rw [px_updO (k := k) _ _ (show ¬ j = k by omega)]
    by_cases q : j' = k
    · subst q
      rw [px_updS, hx]
      exact (h2 j (by omega)).2
    · rw [px_updO _ _ q]
      exact h3 j j' hj (by omega)
theorem CI.take {fb gb qv f g : Nat → Int32} {k : Nat} (h : CI fb gb qv (k + 1) f g) (x y : Int32) : CI fb gb qv k (tk fb (qv k).toNatClampNeg x (nf f)) (tk gb (qv k).toNatClampNeg y (nf g)) := by
  obtain ⟨h1, h2, h3⟩ := h
  obtain ⟨_, _, p3, _⟩ := fw_spec f g
  obtain ⟨⟨a1, a2⟩, a3⟩ := h2 k (by omega)
  have e := px_cl a1
  have hge : (qv k).toNatClampNeg ≤ fwn (tk fb (qv k).toNatClampNeg x (nf f)) (tk gb (qv k).toNatClampNeg y (nf g)) := fw_ge (by omega) (fun u hu => by
    rw [tk_lt hu, tk_lt hu, nf_at (by omega), nf_at (by omega)]
    exact p3 u (by omega))
  refine ⟨fun u hu hw => ?_, fun j hj => ?_, fun j j' hj hj' => h3 j j' hj (by omega)⟩
  · rw [tk_gt (by omega) hu, tk_gt (by omega) hu]
    exact ⟨rfl, rfl⟩
  · obtain ⟨b1, b2⟩ := h2 j (by omega)
    have := h3 j k hj (by omega)
    exact ⟨b1, by omega⟩
theorem CI.of_nf {fb gb qv f g : Nat → Int32} {k : Nat} (h : CI fb gb qv k (nf f) (nf g)) : CI fb gb qv k f g := by
  obtain ⟨h1, h2, h3⟩ := h
  rw [fwn_nf] at h1 h2
  refine ⟨fun u hu hw => ?_, h2, h3⟩
  have := h1 u hu hw
  rw [nf_at hu, nf_at hu] at this
  exact this
theorem csk_push {fb gb qv ql qm f g : Nat → Int32} {k : Nat} (h : CI fb gb qv k f g) (hv : fwn f g < 4) (m : Int32) {x : Int32} (hx : x.toNatClampNeg = fwn f g) : csk (upd qv k x) (upd ql k (m + 1)) (upd qm k (g (fwn f g))) fb gb (k + 1) (nf f) (upd (nf g) (fwn f g) m) = (upd (nf f) (fwn f g) (m + 1), nf g) :: csk qv ql qm fb gb k (nf f) (nf g) := by
  obtain ⟨h1, h2, h3⟩ := h
  rw [csk, px_updS, px_updS, px_updS, hx]
  have e1 : tk fb (fwn f g) (m + 1) (nf f) = upd (nf f) (fwn f g) (m + 1) := by
    funext u
    by_cases q1 : u < fwn f g
    · rw [tk_lt q1, px_updO _ _ (by omega)]
    · by_cases q2 : u = fwn f g
      · rw [q2, tk_eq, px_updS]
      · rw [px_updO _ _ q2]
        by_cases q3 : u < 4
        · rw [tk_gt (by omega) q3, nf_at q3]
          exact (h1 u q3 (by omega)).1.symm
        · rw [tk_out hv q3]
          exact (if_neg q3).symm
  have e2 : tk gb (fwn f g) (g (fwn f g)) (upd (nf g) (fwn f g) m) = nf g := by
    funext u
    by_cases q1 : u < fwn f g
    · rw [tk_lt q1, px_updO _ _ (by omega)]
    · by_cases q2 : u = fwn f g
      · rw [q2, tk_eq, nf_at hv]
      · by_cases q3 : u < 4
        · rw [tk_gt (by omega) q3, nf_at q3]
          exact (h1 u q3 (by omega)).2.symm
        · rw [tk_out hv q3]
          exact (if_neg q3).symm
  rw [e1, e2, csk_arr fb gb k _ _ (fun j hj => ⟨px_updO _ _ (show ¬ j = k by omega), px_updO _ _ (show ¬ j = k by omega), px_updO _ _ (show ¬ j = k by omega)⟩)]
  rw [csk_cong (F := nf f) (G := nf g) (v := fwn f g) (fun j hj => (h2 j hj).2) (fun u hu => ⟨px_updO _ _ (by omega), rfl⟩)]
theorem tall01 (t : Int32 → Int32) (rc : Int32) : ∀ (n : Nat) (i : Int32), tall t rc n i = 0 ∨ tall t rc n i = 1 := by
  intro n
  induction n with
  | zero => intro i; exact Or.inl rfl
  | succ n ih =>
    intro i
    unfold tall
    by_cases q : rc.toInt ≤ i.toInt
    · rw [if_pos q]
      exact Or.inr rfl
    · rw [if_neg q]
      by_cases q2 : (t i).toInt = 0
      · rw [if_pos q2]
        exact Or.inl rfl
      · rw [if_neg q2]
        exact ih _
theorem b01 {x : Int32} (h : x = 0 ∨ x = 1) : (if x.toInt = 0 then 0 else 1 : Int32) = x := by
  rcases h with h | h <;> subst h <;> rfl
theorem z39_eq {qv ql qm fx gx fb gb e0 e1 e2 e3 f2 g2 k0 k1 k2 k3 rk ra rb a b c ma mb mc : Nat → Int32} {k4 k5 : Nat → Int64} {w qa qr qw qk qh cn rc : Int32} {sd : Int64} (i qa9 : Int32) (qv9 ql9 qm9 fx9 gx9 : Nat → Int32) (qk9 qh9 : Int32) (y0 y1 y2 y3 f9 g9 : Nat → Int32) (sd9 : Int64) (v3 : Nat → Int32) (hni : NI cn k0 k1 k2) (hrn : RN cn k0 k1 k2 a b c) (hyx : YX cn k0 k1 k2) (hru : RU cn k0 k1 k2 k4 k5) (hrr : RRL rc cn rk ra rb ma mb mc) (hri : RI rc ra rb) (hcv : CV cn k0 k1 k2 f9 g9 y0 y1 y2 y3 sd9) (hp : PBX fx9 gx9) : kX5_run_l19_95_z39 qv ql qm fx gx fb gb e0 e1 e2 e3 f2 g2 k0 k1 k2 k3 k4 k5 rk ra rb w qa qr qw qk qh sd cn rc (kX4_allRestOn ra rb k4 rc) i qa9 qv9 ql9 qm9 fx9 gx9 qk9 qh9 y0 y1 y2 y3 f9 g9 sd9 v3 = FJ a b c ma mb mc cn rc fx9 gx9 := by
  have z : (0 : Int32).toInt = 0 := by decide
  have c2 : (2 : Int32).toInt = 2 := by decide
  have hV : (kX4_verdictOfAll rk ra rb (kX6_fill_y0 y0 y1 y2 y3 f9 g9 fx9 gx9 k0 k1 k2 k5 (kX4_allRestOn ra rb k4 rc) sd9 cn) (kX6_fill_y1 y0 y1 y2 y3 f9 g9 fx9 gx9 k0 k1 k2 k5 (kX4_allRestOn ra rb k4 rc) sd9 cn) (kX6_fill_y2 y0 y1 y2 y3 f9 g9 fx9 gx9 k0 k1 k2 k5 (kX4_allRestOn ra rb k4 rc) sd9 cn) (kX6_fill_y3 y0 y1 y2 y3 f9 g9 fx9 gx9 k0 k1 k2 k5 (kX4_allRestOn ra rb k4 rc) sd9 cn) rc) = vall (jd a b c ma mb mc cn fx9 gx9) rc 14 1 0 := by
    unfold kX4_verdictOfAll
    rw [va_cls]
    exact vall_cong hri.2.1 (fun i h0 h1 => jd_cls hni hrn hyx hru hcv hp hrr hri i h0 h1) 14 1 0 (by omega)
  have hT : kX5_isTrueHere fx9 gx9 k0 k1 k2 v3 rk ra rb cn rc = tall (jt a b c ma mb mc cn fx9) rc 14 0 := by
    unfold kX5_isTrueHere kX4_areTrue
    rw [ta_cls]
    exact tall_cong hri.2.1 (fun i h0 h1 => (jt_cls (v3 := v3) (b8 fx9) (fun _ => 0) hni hrn hp (fun v hv => b8_at hv) hrr i h0 h1).symm) 14 0 (by omega)
  unfold kX5_run_l19_95_z39 kX5_run_l19_95_z35 kX5_run_l19_93_z32 FJ
  rw [hV, hT, b01 (tall01 _ _ _ _)]
  by_cases q : (vall (jd a b c ma mb mc cn fx9 gx9) rc 14 1 0).toInt = 2
  · rw [if_pos q, if_pos q]
    by_cases q2 : (kX1_firstWide fx9 gx9).toInt = 4
    · rw [if_pos q2, if_pos q2]
    · rw [if_neg q2, if_neg q2]
      exact Int32.toInt_inj.mp (q.trans c2.symm)
  · rw [if_neg q, if_neg q]
theorem fj_wide {a b c ma mb mc : Nat → Int32} {cn rc : Int32} {f g : Nat → Int32} (h : (FJ a b c ma mb mc cn rc f g).toInt = 2) : fwn f g < 4 := by
  obtain ⟨⟨w1, w2⟩, w3, _, _⟩ := fw_spec f g
  by_cases q : (kX1_firstWide f g).toInt = 4
  · exfalso
    unfold FJ at h
    by_cases q2 : (vall (jd a b c ma mb mc cn f g) rc 14 1 0).toInt = 2
    · rw [if_pos q2, if_pos q] at h
      rcases tall01 (jt a b c ma mb mc cn f) rc 14 0 with e | e <;> rw [e] at h <;> exact absurd h (by decide)
    · rw [if_neg q2] at h
      exact q2 h
  · omega
/-- what a search answers: its answer, its work, its halvings, its box -/
def RES (R : Int32 × Int32 × Int32 × (Nat → Int32)) (r qw qk qh : Int32) (fx : Nat → Int32) (qr : Int32) : Prop := r = R.1 ∧ qw = R.1 ∧ qk = R.2.1 ∧ qh = R.2.2.1 ∧ nf fx = R.2.2.2 ∧ qr = 1
set_option maxHeartbeats 16000000 in
theorem run_sim {qv ql qm fx gx fb gb e0 e1 e2 e3 f2 g2 k0 k1 k2 k3 rk ra rb a b c ma mb mc : Nat → Int32} {k4 k5 : Nat → Int64} {w qa qr qw qk qh cn rc : Int32} {sd : Int64} (hni : NI cn k0 k1 k2) (hrn : RN cn k0 k1 k2 a b c) (hyx : YX cn k0 k1 k2) (hru : RU cn k0 k1 k2 k4 k5) (hrr : RRL rc cn rk ra rb ma mb mc) (hri : RI rc ra rb) (hw : w.toInt ≤ 5000) : ∀ (fuel : Nat) (i qa9 : Int32) (qv9 ql9 qm9 fx9 gx9 : Nat → Int32) (qk9 qh9 : Int32) (y0 y1 y2 y3 f9 g9 : Nat → Int32) (sd9 : Int64) (v3 : Nat → Int32), 0 ≤ i.toInt → i.toInt ≤ w.toInt → w.toInt - i.toInt < fuel → 0 ≤ qa9.toInt → CV cn k0 k1 k2 f9 g9 y0 y1 y2 y3 sd9 → BXP qa9.toNatClampNeg (b8 fx9) (b8 gx9) → GS (csk qv9 ql9 qm9 fb gb qa9.toNatClampNeg (nf fx9) (nf gx9)) → CI fb gb qv9 qa9.toNatClampNeg fx9 gx9 → RES (srch (FJ a b c ma mb mc cn rc) (w.toInt - i.toInt).toNat (nf fx9) (nf gx9) (csk qv9 ql9 qm9 fb gb qa9.toNatClampNeg (nf fx9) (nf gx9)) qk9 qh9) (kX5_run_l19 fuel qv ql qm fx gx fb gb e0 e1 e2 e3 f2 g2 k0 k1 k2 k3 k4 k5 rk ra rb w qa qr qw qk qh sd cn rc (kX4_allRestOn ra rb k4 rc) i qa9 qv9 ql9 qm9 fx9 gx9 qk9 qh9 y0 y1 y2 y3 f9 g9 sd9 v3) (kX5_run_l19_qw9 fuel qv ql qm fx gx fb gb e0 e1 e2 e3 f2 g2 k0 k1 k2 k3 k4 k5 rk ra rb w qa qr qw qk qh sd cn rc (kX4_allRestOn ra rb k4 rc) i qa9 qv9 ql9 qm9 fx9 gx9 qk9 qh9 y0 y1 y2 y3 f9 g9 sd9 v3) (kX5_run_l19_qk9 fuel qv ql qm fx gx fb gb e0 e1 e2 e3 f2 g2 k0 k1 k2 k3 k4 k5 rk ra rb w qa qr qw qk qh sd cn rc (kX4_allRestOn ra rb k4 rc) i qa9 qv9 ql9 qm9 fx9 gx9 qk9 qh9 y0 y1 y2 y3 f9 g9 sd9 v3) (kX5_run_l19_qh9 fuel qv ql qm fx gx fb gb e0 e1 e2 e3 f2 g2 k0 k1 k2 k3 k4 k5 rk ra rb w qa qr qw qk qh sd cn rc (kX4_allRestOn ra rb k4 rc) i qa9 qv9 ql9 qm9 fx9 gx9 qk9 qh9 y0 y1 y2 y3 f9 g9 sd9 v3) (kX5_run_l19_fx9 fuel qv ql qm fx gx fb gb e0 e1 e2 e3 f2 g2 k0 k1 k2 k3 k4 k5 rk ra rb w qa qr qw qk qh sd cn rc (kX4_allRestOn ra rb k4 rc) i qa9 qv9 ql9 qm9 fx9 gx9 qk9 qh9 y0 y1 y2 y3 f9 g9 sd9 v3) (kX5_run_l19_qr9 fuel qv ql qm fx gx fb gb e0 e1 e2 e3 f2 g2 k0 k1 k2 k3 k4 k5 rk ra rb w qa qr qw qk qh sd cn rc (kX4_allRestOn ra rb k4 rc) i qa9 qv9 ql9 qm9 fx9 gx9 qk9 qh9 y0 y1 y2 y3 f9 g9 sd9 v3) ∧ CV cn k0 k1 k2 (kX5_run_l19_f9 fuel qv ql qm fx gx fb gb e0 e1 e2 e3 f2 g2 k0 k1 k2 k3 k4 k5 rk ra rb w qa qr qw qk qh sd cn rc (kX4_allRestOn ra rb k4 rc) i qa9 qv9 ql9 qm9 fx9 gx9 qk9 qh9 y0 y1 y2 y3 f9 g9 sd9 v3) (kX5_run_l19_g9 fuel qv ql qm fx gx fb gb e0 e1 e2 e3 f2 g2 k0 k1 k2 k3 k4 k5 rk ra rb w qa qr qw qk qh sd cn rc (kX4_allRestOn ra rb k4 rc) i qa9 qv9 ql9 qm9 fx9 gx9 qk9 qh9 y0 y1 y2 y3 f9 g9 sd9 v3) (kX5_run_l19_y0 fuel qv ql qm fx gx fb gb e0 e1 e2 e3 f2 g2 k0 k1 k2 k3 k4 k5 rk ra rb w qa qr qw qk qh sd cn rc (kX4_allRestOn ra rb k4 rc) i qa9 qv9 ql9 qm9 fx9 gx9 qk9 qh9 y0 y1 y2 y3 f9 g9 sd9 v3) (kX5_run_l19_y1 fuel qv ql qm fx gx fb gb e0 e1 e2 e3 f2 g2 k0 k1 k2 k3 k4 k5 rk ra rb w qa qr qw qk qh sd cn rc (kX4_allRestOn ra rb k4 rc) i qa9 qv9 ql9 qm9 fx9 gx9 qk9 qh9 y0 y1 y2 y3 f9 g9 sd9 v3) (kX5_run_l19_y2 fuel qv ql qm fx gx fb gb e0 e1 e2 e3 f2 g2 k0 k1 k2 k3 k4 k5 rk ra rb w qa qr qw qk qh sd cn rc (kX4_allRestOn ra rb k4 rc) i qa9 qv9 ql9 qm9 fx9 gx9 qk9 qh9 y0 y1 y2 y3 f9 g9 sd9 v3) (kX5_run_l19_y3 fuel qv ql qm fx gx fb gb e0 e1 e2 e3 f2 g2 k0 k1 k2 k3 k4 k5 rk ra rb w qa qr qw qk qh sd cn rc (kX4_allRestOn ra rb k4 rc) i qa9 qv9 ql9 qm9 fx9 gx9 qk9 qh9 y0 y1 y2 y3 f9 g9 sd9 v3) (kX5_run_l19_sd9 fuel qv ql qm fx gx fb gb e0 e1 e2 e3 f2 g2 k0 k1 k2 k3 k4 k5 rk ra rb w qa qr qw qk qh sd cn rc (kX4_allRestOn ra rb k4 rc) i qa9 qv9 ql9 qm9 fx9 gx9 qk9 qh9 y0 y1 y2 y3 f9 g9 sd9 v3) := by
  intro fuel
  induction fuel with
  | zero => intro i qa9 qv9 ql9 qm9 fx9 gx9 qk9 qh9 y0 y1 y2 y3 f9 g9 sd9 v3 _ _ h; exact absurd h (by omega)
  | succ fuel ih =>
    intro i qa9 qv9 ql9 qm9 fx9 gx9 qk9 qh9 y0 y1 y2 y3 f9 g9 sd9 v3 h0 h1 hf hq0 hcv hbx hgs hci
    by_cases hi : w.toInt ≤ i.toInt
    · rw [kX5_run_l19_S, if_pos hi, kX5_run_l19_qw9_S, if_pos hi, kX5_run_l19_qk9_S, if_pos hi, kX5_run_l19_qh9_S, if_pos hi, kX5_run_l19_fx9_S, if_pos hi, kX5_run_l19_qr9_S, if_pos hi, kX5_run_l19_f9_S, if_pos hi, kX5_run_l19_g9_S, if_pos hi, kX5_run_l19_y0_S, if_pos hi, kX5_run_l19_y1_S, if_pos hi, kX5_run_l19_y2_S, if_pos hi, kX5_run_l19_y3_S, if_pos hi, kX5_run_l19_sd9_S, if_pos hi]
      rw [show (w.toInt - i.toInt).toNat = 0 by omega, srch_0]
      exact ⟨⟨rfl, rfl, rfl, rfl, rfl, rfl⟩, hcv⟩
    · have ei : (i + 1).toInt = i.toInt + 1 := sp_inc (by omega)
      have eq := px_cl hq0
      have hz := z39_eq (qv := qv) (ql := ql) (qm := qm) (fx := fx) (gx := gx) (fb := fb) (gb := gb) (e0 := e0) (e1 := e1) (e2 := e2) (e3 := e3) (f2 := f2) (g2 := g2) (k3 := k3) (w := w) (qa := qa) (qr := qr) (qw := qw) (qk := qk) (qh := qh) (sd := sd) i qa9 qv9 ql9 qm9 fx9 gx9 qk9 qh9 y0 y1 y2 y3 f9 g9 sd9 v3 hni hrn hyx hru hrr hri hcv hbx.pbx
      have hF := FJ_nf a b c ma mb mc cn rc fx9 gx9
      have hcv9 := CV.fill2 (f := fx9) (g := gx9) hni hru hcv (ar_all hru (RRL.rc hrr) hri)
      rw [show (w.toInt - i.toInt).toNat = (w.toInt - (i + 1).toInt).toNat + 1 by omega]
      by_cases v1 : (FJ a b c ma mb mc cn rc fx9 gx9).toInt = 1
      · have z1 := (congrArg Int32.toInt hz).trans v1
        rw [kX5_run_l19_S, if_neg hi, if_pos z1, kX5_run_l19_qw9_S, if_neg hi, if_pos z1, kX5_run_l19_qk9_S, if_neg hi, if_pos z1, kX5_run_l19_qh9_S, if_neg hi, if_pos z1, kX5_run_l19_fx9_S, if_neg hi, if_pos z1, kX5_run_l19_qr9_S, if_neg hi, if_pos z1, kX5_run_l19_f9_S, if_neg hi, if_pos z1, kX5_run_l19_g9_S, if_neg hi, if_pos z1, kX5_run_l19_y0_S, if_neg hi, if_pos z1, kX5_run_l19_y1_S, if_neg hi, if_pos z1, kX5_run_l19_y2_S, if_neg hi, if_pos z1, kX5_run_l19_y3_S, if_neg hi, if_pos z1, kX5_run_l19_sd9_S, if_neg hi, if_pos z1]
        rw [srch_1 ((congrArg Int32.toInt hF).trans v1)]
        exact ⟨⟨rfl, rfl, rfl, rfl, rfl, rfl⟩, hcv9⟩
      · have z1 : ¬ (kX5_run_l19_95_z39 qv ql qm fx gx fb gb e0 e1 e2 e3 f2 g2 k0 k1 k2 k3 k4 k5 rk ra rb w qa qr qw qk qh sd cn rc (kX4_allRestOn ra rb k4 rc) i qa9 qv9 ql9 qm9 fx9 gx9 qk9 qh9 y0 y1 y2 y3 f9 g9 sd9 v3).toInt = 1 := fun q => v1 ((congrArg Int32.toInt hz).symm.trans q)
        by_cases v2 : (FJ a b c ma mb mc cn rc fx9 gx9).toInt = 2
        · have z2 := (congrArg Int32.toInt hz).trans v2
          rw [kX5_run_l19_S, if_neg hi, if_neg z1, if_pos z2, kX5_run_l19_qw9_S, if_neg hi, if_neg z1, if_pos z2, kX5_run_l19_qk9_S, if_neg hi, if_neg z1, if_pos z2, kX5_run_l19_qh9_S, if_neg hi, if_neg z1, if_pos z2, kX5_run_l19_fx9_S, if_neg hi, if_neg z1, if_pos z2, kX5_run_l19_qr9_S, if_neg hi, if_neg z1, if_pos z2, kX5_run_l19_f9_S, if_neg hi, if_neg z1, if_pos z2, kX5_run_l19_g9_S, if_neg hi, if_neg z1, if_pos z2, kX5_run_l19_y0_S, if_neg hi, if_neg z1, if_pos z2, kX5_run_l19_y1_S, if_neg hi, if_neg z1, if_pos z2, kX5_run_l19_y2_S, if_neg hi, if_neg z1, if_pos z2, kX5_run_l19_y3_S, if_neg hi, if_neg z1, if_pos z2, kX5_run_l19_sd9_S, if_neg hi, if_neg z1, if_pos z2]
          rw [srch_2 ((congrArg Int32.toInt hF).trans v2), fwn_nf]
          obtain ⟨⟨w1, w2⟩, w3, _, _⟩ := fw_spec fx9 gx9
          have hv : fwn fx9 gx9 < 4 := fj_wide v2
          obtain ⟨b1, b2, b3, _, _⟩ := hbx.halve hv
          have hm : smid (nf fx9) (nf gx9) (fwn fx9 gx9) = smid fx9 gx9 (fwn fx9 gx9) := by
            unfold smid
            rw [nf_at hv, nf_at hv]
          have h128 : ¬ 128 ≤ qa9.toInt := by omega
          have ea : (qa9 + 1).toInt = qa9.toInt + 1 := sp_inc (by omega)
          have en : (qa9 + 1).toNatClampNeg = qa9.toNatClampNeg + 1 := px_clS hq0 ea
          have k1_ : kX5_halve_qa9 qv9 ql9 qm9 fx9 gx9 (kX1_firstWide fx9 gx9) qa9 qh9 = qa9 + 1 := if_neg h128
          have k2_ : kX5_halve_qv9 qv9 ql9 qm9 fx9 gx9 (kX1_firstWide fx9 gx9) qa9 qh9 = upd qv9 qa9.toNatClampNeg (kX1_firstWide fx9 gx9) := if_neg h128
          have k3_ : kX5_halve_ql9 qv9 ql9 qm9 fx9 gx9 (kX1_firstWide fx9 gx9) qa9 qh9 = upd ql9 qa9.toNatClampNeg (smid fx9 gx9 (fwn fx9 gx9) + 1) := if_neg h128
          have k4_ : kX5_halve_qm9 qv9 ql9 qm9 fx9 gx9 (kX1_firstWide fx9 gx9) qa9 qh9 = upd qm9 qa9.toNatClampNeg (gx9 (fwn fx9 gx9)) := if_neg h128
          have k5_ : kX5_halve_fx9 qv9 ql9 qm9 fx9 gx9 (kX1_firstWide fx9 gx9) qa9 qh9 = fx9 := by
            show upd fx9 (fwn fx9 gx9) (fx9 (fwn fx9 gx9)) = fx9
            funext u
            by_cases q : u = fwn fx9 gx9
            · rw [q, px_updS]
            · rw [px_updO _ _ q]
          have k6_ : kX5_halve_gx9 qv9 ql9 qm9 fx9 gx9 (kX1_firstWide fx9 gx9) qa9 qh9 = upd gx9 (fwn fx9 gx9) (smid fx9 gx9 (fwn fx9 gx9)) := rfl
          have k7_ : kX5_halve_qh9 qv9 ql9 qm9 fx9 gx9 (kX1_firstWide fx9 gx9) qa9 qh9 = qh9 + 1 := rfl
          have hP := csk_push (ql := ql9) (qm := qm9) hci hv (smid fx9 gx9 (fwn fx9 gx9)) (x := kX1_firstWide fx9 gx9) rfl
          rw [k1_, k2_, k3_, k4_, k5_, k6_, k7_, hm]
          have H := ih (i + 1) (qa9 + 1) (upd qv9 qa9.toNatClampNeg (kX1_firstWide fx9 gx9)) (upd ql9 qa9.toNatClampNeg (smid fx9 gx9 (fwn fx9 gx9) + 1)) (upd qm9 qa9.toNatClampNeg (gx9 (fwn fx9 gx9))) fx9 (upd gx9 (fwn fx9 gx9) (smid fx9 gx9 (fwn fx9 gx9))) (qk9 + 1) (qh9 + 1) (kX6_fill_y0 y0 y1 y2 y3 f9 g9 fx9 gx9 k0 k1 k2 k5 (kX4_allRestOn ra rb k4 rc) sd9 cn) (kX6_fill_y1 y0 y1 y2 y3 f9 g9 fx9 gx9 k0 k1 k2 k5 (kX4_allRestOn ra rb k4 rc) sd9 cn) (kX6_fill_y2 y0 y1 y2 y3 f9 g9 fx9 gx9 k0 k1 k2 k5 (kX4_allRestOn ra rb k4 rc) sd9 cn) (kX6_fill_y3 y0 y1 y2 y3 f9 g9 fx9 gx9 k0 k1 k2 k5 (kX4_allRestOn ra rb k4 rc) sd9 cn) (kX6_fill_f9 y0 y1 y2 y3 f9 g9 fx9 gx9 k0 k1 k2 k5 (kX4_allRestOn ra rb k4 rc) sd9 cn) (kX6_fill_g9 y0 y1 y2 y3 f9 g9 fx9 gx9 k0 k1 k2 k5 (kX4_allRestOn ra rb k4 rc) sd9 cn) (kX6_fill_sd9 y0 y1 y2 y3 f9 g9 fx9 gx9 k0 k1 k2 k5 (kX4_allRestOn ra rb k4 rc) sd9 cn) (kX5_run_l19_95_z40 qv ql qm fx gx fb gb e0 e1 e2 e3 f2 g2 k0 k1 k2 k3 k4 k5 rk ra rb w qa qr qw qk qh sd cn rc (kX4_allRestOn ra rb k4 rc) i qa9 qv9 ql9 qm9 fx9 gx9 qk9 qh9 y0 y1 y2 y3 f9 g9 sd9 v3) (by omega) (by omega) (by omega) (by omega) hcv9 (by rw [en]; exact b2) (by
            rw [en, nf_upd hv, hP]
            refine ⟨?_, hgs⟩
            rw [csk_len]
            show BXP _ (b8 (upd (nf fx9) (fwn fx9 gx9) (smid fx9 gx9 (fwn fx9 gx9) + 1))) (b8 (nf gx9))
            rw [← nf_upd hv, b8_nf, b8_nf]
            exact b1.le (by omega)) (by rw [en]; exact hci.halve hv _ w1 rfl)
          rw [en, nf_upd hv, hP] at H
          exact H
        · have z2 : ¬ (kX5_run_l19_95_z39 qv ql qm fx gx fb gb e0 e1 e2 e3 f2 g2 k0 k1 k2 k3 k4 k5 rk ra rb w qa qr qw qk qh sd cn rc (kX4_allRestOn ra rb k4 rc) i qa9 qv9 ql9 qm9 fx9 gx9 qk9 qh9 y0 y1 y2 y3 f9 g9 sd9 v3).toInt = 2 := fun q => v2 ((congrArg Int32.toInt hz).symm.trans q)
          have f1 : ¬ (FJ a b c ma mb mc cn rc (nf fx9) (nf gx9)).toInt = 1 := by rw [hF]; exact v1
          have f2_ : ¬ (FJ a b c ma mb mc cn rc (nf fx9) (nf gx9)).toInt = 2 := by rw [hF]; exact v2
          by_cases ha : qa9.toInt = 0
          · rw [kX5_run_l19_S, if_neg hi, if_neg z1, if_neg z2, if_pos ha, kX5_run_l19_qw9_S, if_neg hi, if_neg z1, if_neg z2, if_pos ha, kX5_run_l19_qk9_S, if_neg hi, if_neg z1, if_neg z2, if_pos ha, kX5_run_l19_qh9_S, if_neg hi, if_neg z1, if_neg z2, if_pos ha, kX5_run_l19_fx9_S, if_neg hi, if_neg z1, if_neg z2, if_pos ha, kX5_run_l19_qr9_S, if_neg hi, if_neg z1, if_neg z2, if_pos ha, kX5_run_l19_f9_S, if_neg hi, if_neg z1, if_neg z2, if_pos ha, kX5_run_l19_g9_S, if_neg hi, if_neg z1, if_neg z2, if_pos ha, kX5_run_l19_y0_S, if_neg hi, if_neg z1, if_neg z2, if_pos ha, kX5_run_l19_y1_S, if_neg hi, if_neg z1, if_neg z2, if_pos ha, kX5_run_l19_y2_S, if_neg hi, if_neg z1, if_neg z2, if_pos ha, kX5_run_l19_y3_S, if_neg hi, if_neg z1, if_neg z2, if_pos ha, kX5_run_l19_sd9_S, if_neg hi, if_neg z1, if_neg z2, if_pos ha]
            have hk0 : qa9.toNatClampNeg = 0 := by omega
            rw [hk0, csk, srch_n f1 f2_]
            exact ⟨⟨rfl, rfl, rfl, rfl, rfl, rfl⟩, hcv9⟩
          · rw [kX5_run_l19_S, if_neg hi, if_neg z1, if_neg z2, if_neg ha, kX5_run_l19_qw9_S, if_neg hi, if_neg z1, if_neg z2, if_neg ha, kX5_run_l19_qk9_S, if_neg hi, if_neg z1, if_neg z2, if_neg ha, kX5_run_l19_qh9_S, if_neg hi, if_neg z1, if_neg z2, if_neg ha, kX5_run_l19_fx9_S, if_neg hi, if_neg z1, if_neg z2, if_neg ha, kX5_run_l19_qr9_S, if_neg hi, if_neg z1, if_neg z2, if_neg ha, kX5_run_l19_f9_S, if_neg hi, if_neg z1, if_neg z2, if_neg ha, kX5_run_l19_g9_S, if_neg hi, if_neg z1, if_neg z2, if_neg ha, kX5_run_l19_y0_S, if_neg hi, if_neg z1, if_neg z2, if_neg ha, kX5_run_l19_y1_S, if_neg hi, if_neg z1, if_neg z2, if_neg ha, kX5_run_l19_y2_S, if_neg hi, if_neg z1, if_neg z2, if_neg ha, kX5_run_l19_y3_S, if_neg hi, if_neg z1, if_neg z2, if_neg ha, kX5_run_l19_sd9_S, if_neg hi, if_neg z1, if_neg z2, if_neg ha]
            have eo : (1 : Int32).toInt = 1 := by decide
            have hr9 := px_rng qa9
            have ea : (qa9 - 1).toInt = qa9.toInt - 1 := by rw [px_isub (by omega) (by omega), eo]
            have en := px_cl (x := qa9 - 1) (by omega)
            have hk1 : qa9.toNatClampNeg = (qa9 - 1).toNatClampNeg + 1 := by omega
            rw [hk1] at hgs hci
            rw [hk1, csk, srch_c f1 f2_]
            have hqv := (hci.2.1 (qa9 - 1).toNatClampNeg (by omega)).1
            obtain ⟨t1, t2⟩ := tu_all (ql := ql9) (qm := qm9) (fx := fx9) (gx := gx9) (fb := fb) (gb := gb) (qa := qa9) hqv
            obtain ⟨g1, g2_⟩ := hgs
            rw [csk_len] at g1
            have H := ih (i + 1) (qa9 - 1) qv9 ql9 qm9 (kX5_takeUp_fx9 qv9 ql9 qm9 fx9 gx9 fb gb qa9) (kX5_takeUp_gx9 qv9 ql9 qm9 fx9 gx9 fb gb qa9) (qk9 + 1) qh9 (kX6_fill_y0 y0 y1 y2 y3 f9 g9 fx9 gx9 k0 k1 k2 k5 (kX4_allRestOn ra rb k4 rc) sd9 cn) (kX6_fill_y1 y0 y1 y2 y3 f9 g9 fx9 gx9 k0 k1 k2 k5 (kX4_allRestOn ra rb k4 rc) sd9 cn) (kX6_fill_y2 y0 y1 y2 y3 f9 g9 fx9 gx9 k0 k1 k2 k5 (kX4_allRestOn ra rb k4 rc) sd9 cn) (kX6_fill_y3 y0 y1 y2 y3 f9 g9 fx9 gx9 k0 k1 k2 k5 (kX4_allRestOn ra rb k4 rc) sd9 cn) (kX6_fill_f9 y0 y1 y2 y3 f9 g9 fx9 gx9 k0 k1 k2 k5 (kX4_allRestOn ra rb k4 rc) sd9 cn) (kX6_fill_g9 y0 y1 y2 y3 f9 g9 fx9 gx9 k0 k1 k2 k5 (kX4_allRestOn ra rb k4 rc) sd9 cn) (kX6_fill_sd9 y0 y1 y2 y3 f9 g9 fx9 gx9 k0 k1 k2 k5 (kX4_allRestOn ra rb k4 rc) sd9 cn) (kX5_run_l19_95_z40 qv ql qm fx gx fb gb e0 e1 e2 e3 f2 g2 k0 k1 k2 k3 k4 k5 rk ra rb w qa qr qw qk qh sd cn rc (kX4_allRestOn ra rb k4 rc) i qa9 qv9 ql9 qm9 fx9 gx9 qk9 qh9 y0 y1 y2 y3 f9 g9 sd9 v3) (by omega) (by omega) (by omega) (by omega) hcv9 (by rw [← b8_nf, ← b8_nf (kX5_takeUp_gx9 qv9 ql9 qm9 fx9 gx9 fb gb qa9), t1, t2]; exact g1) (by rw [t1, t2]; exact g2_) (CI.of_nf (by rw [t1, t2]; exact hci.take _ _))
            rw [t1, t2] at H
            exact H
