/-! the reference's stack of boxes -/
def RST (S : Nat → Int64) : List Bx → Prop
  | [] => True
  | x :: st => (∀ v : Nat, v < 4 → S (8 * st.length + v) = (x.1 v).toInt64 ∧ S (8 * st.length + 4 + v) = (x.2 v).toInt64) ∧ RST S st
theorem RST.congr {S S' : Nat → Int64} : ∀ st : List Bx, (∀ j : Nat, j < 8 * st.length → S' j = S j) → RST S st → RST S' st := by
  intro st
  induction st with
  | nil => intro _ _; trivial
  | cons x st ih =>
    intro h hr
    obtain ⟨r1, r2⟩ := hr
    rw [List.length_cons] at h
    refine ⟨fun v hv => ?_, ih (fun j hj => h j (by omega)) r2⟩
    rw [h _ (by omega), h _ (by omega)]
    exact r1 v hv
theorem RST.lay {S lo hi : Nat → Int64} {z : Int32} {st : List Bx} (x : Bx) (hz : 0 ≤ z.toInt ∧ z.toInt < 150) (hs : z.toNatClampNeg = st.length) (hx : ∀ v : Nat, v < 4 → lo v = (x.1 v).toInt64 ∧ hi v = (x.2 v).toInt64) (h : RST S st) : RST (kX8_lay_v_stack lo hi S z) (x :: st) := by
  obtain ⟨l1, l2⟩ := lay_all lo hi S hz
  rw [hs] at l1 l2
  refine ⟨fun v hv => ?_, RST.congr st l1 h⟩
  rw [(l2 v hv).1, (l2 v hv).2]
  exact hx v hv
theorem RST.half {f g : Nat → Int32} {bl bh sk : Nat → Int64} {mz : Int32} {st : List Bx} (hb : BX f g bl bh) (hv : fwn f g < 4) (hz : 0 ≤ mz.toInt ∧ mz.toInt < 140) (hs : mz.toNatClampNeg = st.length) (h : RST sk st) : RST (lkH bl bh sk mz (kX1_firstWide f g)) ((f, upd g (fwn f g) (smid f g (fwn f g))) :: (upd f (fwn f g) (smid f g (fwn f g) + 1), g) :: st) := by
  have e1 : (mz + 1).toInt = mz.toInt + 1 := sp_inc (by omega)
  have en : (mz + 1).toNatClampNeg = mz.toNatClampNeg + 1 := px_clS hz.1 e1
  have hpv := (hb _ hv).2.2
  obtain ⟨s1, s2⟩ := smid_i hpv
  have b1 := (hb _ hv).1
  have b2 := (hb _ hv).2.1
  have fe : (kX1_firstWide f g).toNatClampNeg = fwn f g := rfl
  unfold lkH
  rw [fe]
  have hM : (bl (fwn f g) + bh (fwn f g)) >>> ((1 : Int32).toInt64 &&& 63) = (smid f g (fwn f g)).toInt64 := by
    apply Int64.toInt_inj.mp
    rw [s2, b1, b2, px_shrE, px_ladd (by rw [Int32.toInt_toInt64, Int32.toInt_toInt64]; obtain ⟨a1, a2, a3⟩ := hpv; omega) (by rw [Int32.toInt_toInt64, Int32.toInt_toInt64]; obtain ⟨a1, a2, a3⟩ := hpv; omega), Int32.toInt_toInt64, Int32.toInt_toInt64]
  have hM1 : (smid f g (fwn f g)).toInt64 + 1 = (smid f g (fwn f g) + 1).toInt64 := by
    obtain ⟨a1, a2, a3⟩ := hpv
    have o1 : (1 : Int64).toInt = 1 := by decide
    apply Int64.toInt_inj.mp
    rw [px_ladd (by omega) (by omega), Int32.toInt_toInt64, Int32.toInt_toInt64, o1, sp_inc (by omega)]
  rw [hM, hM1]
  refine RST.lay (f, upd g (fwn f g) (smid f g (fwn f g))) ⟨by omega, by omega⟩ (by rw [en, hs]; rfl) (fun v hv4 => ?_) (RST.lay (upd f (fwn f g) (smid f g (fwn f g) + 1), g) ⟨by omega, by omega⟩ hs (fun v hv4 => ?_) h)
  · obtain ⟨c1, c2, _⟩ := hb v hv4
    by_cases q : v = fwn f g
    · rw [q, px_ulS, px_ulS]
      exact ⟨b1, by show _ = (upd g (fwn f g) (smid f g (fwn f g)) (fwn f g)).toInt64; rw [px_updS]⟩
    · rw [px_ulO _ _ q, px_ulO _ _ q, px_ulO _ _ q]
      exact ⟨c1, by show _ = (upd g (fwn f g) (smid f g (fwn f g)) v).toInt64; rw [px_updO _ _ q]; exact c2⟩
  · obtain ⟨c1, c2, _⟩ := hb v hv4
    refine ⟨?_, c2⟩
    show _ = (upd f (fwn f g) (smid f g (fwn f g) + 1) v).toInt64
    by_cases q : v = fwn f g
    · rw [q, px_ulS, px_updS]
    · rw [px_ulO _ _ q, px_updO _ _ q]
      exact c1
def RRS (F : (Nat → Int32) → (Nat → Int32) → Int32) (w : Int32) (st : List Bx) (l h : Int32) (d : Nat → Int32) : Int32 × Int32 × Int32 × (Nat → Int32) := match st with
  | [] => (0, l, h, d)
  | x :: st' => srch F (w.toInt - l.toInt).toNat x.1 x.2 st' l h
def RESR (R : Int32 × Int32 × Int32 × (Nat → Int32)) (r mw mk mh : Int32) (fo : Nat → Int64) (mi : Int32) : Prop := r = R.1 ∧ mw = R.1 ∧ mk = R.2.1 ∧ mh = R.2.2.1 ∧ (R.1 = 1 → ∀ v : Nat, v < 4 → fo v = (R.2.2.2 v).toInt64) ∧ mi = 1
theorem RRS.step {F : (Nat → Int32) → (Nat → Int32) → Int32} {w l : Int32} (hl : l.toInt < w.toInt) (e1 : (l + 1).toInt = l.toInt + 1) (x : Bx) (st : List Bx) (h : Int32) (q : ¬ (F x.1 x.2).toInt = 1) (q2 : ¬ (F x.1 x.2).toInt = 2) (d : Nat → Int32) : RRS F w (x :: st) l h d = RRS F w st (l + 1) h x.1 := by
  show srch F (w.toInt - l.toInt).toNat x.1 x.2 st l h = _
  rw [show (w.toInt - l.toInt).toNat = (w.toInt - (l + 1).toInt).toNat + 1 by omega]
  cases st with
  | nil => exact srch_n q q2 l h
  | cons y st => exact srch_c q q2 y st l h
theorem BXP.n {n : Nat} {lo hi : Nat → Int64} (h : BXP n lo hi) : n ≤ 128 := by
  obtain ⟨k, h1, _⟩ := h
  omega
theorem FJ3 {a b c ma mb mc f g : Nat → Int32} {cn rc : Int32} : V3 (FJ a b c ma mb mc cn rc f g) := by
  unfold FJ
  refine V3.ite (V3.ite ?_ V3.v2) (V3.va 14 1 0 V3.v1)
  rcases tall01 (jt a b c ma mb mc cn f) rc 14 0 with e | e <;> rw [e]
  · exact V3.v0
  · exact V3.v1
set_option maxHeartbeats 16000000 in
theorem solve_sim {a b c ma mb mc : Nat → Int32} {lo hi fo0 wo0 bl0 bh0 : Nat → Int64} {h0_ : Nat → Int32} {l0_ m0_ : Nat → Int64} {n0_ : Nat → Int32} {sk0 : Nat → Int64} {w cn rc mi mw mk mh mz : Int32} {k0 k1 k2 rk ra rb : Nat → Int32} {k4 k5 : Nat → Int64} (hni : NI cn k0 k1 k2) (hrn : RN cn k0 k1 k2 a b c) (hyx : YX cn k0 k1 k2) (hru : RU cn k0 k1 k2 k4 k5) (hrr : RRL rc cn rk ra rb ma mb mc) (hri : RI rc ra rb) (hw : w.toInt ≤ 5000) : ∀ (fuel : Nat) (fo wo bl bh : Nat → Int64) (h : Nat → Int32) (l m : Nat → Int64) (n : Nat → Int32) (sk : Nat → Int64) (mk9 mh9 mz9 : Int32) (st : List Bx) (d : Nat → Int32), 0 ≤ mk9.toInt → mk9.toInt ≤ w.toInt → w.toInt - mk9.toInt + 2 < fuel → 0 ≤ mz9.toInt → mz9.toNatClampNeg = st.length → RST sk st → GS st → RESR (RRS (FJ a b c ma mb mc cn rc) w st mk9 mh9 d) (kX8_solve_l86 fuel a b c ma mb mc lo hi fo0 wo0 bl0 bh0 h0_ l0_ m0_ n0_ sk0 w cn rc mi mw mk mh mz fo wo bl bh h l m n sk (-1) mk9 mh9 mz9) (kX8_solve_l86_mw9 fuel a b c ma mb mc lo hi fo0 wo0 bl0 bh0 h0_ l0_ m0_ n0_ sk0 w cn rc mi mw mk mh mz fo wo bl bh h l m n sk (-1) mk9 mh9 mz9) (kX8_solve_l86_mk9 fuel a b c ma mb mc lo hi fo0 wo0 bl0 bh0 h0_ l0_ m0_ n0_ sk0 w cn rc mi mw mk mh mz fo wo bl bh h l m n sk (-1) mk9 mh9 mz9) (kX8_solve_l86_mh9 fuel a b c ma mb mc lo hi fo0 wo0 bl0 bh0 h0_ l0_ m0_ n0_ sk0 w cn rc mi mw mk mh mz fo wo bl bh h l m n sk (-1) mk9 mh9 mz9) (kX8_solve_l86_v_found fuel a b c ma mb mc lo hi fo0 wo0 bl0 bh0 h0_ l0_ m0_ n0_ sk0 w cn rc mi mw mk mh mz fo wo bl bh h l m n sk (-1) mk9 mh9 mz9) (kX8_solve_l86_mi9 fuel a b c ma mb mc lo hi fo0 wo0 bl0 bh0 h0_ l0_ m0_ n0_ sk0 w cn rc mi mw mk mh mz fo wo bl bh h l m n sk (-1) mk9 mh9 mz9) := by
  have hm1 : ¬ 0 ≤ (-1 : Int32).toInt := by decide
  have h00 : 0 ≤ (0 : Int32).toInt := by decide
  have h01 : 0 ≤ (1 : Int32).toInt := by decide
  have h02 : 0 ≤ (2 : Int32).toInt := by decide
  intro fuel
  induction fuel with
  | zero => intro fo wo bl bh h l m n sk mk9 mh9 mz9 st d _ _ q; exact absurd q (by omega)
  | succ fuel ih =>
    intro fo wo bl bh h l m n sk mk9 mh9 mz9 st d k0_ k1_ hf z0 hst hrst hgs
    have ez := px_cl z0
    cases st with
    | nil =>
      have hz : mz9.toInt = 0 := by rw [List.length_nil] at hst; omega
      rw [kX8_solve_l86_S, if_neg hm1, if_pos hz, kX8_solve_l86_mw9_S, if_neg hm1, if_pos hz, kX8_solve_l86_mk9_S, if_neg hm1, if_pos hz, kX8_solve_l86_mh9_S, if_neg hm1, if_pos hz, kX8_solve_l86_v_found_S, if_neg hm1, if_pos hz, kX8_solve_l86_mi9_S, if_neg hm1, if_pos hz]
      obtain ⟨f', rfl⟩ : ∃ f', fuel = f' + 1 := ⟨fuel - 1, by omega⟩
      rw [kX8_solve_l86_S, if_pos h00, kX8_solve_l86_mw9_S, if_pos h00, kX8_solve_l86_mk9_S, if_pos h00, kX8_solve_l86_mh9_S, if_pos h00, kX8_solve_l86_v_found_S, if_pos h00, kX8_solve_l86_mi9_S, if_pos h00]
      exact ⟨rfl, rfl, rfl, rfl, fun q => absurd (show (0 : Int32) = 1 from q) (by decide), rfl⟩
    | cons x st =>
      rw [List.length_cons] at hst
      have hz : ¬ mz9.toInt = 0 := by omega
      by_cases hk : mk9.toInt = w.toInt
      · rw [kX8_solve_l86_S, if_neg hm1, if_neg hz, if_pos hk, kX8_solve_l86_mw9_S, if_neg hm1, if_neg hz, if_pos hk, kX8_solve_l86_mk9_S, if_neg hm1, if_neg hz, if_pos hk, kX8_solve_l86_mh9_S, if_neg hm1, if_neg hz, if_pos hk, kX8_solve_l86_v_found_S, if_neg hm1, if_neg hz, if_pos hk, kX8_solve_l86_mi9_S, if_neg hm1, if_neg hz, if_pos hk]
        obtain ⟨f', rfl⟩ : ∃ f', fuel = f' + 1 := ⟨fuel - 1, by omega⟩
        rw [kX8_solve_l86_S, if_pos h02, kX8_solve_l86_mw9_S, if_pos h02, kX8_solve_l86_mk9_S, if_pos h02, kX8_solve_l86_mh9_S, if_pos h02, kX8_solve_l86_v_found_S, if_pos h02, kX8_solve_l86_mi9_S, if_pos h02]
        show RESR (srch (FJ a b c ma mb mc cn rc) (w.toInt - mk9.toInt).toNat x.1 x.2 st mk9 mh9) _ _ _ _ _ _
        rw [show (w.toInt - mk9.toInt).toNat = 0 by omega, srch_0]
        exact ⟨rfl, rfl, rfl, rfl, fun q => absurd (show (2 : Int32) = 1 from q) (by decide), rfl⟩
      · rw [kX8_solve_l86_S, if_neg hm1, if_neg hz, if_neg hk, kX8_solve_l86_mw9_S, if_neg hm1, if_neg hz, if_neg hk, kX8_solve_l86_mk9_S, if_neg hm1, if_neg hz, if_neg hk, kX8_solve_l86_mh9_S, if_neg hm1, if_neg hz, if_neg hk, kX8_solve_l86_v_found_S, if_neg hm1, if_neg hz, if_neg hk, kX8_solve_l86_mi9_S, if_neg hm1, if_neg hz, if_neg hk]
        obtain ⟨r1, r2⟩ := hrst
        obtain ⟨g1, g2⟩ := hgs
        have hn := g1.n
        have eo : (1 : Int32).toInt = 1 := by decide
        have hr9 := px_rng mz9
        have em : (mz9 - 1).toInt = mz9.toInt - 1 := by rw [px_isub (by omega) (by omega), eo]
        have en := px_cl (x := mz9 - 1) (by omega)
        have hzn : (mz9 - 1).toNatClampNeg = st.length := by omega
        have ek : (mk9 + 1).toInt = mk9.toInt + 1 := sp_inc (by omega)
        have hlf := lift_all bl bh sk (z := mz9) ⟨by omega, by omega⟩
        rw [hzn] at hlf
        have hbx : BX x.1 x.2 (kX8_lift_v_boxLow bl bh sk mz9) (kX8_lift_v_boxHigh bl bh sk mz9) := fun v hv => ⟨(hlf v hv).1.trans (r1 v hv).1, (hlf v hv).2.trans (r1 v hv).2, g1.pbx v hv⟩
        rcases (FJ3 (a := a) (b := b) (c := c) (ma := ma) (mb := mb) (mc := mc) (cn := cn) (rc := rc) (f := x.1) (g := x.2)).i with ⟨_, v0⟩ | ⟨_, v1⟩ | ⟨_, v2⟩
        · have a_mw9 : kX8_look_mw9 a b c ma mb mc fo wo (kX8_lift_v_boxLow bl bh sk mz9) (kX8_lift_v_boxHigh bl bh sk mz9) h l m n sk cn rc (-1) mh9 (mz9 - 1) = (-1) := (look_mw9 (f := x.1) (g := x.2) hni hrn hyx hru hrr hri hbx).trans (if_pos v0)
          have a_mh9 : kX8_look_mh9 a b c ma mb mc fo wo (kX8_lift_v_boxLow bl bh sk mz9) (kX8_lift_v_boxHigh bl bh sk mz9) h l m n sk cn rc (-1) mh9 (mz9 - 1) = mh9 := (look_mh9 (f := x.1) (g := x.2) hni hrn hyx hru hrr hri hbx).trans (if_pos v0)
          have a_mz9 : kX8_look_mz9 a b c ma mb mc fo wo (kX8_lift_v_boxLow bl bh sk mz9) (kX8_lift_v_boxHigh bl bh sk mz9) h l m n sk cn rc (-1) mh9 (mz9 - 1) = (mz9 - 1) := (look_mz9 (f := x.1) (g := x.2) hni hrn hyx hru hrr hri hbx).trans (if_pos v0)
          have a_v_stack : kX8_look_v_stack a b c ma mb mc fo wo (kX8_lift_v_boxLow bl bh sk mz9) (kX8_lift_v_boxHigh bl bh sk mz9) h l m n sk cn rc (-1) mh9 (mz9 - 1) = sk := (look_v_stack (f := x.1) (g := x.2) hni hrn hyx hru hrr hri hbx).trans (if_pos v0)
          have a_v_found : kX8_look_v_found a b c ma mb mc fo wo (kX8_lift_v_boxLow bl bh sk mz9) (kX8_lift_v_boxHigh bl bh sk mz9) h l m n sk cn rc (-1) mh9 (mz9 - 1) = fo := (look_v_found (f := x.1) (g := x.2) hni hrn hyx hru hrr hri hbx).trans (if_pos v0)
          rw [a_mw9, a_mh9, a_mz9, a_v_stack, a_v_found]
          rw [RRS.step (show mk9.toInt < w.toInt by omega) ek x st mh9 (by omega) (by omega)]
          exact ih _ _ _ _ _ _ _ _ _ (mk9 + 1) _ (mz9 - 1) st x.1 (by omega) (by omega) (by omega) (by omega) hzn r2 g2
        · have n0 : ¬ (FJ a b c ma mb mc cn rc x.1 x.2).toInt = 0 := by omega
          have a_mw9 : kX8_look_mw9 a b c ma mb mc fo wo (kX8_lift_v_boxLow bl bh sk mz9) (kX8_lift_v_boxHigh bl bh sk mz9) h l m n sk cn rc (-1) mh9 (mz9 - 1) = 1 := (look_mw9 (f := x.1) (g := x.2) hni hrn hyx hru hrr hri hbx).trans ((if_neg n0).trans (if_pos v1))
          have a_mh9 : kX8_look_mh9 a b c ma mb mc fo wo (kX8_lift_v_boxLow bl bh sk mz9) (kX8_lift_v_boxHigh bl bh sk mz9) h l m n sk cn rc (-1) mh9 (mz9 - 1) = mh9 := (look_mh9 (f := x.1) (g := x.2) hni hrn hyx hru hrr hri hbx).trans ((if_neg n0).trans (if_pos v1))
          have a_mz9 : kX8_look_mz9 a b c ma mb mc fo wo (kX8_lift_v_boxLow bl bh sk mz9) (kX8_lift_v_boxHigh bl bh sk mz9) h l m n sk cn rc (-1) mh9 (mz9 - 1) = (mz9 - 1) := (look_mz9 (f := x.1) (g := x.2) hni hrn hyx hru hrr hri hbx).trans ((if_neg n0).trans (if_pos v1))
          have a_v_stack : kX8_look_v_stack a b c ma mb mc fo wo (kX8_lift_v_boxLow bl bh sk mz9) (kX8_lift_v_boxHigh bl bh sk mz9) h l m n sk cn rc (-1) mh9 (mz9 - 1) = sk := (look_v_stack (f := x.1) (g := x.2) hni hrn hyx hru hrr hri hbx).trans ((if_neg n0).trans (if_pos v1))
          have a_v_found : kX8_look_v_found a b c ma mb mc fo wo (kX8_lift_v_boxLow bl bh sk mz9) (kX8_lift_v_boxHigh bl bh sk mz9) h l m n sk cn rc (-1) mh9 (mz9 - 1) = (kX8_solves_v_found fo (kX8_lift_v_boxLow bl bh sk mz9)) := (look_v_found (f := x.1) (g := x.2) hni hrn hyx hru hrr hri hbx).trans ((if_neg n0).trans (if_pos v1))
          rw [a_mw9, a_mh9, a_mz9, a_v_stack, a_v_found]
          obtain ⟨f', rfl⟩ : ∃ f', fuel = f' + 1 := ⟨fuel - 1, by omega⟩
          rw [kX8_solve_l86_S, if_pos h01, kX8_solve_l86_mw9_S, if_pos h01, kX8_solve_l86_mk9_S, if_pos h01, kX8_solve_l86_mh9_S, if_pos h01, kX8_solve_l86_v_found_S, if_pos h01, kX8_solve_l86_mi9_S, if_pos h01]
          show RESR (srch (FJ a b c ma mb mc cn rc) (w.toInt - mk9.toInt).toNat x.1 x.2 st mk9 mh9) _ _ _ _ _ _
          rw [show (w.toInt - mk9.toInt).toNat = (w.toInt - (mk9 + 1).toInt).toNat + 1 by omega, srch_1 v1]
          exact ⟨rfl, rfl, rfl, rfl, fun _ v hv => (slv_all _ _ v hv).trans (hbx v hv).1, rfl⟩
        · have n0 : ¬ (FJ a b c ma mb mc cn rc x.1 x.2).toInt = 0 := by omega
          have n1 : ¬ (FJ a b c ma mb mc cn rc x.1 x.2).toInt = 1 := by omega
          have a_mw9 : kX8_look_mw9 a b c ma mb mc fo wo (kX8_lift_v_boxLow bl bh sk mz9) (kX8_lift_v_boxHigh bl bh sk mz9) h l m n sk cn rc (-1) mh9 (mz9 - 1) = (-1) := (look_mw9 (f := x.1) (g := x.2) hni hrn hyx hru hrr hri hbx).trans ((if_neg n0).trans (if_neg n1))
          have a_mh9 : kX8_look_mh9 a b c ma mb mc fo wo (kX8_lift_v_boxLow bl bh sk mz9) (kX8_lift_v_boxHigh bl bh sk mz9) h l m n sk cn rc (-1) mh9 (mz9 - 1) = (mh9 + 1) := (look_mh9 (f := x.1) (g := x.2) hni hrn hyx hru hrr hri hbx).trans ((if_neg n0).trans (if_neg n1))
          have a_mz9 : kX8_look_mz9 a b c ma mb mc fo wo (kX8_lift_v_boxLow bl bh sk mz9) (kX8_lift_v_boxHigh bl bh sk mz9) h l m n sk cn rc (-1) mh9 (mz9 - 1) = ((mz9 - 1 + 1) + 1) := (look_mz9 (f := x.1) (g := x.2) hni hrn hyx hru hrr hri hbx).trans ((if_neg n0).trans (if_neg n1))
          have a_v_stack : kX8_look_v_stack a b c ma mb mc fo wo (kX8_lift_v_boxLow bl bh sk mz9) (kX8_lift_v_boxHigh bl bh sk mz9) h l m n sk cn rc (-1) mh9 (mz9 - 1) = (lkH (kX8_lift_v_boxLow bl bh sk mz9) (kX8_lift_v_boxHigh bl bh sk mz9) sk (mz9 - 1) (kX1_firstWide x.1 x.2)) := (look_v_stack (f := x.1) (g := x.2) hni hrn hyx hru hrr hri hbx).trans ((if_neg n0).trans (if_neg n1))
          have a_v_found : kX8_look_v_found a b c ma mb mc fo wo (kX8_lift_v_boxLow bl bh sk mz9) (kX8_lift_v_boxHigh bl bh sk mz9) h l m n sk cn rc (-1) mh9 (mz9 - 1) = fo := (look_v_found (f := x.1) (g := x.2) hni hrn hyx hru hrr hri hbx).trans ((if_neg n0).trans (if_neg n1))
          rw [a_mw9, a_mh9, a_mz9, a_v_stack, a_v_found]
          have hv := fj_wide v2
          obtain ⟨b1, b2, b3, _, _⟩ := BXP.halve (f := x.1) (g := x.2) g1 hv
          have em1 : (mz9 - 1 + 1).toInt = (mz9 - 1).toInt + 1 := sp_inc (by omega)
          have em2 : (mz9 - 1 + 1 + 1).toInt = (mz9 - 1 + 1).toInt + 1 := sp_inc (by omega)
          have en2 := px_cl (x := mz9 - 1 + 1 + 1) (by omega)
          show RESR (srch (FJ a b c ma mb mc cn rc) (w.toInt - mk9.toInt).toNat x.1 x.2 st mk9 mh9) _ _ _ _ _ _
          rw [show (w.toInt - mk9.toInt).toNat = (w.toInt - (mk9 + 1).toInt).toNat + 1 by omega, srch_2 v2]
          exact ih _ _ _ _ _ _ _ _ _ (mk9 + 1) (mh9 + 1) (mz9 - 1 + 1 + 1) ((x.1, upd x.2 (fwn x.1 x.2) (smid x.1 x.2 (fwn x.1 x.2))) :: (upd x.1 (fwn x.1 x.2) (smid x.1 x.2 (fwn x.1 x.2) + 1), x.2) :: st) x.1 (by omega) (by omega) (by omega) (by omega) (by rw [List.length_cons, List.length_cons]; omega) (RST.half hbx hv ⟨by omega, by omega⟩ hzn r2) ⟨b2, b1.le (by omega), g2⟩
theorem cp_loop {a b c ma mb mc : Nat → Int32} {lo hi fo0 wo0 bl0 bh0 : Nat → Int64} {h0_ : Nat → Int32} {l0_ m0_ : Nat → Int64} {n0_ : Nat → Int32} {sk0 : Nat → Int64} {w cn rc mi mw mk mh mz : Int32} : ∀ (fuel : Nat) (i : Int32) (B T : Nat → Int64), 0 ≤ i.toInt → i.toInt ≤ 4 → 4 - i.toInt < fuel → CP lo hi B T i.toNatClampNeg → ∃ BL BH : Nat → Int64, CP lo hi BL BH 4 ∧ kX8_solve_l47 fuel a b c ma mb mc lo hi fo0 wo0 bl0 bh0 h0_ l0_ m0_ n0_ sk0 w cn rc mi mw mk mh mz i B T = kX8_solve_l86 5010 a b c ma mb mc lo hi fo0 wo0 bl0 bh0 h0_ l0_ m0_ n0_ sk0 w cn rc mi mw mk mh mz fo0 wo0 BL BH h0_ l0_ m0_ n0_ (kX8_lay_v_stack BL BH sk0 0) (-1) 0 0 (0 + 1) ∧ kX8_solve_l47_mw9 fuel a b c ma mb mc lo hi fo0 wo0 bl0 bh0 h0_ l0_ m0_ n0_ sk0 w cn rc mi mw mk mh mz i B T = kX8_solve_l86_mw9 5010 a b c ma mb mc lo hi fo0 wo0 bl0 bh0 h0_ l0_ m0_ n0_ sk0 w cn rc mi mw mk mh mz fo0 wo0 BL BH h0_ l0_ m0_ n0_ (kX8_lay_v_stack BL BH sk0 0) (-1) 0 0 (0 + 1) ∧ kX8_solve_l47_mk9 fuel a b c ma mb mc lo hi fo0 wo0 bl0 bh0 h0_ l0_ m0_ n0_ sk0 w cn rc mi mw mk mh mz i B T = kX8_solve_l86_mk9 5010 a b c ma mb mc lo hi fo0 wo0 bl0 bh0 h0_ l0_ m0_ n0_ sk0 w cn rc mi mw mk mh mz fo0 wo0 BL BH h0_ l0_ m0_ n0_ (kX8_lay_v_stack BL BH sk0 0) (-1) 0 0 (0 + 1) ∧ kX8_solve_l47_mh9 fuel a b c ma mb mc lo hi fo0 wo0 bl0 bh0 h0_ l0_ m0_ n0_ sk0 w cn rc mi mw mk mh mz i B T = kX8_solve_l86_mh9 5010 a b c ma mb mc lo hi fo0 wo0 bl0 bh0 h0_ l0_ m0_ n0_ sk0 w cn rc mi mw mk mh mz fo0 wo0 BL BH h0_ l0_ m0_ n0_ (kX8_lay_v_stack BL BH sk0 0) (-1) 0 0 (0 + 1) ∧ kX8_solve_l47_v_found fuel a b c ma mb mc lo hi fo0 wo0 bl0 bh0 h0_ l0_ m0_ n0_ sk0 w cn rc mi mw mk mh mz i B T = kX8_solve_l86_v_found 5010 a b c ma mb mc lo hi fo0 wo0 bl0 bh0 h0_ l0_ m0_ n0_ sk0 w cn rc mi mw mk mh mz fo0 wo0 BL BH h0_ l0_ m0_ n0_ (kX8_lay_v_stack BL BH sk0 0) (-1) 0 0 (0 + 1) ∧ kX8_solve_l47_mi9 fuel a b c ma mb mc lo hi fo0 wo0 bl0 bh0 h0_ l0_ m0_ n0_ sk0 w cn rc mi mw mk mh mz i B T = kX8_solve_l86_mi9 5010 a b c ma mb mc lo hi fo0 wo0 bl0 bh0 h0_ l0_ m0_ n0_ sk0 w cn rc mi mw mk mh mz fo0 wo0 BL BH h0_ l0_ m0_ n0_ (kX8_lay_v_stack BL BH sk0 0) (-1) 0 0 (0 + 1) := by
  intro fuel
  induction fuel with
  | zero => intro i B T _ _ q; exact absurd q (by omega)
  | succ fuel ih =>
    intro i B T h0 h1 hf hc
    have e := px_cl h0
    by_cases hq : 4 ≤ i.toInt
    · rw [show i.toNatClampNeg = 4 by omega] at hc
      refine ⟨B, T, hc, ?_⟩
      rw [kX8_solve_l47_S, if_pos hq, kX8_solve_l47_mw9_S, if_pos hq, kX8_solve_l47_mk9_S, if_pos hq, kX8_solve_l47_mh9_S, if_pos hq, kX8_solve_l47_v_found_S, if_pos hq, kX8_solve_l47_mi9_S, if_pos hq]
      exact ⟨rfl, rfl, rfl, rfl, rfl, rfl⟩
    · have e1 : (i + 1).toInt = i.toInt + 1 := sp_inc (by omega)
      obtain ⟨BL, BH, hC, hE⟩ := ih (i + 1) (vp_updL B i.toNatClampNeg (lo i.toNatClampNeg)) (vp_updL T i.toNatClampNeg (hi i.toNatClampNeg)) (by omega) (by omega) (by omega) (by rw [px_clS h0 e1]; exact CP.step hc)
      refine ⟨BL, BH, hC, ?_⟩
      rw [kX8_solve_l47_S, if_neg hq, kX8_solve_l47_mw9_S, if_neg hq, kX8_solve_l47_mk9_S, if_neg hq, kX8_solve_l47_mh9_S, if_neg hq, kX8_solve_l47_v_found_S, if_neg hq, kX8_solve_l47_mi9_S, if_neg hq]
      exact hE
theorem solve_ref {a b c ma mb mc : Nat → Int32} {lo hi fo0 wo0 bl0 bh0 : Nat → Int64} {h0_ : Nat → Int32} {l0_ m0_ : Nat → Int64} {n0_ : Nat → Int32} {sk0 : Nat → Int64} {w cn rc mi mw mk mh mz : Int32} {k0 k1 k2 rk ra rb : Nat → Int32} {k4 k5 : Nat → Int64} (hni : NI cn k0 k1 k2) (hrn : RN cn k0 k1 k2 a b c) (hyx : YX cn k0 k1 k2) (hru : RU cn k0 k1 k2 k4 k5) (hrr : RRL rc cn rk ra rb ma mb mc) (hri : RI rc ra rb) {fb gb : Nat → Int32} (hrg : BX fb gb lo hi) (hw : 1 ≤ w.toInt ∧ w.toInt ≤ 5000) (d : Nat → Int32) : RESR (srch (FJ a b c ma mb mc cn rc) w.toInt.toNat (nf fb) (nf gb) [] 0 0) (kX8_solve a b c ma mb mc lo hi fo0 wo0 bl0 bh0 h0_ l0_ m0_ n0_ sk0 w cn rc mi mw mk mh mz) (kX8_solve_mw9 a b c ma mb mc lo hi fo0 wo0 bl0 bh0 h0_ l0_ m0_ n0_ sk0 w cn rc mi mw mk mh mz) (kX8_solve_mk9 a b c ma mb mc lo hi fo0 wo0 bl0 bh0 h0_ l0_ m0_ n0_ sk0 w cn rc mi mw mk mh mz) (kX8_solve_mh9 a b c ma mb mc lo hi fo0 wo0 bl0 bh0 h0_ l0_ m0_ n0_ sk0 w cn rc mi mw mk mh mz) (kX8_solve_v_found a b c ma mb mc lo hi fo0 wo0 bl0 bh0 h0_ l0_ m0_ n0_ sk0 w cn rc mi mw mk mh mz) (kX8_solve_mi9 a b c ma mb mc lo hi fo0 wo0 bl0 bh0 h0_ l0_ m0_ n0_ sk0 w cn rc mi mw mk mh mz) := by
  have z : (0 : Int32).toInt = 0 := by decide
  have hin := kf_inI w 1 5000 1 5000 (by decide) (by decide)
  have hin0 : ¬ (kX8_in w.toInt64 1 5000).toInt = 0 := by omega
  obtain ⟨BL, BH, hC, x0_, x1_, x2_, x3_, x4_, x5_⟩ := cp_loop (a := a) (b := b) (c := c) (ma := ma) (mb := mb) (mc := mc) (lo := lo) (hi := hi) (fo0 := fo0) (wo0 := wo0) (bl0 := bl0) (bh0 := bh0) (h0_ := h0_) (l0_ := l0_) (m0_ := m0_) (n0_ := n0_) (sk0 := sk0) (w := w) (cn := cn) (rc := rc) (mi := mi) (mw := mw) (mk := mk) (mh := mh) (mz := mz) 6 0 bl0 bh0 (by omega) (by omega) (by omega) (CP.zero _ _ _ _)
  unfold kX8_solve kX8_solve_mw9 kX8_solve_mk9 kX8_solve_mh9 kX8_solve_v_found kX8_solve_mi9
  rw [if_neg hin0, x0_, if_neg hin0, x1_, if_neg hin0, x2_, if_neg hin0, x3_, if_neg hin0, x4_, if_neg hin0, x5_]
  have hb : ∀ v : Nat, v < 4 → BL v = (nf fb v).toInt64 ∧ BH v = (nf gb v).toInt64 := fun v hv => by
    rw [nf_at hv, nf_at hv, (hC v hv).1, (hC v hv).2]
    exact ⟨(hrg v hv).1, (hrg v hv).2.1⟩
  have hbx : BXP 0 (b8 (nf fb)) (b8 (nf gb)) := (BXP.of (lo := lo) (hi := hi) (fun v hv => by
    obtain ⟨q1, q2, q3, q4, q5⟩ := hrg v hv
    rw [q1, q2, Int32.toInt_toInt64, Int32.toInt_toInt64]
    exact ⟨q3, q4, q5⟩)).congr (fun v hv => by
    rw [b8_nf, b8_nf, b8_at hv, b8_at hv]
    exact ⟨(hrg v hv).1.symm, (hrg v hv).2.1.symm⟩)
  have e01 : ((0 : Int32) + 1).toInt = 1 := by decide
  have H := solve_sim (lo := lo) (hi := hi) (fo0 := fo0) (wo0 := wo0) (bl0 := bl0) (bh0 := bh0) (h0_ := h0_) (l0_ := l0_) (m0_ := m0_) (n0_ := n0_) (sk0 := sk0) (w := w) (mi := mi) (mw := mw) (mk := mk) (mh := mh) (mz := mz) hni hrn hyx hru hrr hri hw.2 5010 fo0 wo0 BL BH h0_ l0_ m0_ n0_ (kX8_lay_v_stack BL BH sk0 0) 0 0 (0 + 1) [(nf fb, nf gb)] d (by omega) (by omega) (by omega) (by omega) rfl (RST.lay (st := []) (nf fb, nf gb) ⟨by omega, by omega⟩ rfl hb trivial) ⟨hbx, trivial⟩
  have hR : RRS (FJ a b c ma mb mc cn rc) w [(nf fb, nf gb)] 0 0 d = srch (FJ a b c ma mb mc cn rc) w.toInt.toNat (nf fb) (nf gb) [] 0 0 := by
    show srch (FJ a b c ma mb mc cn rc) (w.toInt - (0 : Int32).toInt).toNat (nf fb) (nf gb) [] 0 0 = _
    rw [z, Int.sub_zero]
  rw [hR] at H
  exact H
theorem solve_cls {qv ql qm fx gx fb gb e0 e1 e2 e3 f2 g2 k0 k1 k2 k3 rk ra rb a b c ma mb mc : Nat → Int32} {k4 k5 : Nat → Int64} {w qa qr qw qk qh cn rc : Int32} {sd : Int64} {lo hi : Nat → Int64} (hni : NI cn k0 k1 k2) (hrn : RN cn k0 k1 k2 a b c) (hyx : YX cn k0 k1 k2) (hru : RU cn k0 k1 k2 k4 k5) (hrr : RRL rc cn rk ra rb ma mb mc) (hri : RI rc ra rb) (hcv : CV cn k0 k1 k2 f2 g2 e0 e1 e2 e3 sd) (hrg : BX fb gb lo hi) (hw : 1 ≤ w.toInt ∧ w.toInt ≤ 5000) : RES (srch (FJ a b c ma mb mc cn rc) w.toInt.toNat (nf fb) (nf gb) [] 0 0) (kX7_solve qv ql qm fx gx fb gb e0 e1 e2 e3 f2 g2 k0 k1 k2 k3 k4 k5 rk ra rb w qa qr qw qk qh sd cn rc) (kX7_solve_qw9 qv ql qm fx gx fb gb e0 e1 e2 e3 f2 g2 k0 k1 k2 k3 k4 k5 rk ra rb w qa qr qw qk qh sd cn rc) (kX7_solve_qk9 qv ql qm fx gx fb gb e0 e1 e2 e3 f2 g2 k0 k1 k2 k3 k4 k5 rk ra rb w qa qr qw qk qh sd cn rc) (kX7_solve_qh9 qv ql qm fx gx fb gb e0 e1 e2 e3 f2 g2 k0 k1 k2 k3 k4 k5 rk ra rb w qa qr qw qk qh sd cn rc) (kX7_solve_fx9 qv ql qm fx gx fb gb e0 e1 e2 e3 f2 g2 k0 k1 k2 k3 k4 k5 rk ra rb w qa qr qw qk qh sd cn rc) (kX7_solve_qr9 qv ql qm fx gx fb gb e0 e1 e2 e3 f2 g2 k0 k1 k2 k3 k4 k5 rk ra rb w qa qr qw qk qh sd cn rc) ∧ CV cn k0 k1 k2 (kX7_solve_f9 qv ql qm fx gx fb gb e0 e1 e2 e3 f2 g2 k0 k1 k2 k3 k4 k5 rk ra rb w qa qr qw qk qh sd cn rc) (kX7_solve_g9 qv ql qm fx gx fb gb e0 e1 e2 e3 f2 g2 k0 k1 k2 k3 k4 k5 rk ra rb w qa qr qw qk qh sd cn rc) (kX7_solve_y0 qv ql qm fx gx fb gb e0 e1 e2 e3 f2 g2 k0 k1 k2 k3 k4 k5 rk ra rb w qa qr qw qk qh sd cn rc) (kX7_solve_y1 qv ql qm fx gx fb gb e0 e1 e2 e3 f2 g2 k0 k1 k2 k3 k4 k5 rk ra rb w qa qr qw qk qh sd cn rc) (kX7_solve_y2 qv ql qm fx gx fb gb e0 e1 e2 e3 f2 g2 k0 k1 k2 k3 k4 k5 rk ra rb w qa qr qw qk qh sd cn rc) (kX7_solve_y3 qv ql qm fx gx fb gb e0 e1 e2 e3 f2 g2 k0 k1 k2 k3 k4 k5 rk ra rb w qa qr qw qk qh sd cn rc) (kX7_solve_sd9 qv ql qm fx gx fb gb e0 e1 e2 e3 f2 g2 k0 k1 k2 k3 k4 k5 rk ra rb w qa qr qw qk qh sd cn rc) := by
  have z : (0 : Int32).toInt = 0 := by decide
  have hl : ¬ w.toInt < 1 := by omega
  obtain ⟨l1, _⟩ := fl_all fx gx fb gb
  have hf : nf (kX5_start_fx9 fx gx fb gb) = nf fb := nf_ext (fun v hv => (l1 v hv).1)
  have hg : nf (kX5_start_gx9 fx gx fb gb) = nf gb := nf_ext (fun v hv => (l1 v hv).2)
  have hbx : BXP 0 (b8 (kX5_start_fx9 fx gx fb gb)) (b8 (kX5_start_gx9 fx gx fb gb)) := (BXP.of (lo := lo) (hi := hi) (fun v hv => by
    obtain ⟨q1, q2, q3, q4, q5⟩ := hrg v hv
    rw [q1, q2, Int32.toInt_toInt64, Int32.toInt_toInt64]
    exact ⟨q3, q4, q5⟩)).congr (fun v hv => by
    rw [← b8_nf, hf, ← b8_nf (kX5_start_gx9 fx gx fb gb), hg, b8_nf, b8_nf, b8_at hv, b8_at hv]
    exact ⟨(hrg v hv).1.symm, (hrg v hv).2.1.symm⟩)
  have H := run_sim (qv := qv) (ql := ql) (qm := qm) (fx := fx) (gx := gx) (fb := fb) (gb := gb) (e0 := e0) (e1 := e1) (e2 := e2) (e3 := e3) (f2 := f2) (g2 := g2) (k3 := k3) (w := w) (qa := qa) (qr := qr) (qw := qw) (qk := qk) (qh := qh) (sd := sd) hni hrn hyx hru hrr hri hw.2 5002 0 0 qv ql qm (kX5_start_fx9 fx gx fb gb) (kX5_start_gx9 fx gx fb gb) 0 0 e0 e1 e2 e3 f2 g2 sd k3 (by omega) (by omega) (by omega) (by omega) hcv hbx trivial ⟨fun u hu _ => l1 u hu, fun j hj => absurd hj (Nat.not_lt_zero j), fun j j' _ hj => absurd hj (Nat.not_lt_zero j')⟩
  rw [hf, hg, z, Int.sub_zero] at H
  unfold kX7_solve kX7_solve_qw9 kX7_solve_qk9 kX7_solve_qh9 kX7_solve_fx9 kX7_solve_qr9 kX7_solve_f9 kX7_solve_g9 kX7_solve_y0 kX7_solve_y1 kX7_solve_y2 kX7_solve_y3 kX7_solve_sd9
  rw [if_neg hl, if_pos hw.2, if_neg hl, if_pos hw.2, if_neg hl, if_pos hw.2, if_neg hl, if_pos hw.2, if_neg hl, if_pos hw.2, if_neg hl, if_pos hw.2, if_neg hl, if_pos hw.2, if_neg hl, if_pos hw.2, if_neg hl, if_pos hw.2, if_neg hl, if_pos hw.2, if_neg hl, if_pos hw.2, if_neg hl, if_pos hw.2, if_neg hl, if_pos hw.2]
  exact H
/-- what has been solved, on both sides -/
def SD (qr qw qk qh : Int32) (fx : Nat → Int32) (mi mw mk mh : Int32) (fo : Nat → Int64) : Prop := mi = qr ∧ (¬ qr.toInt = 0 → mw = qw ∧ mk = qk ∧ mh = qh ∧ (qw = 1 → ∀ v : Nat, v < 4 → fo v = (fx v).toInt64))
theorem SD.zero (qw qk qh : Int32) (fx : Nat → Int32) (mw mk mh : Int32) (fo : Nat → Int64) : SD 0 qw qk qh fx 0 mw mk mh fo := ⟨rfl, fun q => absurd (by decide) q⟩
theorem solve_eq {qv ql qm fx gx fb gb e0 e1 e2 e3 f2 g2 k0 k1 k2 k3 rk ra rb a b c ma mb mc : Nat → Int32} {k4 k5 : Nat → Int64} {w qa qr qw qk qh cn rc : Int32} {sd : Int64} {lo hi : Nat → Int64} (fo0 wo0 bl0 bh0 : Nat → Int64) (h0_ : Nat → Int32) (l0_ m0_ : Nat → Int64) (n0_ : Nat → Int32) (sk0 : Nat → Int64) (mi mw mk mh mz : Int32) (hni : NI cn k0 k1 k2) (hrn : RN cn k0 k1 k2 a b c) (hyx : YX cn k0 k1 k2) (hru : RU cn k0 k1 k2 k4 k5) (hrr : RRL rc cn rk ra rb ma mb mc) (hri : RI rc ra rb) (hcv : CV cn k0 k1 k2 f2 g2 e0 e1 e2 e3 sd) (hrg : BX fb gb lo hi) : (kX8_solve a b c ma mb mc lo hi fo0 wo0 bl0 bh0 h0_ l0_ m0_ n0_ sk0 w cn rc mi mw mk mh mz) = (kX7_solve qv ql qm fx gx fb gb e0 e1 e2 e3 f2 g2 k0 k1 k2 k3 k4 k5 rk ra rb w qa qr qw qk qh sd cn rc) := by
  by_cases hw : 1 ≤ w.toInt ∧ w.toInt ≤ 5000
  · have H := (solve_cls (qv := qv) (ql := ql) (qm := qm) (fx := fx) (gx := gx) (k3 := k3) (qa := qa) (qr := qr) (qw := qw) (qk := qk) (qh := qh) hni hrn hyx hru hrr hri hcv hrg hw).1
    have H' := solve_ref (fo0 := fo0) (wo0 := wo0) (bl0 := bl0) (bh0 := bh0) (h0_ := h0_) (l0_ := l0_) (m0_ := m0_) (n0_ := n0_) (sk0 := sk0) (mi := mi) (mw := mw) (mk := mk) (mh := mh) (mz := mz) hni hrn hyx hru hrr hri hrg hw (fun _ => 0)
    exact H'.1.trans H.1.symm
  · have hin := kf_inI w 1 5000 1 5000 (by decide) (by decide)
    have hin0 : (kX8_in w.toInt64 1 5000).toInt = 0 := by omega
    unfold kX8_solve kX7_solve
    rw [if_pos hin0]
    by_cases q : w.toInt < 1
    · rw [if_pos q]
    · rw [if_neg q, if_neg (by omega)]
theorem CV.solve {qv ql qm fx gx fb gb e0 e1 e2 e3 f2 g2 k0 k1 k2 k3 rk ra rb a b c ma mb mc : Nat → Int32} {k4 k5 : Nat → Int64} {w qa qr qw qk qh cn rc : Int32} {sd : Int64} {lo hi : Nat → Int64} (hni : NI cn k0 k1 k2) (hrn : RN cn k0 k1 k2 a b c) (hyx : YX cn k0 k1 k2) (hru : RU cn k0 k1 k2 k4 k5) (hrr : RRL rc cn rk ra rb ma mb mc) (hri : RI rc ra rb) (hcv : CV cn k0 k1 k2 f2 g2 e0 e1 e2 e3 sd) (hrg : BX fb gb lo hi) : CV cn k0 k1 k2 (kX7_solve_f9 qv ql qm fx gx fb gb e0 e1 e2 e3 f2 g2 k0 k1 k2 k3 k4 k5 rk ra rb w qa qr qw qk qh sd cn rc) (kX7_solve_g9 qv ql qm fx gx fb gb e0 e1 e2 e3 f2 g2 k0 k1 k2 k3 k4 k5 rk ra rb w qa qr qw qk qh sd cn rc) (kX7_solve_y0 qv ql qm fx gx fb gb e0 e1 e2 e3 f2 g2 k0 k1 k2 k3 k4 k5 rk ra rb w qa qr qw qk qh sd cn rc) (kX7_solve_y1 qv ql qm fx gx fb gb e0 e1 e2 e3 f2 g2 k0 k1 k2 k3 k4 k5 rk ra rb w qa qr qw qk qh sd cn rc) (kX7_solve_y2 qv ql qm fx gx fb gb e0 e1 e2 e3 f2 g2 k0 k1 k2 k3 k4 k5 rk ra rb w qa qr qw qk qh sd cn rc) (kX7_solve_y3 qv ql qm fx gx fb gb e0 e1 e2 e3 f2 g2 k0 k1 k2 k3 k4 k5 rk ra rb w qa qr qw qk qh sd cn rc) (kX7_solve_sd9 qv ql qm fx gx fb gb e0 e1 e2 e3 f2 g2 k0 k1 k2 k3 k4 k5 rk ra rb w qa qr qw qk qh sd cn rc) := by
  by_cases hw : 1 ≤ w.toInt ∧ w.toInt ≤ 5000
  · exact (solve_cls (qv := qv) (ql := ql) (qm := qm) (fx := fx) (gx := gx) (k3 := k3) (qa := qa) (qr := qr) (qw := qw) (qk := qk) (qh := qh) hni hrn hyx hru hrr hri hcv hrg hw).2
  · unfold kX7_solve_f9 kX7_solve_g9 kX7_solve_y0 kX7_solve_y1 kX7_solve_y2 kX7_solve_y3 kX7_solve_sd9
    by_cases q : w.toInt < 1
    · rw [if_pos q, if_pos q, if_pos q, if_pos q, if_pos q, if_pos q, if_pos q]
      exact hcv
    · have q2 : ¬ w.toInt ≤ 5000 := by omega
      rw [if_neg q, if_neg q2, if_neg q, if_neg q2, if_neg q, if_neg q2, if_neg q, if_neg q2, if_neg q, if_neg q2, if_neg q, if_neg q2, if_neg q, if_neg q2]
      exact hcv
theorem SD.solve {qv ql qm fx gx fb gb e0 e1 e2 e3 f2 g2 k0 k1 k2 k3 rk ra rb a b c ma mb mc : Nat → Int32} {k4 k5 : Nat → Int64} {w qa qr qw qk qh cn rc : Int32} {sd : Int64} {lo hi : Nat → Int64} (fo0 wo0 bl0 bh0 : Nat → Int64) (h0_ : Nat → Int32) (l0_ m0_ : Nat → Int64) (n0_ : Nat → Int32) (sk0 : Nat → Int64) (mi mw mk mh mz : Int32) (hni : NI cn k0 k1 k2) (hrn : RN cn k0 k1 k2 a b c) (hyx : YX cn k0 k1 k2) (hru : RU cn k0 k1 k2 k4 k5) (hrr : RRL rc cn rk ra rb ma mb mc) (hri : RI rc ra rb) (hcv : CV cn k0 k1 k2 f2 g2 e0 e1 e2 e3 sd) (hrg : BX fb gb lo hi) (h : SD qr qw qk qh fx mi mw mk mh fo0) : SD (kX7_solve_qr9 qv ql qm fx gx fb gb e0 e1 e2 e3 f2 g2 k0 k1 k2 k3 k4 k5 rk ra rb w qa qr qw qk qh sd cn rc) (kX7_solve_qw9 qv ql qm fx gx fb gb e0 e1 e2 e3 f2 g2 k0 k1 k2 k3 k4 k5 rk ra rb w qa qr qw qk qh sd cn rc) (kX7_solve_qk9 qv ql qm fx gx fb gb e0 e1 e2 e3 f2 g2 k0 k1 k2 k3 k4 k5 rk ra rb w qa qr qw qk qh sd cn rc) (kX7_solve_qh9 qv ql qm fx gx fb gb e0 e1 e2 e3 f2 g2 k0 k1 k2 k3 k4 k5 rk ra rb w qa qr qw qk qh sd cn rc) (kX7_solve_fx9 qv ql qm fx gx fb gb e0 e1 e2 e3 f2 g2 k0 k1 k2 k3 k4 k5 rk ra rb w qa qr qw qk qh sd cn rc) (kX8_solve_mi9 a b c ma mb mc lo hi fo0 wo0 bl0 bh0 h0_ l0_ m0_ n0_ sk0 w cn rc mi mw mk mh mz) (kX8_solve_mw9 a b c ma mb mc lo hi fo0 wo0 bl0 bh0 h0_ l0_ m0_ n0_ sk0 w cn rc mi mw mk mh mz) (kX8_solve_mk9 a b c ma mb mc lo hi fo0 wo0 bl0 bh0 h0_ l0_ m0_ n0_ sk0 w cn rc mi mw mk mh mz) (kX8_solve_mh9 a b c ma mb mc lo hi fo0 wo0 bl0 bh0 h0_ l0_ m0_ n0_ sk0 w cn rc mi mw mk mh mz) (kX8_solve_v_found a b c ma mb mc lo hi fo0 wo0 bl0 bh0 h0_ l0_ m0_ n0_ sk0 w cn rc mi mw mk mh mz) := by
  by_cases hw : 1 ≤ w.toInt ∧ w.toInt ≤ 5000
  · obtain ⟨c1, c2, c3, c4, c5, c6⟩ := (solve_cls (qv := qv) (ql := ql) (qm := qm) (fx := fx) (gx := gx) (k3 := k3) (qa := qa) (qr := qr) (qw := qw) (qk := qk) (qh := qh) hni hrn hyx hru hrr hri hcv hrg hw).1
    obtain ⟨r1, r2, r3, r4, r5, r6⟩ := solve_ref (fo0 := fo0) (wo0 := wo0) (bl0 := bl0) (bh0 := bh0) (h0_ := h0_) (l0_ := l0_) (m0_ := m0_) (n0_ := n0_) (sk0 := sk0) (mi := mi) (mw := mw) (mk := mk) (mh := mh) (mz := mz) hni hrn hyx hru hrr hri hrg hw (fun _ => 0)
    refine ⟨r6.trans c6.symm, fun _ => ⟨r2.trans c2.symm, r3.trans c3.symm, r4.trans c4.symm, fun q v hv => ?_⟩⟩
    rw [r5 (c2.symm.trans q) v hv, ← c5, nf_at hv]
  · have hin := kf_inI w 1 5000 1 5000 (by decide) (by decide)
    have hin0 : (kX8_in w.toInt64 1 5000).toInt = 0 := by omega
    unfold kX7_solve_qr9 kX7_solve_qw9 kX7_solve_qk9 kX7_solve_qh9 kX7_solve_fx9 kX8_solve_mi9 kX8_solve_mw9 kX8_solve_mk9 kX8_solve_mh9 kX8_solve_v_found
    rw [if_pos hin0, if_pos hin0, if_pos hin0, if_pos hin0, if_pos hin0]
    by_cases q : w.toInt < 1
    · rw [if_pos q, if_pos q, if_pos q, if_pos q, if_pos q]
      exact h
    · have q2 : ¬ w.toInt ≤ 5000 := by omega
      rw [if_neg q, if_neg q2, if_neg q, if_neg q2, if_neg q, if_neg q2, if_neg q, if_neg q2, if_neg q, if_neg q2]
      exact h
theorem solved_eq {qr qw qk qh mi mw mk mh : Int32} {fx : Nat → Int32} {fo : Nat → Int64} (h : SD qr qw qk qh fx mi mw mk mh fo) (v : Int32) : kX8_solved fo v mi mw mk mh = kX7_solved fx v qr qw qk qh := by
  obtain ⟨h1, h2⟩ := h
  subst h1
  have hin := kf_inI v 0 6 0 6 (by decide) (by decide)
  have hv3 := kf_isVar (v - 3)
  have c3 : (3 : Int32).toInt = 3 := by decide
  have hr := px_rng v
  unfold kX8_solved kX7_solved
  by_cases hq : mi.toInt = 0
  · rw [if_pos hq, if_pos hq]
  · obtain ⟨e1, e2, e3, e4⟩ := h2 hq
    subst e1 e2 e3
    rw [if_neg hq, if_neg hq]
    by_cases g0 : v.toInt < 0
    · rw [if_pos g0, if_pos (show (kX8_in v.toInt64 0 6).toInt = 0 by omega)]
      have hb : ¬ (0 ≤ (v - 3).toInt ∧ (v - 3).toInt < 4) := by
        have hs : (v - 3).toInt = (v.toInt - 3).bmod (2 ^ 32) := by rw [Int32.toInt_sub, c3]
        rw [Int.bmod_def] at hs
        split at hs <;> omega
      rw [if_pos (show (kX7_isVariable (v - 3)).toInt = 0 by omega)]
    · rw [if_neg g0]
      have hs : (v - 3).toInt = v.toInt - 3 := by rw [px_isub (by omega) (by omega), c3]
      by_cases g2 : 2 < v.toInt
      · rw [if_pos g2]
        by_cases g6 : v.toInt ≤ 6
        · rw [if_neg (show ¬ (kX8_in v.toInt64 0 6).toInt = 0 by omega), if_neg (show ¬ v.toInt ≤ 2 by omega), if_neg (show ¬ (kX7_isVariable (v - 3)).toInt = 0 by omega)]
          by_cases gw : mw.toInt = 1
          · have ev := px_cl (x := v - 3) (by omega)
            rw [if_pos gw, if_pos gw, if_neg (show ¬ v.toInt = 0 by omega), if_neg (show ¬ v.toInt = 1 by omega), if_neg (show ¬ v.toInt = 2 by omega)]
            exact e4 (Int32.toInt_inj.mp (gw.trans (by decide))) _ (by omega)
          · rw [if_neg gw, if_neg gw]
        · rw [if_pos (show (kX8_in v.toInt64 0 6).toInt = 0 by omega), if_pos (show (kX7_isVariable (v - 3)).toInt = 0 by omega)]
      · rw [if_neg g2, if_neg (show ¬ (kX8_in v.toInt64 0 6).toInt = 0 by omega), if_pos (show v.toInt ≤ 2 by omega)]
        by_cases a0 : v.toInt = 0
        · rw [if_pos a0, if_pos a0]
        · rw [if_neg a0, if_neg a0]
          by_cases a1 : v.toInt = 1
          · rw [if_pos a1, if_pos a1]
          · rw [if_neg a1, if_neg a1, if_pos (show v.toInt = 2 by omega), if_pos (show v.toInt = 2 by omega)]
