/-! the search: a stack of boxes; the class keeps it as halves put aside -/
abbrev Bx := (Nat → Int32) × (Nat → Int32)
def fwn (f g : Nat → Int32) : Nat := (kX1_firstWide f g).toNatClampNeg
def smid (f g : Nat → Int32) (v : Nat) : Int32 := (((((f v)) : Int32).toInt64 + ((g v) : Int32).toInt64) >>> ((1 : Int32).toInt64 &&& 63)).toInt32
def srch (F : (Nat → Int32) → (Nat → Int32) → Int32) : Nat → (Nat → Int32) → (Nat → Int32) → List Bx → Int32 → Int32 → Int32 × Int32 × Int32 × (Nat → Int32)
  | 0, f, _, _, l, h => (2, l, h, f)
  | n + 1, f, g, st, l, h =>
    if (F f g).toInt = 1 then (1, l + 1, h, f)
    else if (F f g).toInt = 2 then srch F n f (upd g (fwn f g) (smid f g (fwn f g))) ((upd f (fwn f g) (smid f g (fwn f g) + 1), g) :: st) (l + 1) (h + 1)
    else match st with
      | [] => (0, l + 1, h, f)
      | x :: st' => srch F n x.1 x.2 st' (l + 1) h
theorem srch_0 (F : (Nat → Int32) → (Nat → Int32) → Int32) (f g : Nat → Int32) (st : List Bx) (l h : Int32) : srch F 0 f g st l h = (2, l, h, f) := by
  unfold srch
  rfl
theorem srch_1 {F : (Nat → Int32) → (Nat → Int32) → Int32} {n : Nat} {f g : Nat → Int32} (q : (F f g).toInt = 1) (st : List Bx) (l h : Int32) : srch F (n + 1) f g st l h = (1, l + 1, h, f) := by
  rw [srch.eq_def]
  exact if_pos q
theorem srch_2 {F : (Nat → Int32) → (Nat → Int32) → Int32} {n : Nat} {f g : Nat → Int32} (q : (F f g).toInt = 2) (st : List Bx) (l h : Int32) : srch F (n + 1) f g st l h = srch F n f (upd g (fwn f g) (smid f g (fwn f g))) ((upd f (fwn f g) (smid f g (fwn f g) + 1), g) :: st) (l + 1) (h + 1) := by
  rw [srch.eq_def]
  exact (if_neg (by omega)).trans (if_pos q)
theorem srch_n {F : (Nat → Int32) → (Nat → Int32) → Int32} {n : Nat} {f g : Nat → Int32} (q : ¬ (F f g).toInt = 1) (q2 : ¬ (F f g).toInt = 2) (l h : Int32) : srch F (n + 1) f g [] l h = (0, l + 1, h, f) := by
  rw [srch, if_neg q, if_neg q2]
theorem srch_c {F : (Nat → Int32) → (Nat → Int32) → Int32} {n : Nat} {f g : Nat → Int32} (q : ¬ (F f g).toInt = 1) (q2 : ¬ (F f g).toInt = 2) (x : Bx) (st : List Bx) (l h : Int32) : srch F (n + 1) f g (x :: st) l h = srch F n x.1 x.2 st (l + 1) h := by
  rw [srch, if_neg q, if_neg q2]
/-! the first wide VARIABLE -/
theorem fw_loop {f g : Nat → Int32} : ∀ (n : Nat) (i : Int32), 0 ≤ i.toInt → i.toInt ≤ 4 → 4 - i.toInt < n → (∀ u : Nat, (u : Int) < i.toInt → (f u).toInt = (g u).toInt) → (i.toInt ≤ (kX1_firstWide_l2 n f g i).toInt ∧ (kX1_firstWide_l2 n f g i).toInt ≤ 4) ∧ (∀ u : Nat, (u : Int) < (kX1_firstWide_l2 n f g i).toInt → (f u).toInt = (g u).toInt) ∧ ((kX1_firstWide_l2 n f g i).toInt < 4 → ¬ (f (kX1_firstWide_l2 n f g i).toNatClampNeg).toInt = (g (kX1_firstWide_l2 n f g i).toNatClampNeg).toInt) := by
  intro n
  induction n with
  | zero => intro i _ _ h; exact absurd h (by omega)
  | succ n ih =>
    intro i h0 h1 hn hu
    rw [kX1_firstWide_l2_S]
    by_cases hq : 4 ≤ i.toInt
    · rw [if_pos hq]
      exact ⟨⟨by omega, h1⟩, hu, fun h => absurd h (by omega)⟩
    · rw [if_neg hq]
      have e := px_cl h0
      have e1 : (i + 1).toInt = i.toInt + 1 := sp_inc (by omega)
      by_cases hs : (f i.toNatClampNeg).toInt = (g i.toNatClampNeg).toInt
      · rw [if_pos hs]
        obtain ⟨⟨p1, p2⟩, p3⟩ := ih (i + 1) (by omega) (by omega) (by omega) (fun u h => by
          by_cases hui : u = i.toNatClampNeg
          · rw [hui]
            exact hs
          · exact hu u (by omega))
        exact ⟨⟨by omega, p2⟩, p3⟩
      · rw [if_neg hs]
        exact ⟨⟨by omega, by omega⟩, hu, fun _ => hs⟩
theorem fw_spec (f g : Nat → Int32) : (0 ≤ (kX1_firstWide f g).toInt ∧ (kX1_firstWide f g).toInt ≤ 4) ∧ ((fwn f g : Nat) : Int) = (kX1_firstWide f g).toInt ∧ (∀ u : Nat, u < fwn f g → (f u).toInt = (g u).toInt) ∧ (fwn f g < 4 → ¬ (f (fwn f g)).toInt = (g (fwn f g)).toInt) := by
  have z : (0 : Int32).toInt = 0 := by decide
  obtain ⟨⟨p1, p2⟩, p3, p4⟩ := fw_loop (f := f) (g := g) 6 0 (by omega) (by omega) (by omega) (fun u h => absurd h (by omega))
  have e := px_cl (x := kX1_firstWide f g) (show 0 ≤ (kX1_firstWide_l2 6 f g 0).toInt by omega)
  have e' : ((fwn f g : Nat) : Int) = (kX1_firstWide f g).toInt := e
  refine ⟨⟨show 0 ≤ (kX1_firstWide_l2 6 f g 0).toInt by omega, p2⟩, e', fun u hu => p3 u ?_, fun h => p4 ?_⟩
  · show (u : Int) < (kX1_firstWide f g).toInt
    omega
  · show (kX1_firstWide f g).toInt < 4
    omega
theorem fw_ge {f g : Nat → Int32} {v : Nat} (hv : v ≤ 4) (h : ∀ u : Nat, u < v → (f u).toInt = (g u).toInt) : v ≤ fwn f g := by
  obtain ⟨⟨p1, p2⟩, p3, p4, p5⟩ := fw_spec f g
  by_cases q : v ≤ fwn f g
  · exact q
  · exact absurd (h (fwn f g) (by omega)) (p5 (by omega))
theorem fwn_nf (f g : Nat → Int32) : fwn (nf f) (nf g) = fwn f g := by
  have z : (0 : Int32).toInt = 0 := by decide
  have hw : kX1_firstWide (nf f) (nf g) = kX1_firstWide f g := fw_nf f g 6 0 (by omega)
  unfold fwn
  rw [hw]
/-! bounds of boxes -/
theorem px_l2i {x : Int64} (h1 : -2147483648 ≤ x.toInt) (h2 : x.toInt < 2147483648) : x.toInt32.toInt = x.toInt := by
  rw [Int64.toInt_toInt32]
  rw [Int.bmod_eq_of_le] <;> omega
theorem BXP.pbx {n : Nat} {f g : Nat → Int32} (h : BXP n (b8 f) (b8 g)) : PBX f g := by
  intro v hv
  obtain ⟨k, _, h2⟩ := h
  obtain ⟨a1, a2, a3, _⟩ := h2 v hv
  rw [b8_at hv, Int32.toInt_toInt64] at a1
  rw [b8_at hv, b8_at hv, Int32.toInt_toInt64, Int32.toInt_toInt64] at a2
  rw [b8_at hv, Int32.toInt_toInt64] at a3
  exact ⟨a1, a2, a3⟩
theorem smid_i {f g : Nat → Int32} {v : Nat} (h : PB (f v) (g v)) : (smid f g v).toInt = ((f v).toInt + (g v).toInt) / 2 ∧ (smid f g v).toInt64.toInt = ((f v).toInt + (g v).toInt) / 2 := by
  obtain ⟨a1, a2, a3⟩ := h
  have e1 := Int32.toInt_toInt64 (f v)
  have e2 := Int32.toInt_toInt64 (g v)
  have e3 : ((((f v) : Int32).toInt64 + ((g v) : Int32).toInt64) >>> ((1 : Int32).toInt64 &&& 63)).toInt = ((f v).toInt + (g v).toInt) / 2 := by
    rw [px_shrE, px_ladd (by omega) (by omega), e1, e2]
  have e4 : (smid f g v).toInt = ((f v).toInt + (g v).toInt) / 2 := by
    unfold smid
    rw [px_l2i (by omega) (by omega), e3]
  exact ⟨e4, by rw [Int32.toInt_toInt64, e4]⟩
theorem BXP.halve {n : Nat} {f g : Nat → Int32} (h : BXP n (b8 f) (b8 g)) (hv : fwn f g < 4) : BXP (n + 1) (b8 (upd f (fwn f g) (smid f g (fwn f g) + 1))) (b8 g) ∧ BXP (n + 1) (b8 f) (b8 (upd g (fwn f g) (smid f g (fwn f g)))) ∧ n + 1 ≤ 128 ∧ (f (fwn f g)).toInt ≤ (smid f g (fwn f g)).toInt ∧ (smid f g (fwn f g)).toInt < (g (fwn f g)).toInt := by
  obtain ⟨_, _, _, hne⟩ := fw_spec f g
  have hp := h.pbx
  obtain ⟨s1, s2⟩ := smid_i (hp _ hv)
  have hne := hne hv
  have hpv := hp _ hv
  generalize fwn f g = v at hv hne s1 s2 hpv ⊢
  obtain ⟨a1, a2, a3⟩ := hpv
  have e1 : (smid f g v + 1).toInt = (smid f g v).toInt + 1 := sp_inc (by omega)
  have hm1 : (smid f g v + 1).toInt64.toInt = (smid f g v).toInt64.toInt + 1 := by rw [Int32.toInt_toInt64, Int32.toInt_toInt64, e1]
  obtain ⟨b1, b2, b3⟩ := BXP.half (v := v) h hv (by rw [b8_at hv, b8_at hv, Int32.toInt_toInt64, Int32.toInt_toInt64]; exact hne) (mi := (smid f g v).toInt64) (m1 := (smid f g v + 1).toInt64) (by rw [b8_at hv, b8_at hv, Int32.toInt_toInt64 (f v), Int32.toInt_toInt64 (g v)]; exact s2) hm1
  refine ⟨b1.congr (fun u hu => ⟨?_, rfl⟩), b2.congr (fun u hu => ⟨?_, ?_⟩), b3, by omega, by omega⟩
  · by_cases q : u = v
    · subst q
      rw [b8_at hu, px_updS, px_ulS]
    · rw [b8_at hu, px_updO _ _ q, px_ulO _ _ q, b8_at hu]
  · by_cases q : u = v
    · subst q
      rw [px_ulS]
    · rw [px_ulO _ _ q, px_ulO _ _ q]
  · by_cases q : u = v
    · subst q
      rw [b8_at hu, px_updS, px_ulS]
    · rw [b8_at hu, px_updO _ _ q, px_ulO _ _ q, b8_at hu]
def GS : List Bx → Prop
  | [] => True
  | x :: st => BXP st.length (b8 x.1) (b8 x.2) ∧ GS st
/-! what the class has put aside -/
def tk (fb : Nat → Int32) (v : Nat) (x : Int32) (F : Nat → Int32) : Nat → Int32 := fun u => if u < v then F u else if u = v then x else if u < 4 then fb u else 0
theorem tk_lt {fb : Nat → Int32} {v : Nat} {x : Int32} {F : Nat → Int32} {u : Nat} (h : u < v) : tk fb v x F u = F u := if_pos h
theorem tk_eq (fb : Nat → Int32) (v : Nat) (x : Int32) (F : Nat → Int32) : tk fb v x F v = x := by
  unfold tk
  rw [if_neg (Nat.lt_irrefl v), if_pos rfl]
theorem tk_gt {fb : Nat → Int32} {v : Nat} {x : Int32} {F : Nat → Int32} {u : Nat} (h : v < u) (h4 : u < 4) : tk fb v x F u = fb u := by
  unfold tk
  rw [if_neg (by omega), if_neg (by omega), if_pos h4]
theorem tk_out {fb : Nat → Int32} {v : Nat} {x : Int32} {F : Nat → Int32} {u : Nat} (hv : v < 4) (h4 : ¬ u < 4) : tk fb v x F u = 0 := by
  unfold tk
  rw [if_neg (by omega), if_neg (by omega), if_neg h4]
def csk (qv ql qm fb gb : Nat → Int32) : Nat → (Nat → Int32) → (Nat → Int32) → List Bx
  | 0, _, _ => []
  | k + 1, F, G => (tk fb (qv k).toNatClampNeg (ql k) F, tk gb (qv k).toNatClampNeg (qm k) G) :: csk qv ql qm fb gb k (tk fb (qv k).toNatClampNeg (ql k) F) (tk gb (qv k).toNatClampNeg (qm k) G)
theorem csk_len (qv ql qm fb gb : Nat → Int32) : ∀ (k : Nat) (F G : Nat → Int32), (csk qv ql qm fb gb k F G).length = k := by
  intro k
  induction k with
  | zero => intro F G; rfl
  | succ k ih =>
    intro F G
    rw [csk, List.length_cons, ih]
theorem csk_arr {qv ql qm qv' ql' qm' : Nat → Int32} (fb gb : Nat → Int32) : ∀ (k : Nat) (F G : Nat → Int32), (∀ j : Nat, j < k → qv' j = qv j ∧ ql' j = ql j ∧ qm' j = qm j) → csk qv' ql' qm' fb gb k F G = csk qv ql qm fb gb k F G := by
  intro k
  induction k with
  | zero => intro F G _; rfl
  | succ k ih =>
    intro F G h
    obtain ⟨h1, h2, h3⟩ := h k (by omega)
    rw [csk, csk, h1, h2, h3, ih _ _ (fun j hj => h j (by omega))]
theorem csk_cong {qv ql qm fb gb : Nat → Int32} {k v : Nat} {F G F' G' : Nat → Int32} (hv : ∀ j : Nat, j < k → (qv j).toNatClampNeg ≤ v) (hF : ∀ u : Nat, u < v → F' u = F u ∧ G' u = G u) : csk qv ql qm fb gb k F' G' = csk qv ql qm fb gb k F G := by
  cases k with
  | zero => rfl
  | succ k =>
    have h1 : ∀ (x : Int32), tk fb (qv k).toNatClampNeg x F' = tk fb (qv k).toNatClampNeg x F := by
      intro x
      funext u
      by_cases q : u < (qv k).toNatClampNeg
      · rw [tk_lt q, tk_lt q]
        have := hv k (by omega)
        exact (hF u (by omega)).1
      · unfold tk
        rw [if_neg q, if_neg q]
    have h2 : ∀ (x : Int32), tk gb (qv k).toNatClampNeg x G' = tk gb (qv k).toNatClampNeg x G := by
      intro x
      funext u
      by_cases q : u < (qv k).toNatClampNeg
      · rw [tk_lt q, tk_lt q]
        have := hv k (by omega)
        exact (hF u (by omega)).2
      · unfold tk
        rw [if_neg q, if_neg q]
    rw [csk, csk, h1, h2]
theorem tu_loop {qv ql qm fx gx fb gb : Nat → Int32} {qa : Int32} : ∀ (fuel : Nat) (bh : Int32) (F G : Nat → Int32), 0 ≤ bh.toInt → bh.toInt ≤ 4 → 4 - bh.toInt < fuel → ∀ u : Nat, u < 4 → kX5_takeUp_l50_fx9 fuel qv ql qm fx gx fb gb qa bh F G u = (if bh.toInt ≤ (u : Int) then fb u else F u) ∧ kX5_takeUp_l50_gx9 fuel qv ql qm fx gx fb gb qa bh F G u = (if bh.toInt ≤ (u : Int) then gb u else G u) := by
  intro fuel
  induction fuel with
  | zero => intro bh F G _ _ h; exact absurd h (by omega)
  | succ fuel ih =>
    intro bh F G h0 h1 hf u hu
    rw [kX5_takeUp_l50_fx9_S, kX5_takeUp_l50_gx9_S]
    by_cases hq : 4 ≤ bh.toInt
    · rw [if_pos hq, if_pos hq]
      have q : ¬ bh.toInt ≤ (u : Int) := by omega
      rw [if_neg q, if_neg q]
      exact ⟨rfl, rfl⟩
    · rw [if_neg hq, if_neg hq]
      have e := px_cl h0
      have e1 : (bh + 1).toInt = bh.toInt + 1 := sp_inc (by omega)
      obtain ⟨p1, p2⟩ := ih (bh + 1) (kX1_put_f9 F G bh (fb bh.toNatClampNeg) (gb bh.toNatClampNeg)) (kX1_put_g9 F G bh (fb bh.toNatClampNeg) (gb bh.toNatClampNeg)) (by omega) (by omega) (by omega) u hu
      rw [p1, p2]
      unfold kX1_put_f9 kX1_put_g9
      by_cases hub : u = bh.toNatClampNeg
      · have q1 : ¬ (bh + 1).toInt ≤ (u : Int) := by omega
        have q2 : bh.toInt ≤ (u : Int) := by omega
        rw [if_neg q1, if_neg q1, if_pos q2, if_pos q2, hub, px_updS, px_updS]
        exact ⟨rfl, rfl⟩
      · rw [px_updO _ _ hub, px_updO _ _ hub]
        by_cases q : bh.toInt ≤ (u : Int)
        · have q1 : (bh + 1).toInt ≤ (u : Int) := by omega
          rw [if_pos q1, if_pos q1, if_pos q, if_pos q]
          exact ⟨rfl, rfl⟩
        · have q1 : ¬ (bh + 1).toInt ≤ (u : Int) := by omega
          rw [if_neg q1, if_neg q1, if_neg q, if_neg q]
          exact ⟨rfl, rfl⟩
theorem tu_all {qv ql qm fx gx fb gb : Nat → Int32} {qa : Int32} (hv : 0 ≤ (qv (qa - 1).toNatClampNeg).toInt ∧ (qv (qa - 1).toNatClampNeg).toInt < 4) : nf (kX5_takeUp_fx9 qv ql qm fx gx fb gb qa) = tk fb (qv (qa - 1).toNatClampNeg).toNatClampNeg (ql (qa - 1).toNatClampNeg) (nf fx) ∧ nf (kX5_takeUp_gx9 qv ql qm fx gx fb gb qa) = tk gb (qv (qa - 1).toNatClampNeg).toNatClampNeg (qm (qa - 1).toNatClampNeg) (nf gx) := by
  unfold kX5_takeUp_fx9 kX5_takeUp_gx9
  generalize (qa - 1).toNatClampNeg = k at hv ⊢
  have e := px_cl hv.1
  have e1 : (qv k + 1).toInt = (qv k).toInt + 1 := sp_inc (by omega)
  have L := tu_loop (qv := qv) (ql := ql) (qm := qm) (fx := fx) (gx := gx) (fb := fb) (gb := gb) (qa := qa) 6 (qv k + 1) (kX1_put_f9 fx gx (qv k) (ql k) (qm k)) (kX1_put_g9 fx gx (qv k) (ql k) (qm k)) (by omega) (by omega) (by omega)
  have key : ∀ (h hb hx : Nat → Int32) (x : Int32), (∀ u : Nat, u < 4 → h u = (if (qv k + 1).toInt ≤ (u : Int) then hb u else upd hx (qv k).toNatClampNeg x u)) → nf h = tk hb (qv k).toNatClampNeg x (nf hx) := by
    intro h hb hx x hh
    funext u
    by_cases hu : u < 4
    · rw [nf_at hu, hh u hu]
      by_cases q : u < (qv k).toNatClampNeg
      · have q1 : ¬ (qv k + 1).toInt ≤ (u : Int) := by omega
        have q2 : ¬ u = (qv k).toNatClampNeg := by omega
        rw [if_neg q1, tk_lt q, px_updO _ _ q2, nf_at hu]
      · by_cases q2 : u = (qv k).toNatClampNeg
        · have q1 : ¬ (qv k + 1).toInt ≤ (u : Int) := by omega
          rw [if_neg q1, q2, px_updS, tk_eq]
        · have q1 : (qv k + 1).toInt ≤ (u : Int) := by omega
          rw [if_pos q1, tk_gt (by omega) hu]
    · rw [tk_out (by omega) hu]
      unfold nf
      rw [if_neg hu]
  exact ⟨key _ _ _ _ (fun u hu => (L u hu).1), key _ _ _ _ (fun u hu => (L u hu).2)⟩
/-- what holds of the class's box and of what it has put aside -/
def CI (fb gb qv : Nat → Int32) (k : Nat) (f g : Nat → Int32) : Prop := (∀ u : Nat, u < 4 → fwn f g < u → f u = fb u ∧ g u = gb u) ∧ (∀ j : Nat, j < k → (0 ≤ (qv j).toInt ∧ (qv j).toInt < 4) ∧ (qv j).toNatClampNeg ≤ fwn f g) ∧ (∀ j j' : Nat, j < j' → j' < k → (qv j).toNatClampNeg ≤ (qv j').toNatClampNeg)
