theorem sp_boolC {r : Int32} {P Q : Prop} (h0 : r = 1 ∨ r = 0) (h : (r.toInt = 1 ∧ P) ∨ (r.toInt = 0 ∧ ¬ P)) (hpq : P ↔ Q) : (r = 1 ∧ Q) ∨ (r = 0 ∧ ¬ Q) := by
  rcases h0 with rfl | rfl
  · rcases h with ⟨_, h⟩ | ⟨h, _⟩
    · exact Or.inl ⟨rfl, hpq.mp h⟩
    · exact absurd h (by decide)
  · rcases h with ⟨h, _⟩ | ⟨_, h⟩
    · exact absurd h (by decide)
    · exact Or.inr ⟨rfl, fun q => h (hpq.mpr q)⟩
theorem px_neg1 {g : Int64} (h : g.toInt < 0) : (-1 - g).toInt = -1 - g.toInt := by
  have hr := px_lrng g
  rw [Int64.toInt_sub, show (-1 : Int64).toInt = -1 from by decide]
  rw [Int.bmod_eq_of_le] <;> omega
theorem px_half (x : Int64) : (0 ≤ x.toInt → (x / 2).toInt = x.toInt / 2) ∧ (x.toInt < 0 → (x / 2).toInt ≤ 0) := by
  have hr := px_lrng x
  rw [Int64.toInt_div, show (2 : Int64).toInt = 2 from by decide]
  refine ⟨fun h => ?_, fun h => ?_⟩
  · rw [Int.tdiv_eq_ediv_of_nonneg h, Int.bmod_eq_of_le] <;> omega
  · have e : x.toInt.tdiv 2 = -((-x.toInt) / 2) := by
      rw [← Int.tdiv_eq_ediv_of_nonneg (by omega), Int.neg_tdiv, Int.neg_neg]
    rw [e, Int.bmod_eq_of_le] <;> omega
theorem px_dig {x : Int64} (h : 0 ≤ x.toInt) : 8388608 ≤ ((x - x / 8388608 * 8388608) + 8388608).toInt ∧ ((x - x / 8388608 * 8388608) + 8388608).toInt < 16777216 := by
  have hr := px_lrng x
  have c : (8388608 : Int64).toInt = 8388608 := by decide
  have e1 : (x / 8388608).toInt = x.toInt / 8388608 := by
    rw [Int64.toInt_div, c, Int.tdiv_eq_ediv_of_nonneg h, Int.bmod_eq_of_le] <;> omega
  have e2 : (x / 8388608 * 8388608).toInt = x.toInt / 8388608 * 8388608 := by
    rw [Int64.toInt_mul, e1, c, Int.bmod_eq_of_le] <;> omega
  have e3 : (x - x / 8388608 * 8388608).toInt = x.toInt - x.toInt / 8388608 * 8388608 := by
    rw [Int64.toInt_sub, e2, Int.bmod_eq_of_le] <;> omega
  have e4 : ((x - x / 8388608 * 8388608) + 8388608).toInt = x.toInt - x.toInt / 8388608 * 8388608 + 8388608 := by
    rw [Int64.toInt_add, e3, c, Int.bmod_eq_of_le] <;> omega
  omega
theorem px_dbl {x : Int64} (h0 : 0 ≤ x.toInt) (h1 : x.toInt < 8388608) : (x * 2).toInt = 2 * x.toInt := by
  have c : (2 : Int64).toInt = 2 := by decide
  rw [Int64.toInt_mul, c, Int.bmod_eq_of_le] <;> omega
theorem px_shrE (x : Int64) : (x >>> ((1 : Int32).toInt64 &&& 63)).toInt = x.toInt / 2 := by
  have e1 : ((1 : Int32).toInt64 &&& 63 : Int64) = 1 := by decide
  rw [e1]
  have e2 : (x >>> (1 : Int64)).toBitVec = x.toBitVec.sshiftRight 1 := rfl
  show (x >>> (1 : Int64)).toBitVec.toInt = _
  rw [e2, BitVec.toInt_sshiftRight]
  show x.toInt >>> 1 = _
  rw [Int.shiftRight_eq_div_pow]
  rfl
def sq_mp (z : Int32) (g : Int64) : Int64 := if z.toInt = 0 then g else -1 - g
def sq_fb (b : Int32) : Int64 := if 2139095040 < (b &&& 2147483647 : Int32).toInt then 9000000000 else if b.toInt < 0 then -1 - (b &&& 2147483647 : Int32).toInt64 else (b &&& 2147483647 : Int32).toInt64
def sq_tb (g : Int64) : Int64 := if g.toInt = 9000000000 then 2143289344 else if 0 ≤ g.toInt then g else -1 - g - 2147483648
def MI (c : Int32) (k x y : Nat → Int32) : Prop := 0 ≤ c.toInt ∧ c.toInt ≤ 40 ∧ ∀ i : Nat, (i : Int) < c.toInt → 0 ≤ (k i).toInt ∧ (k i).toInt ≤ 15 ∧ ((k i).toInt = 1 → 0 ≤ (x i).toInt ∧ (x i).toInt < 4) ∧ (2 ≤ (k i).toInt → 0 ≤ (x i).toInt ∧ (x i).toInt < 40) ∧ (((2 ≤ (k i).toInt ∧ (k i).toInt ≤ 5) ∨ (k i).toInt = 8 ∨ (k i).toInt = 9 ∨ (k i).toInt = 14) → 0 ≤ (y i).toInt ∧ (y i).toInt < 40)
theorem MI.pt {c : Int32} {k x y : Nat → Int32} (h : MI c k x y) {i : Int32} (h0 : 0 ≤ i.toInt) (h1 : i.toInt < c.toInt) : 0 ≤ (k i.toNatClampNeg).toInt ∧ (k i.toNatClampNeg).toInt ≤ 15 ∧ ((k i.toNatClampNeg).toInt = 1 → 0 ≤ (x i.toNatClampNeg).toInt ∧ (x i.toNatClampNeg).toInt < 4) ∧ (2 ≤ (k i.toNatClampNeg).toInt → 0 ≤ (x i.toNatClampNeg).toInt ∧ (x i.toNatClampNeg).toInt < 40) ∧ (((2 ≤ (k i.toNatClampNeg).toInt ∧ (k i.toNatClampNeg).toInt ≤ 5) ∨ (k i.toNatClampNeg).toInt = 8 ∨ (k i.toNatClampNeg).toInt = 9 ∨ (k i.toNatClampNeg).toInt = 14) → 0 ≤ (y i.toNatClampNeg).toInt ∧ (y i.toNatClampNeg).toInt < 40) := by
  have e := px_cl h0
  exact h.2.2 i.toNatClampNeg (by omega)
theorem MI.add {c : Int32} {k x y : Nat → Int32} (h : MI c k x y) (hc : c.toInt < 40) {kk xx yy : Int32} (h0 : 0 ≤ kk.toInt ∧ kk.toInt ≤ 15) (h1 : kk.toInt = 1 → 0 ≤ xx.toInt ∧ xx.toInt < 4) (h2 : 2 ≤ kk.toInt → 0 ≤ xx.toInt ∧ xx.toInt < 40) (h3 : ((2 ≤ kk.toInt ∧ kk.toInt ≤ 5) ∨ kk.toInt = 8 ∨ kk.toInt = 9 ∨ kk.toInt = 14) → 0 ≤ yy.toInt ∧ yy.toInt < 40) : MI (c + 1) (upd k c.toNatClampNeg kk) (upd x c.toNatClampNeg xx) (upd y c.toNatClampNeg yy) := by
  obtain ⟨q0, q1, q2⟩ := h
  have e := px_cl q0
  have e1 : (c + 1).toInt = c.toInt + 1 := sp_inc (by omega)
  refine ⟨by omega, by omega, fun i hi => ?_⟩
  by_cases hj : i = c.toNatClampNeg
  · subst hj
    rw [px_updS, px_updS, px_updS]
    exact ⟨h0.1, h0.2, h1, h2, h3⟩
  · rw [px_updO _ _ hj, px_updO _ _ hj, px_updO _ _ hj]
    exact q2 i (by omega)
def MR (c : Int32) (k a b : Nat → Int32) : Prop := 0 ≤ c.toInt ∧ c.toInt ≤ 12 ∧ ∀ i : Nat, (i : Int) < c.toInt → (0 ≤ (a i).toInt ∧ (a i).toInt < 40) ∧ ((k i).toInt ≤ 3 → 0 ≤ (b i).toInt ∧ (b i).toInt < 40)
theorem MR.pt {c : Int32} {k a b : Nat → Int32} (h : MR c k a b) {i : Int32} (h0 : 0 ≤ i.toInt ∧ i.toInt < c.toInt) : (0 ≤ (a i.toNatClampNeg).toInt ∧ (a i.toNatClampNeg).toInt < 40) ∧ ((k i.toNatClampNeg).toInt ≤ 3 → 0 ≤ (b i.toNatClampNeg).toInt ∧ (b i.toNatClampNeg).toInt < 40) := by
  have e := px_cl h0.1
  exact h.2.2 i.toNatClampNeg (by omega)
theorem MR.add {c : Int32} {k a b : Nat → Int32} (h : MR c k a b) (hc : c.toInt < 12) {kk aa bb : Int32} (h1 : 0 ≤ aa.toInt ∧ aa.toInt < 40) (h2 : kk.toInt ≤ 3 → 0 ≤ bb.toInt ∧ bb.toInt < 40) : MR (c + 1) (upd k c.toNatClampNeg kk) (upd a c.toNatClampNeg aa) (upd b c.toNatClampNeg bb) := by
  obtain ⟨q0, q1, q2⟩ := h
  have e := px_cl q0
  have e1 : (c + 1).toInt = c.toInt + 1 := sp_inc (by omega)
  refine ⟨by omega, by omega, fun i hi => ?_⟩
  by_cases hj : i = c.toNatClampNeg
  · subst hj
    rw [px_updS, px_updS, px_updS]
    exact ⟨h1, h2⟩
  · rw [px_updO _ _ hj, px_updO _ _ hj, px_updO _ _ hj]
    exact q2 i (by omega)
theorem MR.zero (k a b : Nat → Int32) : MR 0 k a b := by
  have h0 : (0 : Int32).toInt = 0 := by decide
  exact ⟨by omega, by omega, fun i hi => absurd hi (by omega)⟩
theorem px_ulS (f : Nat → Int64) (k : Nat) (x : Int64) : vp_updL f k x k = x := if_pos rfl
theorem px_ulO (f : Nat → Int64) {k j : Nat} (x : Int64) (h : ¬ j = k) : vp_updL f k x j = f j := if_neg h
/-! boxes, the stack of boxes -/
def RG (lo hi : Nat → Int64) : Prop := ∀ v : Nat, v < 4 → -2139095041 ≤ (lo v).toInt ∧ (lo v).toInt ≤ (hi v).toInt ∧ (hi v).toInt ≤ 2139095040
def BXP (n : Nat) (lo hi : Nat → Int64) : Prop := ∃ k : Nat → Nat, k 0 + k 1 + k 2 + k 3 + n ≤ 128 ∧ ∀ v : Nat, v < 4 → -2139095041 ≤ (lo v).toInt ∧ (lo v).toInt ≤ (hi v).toInt ∧ (hi v).toInt ≤ 2139095040 ∧ (hi v).toInt - (lo v).toInt < 2 ^ k v
theorem BXP.of {lo hi : Nat → Int64} (h : RG lo hi) : BXP 0 lo hi := by
  refine ⟨fun _ => 32, by decide, fun v hv => ?_⟩
  obtain ⟨h1, h2, h3⟩ := h v hv
  exact ⟨h1, h2, h3, by show _ < (2 : Int) ^ 32; omega⟩
theorem BXP.le {n n' : Nat} {lo hi : Nat → Int64} (h : BXP n lo hi) (hn : n' ≤ n) : BXP n' lo hi := by
  obtain ⟨k, hs, hk⟩ := h
  exact ⟨k, by omega, hk⟩
theorem BXP.congr {n : Nat} {lo hi lo' hi' : Nat → Int64} (h : BXP n lo hi) (hl : ∀ v : Nat, v < 4 → lo' v = lo v ∧ hi' v = hi v) : BXP n lo' hi' := by
  obtain ⟨k, hs, hk⟩ := h
  refine ⟨k, hs, fun v hv => ?_⟩
  rw [(hl v hv).1, (hl v hv).2]
  exact hk v hv
theorem BXP.halfk {k : Nat → Nat} {v : Nat} (hv : v < 4) {j n : Nat} (hj : k v = j + 1) (hs : k 0 + k 1 + k 2 + k 3 + n ≤ 128) : (fun u => if u = v then j else k u) 0 + (fun u => if u = v then j else k u) 1 + (fun u => if u = v then j else k u) 2 + (fun u => if u = v then j else k u) 3 + (n + 1) ≤ 128 := by
  rcases (show v = 0 ∨ v = 1 ∨ v = 2 ∨ v = 3 by omega) with rfl | rfl | rfl | rfl <;> simp <;> omega
theorem BXP.half {n : Nat} {lo hi : Nat → Int64} (h : BXP n lo hi) {v : Nat} (hv : v < 4) (hne : ¬ (lo v).toInt = (hi v).toInt) {mi m1 : Int64} (hm : mi.toInt = ((lo v).toInt + (hi v).toInt) / 2) (hm1 : m1.toInt = mi.toInt + 1) : BXP (n + 1) (vp_updL lo v m1) hi ∧ BXP (n + 1) (vp_updL (vp_updL lo v m1) v (lo v)) (vp_updL hi v mi) ∧ n + 1 ≤ 128 := by
  obtain ⟨k, hs, hk⟩ := h
  obtain ⟨q1, q2, q3, q4⟩ := hk v hv
  obtain ⟨j, hj⟩ : ∃ j, k v = j + 1 := by
    cases hkv : k v with
    | zero => rw [hkv] at q4; exfalso; have : (2 : Int) ^ 0 = 1 := rfl; omega
    | succ j => exact ⟨j, rfl⟩
  rw [hj, Int.pow_succ] at q4
  have hs2 := BXP.halfk hv hj hs
  refine ⟨⟨fun u => if u = v then j else k u, hs2, fun u hu => ?_⟩, ⟨fun u => if u = v then j else k u, hs2, fun u hu => ?_⟩, ?_⟩
  · by_cases huv : u = v
    · subst huv
      rw [px_ulS]
      simp only [if_true]
      refine ⟨by omega, by omega, by omega, by omega⟩
    · rw [px_ulO _ _ huv]
      simp only [huv, if_false]
      exact hk u hu
  · by_cases huv : u = v
    · subst huv
      rw [px_ulS, px_ulS]
      simp only [if_true]
      refine ⟨by omega, by omega, by omega, by omega⟩
    · rw [px_ulO _ _ huv, px_ulO _ _ huv, px_ulO _ _ huv]
      simp only [huv, if_false]
      exact hk u hu
  · rcases (show v = 0 ∨ v = 1 ∨ v = 2 ∨ v = 3 by omega) with rfl | rfl | rfl | rfl <;> omega
def SK (n : Nat) (S : Nat → Int64) : Prop := ∀ i : Nat, i < n → BXP i (fun v => S (8 * i + v)) (fun v => S (8 * i + 4 + v))
theorem SK.zero (S : Nat → Int64) : SK 0 S := fun i hi => absurd hi (Nat.not_lt_zero i)
theorem SK.le {n n' : Nat} {S : Nat → Int64} (h : SK n S) (hn : n' ≤ n) : SK n' S := fun i hi => h i (by omega)
def LY (S0 S lo hi : Nat → Int64) (z v : Nat) : Prop := (∀ j : Nat, j < 8 * z → S j = S0 j) ∧ ∀ u : Nat, u < v → S (8 * z + u) = lo u ∧ S (8 * z + 4 + u) = hi u
theorem LY.zero (S lo hi : Nat → Int64) (z : Nat) : LY S S lo hi z 0 := ⟨fun _ _ => rfl, fun u hu => absurd hu (Nat.not_lt_zero u)⟩
theorem LY.step {S0 S lo hi : Nat → Int64} {z v : Nat} (h : LY S0 S lo hi z v) (hv : v < 4) : LY S0 (vp_updL (vp_updL S (8 * z + v) (lo v)) (8 * z + 4 + v) (hi v)) lo hi z (v + 1) := by
  refine ⟨fun j hj => ?_, fun u hu => ?_⟩
  · rw [px_ulO _ _ (by omega), px_ulO _ _ (by omega)]
    exact h.1 j hj
  · by_cases hu2 : u = v
    · subst hu2
      rw [px_ulS, px_ulO _ _ (by omega), px_ulS]
      exact ⟨rfl, rfl⟩
    · rw [px_ulO _ _ (by omega), px_ulO _ _ (by omega), px_ulO _ _ (by omega), px_ulO _ _ (by omega)]
      exact h.2 u (by omega)
theorem LY.fin {S0 S lo hi : Nat → Int64} {z : Nat} (h : LY S0 S lo hi z 4) (hs : SK z S0) (hb : BXP z lo hi) : SK (z + 1) S := by
  intro i hi9
  by_cases hiz : i = z
  · subst hiz
    exact hb.congr (fun v hv => h.2 v hv)
  · refine (hs i (by omega)).congr (fun v hv => ⟨h.1 _ (by omega), h.1 _ (by omega)⟩)
def LF (S lo hi : Nat → Int64) (z v : Nat) : Prop := ∀ u : Nat, u < v → lo u = S (8 * z + u) ∧ hi u = S (8 * z + 4 + u)
theorem LF.zero (S lo hi : Nat → Int64) (z : Nat) : LF S lo hi z 0 := fun u hu => absurd hu (Nat.not_lt_zero u)
theorem LF.step {S lo hi : Nat → Int64} {z v : Nat} (h : LF S lo hi z v) : LF S (vp_updL lo v (S (8 * z + v))) (vp_updL hi v (S (8 * z + 4 + v))) z (v + 1) := by
  intro u hu
  by_cases hu2 : u = v
  · subst hu2
    rw [px_ulS, px_ulS]
    exact ⟨rfl, rfl⟩
  · rw [px_ulO _ _ hu2, px_ulO _ _ hu2]
    exact h u (by omega)
theorem LF.fin {S lo hi : Nat → Int64} {z n : Nat} (h : LF S lo hi z 4) (hs : SK n S) (hz : z < n) : BXP z lo hi := (hs z hz).congr (fun v hv => h v hv)
def CP (f g f' g' : Nat → Int64) (v : Nat) : Prop := ∀ u : Nat, u < v → f' u = f u ∧ g' u = g u
theorem CP.zero (f g f' g' : Nat → Int64) : CP f g f' g' 0 := fun u hu => absurd hu (Nat.not_lt_zero u)
theorem CP.step {f g f' g' : Nat → Int64} {v : Nat} (h : CP f g f' g' v) : CP f g (vp_updL f' v (f v)) (vp_updL g' v (g v)) (v + 1) := by
  intro u hu
  by_cases hu2 : u = v
  · subst hu2
    rw [px_ulS, px_ulS]
    exact ⟨rfl, rfl⟩
  · rw [px_ulO _ _ hu2, px_ulO _ _ hu2]
    exact h u (by omega)
theorem CP.fin {f g f' g' : Nat → Int64} (h : CP f g f' g' 4) (hr : RG f g) : BXP 0 f' g' := (BXP.of hr).congr (fun v hv => h v hv)
theorem px_clS {x y : Int32} (h0 : 0 ≤ x.toInt) (h : y.toInt = x.toInt + 1) : y.toNatClampNeg = x.toNatClampNeg + 1 := by
  have e1 := px_cl h0
  have e2 := px_cl (x := y) (by omega)
  omega
theorem px_ix {z v : Int32} (hz : 0 ≤ z.toInt ∧ z.toInt < 150) (hv : 0 ≤ v.toInt ∧ v.toInt < 4) : ((8 * z) + v).toInt = 8 * z.toInt + v.toInt ∧ (((8 * z) + 4) + v).toInt = 8 * z.toInt + 4 + v.toInt ∧ ((8 * z) + v).toNatClampNeg = 8 * z.toNatClampNeg + v.toNatClampNeg ∧ (((8 * z) + 4) + v).toNatClampNeg = 8 * z.toNatClampNeg + 4 + v.toNatClampNeg := by
  have c8 : (8 : Int32).toInt = 8 := by decide
  have c4 : (4 : Int32).toInt = 4 := by decide
  have e1 : (8 * z).toInt = 8 * z.toInt := by
    rw [Int32.toInt_mul, c8, Int.bmod_eq_of_le] <;> omega
  have e2 : ((8 * z) + v).toInt = 8 * z.toInt + v.toInt := by
    rw [px_iadd (by omega) (by omega), e1]
  have e3 : ((8 * z) + 4).toInt = 8 * z.toInt + 4 := by
    rw [px_iadd (by omega) (by omega), e1, c4]
  have e4 : (((8 * z) + 4) + v).toInt = 8 * z.toInt + 4 + v.toInt := by
    rw [px_iadd (by omega) (by omega), e3]
  have n1 := px_cl hz.1
  have n2 := px_cl hv.1
  have n3 := px_cl (x := (8 * z) + v) (by omega)
  have n4 := px_cl (x := ((8 * z) + 4) + v) (by omega)
  exact ⟨e2, e4, by omega, by omega⟩
