/-! SR: a SPAN of the class and one of the reference -/
set_option maxHeartbeats 4000000 in
theorem kv_oneN {k : Int32} {s : Bool} {a : Nat} (q : Int64) (ha : a ≤ 2139095040) (hk : k.toInt = 6 ∨ k.toInt = 7 ∨ k.toInt = 10 ∨ k.toInt = 11 ∨ k.toInt = 12 ∨ k.toInt = 13 ∨ k.toInt = 15) (hr : k.toInt = 15 → s = false ∨ a = 0) : VN (kX0_ofOne k (fz_enc s a)) (kX8_valueOf k (fz_plc s a) q) := by
  have ha2 : a < 2147483648 := by omega
  have n9 := kz_plc9 s ha2
  have c10 : (10 : Int32).toInt = 10 := by decide
  have hk10 : (k - 10).toInt = k.toInt - 10 := by rw [px_isub (by omega) (by omega), c10]
  unfold kX0_ofOne kX8_valueOf
  rw [if_pos (kz_isNoneN s ha), fz_encS s ha2, fz_encM s ha2, kz_cut ha2, kz_grw ha2, kz_nea ha2]
  have hcutB : ∀ h, fz_who s h a ≤ 2139095040 → True := fun _ _ => trivial
  have cutB : fz_cut a ≤ a := by
    unfold fz_cut
    split
    · omega
    · split
      · exact Nat.div_mul_le_self _ _
      · omega
  have nxtB : a < 1258291200 → fz_nxt a ≤ 1266679808 := by
    intro h
    unfold fz_nxt
    split
    · omega
    · have h1 := Nat.div_mul_le_self a (2 ^ (150 - a / 8388608))
      have h2 : 2 ^ (150 - a / 8388608) ≤ 2 ^ 23 := Nat.pow_le_pow_right (by decide) (by omega)
      omega
  have grwB : fz_grw a ≤ 2139095040 := by
    unfold fz_grw
    split
    · omega
    · split
      · rename_i h
        split
        · omega
        · split
          · have := Nat.div_mul_le_self a (2 ^ (150 - a / 8388608))
            omega
          · have := nxtB h
            omega
      · exact ha
  have neaB : fz_nea a ≤ 2139095040 := by
    unfold fz_nea
    split
    · rename_i h
      split
      · split <;> omega
      · split
        · have := nxtB h
          omega
        · omega
    · exact ha
  rcases hk with h | h | h | h | h | h | h
  · simp only [h, Int.reduceLT, Int.reduceEq, ↓reduceIte]
    rw [fz_encX s ha2, kz_turn s ha2]
    exact VN.num (!s) ha
  · simp only [h, Int.reduceLT, Int.reduceEq, ↓reduceIte]
    rw [if_neg n9, kz_magP s ha2, ← fz_encF]
    exact VN.num false ha
  · have hw := kz_wholeR s ha (how := k - 10) (hw := 0) (by omega) (by omega)
    simp only [h, Int.reduceLT, Int.reduceEq, ↓reduceIte]
    rw [hw]
    unfold fz_who
    cases s with
    | false =>
      rw [if_pos (by decide), if_pos rfl, if_neg (by decide)]
      exact VN.num false (by omega)
    | true =>
      rw [if_neg (by decide), if_pos rfl, if_pos rfl]
      exact VN.num true grwB
  · have hw := kz_wholeR s ha (how := k - 10) (hw := 1) (by omega) (by omega)
    simp only [h, Int.reduceLT, Int.reduceEq, ↓reduceIte]
    rw [hw]
    unfold fz_who
    cases s with
    | false =>
      rw [if_pos (by decide), if_neg (by decide), if_pos rfl, if_neg (by decide)]
      exact VN.num false grwB
    | true =>
      rw [if_neg (by decide), if_neg (by decide), if_pos rfl, if_pos rfl]
      exact VN.num true (by omega)
  · have hw := kz_wholeR s ha (how := k - 10) (hw := 2) (by omega) (by omega)
    simp only [h, Int.reduceLT, Int.reduceEq, ↓reduceIte]
    rw [hw]
    exact VN.num s neaB
  · simp only [h, Int.reduceLT, Int.reduceEq, ↓reduceIte]
    have hv := kv_int s ha
    have hn := kn_int s ha
    rcases hv with ⟨s', a', h1, h2, h3⟩ | ⟨h1, h2⟩
    · exact ⟨s', a', h1, h2, h3⟩
    · rw [h1] at hn
      exact absurd hn kz_isNone9
  · simp only [h, Int.reduceLT, Int.reduceEq, ↓reduceIte]
    exact kv_rootN s ha (hr h)
theorem sr_to {a : Int32} {p : Int64} (h : p.toInt = a.toInt) : p = a.toInt64 := Int64.toInt_inj.mp (by rw [Int32.toInt_toInt64, h])
theorem sr_mn (x y : Int32) : (kmin x y).toInt = min x.toInt y.toInt := by
  rw [kz_kmin]
  split <;> omega
theorem sr_mx (x y : Int32) : (kmax x y).toInt = max x.toInt y.toInt := by
  rw [kz_kmax]
  split <;> omega
theorem sr_rmn (x y : Int64) : (rMn x y).toInt = min x.toInt y.toInt := by
  unfold rMn
  split <;> omega
theorem sr_rmx (x y : Int64) : (rMx x y).toInt = max x.toInt y.toInt := by
  unfold rMx
  split <;> omega
def SR (c : Q4) (r : R4) : Prop := (c.1 = 1 ∧ r.1 = 1 ∧ r.2.1 = c.2.2.1.toInt64 ∧ r.2.2.1 = c.2.2.2.toInt64 ∧ -2139095041 ≤ c.2.2.1.toInt ∧ c.2.2.1.toInt ≤ c.2.2.2.toInt ∧ c.2.2.2.toInt ≤ 2139095040 ∧ c.2.1 = r.2.2.2 ∧ (c.2.1 = 0 ∨ c.2.1 = 1)) ∨ (c.1 = 0 ∧ r.1 = 0 ∧ c.2.1 = 1 ∧ r.2.2.2 = 1)
theorem kz_isNoneZ {x : Int32} (h : (kX2_isNone x).toInt = 0) : kX2_isNone x = 0 := by
  rcases kz_isNone01 x with q | q
  · exact q
  · rw [q] at h
    exact absurd h (by decide)
theorem kz_isNoneO {x : Int32} (h : ¬ (kX2_isNone x).toInt = 0) : kX2_isNone x = 1 := by
  rcases kz_isNone01 x with q | q
  · rw [q] at h
    exact absurd (by decide) h
  · exact q
theorem SR.val {x : Int32} {p : Int64} (h : VR x p) : SR (qVal x) (rPt p) := by
  by_cases hn : (kX2_isNone x).toInt = 0
  · obtain ⟨hp, h1, h2, h9⟩ := h.place hn
    refine Or.inl ⟨if_pos hn, if_neg h9, hp, hp, h1, Int.le_refl _, h2, ?_, Or.inl (kz_isNoneZ hn)⟩
    show kX2_isNone x = (if p.toInt = 9000000000 then 1 else 0 : Int32)
    rw [if_neg h9, kz_isNoneZ hn]
  · obtain ⟨hx, hp⟩ := h.isNone1 hn
    have h9 : p.toInt = 9000000000 := by rw [hp]; decide
    exact Or.inr ⟨if_neg hn, if_pos h9, kz_isNoneO hn, if_pos h9⟩
theorem SR.all : SR qAll rAll := Or.inl ⟨rfl, rfl, by decide, by decide, by decide, by decide, by decide, rfl, Or.inr rfl⟩
theorem SR.no (k : Int32) : SR (qVal (q13 k)) (rNo k) := by
  unfold q13 rNo
  by_cases h : k.toInt = 13
  · rw [if_pos h, if_pos h, if_pos h]
    exact Or.inl ⟨by decide, rfl, by decide, by decide, by decide, by decide, by decide, by decide, by decide⟩
  · rw [if_neg h, if_neg h, if_neg h]
    exact Or.inr ⟨by decide, rfl, by decide, rfl⟩
/-- both ends within the places -/
def PB (l h : Int32) : Prop := -2139095041 ≤ l.toInt ∧ l.toInt ≤ h.toInt ∧ h.toInt ≤ 2139095040
theorem sr_pv (k : Int32) {a b : Int32} (ha : -2139095041 ≤ a.toInt ∧ a.toInt ≤ 2139095040) (hb : -2139095041 ≤ b.toInt ∧ b.toInt ≤ 2139095040) (hk : (2 ≤ k.toInt ∧ k.toInt ≤ 5) ∨ k.toInt = 8 ∨ k.toInt = 9 ∨ k.toInt = 14) : VR (kX0_ofTwo k (kX2_bitsAt a) (kX2_bitsAt b)) (kX8_valueOf k a.toInt64 b.toInt64) := kv_two (kv_placeV rfl ha.1 ha.2) (kv_placeV rfl hb.1 hb.2) hk
theorem sr_v8 {k a b : Int32} (hk : k.toInt = 8) (ha : a.toInt ≤ 2139095040) (hb : b.toInt ≤ 2139095040) : kX8_valueOf k a.toInt64 b.toInt64 = (kmin a b).toInt64 := by
  apply sr_to
  rw [sr_mn]
  unfold kX8_valueOf
  simp only [hk, Int.reduceLT, Int.reduceEq, ↓reduceIte, Int32.toInt_toInt64]
  rw [if_neg (by omega), if_neg (by omega)]
  split <;> rw [Int32.toInt_toInt64] <;> omega
theorem sr_v9 {k a b : Int32} (hk : k.toInt = 9) (ha : a.toInt ≤ 2139095040) (hb : b.toInt ≤ 2139095040) : kX8_valueOf k a.toInt64 b.toInt64 = (kmax a b).toInt64 := by
  apply sr_to
  rw [sr_mx]
  unfold kX8_valueOf
  simp only [hk, Int.reduceLT, Int.reduceEq, ↓reduceIte, Int32.toInt_toInt64]
  rw [if_neg (by omega), if_neg (by omega)]
  split <;> rw [Int32.toInt_toInt64] <;> omega
theorem SR.pair8 {k nx lx hx ny ly hy : Int32} (hk : k.toInt = 8) (px : PB lx hx) (py : PB ly hy) : SR (qPair 1 nx lx hx ny ly hy) (rTwo k (rNN nx ny) lx.toInt64 hx.toInt64 ly.toInt64 hy.toInt64) := by
  obtain ⟨x1, x2, x3⟩ := px
  obtain ⟨y1, y2, y3⟩ := py
  unfold rTwo
  rw [if_neg (by omega), if_pos hk, sr_v8 hk (by omega) (by omega), sr_v8 hk (by omega) (by omega)]
  have h1 := sr_mn lx ly
  have h2 := sr_mn hx hy
  exact Or.inl ⟨rfl, rfl, rfl, rfl, show _ ≤ (kmin lx ly).toInt by omega, show (kmin lx ly).toInt ≤ (kmin hx hy).toInt by omega, show (kmin hx hy).toInt ≤ _ by omega, rfl, qNN01 nx ny⟩
theorem SR.pair9 {k nx lx hx ny ly hy : Int32} (hk : k.toInt = 9) (px : PB lx hx) (py : PB ly hy) : SR (qPair 0 nx lx hx ny ly hy) (rTwo k (rNN nx ny) lx.toInt64 hx.toInt64 ly.toInt64 hy.toInt64) := by
  obtain ⟨x1, x2, x3⟩ := px
  obtain ⟨y1, y2, y3⟩ := py
  unfold rTwo
  rw [if_neg (by omega), if_neg (by omega), if_pos hk, sr_v9 hk (by omega) (by omega), sr_v9 hk (by omega) (by omega)]
  have h1 := sr_mx lx ly
  have h2 := sr_mx hx hy
  exact Or.inl ⟨rfl, rfl, rfl, rfl, show _ ≤ (kmax lx ly).toInt by omega, show (kmax lx ly).toInt ≤ (kmax hx hy).toInt by omega, show (kmax hx hy).toInt ≤ _ by omega, rfl, qNN01 nx ny⟩
theorem sr_nn (nx ny : Int32) : (rNN nx ny).toInt = 0 ↔ nx.toInt = 0 ∧ ny.toInt = 0 := by
  unfold rNN
  by_cases h1 : nx.toInt = 0
  · rw [if_pos h1]
    by_cases h2 : ny.toInt = 0
    · rw [if_pos h2]
      exact ⟨fun _ => ⟨h1, h2⟩, fun _ => by decide⟩
    · rw [if_neg h2]
      exact ⟨fun q => absurd q (by decide), fun q => absurd q.2 h2⟩
  · rw [if_neg h1]
    exact ⟨fun q => absurd q (by decide), fun q => absurd q.1 h1⟩
theorem SR.rem {k nx lx hx ny ly hy : Int32} (hk : k.toInt = 14) (px : PB lx hx) (py : PB ly hy) : SR (qRem nx lx hx ny ly hy) (rTwo k (rNN nx ny) lx.toInt64 hx.toInt64 ly.toInt64 hy.toInt64) := by
  obtain ⟨x1, x2, x3⟩ := px
  obtain ⟨y1, y2, y3⟩ := py
  have hnn := sr_nn nx ny
  have hv := sr_pv 14 (a := lx) (b := ly) ⟨by omega, by omega⟩ ⟨by omega, by omega⟩ (Or.inr (Or.inr (Or.inr (by decide))))
  have h14 : (14 : Int32).toInt = 14 := by decide
  have he : kX8_valueOf 14 lx.toInt64 ly.toInt64 = kX8_restOf lx.toInt64 ly.toInt64 := by
    unfold kX8_valueOf
    simp only [h14, Int.reduceLT, Int.reduceEq, ↓reduceIte]
  rw [he] at hv
  unfold qRem rTwo
  rw [if_pos hk]
  simp only [Int32.toInt_toInt64]
  by_cases a1 : lx.toInt = hx.toInt
  · rw [if_pos a1]
    by_cases a2 : ly.toInt = hy.toInt
    · rw [if_pos a2]
      by_cases a3 : nx.toInt = 0 ∧ ny.toInt = 0
      · rw [if_pos ⟨a1, a2, a3.1, a3.2⟩, if_pos (hnn.mpr a3)]
        exact SR.val hv
      · rw [if_neg (fun q => a3 ⟨q.2.2.1, q.2.2.2⟩), if_neg (fun q => a3 (hnn.mp q))]
        exact SR.all
    · rw [if_neg a2, if_neg (fun q => a2 q.2.1)]
      exact SR.all
  · rw [if_neg a1, if_neg (fun q => a1 q.1)]
    exact SR.all
/-! corners -/
def INC (w : Int32) (a : Option (Int32 × Int32)) : Prop := ∀ le gr, a = some (le, gr) → (kX2_isNone w).toInt = 0 ∧ le.toInt ≤ (kX2_placeOf w).toInt ∧ (kX2_placeOf w).toInt ≤ gr.toInt
theorem INC.self (w : Int32) (a : Option (Int32 × Int32)) : INC w (qC False w a) := by
  intro le gr h
  match a, h with
  | none, h => exact absurd h (by simp [qC])
  | some (l, g), h =>
    unfold qC at h
    simp only [if_false] at h
    by_cases hn : (kX2_isNone w).toInt = 0
    · simp only [if_pos hn, Option.some.injEq, Prod.mk.injEq] at h
      obtain ⟨rfl, rfl⟩ := h
      rw [sr_mn, sr_mx]
      exact ⟨hn, by omega, by omega⟩
    · simp only [if_neg hn] at h
      exact absurd h (by simp)
theorem INC.mono {w : Int32} {a : Option (Int32 × Int32)} (h0 : INC w a) (v : Int32) : INC w (qC False v a) := by
  intro le gr h
  match a, h0, h with
  | none, _, h => exact absurd h (by simp [qC])
  | some (l, g), h0, h =>
    obtain ⟨b1, b2, b3⟩ := h0 l g rfl
    unfold qC at h
    simp only [if_false] at h
    by_cases hn : (kX2_isNone v).toInt = 0
    · simp only [if_pos hn, Option.some.injEq, Prod.mk.injEq] at h
      obtain ⟨rfl, rfl⟩ := h
      rw [sr_mn, sr_mx]
      exact ⟨b1, by omega, by omega⟩
    · simp only [if_neg hn] at h
      exact absurd h (by simp)
theorem INC.skip {w : Int32} {a : Option (Int32 × Int32)} (c : Prop) [Decidable c] (h0 : c → INC w a) : qC c w a = qC False w a := by
  by_cases hc : c
  · match a, h0 hc with
    | none, _ => rfl
    | some (l, g), h0 =>
      obtain ⟨b1, b2, b3⟩ := h0 l g rfl
      have e1 : kmin l (kX2_placeOf w) = l := Int32.toInt_inj.mp (by rw [sr_mn]; omega)
      have e2 : kmax g (kX2_placeOf w) = g := Int32.toInt_inj.mp (by rw [sr_mx]; omega)
      unfold qC
      simp only [if_pos hc, if_false, if_pos b1, e1, e2]
  · match a with
    | none => rfl
    | some (l, g) =>
      unfold qC
      simp only [if_neg hc, if_false]
theorem sr_rw (w : Int32) (c : Int64) : (rW w c).toInt = 0 ↔ w.toInt = 0 ∧ ¬ c.toInt = 9000000000 := by
  unfold rW
  by_cases h1 : w.toInt = 0
  · rw [if_pos h1]
    by_cases h2 : c.toInt = 9000000000
    · rw [if_pos h2]
      exact ⟨fun q => absurd q (by decide), fun q => absurd h2 q.2⟩
    · rw [if_neg h2]
      exact ⟨fun _ => ⟨h1, h2⟩, fun _ => by decide⟩
  · rw [if_neg h1]
    exact ⟨fun q => absurd q (by decide), fun q => absurd q.1 h1⟩
theorem SR.fin {w0 w1 w2 w3 : Int32} {p0 p1 p2 p3 : Int64} (nx ny w : Int32) (h0 : VR w0 p0) (h1 : VR w1 p1) (h2 : VR w2 p2) (h3 : VR w3 p3) (hw : w.toInt = 0) : SR (qFin (qNN nx ny) (qC False w3 (qC False w2 (qC False w1 (qC False w0 (some ((2139095040 : Int32), (-2139095041 : Int32)))))))) (rFin (rNN nx ny) (rW (rW (rW (rW w p0) p2) p1) p3) (rMn (rMn (rMn p0 p2) p1) p3) (rMx (rMx (rMx p0 p2) p1) p3)) := by
  have hs : (rW (rW (rW (rW w p0) p2) p1) p3).toInt = 0 ↔ ((((w.toInt = 0 ∧ ¬ p0.toInt = 9000000000) ∧ ¬ p2.toInt = 9000000000) ∧ ¬ p1.toInt = 9000000000) ∧ ¬ p3.toInt = 9000000000) := by
    rw [sr_rw, sr_rw, sr_rw, sr_rw]
  have bad : (¬ (kX2_isNone w0).toInt = 0 ∨ ¬ (kX2_isNone w1).toInt = 0 ∨ ¬ (kX2_isNone w2).toInt = 0 ∨ ¬ (kX2_isNone w3).toInt = 0) → rFin (rNN nx ny) (rW (rW (rW (rW w p0) p2) p1) p3) (rMn (rMn (rMn p0 p2) p1) p3) (rMx (rMx (rMx p0 p2) p1) p3) = rAll := by
    intro hb
    unfold rFin
    apply if_neg
    intro q
    obtain ⟨⟨⟨⟨_, q0⟩, q2⟩, q1⟩, q3⟩ := hs.mp q
    rcases hb with hb | hb | hb | hb
    · exact q0 (by rw [(h0.isNone1 hb).2]; decide)
    · exact q1 (by rw [(h1.isNone1 hb).2]; decide)
    · exact q2 (by rw [(h2.isNone1 hb).2]; decide)
    · exact q3 (by rw [(h3.isNone1 hb).2]; decide)
  by_cases n0 : (kX2_isNone w0).toInt = 0
  · by_cases n1 : (kX2_isNone w1).toInt = 0
    · by_cases n2 : (kX2_isNone w2).toInt = 0
      · by_cases n3 : (kX2_isNone w3).toInt = 0
        · obtain ⟨e0, a0, b0, c0⟩ := h0.place n0
          obtain ⟨e1, a1, b1, c1⟩ := h1.place n1
          obtain ⟨e2, a2, b2, c2⟩ := h2.place n2
          obtain ⟨e3, a3, b3, c3⟩ := h3.place n3
          unfold rFin
          rw [if_pos (hs.mpr ⟨⟨⟨⟨hw, c0⟩, c2⟩, c1⟩, c3⟩)]
          simp only [qC, if_false, if_pos n0, if_pos n1, if_pos n2, if_pos n3, qFin]
          have t1 : (2139095040 : Int32).toInt = 2139095040 := by decide
          have t2 : (-2139095041 : Int32).toInt = -2139095041 := by decide
          have hm : (kmin (kmin (kmin (kmin (2139095040 : Int32) (kX2_placeOf w0)) (kX2_placeOf w1)) (kX2_placeOf w2)) (kX2_placeOf w3)).toInt = min (min (min (kX2_placeOf w0).toInt (kX2_placeOf w1).toInt) (kX2_placeOf w2).toInt) (kX2_placeOf w3).toInt := by
            rw [sr_mn, sr_mn, sr_mn, sr_mn, t1]
            omega
          have hM : (kmax (kmax (kmax (kmax (-2139095041 : Int32) (kX2_placeOf w0)) (kX2_placeOf w1)) (kX2_placeOf w2)) (kX2_placeOf w3)).toInt = max (max (max (kX2_placeOf w0).toInt (kX2_placeOf w1).toInt) (kX2_placeOf w2).toInt) (kX2_placeOf w3).toInt := by
            rw [sr_mx, sr_mx, sr_mx, sr_mx, t2]
            omega
          have gm : (rMn (rMn (rMn p0 p2) p1) p3).toInt = min (min (min (kX2_placeOf w0).toInt (kX2_placeOf w1).toInt) (kX2_placeOf w2).toInt) (kX2_placeOf w3).toInt := by
            rw [sr_rmn (rMn (rMn p0 p2) p1) p3, sr_rmn (rMn p0 p2) p1, sr_rmn p0 p2, e0, e1, e2, e3, Int32.toInt_toInt64, Int32.toInt_toInt64, Int32.toInt_toInt64, Int32.toInt_toInt64]
            omega
          have gM : (rMx (rMx (rMx p0 p2) p1) p3).toInt = max (max (max (kX2_placeOf w0).toInt (kX2_placeOf w1).toInt) (kX2_placeOf w2).toInt) (kX2_placeOf w3).toInt := by
            rw [sr_rmx (rMx (rMx p0 p2) p1) p3, sr_rmx (rMx p0 p2) p1, sr_rmx p0 p2, e0, e1, e2, e3, Int32.toInt_toInt64, Int32.toInt_toInt64, Int32.toInt_toInt64, Int32.toInt_toInt64]
            omega
          generalize kmin (kmin (kmin (kmin (2139095040 : Int32) (kX2_placeOf w0)) (kX2_placeOf w1)) (kX2_placeOf w2)) (kX2_placeOf w3) = mm at hm ⊢
          generalize kmax (kmax (kmax (kmax (-2139095041 : Int32) (kX2_placeOf w0)) (kX2_placeOf w1)) (kX2_placeOf w2)) (kX2_placeOf w3) = MM at hM ⊢
          generalize rMn (rMn (rMn p0 p2) p1) p3 = gn at gm ⊢
          generalize rMx (rMx (rMx p0 p2) p1) p3 = gx at gM ⊢
          exact Or.inl ⟨rfl, rfl, sr_to (gm.trans hm.symm), sr_to (gM.trans hM.symm), show _ ≤ mm.toInt by omega, show mm.toInt ≤ MM.toInt by omega, show MM.toInt ≤ _ by omega, rfl, qNN01 nx ny⟩
        · rw [bad (Or.inr (Or.inr (Or.inr n3)))]
          simp only [qC, if_false, if_pos n0, if_pos n1, if_pos n2, if_neg n3, qFin]
          exact SR.all
      · rw [bad (Or.inr (Or.inr (Or.inl n2)))]
        simp only [qC, if_false, if_pos n0, if_pos n1, if_neg n2, qFin]
        exact SR.all
    · rw [bad (Or.inr (Or.inl n1))]
      simp only [qC, if_false, if_pos n0, if_neg n1, qFin]
      exact SR.all
  · rw [bad (Or.inl n0)]
    simp only [qC, if_false, if_neg n0, qFin]
    exact SR.all
theorem sr_ne {k : Int32} (hk : 2 ≤ k.toInt ∧ k.toInt ≤ 5) (nn : Int32) (lx hx ly hy : Int64) : rTwo k nn lx hx ly hy = rCorn k nn (rLit k lx hx ly hy) lx hx ly hy := by
  unfold rTwo
  rw [if_neg (by omega), if_neg (by omega), if_neg (by omega)]
theorem SR.corn {k nx lx hx ny ly hy w : Int32} (hk : 2 ≤ k.toInt ∧ k.toInt ≤ 5) (px : PB lx hx) (py : PB ly hy) (hw : w.toInt = 0) : SR (qCorn k nx lx hx ny ly hy) (rCorn k (rNN nx ny) w lx.toInt64 hx.toInt64 ly.toInt64 hy.toInt64) := by
  obtain ⟨x1, x2, x3⟩ := px
  obtain ⟨y1, y2, y3⟩ := py
  have bl : -2139095041 ≤ lx.toInt ∧ lx.toInt ≤ 2139095040 := ⟨by omega, by omega⟩
  have bh : -2139095041 ≤ hx.toInt ∧ hx.toInt ≤ 2139095040 := ⟨by omega, by omega⟩
  have cl : -2139095041 ≤ ly.toInt ∧ ly.toInt ≤ 2139095040 := ⟨by omega, by omega⟩
  have ch : -2139095041 ≤ hy.toInt ∧ hy.toInt ≤ 2139095040 := ⟨by omega, by omega⟩
  unfold qCorn rCorn
  have i0 := INC.self (kX0_ofTwo k (kX2_bitsAt lx) (kX2_bitsAt ly)) (some ((2139095040 : Int32), (-2139095041 : Int32)))
  rw [INC.skip (w := kX0_ofTwo k (kX2_bitsAt hx) (kX2_bitsAt ly)) (lx.toInt = hx.toInt) (fun q => by rw [← Int32.toInt_inj.mp q]; exact i0)]
  have i1 := i0.mono (kX0_ofTwo k (kX2_bitsAt hx) (kX2_bitsAt ly))
  have j1 := INC.self (kX0_ofTwo k (kX2_bitsAt hx) (kX2_bitsAt ly)) (qC False (kX0_ofTwo k (kX2_bitsAt lx) (kX2_bitsAt ly)) (some ((2139095040 : Int32), (-2139095041 : Int32))))
  rw [INC.skip (w := kX0_ofTwo k (kX2_bitsAt lx) (kX2_bitsAt hy)) (ly.toInt = hy.toInt) (fun q => by rw [← Int32.toInt_inj.mp q]; exact i1)]
  have j2 := j1.mono (kX0_ofTwo k (kX2_bitsAt lx) (kX2_bitsAt hy))
  have l2 := INC.self (kX0_ofTwo k (kX2_bitsAt lx) (kX2_bitsAt hy)) (qC False (kX0_ofTwo k (kX2_bitsAt hx) (kX2_bitsAt ly)) (qC False (kX0_ofTwo k (kX2_bitsAt lx) (kX2_bitsAt ly)) (some ((2139095040 : Int32), (-2139095041 : Int32)))))
  rw [INC.skip (w := kX0_ofTwo k (kX2_bitsAt hx) (kX2_bitsAt hy)) (lx.toInt = hx.toInt ∨ ly.toInt = hy.toInt) (fun q => by
    rcases q with q | q
    · have e : kX0_ofTwo k (kX2_bitsAt hx) (kX2_bitsAt hy) = kX0_ofTwo k (kX2_bitsAt lx) (kX2_bitsAt hy) := by rw [Int32.toInt_inj.mp q]
      rw [e]
      exact l2
    · have e : kX0_ofTwo k (kX2_bitsAt hx) (kX2_bitsAt hy) = kX0_ofTwo k (kX2_bitsAt hx) (kX2_bitsAt ly) := by rw [Int32.toInt_inj.mp q]
      rw [e]
      exact j2)]
  exact SR.fin nx ny w (sr_pv k bl cl (Or.inl hk)) (sr_pv k bh cl (Or.inl hk)) (sr_pv k bl ch (Or.inl hk)) (sr_pv k bh ch (Or.inl hk)) hw
theorem sr_lit1 {k nn w : Int32} {lx hx ly hy : Int64} (hw : ¬ w.toInt = 0) : rCorn k nn w lx hx ly hy = rAll := by
  unfold rCorn rFin
  apply if_neg
  intro q
  rw [sr_rw, sr_rw, sr_rw, sr_rw] at q
  exact hw q.1.1.1.1
theorem sr_inf {l h : Int32} (p : PB l h) : (rInf l.toInt64 h.toInt64).toInt = 0 ↔ ¬ (l.toInt = -2139095041 ∨ h.toInt = 2139095040) := by
  obtain ⟨p1, p2, p3⟩ := p
  have hi : ∀ g : Int32, -2139095041 ≤ g.toInt → g.toInt ≤ 2139095040 → ((kX8_isInfinite g.toInt64).toInt = 0 ↔ ¬ (g.toInt = -2139095041 ∨ g.toInt = 2139095040)) := by
    intro g g1 g2
    have gi := Int32.toInt_toInt64 g
    by_cases h0 : 0 ≤ g.toInt
    · have he : g.toInt64 = fz_plc false g.toInt.toNat := Int64.toInt_inj.mp (by rw [gi, fz_plcI false (by omega), if_neg (by decide)]; omega)
      rw [he, kz_infP false (by omega)]
      split
      · exact ⟨fun q => absurd q (by decide), fun q => absurd (by omega) q⟩
      · exact ⟨fun _ => by omega, fun _ => rfl⟩
    · have he : g.toInt64 = fz_plc true (-1 - g.toInt).toNat := Int64.toInt_inj.mp (by rw [gi, fz_plcI true (by omega), if_pos rfl]; omega)
      rw [he, kz_infP true (by omega)]
      split
      · exact ⟨fun q => absurd q (by decide), fun q => absurd (by omega) q⟩
      · exact ⟨fun _ => by omega, fun _ => rfl⟩
  have h1 := hi l p1 (by omega)
  have h2 := hi h (by omega) p3
  unfold rInf
  by_cases a1 : (kX8_isInfinite l.toInt64).toInt = 0
  · rw [if_pos a1]
    by_cases a2 : (kX8_isInfinite h.toInt64).toInt = 0
    · rw [if_pos a2]
      have := h1.mp a1
      have := h2.mp a2
      exact ⟨fun _ => by omega, fun _ => by decide⟩
    · rw [if_neg a2]
      have := h1.mp a1
      have : h.toInt = -2139095041 ∨ h.toInt = 2139095040 := Decidable.byContradiction (fun q => a2 (h2.mpr q))
      exact ⟨fun q => absurd q (by decide), fun q => absurd (by omega) q⟩
  · rw [if_neg a1]
    have : l.toInt = -2139095041 ∨ l.toInt = 2139095040 := Decidable.byContradiction (fun q => a1 (h1.mpr q))
    exact ⟨fun q => absurd q (by decide), fun q => absurd (by omega) q⟩
theorem sr_zer (l h : Int32) : (rZer l.toInt64 h.toInt64).toInt = 0 ↔ ¬ (l.toInt ≤ 0 ∧ -1 ≤ h.toInt) := by
  unfold rZer
  rw [Int32.toInt_toInt64, Int32.toInt_toInt64]
  by_cases h1 : 0 < l.toInt
  · rw [if_pos h1]
    exact ⟨fun _ => by omega, fun _ => by decide⟩
  · rw [if_neg h1]
    by_cases h2 : h.toInt < -1
    · rw [if_pos h2]
      exact ⟨fun _ => by omega, fun _ => by decide⟩
    · rw [if_neg h2]
      exact ⟨fun q => absurd q (by decide), fun q => absurd (by omega) q⟩
theorem sr_lit {k lx hx ly hy : Int32} (px : PB lx hx) (py : PB ly hy) : (rLit k lx.toInt64 hx.toInt64 ly.toInt64 hy.toInt64).toInt = 0 ↔ ¬ qTooLittle k lx hx ly hy := by
  have zx := sr_zer lx hx
  have zy := sr_zer ly hy
  have ix := sr_inf px
  have iy := sr_inf py
  unfold rLit rLit4 rLit5 qTooLittle
  generalize (rZer lx.toInt64 hx.toInt64).toInt = a at zx
  generalize (rZer ly.toInt64 hy.toInt64).toInt = b at zy
  generalize (rInf lx.toInt64 hx.toInt64).toInt = c at ix
  generalize (rInf ly.toInt64 hy.toInt64).toInt = d at iy
  have z0 : (0 : Int32).toInt = 0 := by decide
  have z1 : (1 : Int32).toInt = 1 := by decide
  (repeat' split) <;> first | (rw [z0]; omega) | (rw [z1]; omega)
theorem sr_c6 (e2 e3 : Nat → Int32) (k x y : Int32) : (kX6_cornersTellTooLittle e2 e3 k x y).toInt = 0 ↔ ¬ qTooLittle k (e2 x.toNatClampNeg) (e3 x.toNatClampNeg) (e2 y.toNatClampNeg) (e3 y.toNatClampNeg) := by
  have hz : ∀ j : Int32, (kX6_hasZero e2 e3 j).toInt = 0 ↔ ¬ ((e2 j.toNatClampNeg).toInt ≤ 0 ∧ -1 ≤ (e3 j.toNatClampNeg).toInt) := by
    intro j
    unfold kX6_hasZero
    have z0 : (0 : Int32).toInt = 0 := by decide
    have z1 : (1 : Int32).toInt = 1 := by decide
    (repeat' split) <;> first | (rw [z0]; omega) | (rw [z1]; omega)
  have hi : ∀ j : Int32, (kX6_endsInfinite e2 e3 j).toInt = 0 ↔ ¬ ((e2 j.toNatClampNeg).toInt = -2139095041 ∨ (e3 j.toNatClampNeg).toInt = 2139095040) := by
    intro j
    unfold kX6_endsInfinite
    have z0 : (0 : Int32).toInt = 0 := by decide
    have z1 : (1 : Int32).toInt = 1 := by decide
    (repeat' split) <;> first | (rw [z0]; omega) | (rw [z1]; omega)
  have zx := hz x
  have zy := hz y
  have ix := hi x
  have iy := hi y
  unfold kX6_cornersTellTooLittle qTooLittle
  generalize (kX6_hasZero e2 e3 x).toInt = a at zx
  generalize (kX6_hasZero e2 e3 y).toInt = b at zy
  generalize (kX6_endsInfinite e2 e3 x).toInt = c at ix
  generalize (kX6_endsInfinite e2 e3 y).toInt = d at iy
  have z0 : (0 : Int32).toInt = 0 := by decide
  have z1 : (1 : Int32).toInt = 1 := by decide
  (repeat' split) <;> first | (rw [z0]; omega) | (rw [z1]; omega)
/-! ends -/
theorem sr_one {k a : Int32} (ha : -2139095041 ≤ a.toInt ∧ a.toInt ≤ 2139095040) (hk : k.toInt = 6 ∨ k.toInt = 7 ∨ k.toInt = 10 ∨ k.toInt = 11 ∨ k.toInt = 12 ∨ k.toInt = 13 ∨ k.toInt = 15) (hr : k.toInt = 15 → -1 ≤ a.toInt) : kX8_valueOf k a.toInt64 0 = (kX2_placeOf (kX0_ofOne k (kX2_bitsAt a))).toInt64 ∧ -2139095041 ≤ (kX2_placeOf (kX0_ofOne k (kX2_bitsAt a))).toInt ∧ (kX2_placeOf (kX0_ofOne k (kX2_bitsAt a))).toInt ≤ 2139095040 ∧ (k.toInt = 7 → 0 ≤ (kX2_placeOf (kX0_ofOne k (kX2_bitsAt a))).toInt) := by
  have hv := kv_placeV (x := a) rfl ha.1 ha.2
  have hn : (kX2_isNone (kX0_ofOne k (kX2_bitsAt a))).toInt = 0 := by
    rcases hv with ⟨s, n, hn, h1, h2⟩ | ⟨h1, h2⟩
    · have h3 := congrArg Int64.toInt h2
      rw [Int32.toInt_toInt64, fz_plcI s (by omega)] at h3
      rw [h1]
      exact (kv_oneN 0 hn hk (fun q => by
        have := hr q
        cases s with
        | false => exact Or.inl rfl
        | true =>
          simp at h3
          exact Or.inr (by omega))).isNone
    · have h3 := congrArg Int64.toInt h2
      rw [Int32.toInt_toInt64] at h3
      have h4 : (9000000000 : Int64).toInt = 9000000000 := by decide
      omega
  obtain ⟨h1, h2, h3, h4⟩ := (kv_one 0 hv hk).place hn
  refine ⟨h1, h2, h3, fun h7 => ?_⟩
  have h5 := congrArg Int64.toInt h1
  rw [Int32.toInt_toInt64] at h5
  rw [← h5]
  unfold kX8_valueOf
  simp only [h7, Int.reduceLT, Int.reduceEq, ↓reduceIte]
  rw [if_neg (by rw [Int32.toInt_toInt64]; omega)]
  exact (kz_mag _).1
theorem SR.ends {k nx lx hx : Int32} (hk : k.toInt = 6 ∨ k.toInt = 7 ∨ k.toInt = 10 ∨ k.toInt = 11 ∨ k.toInt = 12 ∨ k.toInt = 13 ∨ k.toInt = 15) (px : PB lx hx) : SR (qEnd k nx lx hx) (rEnd k (rNN nx nx) lx.toInt64 hx.toInt64) := by
  obtain ⟨x1, x2, x3⟩ := px
  have hnn := sr_nn nx nx
  by_cases h15 : k.toInt = 15 ∧ lx.toInt < -1
  · unfold qEnd rEnd
    rw [if_pos h15, if_pos h15.1, Int32.toInt_toInt64, if_neg (by omega)]
    exact SR.all
  · obtain ⟨u1, u2, u3, u4⟩ := sr_one (a := lx) ⟨by omega, by omega⟩ hk (by omega)
    obtain ⟨v1, v2, v3, v4⟩ := sr_one (a := hx) ⟨by omega, by omega⟩ hk (by omega)
    have hE : rEnd k (rNN nx nx) lx.toInt64 hx.toInt64 = rEndT k (rNN nx nx) lx.toInt64 hx.toInt64 := by
      unfold rEnd
      by_cases h : k.toInt = 15
      · rw [if_pos h, Int32.toInt_toInt64, if_pos (by omega)]
      · rw [if_neg h]
    rw [hE]
    unfold qEnd
    rw [if_neg h15]
    generalize kX2_placeOf (kX0_ofOne k (kX2_bitsAt lx)) = one at u1 u2 u3 u4
    generalize kX2_placeOf (kX0_ofOne k (kX2_bitsAt hx)) = two at v1 v2 v3 v4
    have hlo : rLo k lx.toInt64 hx.toInt64 = (kmin one two).toInt64 := by
      apply sr_to
      unfold rLo
      rw [sr_mn, u1, v1, Int32.toInt_toInt64, Int32.toInt_toInt64]
      split <;> rw [Int32.toInt_toInt64] <;> omega
    have hhi : rHi k lx.toInt64 hx.toInt64 = (kmax one two).toInt64 := by
      apply sr_to
      unfold rHi
      rw [sr_mx, u1, v1, Int32.toInt_toInt64, Int32.toInt_toInt64]
      split <;> rw [Int32.toInt_toInt64] <;> omega
    have m1 := sr_mn one two
    have m2 := sr_mx one two
    obtain ⟨lst, hl1, hl2, hl3, hl4⟩ : ∃ lst : Int32, (if k.toInt = 7 then (if -1 < lx.toInt then kmin one two else (if hx.toInt < 0 then kmin one two else 0)) else kmin one two) = lst ∧ rLo7 k lx.toInt64 hx.toInt64 = lst.toInt64 ∧ -2139095041 ≤ lst.toInt ∧ lst.toInt ≤ (kmax one two).toInt := by
      refine ⟨_, rfl, ?_, ?_, ?_⟩
      · unfold rLo7
        rw [Int32.toInt_toInt64, Int32.toInt_toInt64, hlo]
        (repeat' split) <;> rfl
      · have z0 : (0 : Int32).toInt = 0 := by decide
        (repeat' split) <;> omega
      · have z0 : (0 : Int32).toInt = 0 := by decide
        (repeat' split) <;> omega
    simp only [hl1]
    unfold rEndT
    rw [hl2, hhi]
    have z0 : (0 : Int32).toInt = 0 := by decide
    by_cases h13 : k.toInt = 13
    · simp only [if_pos h13]
      by_cases hn : nx.toInt = 0
      · simp only [if_pos hn, if_pos (hnn.mpr ⟨hn, hn⟩)]
        exact Or.inl ⟨rfl, rfl, rfl, rfl, hl3, hl4, show (kmax one two).toInt ≤ _ by omega, rfl, Or.inl rfl⟩
      · have hn2 : ¬ (rNN nx nx).toInt = 0 := fun q => hn (hnn.mp q).1
        simp only [if_neg hn, if_neg hn2, Int32.toInt_toInt64]
        have w1 := sr_mn lst 0
        have w2 := sr_mx (kmax one two) 0
        refine Or.inl ⟨rfl, rfl, sr_to ?_, sr_to ?_, ?_, ?_, ?_, rfl, Or.inl rfl⟩
        · show (if lst.toInt ≤ 0 then lst.toInt64 else 0 : Int64).toInt = (kmin lst 0).toInt
          split
          · rw [Int32.toInt_toInt64]
            omega
          · show (0 : Int) = _
            omega
        · show (if 0 ≤ (kmax one two).toInt then (kmax one two).toInt64 else 0 : Int64).toInt = (kmax (kmax one two) 0).toInt
          split
          · rw [Int32.toInt_toInt64]
            omega
          · show (0 : Int) = _
            omega
        · show _ ≤ (kmin lst 0).toInt
          omega
        · show (kmin lst 0).toInt ≤ (kmax (kmax one two) 0).toInt
          omega
        · show (kmax (kmax one two) 0).toInt ≤ _
          omega
    · simp only [if_neg h13]
      by_cases hn : nx.toInt = 0
      · simp only [if_pos hn, if_pos (hnn.mpr ⟨hn, hn⟩)]
        exact Or.inl ⟨rfl, rfl, rfl, rfl, hl3, hl4, show (kmax one two).toInt ≤ _ by omega, rfl, Or.inl rfl⟩
      · have hn2 : ¬ (rNN nx nx).toInt = 0 := fun q => hn (hnn.mp q).1
        simp only [if_neg hn, if_neg hn2]
        exact Or.inl ⟨rfl, rfl, rfl, rfl, hl3, hl4, show (kmax one two).toInt ≤ _ by omega, rfl, Or.inr rfl⟩
