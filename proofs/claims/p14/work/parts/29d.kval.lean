/-! VALUES of all kinds -/
theorem kz_isNoneN {a : Nat} (s : Bool) (h : a ≤ 2139095040) : (kX2_isNone (fz_enc s a)).toInt = 0 := by
  unfold kX2_isNone
  rw [fz_encMI s (by omega), if_pos (by omega)]
  decide
theorem kz_isNone9 : ¬ (kX2_isNone 2143289344).toInt = 0 := by decide
theorem kz_placeC {a : Nat} (s : Bool) (h : a < 2147483648) : (kX2_placeOf (fz_enc s a)).toInt = (fz_plc s a).toInt := by
  have h1 := fz_encI s h
  have h2 := fz_plcI s h
  unfold kX2_placeOf
  cases s with
  | false =>
    have h1 : (fz_enc false a).toInt = (a : Int) := h1
    have h2 : (fz_plc false a).toInt = (a : Int) := h2
    rw [if_pos (by omega), h1, h2]
  | true =>
    have h1 : (fz_enc true a).toInt = (a : Int) - 2147483648 := h1
    have h2 : (fz_plc true a).toInt = -1 - (a : Int) := h2
    rw [if_neg (by omega), px_xor (by omega), h1, h2]
    omega
theorem fz_plcInj {a b : Nat} {s t : Bool} (h : a < 2147483648) (h' : b < 2147483648) (q : (fz_plc s a).toInt = (fz_plc t b).toInt) : s = t ∧ a = b := by
  rw [fz_plcI s h, fz_plcI t h'] at q
  cases s <;> cases t <;> simp at q ⊢ <;> omega
theorem kz_turn {a : Nat} (s : Bool) (h : a < 2147483648) : kX8_turned (fz_plc s a) = fz_plc (!s) a := by
  have h1 := fz_plcI s h
  have h2 := fz_plcI (!s) h
  have hm : (-1 : Int64).toInt = -1 := by decide
  unfold kX8_turned
  rw [if_neg (kz_plc9 s h)]
  apply Int64.toInt_inj.mp
  cases s with
  | false =>
    have h1 : (fz_plc false a).toInt = (a : Int) := h1
    have h2 : (fz_plc (!false) a).toInt = -1 - (a : Int) := h2
    rw [px_lsub (by omega) (by omega), hm, h1, h2]
  | true =>
    have h1 : (fz_plc true a).toInt = -1 - (a : Int) := h1
    have h2 : (fz_plc (!true) a).toInt = (a : Int) := h2
    rw [px_lsub (by omega) (by omega), hm, h1, h2]
    omega
theorem kz_ks {k : Int32} {n : Nat} (h : k.toInt = n) (hn : n < 100) : k = nI n := kz_nIeq h
set_option maxHeartbeats 4000000 in
theorem kv_two {k x y : Int32} {p q : Int64} (hx : VR x p) (hy : VR y q) (hk : (2 ≤ k.toInt ∧ k.toInt ≤ 5) ∨ k.toInt = 8 ∨ k.toInt = 9 ∨ k.toInt = 14) : VR (kX0_ofTwo k x y) (kX8_valueOf k p q) := by
  have h9 : (9000000000 : Int64).toInt = 9000000000 := by decide
  have hN : kX8_valueOf k 9000000000 q = 9000000000 := by
    unfold kX8_valueOf
    rcases (show k.toInt = 2 ∨ k.toInt = 3 ∨ k.toInt = 4 ∨ k.toInt = 5 ∨ k.toInt = 8 ∨ k.toInt = 9 ∨ k.toInt = 14 by omega) with h | h | h | h | h | h | h <;> simp only [h, h9, Int.reduceLT, Int.reduceEq, ↓reduceIte]
    · unfold kX8_plus
      exact if_pos h9
    · unfold kX8_plus
      exact if_pos h9
    · unfold kX8_timesOf
      exact if_pos h9
    · unfold kX8_byOf
      exact if_pos h9
    · unfold kX8_restOf
      exact if_pos h9
  rcases hx with ⟨s, a, ha, rfl, rfl⟩ | ⟨rfl, rfl⟩
  · have ha2 : a < 2147483648 := by omega
    rcases hy with ⟨t, b, hb, rfl, rfl⟩ | ⟨rfl, rfl⟩
    · have hb2 : b < 2147483648 := by omega
      unfold kX0_ofTwo kX8_valueOf
      rw [if_pos (kz_isNoneN s ha), if_pos (kz_isNoneN t hb)]
      rcases (show k.toInt = 2 ∨ k.toInt = 3 ∨ k.toInt = 4 ∨ k.toInt = 5 ∨ k.toInt = 8 ∨ k.toInt = 9 ∨ k.toInt = 14 by omega) with h | h | h | h | h | h | h
      · simp only [h, Int.reduceLT, Int.reduceEq, ↓reduceIte]
        exact kv_sum s t ha hb
      · simp only [h, Int.reduceLT, Int.reduceEq, ↓reduceIte]
        have := kv_sum s (!t) ha hb
        rw [← fz_encX t hb2, ← kz_turn t hb2] at this
        exact this
      · simp only [h, Int.reduceLT, Int.reduceEq, ↓reduceIte]
        exact kv_mul s t ha hb
      · simp only [h, Int.reduceLT, Int.reduceEq, ↓reduceIte]
        exact kv_div s t ha hb
      · simp only [h, Int.reduceLT, Int.reduceEq, ↓reduceIte]
        rw [if_neg (kz_plc9 s ha2), if_neg (kz_plc9 t hb2), kz_placeC s ha2, kz_placeC t hb2]
        by_cases h1 : (fz_plc t b).toInt < (fz_plc s a).toInt
        · rw [if_pos h1, if_pos (by omega)]
          exact VR.num t hb
        · rw [if_neg h1]
          by_cases h2 : (fz_plc t b).toInt ≤ (fz_plc s a).toInt
          · obtain ⟨e1, e2⟩ := fz_plcInj hb2 ha2 (show (fz_plc t b).toInt = (fz_plc s a).toInt by omega)
            rw [if_pos h2, e1, e2]
            exact VR.num s ha
          · rw [if_neg h2]
            exact VR.num s ha
      · simp only [h, Int.reduceLT, Int.reduceEq, ↓reduceIte]
        rw [if_neg (kz_plc9 s ha2), if_neg (kz_plc9 t hb2), kz_placeC s ha2, kz_placeC t hb2]
        by_cases h1 : (fz_plc s a).toInt < (fz_plc t b).toInt
        · rw [if_pos h1, if_pos (by omega)]
          exact VR.num t hb
        · rw [if_neg h1]
          by_cases h2 : (fz_plc s a).toInt ≤ (fz_plc t b).toInt
          · obtain ⟨e1, e2⟩ := fz_plcInj hb2 ha2 (show (fz_plc t b).toInt = (fz_plc s a).toInt by omega)
            rw [if_pos h2, e1, e2]
            exact VR.num s ha
          · rw [if_neg h2]
            exact VR.num s ha
      · simp only [h, Int.reduceLT, Int.reduceEq, ↓reduceIte]
        exact kv_rem s t ha hb
    · have hC : kX0_ofTwo k (fz_enc s a) 2143289344 = 2143289344 := by
        unfold kX0_ofTwo
        rw [if_pos (kz_isNoneN s ha), if_neg kz_isNone9]
      have hR : kX8_valueOf k (fz_plc s a) 9000000000 = 9000000000 := by
        have n9 := kz_plc9 s ha2
        unfold kX8_valueOf
        rcases (show k.toInt = 2 ∨ k.toInt = 3 ∨ k.toInt = 4 ∨ k.toInt = 5 ∨ k.toInt = 8 ∨ k.toInt = 9 ∨ k.toInt = 14 by omega) with h | h | h | h | h | h | h
        · simp only [h, Int.reduceLT, Int.reduceEq, ↓reduceIte]
          unfold kX8_plus
          rw [if_neg n9, if_pos h9]
        · simp only [h, Int.reduceLT, Int.reduceEq, ↓reduceIte]
          unfold kX8_plus kX8_turned
          rw [if_neg n9, if_pos h9, if_pos h9]
        · simp only [h, Int.reduceLT, Int.reduceEq, ↓reduceIte]
          unfold kX8_timesOf
          rw [if_neg n9, if_pos h9]
        · simp only [h, Int.reduceLT, Int.reduceEq, ↓reduceIte]
          unfold kX8_byOf
          rw [if_neg n9, if_pos h9]
        · simp only [h, Int.reduceLT, Int.reduceEq, ↓reduceIte]
          rw [if_neg n9, if_pos h9]
        · simp only [h, Int.reduceLT, Int.reduceEq, ↓reduceIte]
          rw [if_neg n9, if_pos h9]
        · simp only [h, Int.reduceLT, Int.reduceEq, ↓reduceIte]
          unfold kX8_restOf
          rw [if_neg n9, if_pos h9]
      rw [hC, hR]
      exact VR.none
  · have hC : kX0_ofTwo k 2143289344 y = 2143289344 := by
      unfold kX0_ofTwo
      rw [if_neg kz_isNone9]
    rw [hC, hN]
    exact VR.none
theorem kz_sg0 (s : Bool) : (fz_sg s).toInt = 0 ↔ s = false := by cases s <;> decide
set_option maxHeartbeats 4000000 in
theorem kv_one {k x : Int32} {p : Int64} (q : Int64) (hx : VR x p) (hk : k.toInt = 6 ∨ k.toInt = 7 ∨ k.toInt = 10 ∨ k.toInt = 11 ∨ k.toInt = 12 ∨ k.toInt = 13 ∨ k.toInt = 15) : VR (kX0_ofOne k x) (kX8_valueOf k p q) := by
  rcases hx with ⟨s, a, ha, rfl, rfl⟩ | ⟨rfl, rfl⟩
  · have ha2 : a < 2147483648 := by omega
    have n9 := kz_plc9 s ha2
    have c10 : (10 : Int32).toInt = 10 := by decide
    have hk10 : (k - 10).toInt = k.toInt - 10 := by rw [px_isub (by omega) (by omega), c10]
    unfold kX0_ofOne kX8_valueOf
    rw [if_pos (kz_isNoneN s ha), fz_encS s ha2, fz_encM s ha2, kz_cut ha2, kz_grw ha2, kz_nea ha2]
    have hcutB : ∀ h, fz_who s h a ≤ 2139095040 → True := fun _ _ => trivial
    have cutB : fz_cut a ≤ a := by
      unfold fz_cut
      split
      · omega
      · split
        · exact Nat.div_mul_le_self _ _
        · omega
    have nxtB : a < 1258291200 → fz_nxt a ≤ 1266679808 := by
      intro h
      unfold fz_nxt
      split
      · omega
      · have h1 := Nat.div_mul_le_self a (2 ^ (150 - a / 8388608))
        have h2 : 2 ^ (150 - a / 8388608) ≤ 2 ^ 23 := Nat.pow_le_pow_right (by decide) (by omega)
        omega
    have grwB : fz_grw a ≤ 2139095040 := by
      unfold fz_grw
      split
      · omega
      · split
        · rename_i h
          split
          · omega
          · split
            · have := Nat.div_mul_le_self a (2 ^ (150 - a / 8388608))
              omega
            · have := nxtB h
              omega
        · exact ha
    have neaB : fz_nea a ≤ 2139095040 := by
      unfold fz_nea
      split
      · rename_i h
        split
        · split <;> omega
        · split
          · have := nxtB h
            omega
          · omega
      · exact ha
    rcases hk with h | h | h | h | h | h | h
    · simp only [h, Int.reduceLT, Int.reduceEq, ↓reduceIte]
      rw [fz_encX s ha2, kz_turn s ha2]
      exact VR.num (!s) ha
    · simp only [h, Int.reduceLT, Int.reduceEq, ↓reduceIte]
      rw [if_neg n9, kz_magP s ha2, ← fz_encF]
      exact VR.num false ha
    · have hw := kz_wholeR s ha (how := k - 10) (hw := 0) (by omega) (by omega)
      simp only [h, Int.reduceLT, Int.reduceEq, ↓reduceIte]
      rw [hw]
      unfold fz_who
      cases s with
      | false =>
        rw [if_pos (by decide), if_pos rfl, if_neg (by decide)]
        exact VR.num false (by omega)
      | true =>
        rw [if_neg (by decide), if_pos rfl, if_pos rfl]
        exact VR.num true grwB
    · have hw := kz_wholeR s ha (how := k - 10) (hw := 1) (by omega) (by omega)
      simp only [h, Int.reduceLT, Int.reduceEq, ↓reduceIte]
      rw [hw]
      unfold fz_who
      cases s with
      | false =>
        rw [if_pos (by decide), if_neg (by decide), if_pos rfl, if_neg (by decide)]
        exact VR.num false grwB
      | true =>
        rw [if_neg (by decide), if_neg (by decide), if_pos rfl, if_pos rfl]
        exact VR.num true (by omega)
    · have hw := kz_wholeR s ha (how := k - 10) (hw := 2) (by omega) (by omega)
      simp only [h, Int.reduceLT, Int.reduceEq, ↓reduceIte]
      rw [hw]
      exact VR.num s neaB
    · simp only [h, Int.reduceLT, Int.reduceEq, ↓reduceIte]
      exact kv_int s ha
    · simp only [h, Int.reduceLT, Int.reduceEq, ↓reduceIte]
      exact kv_root s ha
  · unfold kX0_ofOne kX8_valueOf
    rw [if_neg kz_isNone9]
    have c3 : ∀ j : Int32, kX8_wholeOf 9000000000 j = 9000000000 := fun j => by
      unfold kX8_wholeOf
      exact if_pos (by decide)
    rcases hk with h | h | h | h | h | h | h
    · simp only [h, Int.reduceLT, Int.reduceEq, ↓reduceIte]
      exact VR.none
    · simp only [h, Int.reduceLT, Int.reduceEq, ↓reduceIte]
      exact VR.none
    · simp only [h, Int.reduceLT, Int.reduceEq, ↓reduceIte]
      rw [c3]
      exact VR.none
    · simp only [h, Int.reduceLT, Int.reduceEq, ↓reduceIte]
      rw [c3]
      exact VR.none
    · simp only [h, Int.reduceLT, Int.reduceEq, ↓reduceIte]
      rw [c3]
      exact VR.none
    · simp only [h, Int.reduceLT, Int.reduceEq, ↓reduceIte]
      exact VR.num false (a := 0) (by omega)
    · simp only [h, Int.reduceLT, Int.reduceEq, ↓reduceIte]
      exact VR.none
theorem kv_bits (b : Int32) : VR (if (kX2_isNone b).toInt = 0 then b else 2143289344) (kX8_fromBits b) := by
  obtain ⟨s, a, ha, rfl⟩ := fz_dec b
  unfold kX2_isNone kX8_fromBits kX8_fromBits_s5
  rw [fz_encM s ha, nI_toInt ha, nI_l ha, pk_lT (by omega)]
  by_cases h : (a : Int) ≤ 2139095040
  · have hi := fz_encI s ha
    have hz : (0 : Int32).toInt = 0 := by decide
    rw [if_pos h, if_pos hz, if_pos h]
    cases s with
    | false =>
      have hi : (fz_enc false a).toInt = (a : Int) := hi
      rw [if_pos (by omega)]
      rw [show (0 : Int32) = fz_bI false from rfl, kz_place]
      exact VR.num false (by omega)
    | true =>
      have hi : (fz_enc true a).toInt = (a : Int) - 2147483648 := hi
      rw [if_neg (by omega)]
      rw [show (1 : Int32) = fz_bI true from rfl, kz_place]
      exact VR.num true (by omega)
  · have hz : ¬ (1 : Int32).toInt = 0 := by decide
    rw [if_neg h, if_neg hz, if_neg h]
    exact VR.none
theorem kv_toBits {x : Int32} {p : Int64} (h : VR x p) : kX8_toBits p = x.toInt64 := by
  rcases h with ⟨s, a, ha, rfl, rfl⟩ | ⟨rfl, rfl⟩
  · have ha2 : a < 2147483648 := by omega
    have h1 := fz_encI s ha2
    have h2 := fz_plcI s ha2
    have hm : (-1 : Int64).toInt = -1 := by decide
    have hb : (2147483648 : Int64).toInt = 2147483648 := by decide
    unfold kX8_toBits
    rw [if_neg (kz_plc9 s ha2)]
    apply Int64.toInt_inj.mp
    rw [Int32.toInt_toInt64]
    cases s with
    | false =>
      have h1 : (fz_enc false a).toInt = (a : Int) := h1
      have h2 : (fz_plc false a).toInt = (a : Int) := h2
      rw [if_neg (by omega), h1, h2]
    | true =>
      have h1 : (fz_enc true a).toInt = (a : Int) - 2147483648 := h1
      have h2 : (fz_plc true a).toInt = -1 - (a : Int) := h2
      have e1 : (-1 - fz_plc true a).toInt = a := by
        rw [px_lsub (by omega) (by omega), hm, h2]
        omega
      rw [if_pos (by omega), px_lsub (by omega) (by omega), e1, hb, h1]
  · rfl
theorem kv_placeV {x : Int32} {p : Int64} (h : x.toInt64 = p) (h1 : -2139095041 ≤ x.toInt) (h2 : x.toInt ≤ 2139095040) : VR (kX2_bitsAt x) p := by
  unfold kX2_bitsAt
  by_cases h0 : 0 ≤ x.toInt
  · rw [if_pos h0]
    refine VR.to false (a := x.toInt.toNat) (by omega) ?_ ?_
    · rw [fz_encF]
      exact kz_nIof h0
    · rw [← h]
      show x.toInt64 = lN x.toInt.toNat
      apply kz_lNeq
      rw [Int32.toInt_toInt64]
      omega
  · rw [if_neg h0]
    have hn : (-1 - x.toInt).toNat < 2147483648 := by omega
    refine VR.to true (a := (-1 - x.toInt).toNat) (by omega) ?_ ?_
    · apply Int32.toInt_inj.mp
      rw [px_xor (by omega), fz_encI true hn, if_pos rfl]
      omega
    · rw [← h]
      apply Int64.toInt_inj.mp
      rw [Int32.toInt_toInt64, fz_plcI true hn, if_pos rfl]
      omega
