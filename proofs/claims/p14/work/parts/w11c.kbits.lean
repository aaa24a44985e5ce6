/-! sets of NODES: the bits of a long -/
def tb (s : Int64) (j : Nat) : Bool := s.toBitVec.getLsbD j
theorem tb_or (a b : Int64) (j : Nat) : tb (a ||| b) j = (tb a j || tb b j) := by
  unfold tb
  rw [Int64.toBitVec_or, BitVec.getLsbD_or]
theorem tb_and (a b : Int64) (j : Nat) : tb (a &&& b) j = (tb a j && tb b j) := by
  unfold tb
  rw [Int64.toBitVec_and, BitVec.getLsbD_and]
theorem tb_big {a : Int64} {j : Nat} (h : 64 ≤ j) : tb a j = false := BitVec.getLsbD_of_ge _ _ h
theorem tb_not (a : Int64) {j : Nat} (h : j < 64) : tb (a ^^^ (-1)) j = !tb a j := by
  unfold tb
  have e : (-1 : Int64).toBitVec = BitVec.allOnes 64 := by decide
  rw [Int64.toBitVec_xor, BitVec.getLsbD_xor, e, BitVec.getLsbD_allOnes]
  simp [h]
theorem tb_zero (j : Nat) : tb 0 j = false := BitVec.getLsbD_zero
theorem tb_ext {a b : Int64} (h : ∀ j, j < 64 → tb a j = tb b j) : a = b := Int64.toBitVec_inj.mp (BitVec.eq_of_getLsbD_eq (fun i hi => h i hi))
theorem tb_is0 (a : Int64) : a.toInt = 0 ↔ ∀ j, j < 64 → tb a j = false := by
  constructor
  · intro h
    have e : a = 0 := Int64.toInt_inj.mp h
    intro j _
    rw [e]
    exact tb_zero j
  · intro h
    have e : a = 0 := tb_ext (fun j hj => by rw [h j hj, tb_zero])
    rw [e]
    decide
theorem tb_bit {i : Int32} (h0 : 0 ≤ i.toInt) (h1 : i.toInt < 64) (j : Nat) : tb (1 <<< (i.toInt64 &&& 63)) j = decide (i.toNatClampNeg = j) := by
  have hi : i = nI i.toInt.toNat := kz_nIof h0
  have hc : i.toNatClampNeg = i.toInt.toNat := rfl
  rw [hc]
  generalize i.toInt.toNat = n at hi hc
  subst hi
  have hn : n < 64 := by
    have := nI_toInt (n := n)
    by_cases hb : n < 2 ^ 31
    · rw [nI_toInt hb] at h1
      omega
    · exfalso
      have e : (nI n).toNatClampNeg = n := hc
      have := px_clamp (x := nI n) (n := 64) h0 (by omega)
      omega
  rw [show (1 : Int64) = lN 1 from rfl, wb_shl _ hn, Nat.one_mul]
  unfold tb
  rw [wb_tb, BitVec.getLsbD_ofNat, Nat.testBit_two_pow]
  by_cases hj : j < 64
  · simp [hj]
  · simp [hj, show ¬ n = j by omega]
theorem tb_test {s : Int64} {i : Int32} (h0 : 0 ≤ i.toInt) (h1 : i.toInt < 64) : (s &&& (1 <<< (i.toInt64 &&& 63)) : Int64).toInt = 0 ↔ tb s i.toNatClampNeg = false := by
  rw [tb_is0]
  have e := px_cl h0
  constructor
  · intro h
    have := h i.toNatClampNeg (by omega)
    rw [tb_and, tb_bit h0 h1] at this
    simpa using this
  · intro h j hj
    rw [tb_and, tb_bit h0 h1]
    by_cases hq : i.toNatClampNeg = j
    · rw [← hq, h]
      rfl
    · simp [hq]
theorem tb_meet (a b : Int64) : (a &&& b : Int64).toInt = 0 ↔ ∀ j, j < 64 → ¬ (tb a j = true ∧ tb b j = true) := by
  rw [tb_is0]
  constructor
  · intro h j hj q
    have := h j hj
    rw [tb_and, q.1, q.2] at this
    cases this
  · intro h j hj
    rw [tb_and]
    have := h j hj
    cases hA : tb a j <;> cases hB : tb b j <;> simp_all
