/-! FLOATS as bits (fz_enc) and as PLACES (fz_plc) -/
def fz_sg (s : Bool) : Int32 := if s = true then -2147483648 else 0
def fz_bI (s : Bool) : Int32 := if s = true then 1 else 0
def fz_enc (s : Bool) (a : Nat) : Int32 := fz_sg s ||| nI a
def fz_plc (s : Bool) (a : Nat) : Int64 := if s = true then -1 - lN a else lN a
theorem fz_bII (s : Bool) : (fz_bI s).toInt = if s = true then 1 else 0 := by cases s <;> decide
theorem fz_encF (a : Nat) : fz_enc false a = nI a := by
  show (0 : Int32) ||| nI a = nI a
  exact Int32.zero_or
theorem fz_encT {a : Nat} (h : a < 2147483648) : fz_enc true a = nI (2147483648 + a) := by
  show (-2147483648 : Int32) ||| nI a = _
  apply Int32.toBitVec_inj.mp
  apply BitVec.eq_of_toNat_eq
  rw [Int32.toBitVec_or, BitVec.toNat_or, pk_tn (by omega), pk_tn (by omega)]
  show 2147483648 ||| a = 2147483648 + a
  exact (Nat.two_pow_add_eq_or_of_lt (i := 31) h 1).symm
theorem fz_encN {a : Nat} (s : Bool) (h : a < 2147483648) : ∃ n, n < 4294967296 ∧ fz_enc s a = nI n ∧ n % 2147483648 = a ∧ n / 2147483648 = (if s = true then 1 else 0) := by
  cases s with
  | false => exact ⟨a, by omega, fz_encF a, by omega, by simp; omega⟩
  | true => exact ⟨2147483648 + a, by omega, fz_encT h, by omega, by simp; omega⟩
theorem fz_encI {a : Nat} (s : Bool) (h : a < 2147483648) : (fz_enc s a).toInt = if s = true then (a : Int) - 2147483648 else a := by
  cases s with
  | false => rw [fz_encF, nI_toInt h]; rfl
  | true =>
    rw [fz_encT h, px_nat, pk_tn (by omega), if_neg (by omega), if_pos rfl]
    omega
theorem fz_encM {a : Nat} (s : Bool) (h : a < 2147483648) : fz_enc s a &&& 2147483647 = nI a := by
  obtain ⟨n, h1, h2, h3, h4⟩ := fz_encN s h
  rw [h2, pk_andN (by omega) 31 (by decide), show n % 2 ^ 31 = a from h3]
theorem fz_encMI {a : Nat} (s : Bool) (h : a < 2147483648) : (fz_enc s a &&& 2147483647 : Int32).toInt = a := by
  rw [fz_encM s h, nI_toInt h]
theorem fz_sand {a : Nat} (h : a < 2147483648) : nI a &&& (-2147483648) = 0 := by
  apply Int32.toBitVec_inj.mp
  apply BitVec.eq_of_toNat_eq
  rw [Int32.toBitVec_and, BitVec.toNat_and, pk_tn (by omega)]
  show a &&& 2 ^ 31 = 0
  apply Nat.eq_of_testBit_eq
  intro i
  rw [Nat.testBit_and, Nat.testBit_two_pow, Nat.zero_testBit]
  by_cases hi : 31 = i
  · subst hi
    rw [Nat.testBit_lt_two_pow (show a < 2 ^ 31 from h)]
    rfl
  · simp [hi]
theorem fz_aor (x y m : Int32) : (x ||| y) &&& m = (x &&& m) ||| (y &&& m) := by
  apply Int32.toBitVec_inj.mp
  simp only [Int32.toBitVec_and, Int32.toBitVec_or]
  apply BitVec.eq_of_getLsbD_eq
  intro i hi
  simp only [BitVec.getLsbD_and, BitVec.getLsbD_or]
  cases x.toBitVec.getLsbD i <;> cases y.toBitVec.getLsbD i <;> cases m.toBitVec.getLsbD i <;> rfl
theorem fz_axor (x y m : Int32) : (x ^^^ y) &&& m = (x &&& m) ^^^ (y &&& m) := by
  apply Int32.toBitVec_inj.mp
  simp only [Int32.toBitVec_and, Int32.toBitVec_xor]
  apply BitVec.eq_of_getLsbD_eq
  intro i hi
  simp only [BitVec.getLsbD_and, BitVec.getLsbD_xor]
  cases x.toBitVec.getLsbD i <;> cases y.toBitVec.getLsbD i <;> cases m.toBitVec.getLsbD i <;> rfl
theorem fz_aand (x y m : Int32) : (x &&& y) &&& m = (x &&& m) &&& (y &&& m) := by
  apply Int32.toBitVec_inj.mp
  simp only [Int32.toBitVec_and]
  apply BitVec.eq_of_getLsbD_eq
  intro i hi
  simp only [BitVec.getLsbD_and]
  cases x.toBitVec.getLsbD i <;> cases y.toBitVec.getLsbD i <;> cases m.toBitVec.getLsbD i <;> rfl
theorem fz_encS {a : Nat} (s : Bool) (h : a < 2147483648) : fz_enc s a &&& (-2147483648) = fz_sg s := by
  unfold fz_enc
  rw [fz_aor, fz_sand h]
  cases s <;> decide
theorem fz_sgx (s t : Bool) : fz_sg s ^^^ fz_sg t = fz_sg (s != t) := by cases s <;> cases t <;> decide
theorem fz_sga (s t : Bool) : fz_sg s &&& fz_sg t = fz_sg (s && t) := by cases s <;> cases t <;> decide
theorem fz_encXS {a b : Nat} (s t : Bool) (h : a < 2147483648) (h' : b < 2147483648) : (fz_enc s a ^^^ fz_enc t b) &&& (-2147483648) = fz_sg (s != t) := by
  rw [fz_axor, fz_encS s h, fz_encS t h', fz_sgx]
theorem fz_encAS {a b : Nat} (s t : Bool) (h : a < 2147483648) (h' : b < 2147483648) : (fz_enc s a &&& fz_enc t b) &&& (-2147483648) = fz_sg (s && t) := by
  rw [fz_aand, fz_encS s h, fz_encS t h', fz_sga]
theorem fz_encT' {a : Nat} (h : a < 2147483648) : fz_enc true a = nI a ^^^ (-2147483648) := by
  rw [fz_encT h]
  apply Int32.toBitVec_inj.mp
  apply BitVec.eq_of_toNat_eq
  rw [Int32.toBitVec_xor, BitVec.toNat_xor, pk_tn (by omega), pk_tn (by omega)]
  show 2147483648 + a = a ^^^ 2 ^ 31
  apply Nat.eq_of_testBit_eq
  intro i
  rw [Nat.testBit_xor, Nat.testBit_two_pow]
  rcases Nat.lt_trichotomy i 31 with z | z | z
  · rw [show 2147483648 = 2 ^ 31 from rfl, Nat.testBit_two_pow_add_gt z, decide_eq_false (by omega)]
    simp
  · subst z
    rw [show 2147483648 = 2 ^ 31 from rfl, Nat.testBit_two_pow_add_eq]
    simp
  · have hp : 2 ^ 32 ≤ 2 ^ i := Nat.pow_le_pow_right (by decide) z
    rw [Nat.testBit_lt_two_pow (show a < 2 ^ i by omega), Nat.testBit_lt_two_pow (show 2147483648 + a < 2 ^ i by omega), decide_eq_false (by omega)]
    rfl
theorem fz_encX {a : Nat} (s : Bool) (h : a < 2147483648) : fz_enc s a ^^^ (-2147483648) = fz_enc (!s) a := by
  cases s with
  | false => rw [fz_encF, show (!false) = true from rfl, fz_encT' h]
  | true => rw [fz_encT' h, show (!true) = false from rfl, fz_encF, Int32.xor_assoc, Int32.xor_self, Int32.xor_zero]
theorem fz_encO (s : Bool) (a : Nat) : fz_sg s ||| nI a = fz_enc s a := rfl
theorem fz_enc0 (s : Bool) : fz_sg s = fz_enc s 0 := by cases s <;> decide
theorem fz_dec (x : Int32) : ∃ s a, a < 2147483648 ∧ x = fz_enc s a := by
  obtain ⟨n, h1, h2⟩ := wb_of32 x
  by_cases h : n < 2147483648
  · exact ⟨false, n, h, by rw [fz_encF]; exact h2⟩
  · exact ⟨true, n - 2147483648, by omega, by rw [fz_encT (by omega), h2, show 2147483648 + (n - 2147483648) = n by omega]⟩
theorem fz_encInj {a b : Nat} {s t : Bool} (h : a < 2147483648) (h' : b < 2147483648) (q : fz_enc s a = fz_enc t b) : s = t ∧ a = b := by
  have h1 := fz_encI s h
  have h2 := fz_encI t h'
  rw [q, h2] at h1
  cases s <;> cases t <;> simp at h1 ⊢ <;> omega
theorem fz_plcI {a : Nat} (s : Bool) (h : a < 2147483648) : (fz_plc s a).toInt = if s = true then -1 - (a : Int) else a := by
  have hn : (lN a).toInt = a := pk_lT (by omega)
  unfold fz_plc
  cases s with
  | false => exact hn
  | true =>
    have hm : (-1 : Int64).toInt = -1 := by decide
    show (-1 - lN a).toInt = -1 - (a : Int)
    rw [px_lsub (by omega) (by omega), hm, hn]
/-! a FLOAT as the class has it, and its PLACE as the reference has it -/
def fz_ok (a : Nat) : Prop := a ≤ 2139095040
