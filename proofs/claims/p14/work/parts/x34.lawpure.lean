theorem NI.zero (k x y : Nat → Int32) : NI 0 k x y := by
  have h0 : (0 : Int32).toInt = 0 := by decide
  exact ⟨by omega, by omega, fun i hi => absurd hi (by omega)⟩
theorem RI.zero (a b : Nat → Int32) : RI 0 a b := by
  have h0 : (0 : Int32).toInt = 0 := by decide
  exact ⟨by omega, by omega, fun i hi => absurd hi (by omega)⟩
theorem MI.zero (k x y : Nat → Int32) : MI 0 k x y := by
  have h0 : (0 : Int32).toInt = 0 := by decide
  exact ⟨by omega, by omega, fun i hi => absurd hi (by omega)⟩
def RGL (f g : Nat → Int32) (f' g' : Nat → Int64) : Prop := ∀ v : Nat, v < 4 → f' v = (f v).toInt64 ∧ g' v = (g v).toInt64
theorem RGL.put {f g : Nat → Int32} {f' g' : Nat → Int64} (h : RGL f g f' g') (v a b : Int32) : RGL (sq_put v a b f a) (sq_put v a b g b) (sr_put v a b f' a) (sr_put v a b g' b) := by
  unfold sq_put sr_put
  intro u hu
  split
  · by_cases hu2 : u = v.toNatClampNeg
    · subst hu2
      rw [px_ulS, px_ulS, px_updS, px_updS]
      exact ⟨rfl, rfl⟩
    · rw [px_ulO _ _ hu2, px_ulO _ _ hu2, px_updO _ _ hu2, px_updO _ _ hu2]
      exact h u hu
  · exact h u hu
theorem RG.start {f g : Nat → Int64} (hf : ∀ j : Nat, j < 4 → f j = -2139095041) (hg : ∀ j : Nat, j < 4 → g j = 2139095040) : RG f g := by
  intro v hv
  rw [hf v hv, hg v hv]
  decide
theorem RGL.start {f g : Nat → Int32} {f' g' : Nat → Int64} (hf : ∀ j : Nat, j < 4 → f j = -2139095041) (hg : ∀ j : Nat, j < 4 → g j = 2139095040) (hf' : ∀ j : Nat, j < 4 → f' j = -2139095041) (hg' : ∀ j : Nat, j < 4 → g' j = 2139095040) : RGL f g f' g' := by
  intro v hv
  rw [hf v hv, hg v hv, hf' v hv, hg' v hv]
  decide
theorem px_len {L : Nat} (h : L ≤ 2048) : ((Int32.ofNat L) - 4).toInt = (L : Int) - 4 := by
  have e : (Int32.ofNat L).toInt = L := by
    rw [Int32.toInt_ofNat_of_lt (by omega)]
  have c4 : (4 : Int32).toInt = 4 := by decide
  rw [px_isub (by omega) (by omega), e, c4]
theorem px_off {i : Int32} (h0 : 0 ≤ i.toInt) (h1 : i.toInt < 4096) : (i + 1).toInt = i.toInt + 1 ∧ (i + 2).toInt = i.toInt + 2 ∧ (i + 3).toInt = i.toInt + 3 := by
  have c1 : (1 : Int32).toInt = 1 := by decide
  have c2 : (2 : Int32).toInt = 2 := by decide
  have c3 : (3 : Int32).toInt = 3 := by decide
  refine ⟨?_, ?_, ?_⟩
  · rw [px_iadd (by omega) (by omega), c1]
  · rw [px_iadd (by omega) (by omega), c2]
  · rw [px_iadd (by omega) (by omega), c3]
theorem NK_blind (U : State) (g : JFrame) (mk : MethodId) (a : Array Value) (h : NK U) : NK (U.calling g mk a) := ⟨va_Nw.same rfl (u := U) (U := U.calling g mk a) rfl h.1, va_Nw.same rfl (u := U) (U := U.calling g mk a) rfl h.2⟩
theorem NK_warm {s U : State} (h : NK s) (hW : s.WarmedH U.vm) : NK U := ⟨va_Nw.warmM hW h.1, va_Nw.warmM hW h.2⟩
