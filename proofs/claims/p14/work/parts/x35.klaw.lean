/-! boxes by the RANGES' relation that the law carries (RGL, RG); goes behind lawpure; never compiled yet -/
theorem BX.of {f g : Nat → Int32} {lo hi : Nat → Int64} (h : RGL f g lo hi) (h' : RG lo hi) : BX f g lo hi := fun v hv => by
  obtain ⟨a, b⟩ := h v hv
  obtain ⟨c, d, e⟩ := h' v hv
  rw [a, Int32.toInt_toInt64] at c
  rw [a, b, Int32.toInt_toInt64, Int32.toInt_toInt64] at d
  rw [b, Int32.toInt_toInt64] at e
  exact ⟨a, b, c, d, e⟩
