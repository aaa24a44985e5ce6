abbrev kmax (x y : Int32) : Int32 := if x < y then y else x
abbrev kmin (x y : Int32) : Int32 := if y < x then y else x
abbrev kabs (x : Int32) : Int32 := if 0 ≤ x then x else 0 - x
abbrev kabsl (x : Int64) : Int64 := if 0 < x then x else -x
theorem sp_bool {r : Int32} {P : Prop} (h : (r = 1 ∧ P) ∨ (r = 0 ∧ ¬ P)) : (r.toInt = 1 ∧ P) ∨ (r.toInt = 0 ∧ ¬ P) := by
  rcases h with ⟨rfl, h⟩ | ⟨rfl, h⟩
  · exact Or.inl ⟨rfl, h⟩
  · exact Or.inr ⟨rfl, h⟩
