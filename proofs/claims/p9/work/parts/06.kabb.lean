abbrev kmax (x y : Int32) : Int32 := if x < y then y else x
abbrev kmin (x y : Int32) : Int32 := if y < x then y else x
abbrev kabs (x : Int32) : Int32 := if 0 ≤ x then x else 0 - x
abbrev kabsl (x : Int64) : Int64 := if 0 < x then x else -x
