def kX0_unitOf (x : Int32) : Int32 := ((1 <<< ((150 - (((x : Int32).toUInt32 >>> ((23 : Int32).toUInt32 &&& Int32.toUInt32 31)).toInt32)) &&& 31)))
def kX0_cut_25_z8 (x : Int32) : Int32 := (if (x : Int32).toInt < 1258291200 then ((x &&& (-(kX0_unitOf x)))) else (x))
def kX0_cut (x : Int32) : Int32 := (if 1065353216 ≤ (x : Int32).toInt then ((kX0_cut_25_z8 x)) else (0))
def kX0_grown (x : Int32) : Int32 := (if (x : Int32).toInt = 0 then (x) else (if (x : Int32).toInt < 1258291200 then (if 1065353216 ≤ (x : Int32).toInt then ((((x + (kX0_unitOf x)) - 1) &&& (-(kX0_unitOf x)))) else (1065353216)) else (x)))
def kX0_nearestWhole_s40 (x : Int32) : Int32 := (x - (x &&& (-(kX0_unitOf x))))
def kX0_nearestWhole_s44 (x : Int32) : Int32 := ((kX0_unitOf x) >>> (1 &&& 31))
def kX0_nearestWhole_69_z13 (x : Int32) : Int32 := (if (((x &&& (-(kX0_unitOf x))) &&& (kX0_unitOf x)) : Int32).toInt = 0 then (0) else (1))
def kX0_nearestWhole_69_z16 (x : Int32) : Int32 := (if ((kX0_nearestWhole_s40 x) : Int32).toInt = ((kX0_nearestWhole_s44 x) : Int32).toInt then ((kX0_nearestWhole_69_z13 x)) else (0))
def kX0_nearestWhole_69_z19 (x : Int32) : Int32 := (if ((kX0_nearestWhole_s44 x) : Int32).toInt < ((kX0_nearestWhole_s40 x) : Int32).toInt then (1) else ((kX0_nearestWhole_69_z16 x)))
def kX0_nearestWhole_83_z24 (x : Int32) : Int32 := (if ((kX0_nearestWhole_69_z19 x) : Int32).toInt = 0 then ((x &&& (-(kX0_unitOf x)))) else (((x &&& (-(kX0_unitOf x))) + (kX0_unitOf x))))
def kX0_nearestWhole_26_z29 (x : Int32) : Int32 := (if 1056964608 < (x : Int32).toInt then (1065353216) else (0))
def kX0_nearestWhole (x : Int32) : Int32 := (if (x : Int32).toInt < 1258291200 then (if 1065353216 ≤ (x : Int32).toInt then ((kX0_nearestWhole_83_z24 x)) else ((kX0_nearestWhole_26_z29 x))) else (x))
def kX0_asInt_24_z8 (g : Int32) (x : Int32) : Int32 := (if (x : Int32).toInt < 1325400064 then ((kX0_cut x)) else (1325400064))
def kX0_asInt (g : Int32) (x : Int32) : Int32 := (if 1065353216 ≤ (x : Int32).toInt then ((g ||| (kX0_asInt_24_z8 g x))) else (0))
def kX0_sum_s50 (x : Int32) (y : Int32) : Int32 := ((kX2_exponent x) - (kX2_exponent y))
def kX0_sum_60_z12 (x : Int32) (y : Int32) : Int32 := (if ((kX0_sum_s50 x y) : Int32).toInt < 0 then (y) else (x))
def kX0_sum_70_z17 (x : Int32) (y : Int32) : Int32 := (if ((kX0_sum_s50 x y) : Int32).toInt < 0 then (x) else (y))
def kX0_sum_s94 (x : Int32) (y : Int32) : Int64 := ((kX2_significand (kX0_sum_60_z12 x y)) <<< (((kabs ((kX0_sum_s50 x y))) : Int32).toInt64 &&& 63))
def kX0_sum_s101 (x : Int32) (y : Int32) : Int64 := (kX2_significand (kX0_sum_70_z17 x y))
def kX0_sum_115_z29 (x : Int32) (y : Int32) : Int64 := (if 0 ≤ ((kX0_sum_60_z12 x y) : Int32).toInt then ((kX0_sum_s94 x y)) else ((-(kX0_sum_s94 x y))))
def kX0_sum_128_z34 (x : Int32) (y : Int32) : Int64 := (if 0 ≤ ((kX0_sum_70_z17 x y) : Int32).toInt then ((kX0_sum_s101 x y)) else ((-(kX0_sum_s101 x y))))
def kX0_sum_s129 (x : Int32) (y : Int32) : Int64 := ((kX0_sum_115_z29 x y) + (kX0_sum_128_z34 x y))
def kX0_sum_158_z40 (x : Int32) (y : Int32) : Int32 := (if 0 ≤ ((kX0_sum_s129 x y) : Int64).toInt then (0) else ((-2147483648)))
def kX0_sum_29_z53 (x : Int32) (y : Int32) : Int32 := (if (x : Int32).toInt = (y : Int32).toInt then (x) else (2143289344))
def kX0_sum_29_z56 (x : Int32) (y : Int32) : Int32 := (if ((y &&& 2147483647) : Int32).toInt = 2139095040 then ((kX0_sum_29_z53 x y)) else (x))
def kX0_sum (x : Int32) (y : Int32) : Int32 := (if ((x &&& 2147483647) : Int32).toInt = 2139095040 then ((kX0_sum_29_z56 x y)) else (if ((y &&& 2147483647) : Int32).toInt = 2139095040 then (y) else (if ((kabs ((kX0_sum_s50 x y))) : Int32).toInt ≤ 30 then (if ((kX0_sum_s129 x y) : Int64).toInt = 0 then (((x &&& y) &&& (-2147483648))) else ((kX2_nearest (kX0_sum_158_z40 x y) (kabsl ((kX0_sum_s129 x y))) (kX2_exponent (kX0_sum_70_z17 x y))))) else ((kX0_sum_60_z12 x y)))))
def kX0_product_49_z7 (x : Int32) (y : Int32) : Int32 := (if ((y &&& 2147483647) : Int32).toInt = 0 then (2143289344) else ((((x ^^^ y) &&& (-2147483648)) ||| 2139095040)))
def kX0_product_49_z10 (x : Int32) (y : Int32) : Int32 := (if ((x &&& 2147483647) : Int32).toInt = 0 then (2143289344) else ((kX0_product_49_z7 x y)))
def kX0_product_s59 (x : Int32) (y : Int32) : Int64 := ((kX2_significand x) * (kX2_significand y))
def kX0_product (x : Int32) (y : Int32) : Int32 := (if ((x &&& 2147483647) : Int32).toInt = 2139095040 then ((kX0_product_49_z10 x y)) else (if ((y &&& 2147483647) : Int32).toInt = 2139095040 then ((kX0_product_49_z10 x y)) else ((kX2_nearest ((x ^^^ y) &&& (-2147483648)) (kX0_product_s59 x y) ((kX2_exponent x) + (kX2_exponent y))))))
def kX0_quotient_s87 (x : Int32) (y : Int32) : Int32 := ((kJ13_numberOfLeadingZeros_95d88 (kX2_significand x)) - 2)
def kX0_quotient_s94 (x : Int32) (y : Int32) : Int64 := ((kX2_significand x) <<< (((kX0_quotient_s87 x y) : Int32).toInt64 &&& 63))
def kX0_quotient_s101 (x : Int32) (y : Int32) : Int64 := ((kX0_quotient_s94 x y) / (kX2_significand y))
def kX0_quotient_123_z18 (x : Int32) (y : Int32) : Int64 := (if (((kX0_quotient_s101 x y) * (kX2_significand y)) : Int64).toInt = ((kX0_quotient_s94 x y) : Int64).toInt then ((kX0_quotient_s101 x y)) else (((kX0_quotient_s101 x y) ||| 1)))
def kX0_quotient (x : Int32) (y : Int32) : Int32 := (if ((x &&& 2147483647) : Int32).toInt = ((y &&& 2147483647) : Int32).toInt then (if ((x &&& 2147483647) : Int32).toInt = 0 then (2143289344) else (if ((x &&& 2147483647) : Int32).toInt = 2139095040 then (2143289344) else (if ((x &&& 2147483647) : Int32).toInt = 2139095040 then ((((x ^^^ y) &&& (-2147483648)) ||| 2139095040)) else (if ((kX2_significand y) : Int64).toInt = 0 then ((((x ^^^ y) &&& (-2147483648)) ||| 2139095040)) else (if ((x &&& 2147483647) : Int32).toInt = 0 then (((x ^^^ y) &&& (-2147483648))) else (if ((y &&& 2147483647) : Int32).toInt = 2139095040 then (((x ^^^ y) &&& (-2147483648))) else ((kX2_nearest ((x ^^^ y) &&& (-2147483648)) (kX0_quotient_123_z18 x y) (((kX2_exponent x) - (kX0_quotient_s87 x y)) - (kX2_exponent y)))))))))) else (if ((x &&& 2147483647) : Int32).toInt = 2139095040 then ((((x ^^^ y) &&& (-2147483648)) ||| 2139095040)) else (if ((kX2_significand y) : Int64).toInt = 0 then ((((x ^^^ y) &&& (-2147483648)) ||| 2139095040)) else (if ((x &&& 2147483647) : Int32).toInt = 0 then (((x ^^^ y) &&& (-2147483648))) else (if ((y &&& 2147483647) : Int32).toInt = 2139095040 then (((x ^^^ y) &&& (-2147483648))) else ((kX2_nearest ((x ^^^ y) &&& (-2147483648)) (kX0_quotient_123_z18 x y) (((kX2_exponent x) - (kX0_quotient_s87 x y)) - (kX2_exponent y)))))))))
def kX0_rootDown_l7 (fuel : Nat) (q : Int64) (r : Int64) (t : Int64) : Int64 := match fuel with
  | 0 => 0
  | fuel + 1 => (if (t : Int64).toInt ≤ 0 then (r) else (if (q : Int64).toInt < (((r + t) * (r + t)) : Int64).toInt then (kX0_rootDown_l7 fuel q (r) ((t >>> ((1 : Int32).toInt64 &&& 63)))) else (kX0_rootDown_l7 fuel q ((r + t)) ((t >>> ((1 : Int32).toInt64 &&& 63))))))
theorem kX0_rootDown_l7_S (fuel : Nat) (q : Int64) (r : Int64) (t : Int64) : kX0_rootDown_l7 (fuel + 1) q r t = (if (t : Int64).toInt ≤ 0 then (r) else (if (q : Int64).toInt < (((r + t) * (r + t)) : Int64).toInt then (kX0_rootDown_l7 fuel q (r) ((t >>> ((1 : Int32).toInt64 &&& 63)))) else (kX0_rootDown_l7 fuel q ((r + t)) ((t >>> ((1 : Int32).toInt64 &&& 63)))))) := rfl
def kX0_rootDown (q : Int64) : Int64 := (kX0_rootDown_l7 1073741825 q (0) (1073741824))
def kX0_remainder_l59 (fuel : Nat) (x : Int32) (y : Int32) (dv : Int64) (un : Int32) (rs : Int64) (lf : Int32) : Int32 := match fuel with
  | 0 => 0
  | fuel + 1 => (if (lf : Int32).toInt ≤ 0 then ((kX2_nearest (x &&& (-2147483648)) rs un)) else (kX0_remainder_l59 fuel x y (dv) (un) (((rs <<< (((kmin (lf) (38)) : Int32).toInt64 &&& 63)) - (rs <<< (((kmin (lf) (38)) : Int32).toInt64 &&& 63)) / dv * dv)) ((lf + (-38)))))
theorem kX0_remainder_l59_S (fuel : Nat) (x : Int32) (y : Int32) (dv : Int64) (un : Int32) (rs : Int64) (lf : Int32) : kX0_remainder_l59 (fuel + 1) x y dv un rs lf = (if (lf : Int32).toInt ≤ 0 then ((kX2_nearest (x &&& (-2147483648)) rs un)) else (kX0_remainder_l59 fuel x y (dv) (un) (((rs <<< (((kmin (lf) (38)) : Int32).toInt64 &&& 63)) - (rs <<< (((kmin (lf) (38)) : Int32).toInt64 &&& 63)) / dv * dv)) ((lf + (-38))))) := rfl
def kX0_remainder (x : Int32) (y : Int32) : Int32 := (if ((x &&& 2147483647) : Int32).toInt = 2139095040 then (2143289344) else (if ((kX2_significand y) : Int64).toInt = 0 then (2143289344) else (if ((y &&& 2147483647) : Int32).toInt ≤ ((x &&& 2147483647) : Int32).toInt then (kX0_remainder_l59 2147483649 x y ((kX2_significand y)) ((kX2_exponent y)) (((kX2_significand x) - (kX2_significand x) / (kX2_significand y) * (kX2_significand y))) (((kX2_exponent x) - (kX2_exponent y)))) else (x))))
def kX0_root_s33 (x : Int32) : Int32 := ((kJ13_numberOfLeadingZeros_95d88 (kX2_significand x)) - 2)
def kX0_root_49_z16 (x : Int32) : Int32 := (if ((((kX2_exponent x) - (kX0_root_s33 x)) &&& 1) : Int32).toInt = 1 then (((kX0_root_s33 x) + (-1))) else ((kX0_root_s33 x)))
def kX0_root_s52 (x : Int32) : Int64 := ((kX2_significand x) <<< (((kX0_root_49_z16 x) : Int32).toInt64 &&& 63))
def kX0_root_s59 (x : Int32) : Int64 := (kX0_rootDown (kX0_root_s52 x))
def kX0_root_81_z24 (x : Int32) : Int64 := (if (((kX0_root_s59 x) * (kX0_root_s59 x)) : Int64).toInt = ((kX0_root_s52 x) : Int64).toInt then ((kX0_root_s59 x)) else (((kX0_root_s59 x) ||| 1)))
def kX0_root (x : Int32) : Int32 := (if ((x &&& 2147483647) : Int32).toInt = 0 then (x) else (if (x : Int32).toInt = 2139095040 then (x) else (if 0 ≤ (x : Int32).toInt then ((kX2_nearest 0 (kX0_root_81_z24 x) (((kX2_exponent x) - (kX0_root_49_z16 x)) >>> (1 &&& 31)))) else (2143289344))))
def kX0_ofOne (k : Int32) (x : Int32) : Int32 := (if ((kX2_isNone x) : Int32).toInt = 0 then (if (k : Int32).toInt < 6 then ((kX0_root x)) else (if 13 < (k : Int32).toInt then ((kX0_root x)) else (if (k : Int32).toInt = 6 then ((x ^^^ (-2147483648))) else (if (k : Int32).toInt = 7 then ((x &&& 2147483647)) else (if (k : Int32).toInt = 8 then ((kX0_root x)) else (if (k : Int32).toInt = 9 then ((kX0_root x)) else (if (k : Int32).toInt = 10 then (if ((x &&& (-2147483648)) : Int32).toInt = 0 then (((x &&& (-2147483648)) ||| (kX0_cut (x &&& 2147483647)))) else (((x &&& (-2147483648)) ||| (kX0_grown (x &&& 2147483647))))) else (if (k : Int32).toInt = 11 then (if ((x &&& (-2147483648)) : Int32).toInt = 0 then (((x &&& (-2147483648)) ||| (kX0_grown (x &&& 2147483647)))) else (((x &&& (-2147483648)) ||| (kX0_cut (x &&& 2147483647))))) else (if (k : Int32).toInt = 12 then (((x &&& (-2147483648)) ||| (kX0_nearestWhole (x &&& 2147483647)))) else (if (k : Int32).toInt = 13 then ((kX0_asInt (x &&& (-2147483648)) (x &&& 2147483647))) else ((kX0_asInt (x &&& (-2147483648)) (x &&& 2147483647))))))))))))) else (if (k : Int32).toInt = 13 then (0) else (2143289344)))
def kX0_ofTwo (k : Int32) (x : Int32) (y : Int32) : Int32 := (if ((kX2_isNone x) : Int32).toInt = 0 then (if ((kX2_isNone y) : Int32).toInt = 0 then (if (k : Int32).toInt < 2 then ((kX0_remainder x y)) else (if 9 < (k : Int32).toInt then ((kX0_remainder x y)) else (if (k : Int32).toInt = 2 then ((kX0_sum x y)) else (if (k : Int32).toInt = 3 then ((kX0_sum x (y ^^^ (-2147483648)))) else (if (k : Int32).toInt = 4 then ((kX0_product x y)) else (if (k : Int32).toInt = 5 then ((kX0_quotient x y)) else (if (k : Int32).toInt = 6 then ((kX0_remainder x y)) else (if (k : Int32).toInt = 7 then ((kX0_remainder x y)) else (if (k : Int32).toInt = 8 then (if ((kX2_placeOf y) : Int32).toInt < ((kX2_placeOf x) : Int32).toInt then (y) else (x)) else (if (k : Int32).toInt = 9 then (if ((kX2_placeOf x) : Int32).toInt < ((kX2_placeOf y) : Int32).toInt then (y) else (x)) else (y))))))))))) else (2143289344)) else (2143289344))
def oX0_unitOf : List Cond := []
def wpX0_unitOf : List Cond := .code yX0_unitOf cX0_unitOf 1 (some .int) :: (oX0_unitOf ++ ([] : List Cond))
theorem oX0_unitOf_in : ∀ w ∈ oX0_unitOf, w ∈ wpX0_unitOf := fun w h => List.mem_cons_of_mem _ (List.mem_append_left _ h)
theorem gwoX0_unitOf : ∀ w ∈ oX0_unitOf, goodWord w = true := by decide +kernel
theorem gwX0_unitOf : ∀ w ∈ wpX0_unitOf, goodWord w = true := by
  unfold wpX0_unitOf
  exact List.forall_mem_cons.mpr ⟨rfl, List.forall_mem_append.mpr ⟨gwoX0_unitOf, fun _ h => absurd h List.not_mem_nil⟩⟩
set_option maxRecDepth 100000 in
theorem toX0_unitOf : ∀ w ∈ oX0_unitOf, w ∈ lw_tbl := by
  unfold oX0_unitOf
  exact fun _ h => absurd h List.not_mem_nil
set_option maxRecDepth 100000 in
theorem tX0_unitOf : ∀ w ∈ wpX0_unitOf, w ∈ lw_tbl := by
  unfold wpX0_unitOf
  exact List.forall_mem_cons.mpr ⟨(List.mem_of_getElem? (i := 411) (by rfl)), List.forall_mem_append.mpr ⟨toX0_unitOf, fun _ h => absurd h List.not_mem_nil⟩⟩
set_option maxHeartbeats 4000000 in
set_option maxRecDepth 100000 in
theorem c_X0_unitOf (l : Launch) (D : va_G) (cI cJ cZ : ClassId) (sz : Nat) (x : Int32) : Met l yX0_unitOf wpX0_unitOf ({ frames := 0, cells := 0, slots := 0, locals := 0 }) (va_Pc ([.int x] : List Value) (sp_pre D vwCl (sp_ty cI cJ cZ) [] sz)) (va_Qi (fun (r : Int32) (_ : Unit) => r = kX0_unitOf x) (sp_B D vwCl (va_A [] sz) (fun (_ : Unit) => [])) (va_A [] sz)) 0 0 (va_A [] sz) := by
  refine sp_ofW (Qc := fun A => va_Qi (fun (r : Int32) (_ : Unit) => r = kX0_unitOf x) (sp_B D vwCl A (fun (_ : Unit) => [])) A) (by decide) rfl (Nat.le_of_ble_eq_true rfl) (fun p e s m below meth c A ls H locs C0 hA hS hP hK hD hl => ?_)
  obtain ⟨hx, hb, hr, hts, hown, hlocks, hml, hin⟩ := id C0
  have hown : s.vm.findClass RX0 = some m.cls := hown
  have hl : lv_has ls 1 [(0, .int x)] := hl
  have hK : va_K D vwCl [(cI, .int), (cJ, .long), (cZ, .boolean)] s := hK
  refine lv_iconst (v := 1) hx hb dX0_unitOf_0 (by decide) ?_
  refine lv_sipush (v := 150) hx hb dX0_unitOf_1 (by decide) ?_
  refine lv_iload_n hx hb dX0_unitOf_4 rfl (lv_at hl 0 rfl) ?_
  refine lv_bipush (v := 23) hx hb dX0_unitOf_5 (by decide) ?_
  refine lv_iushr (v := _) hx hb dX0_unitOf_7 rfl ?_
  refine lv_isub hx hb dX0_unitOf_8 ?_
  refine lv_ishl hx hb dX0_unitOf_9 ?_
  refine W.widen (k := 0) (n := 0) (by decide) (by decide) ?_
  exact sp_iret (u := ()) hx hb hr hlocks hS (Eq.symm rfl) (hP.sub [] rfl) (hD.sub [] (by decide) rfl) dX0_unitOf_10
def oX0_cut : List Cond := [.constant RX0 86 (1065353216), .constant RX0 87 (1258291200)]
def wpX0_cut : List Cond := .code yX0_cut cX0_cut 1 (some .int) :: (oX0_cut ++ ((va_wsS RX0 88 yX0_unitOf wpX0_unitOf) ++ ([] : List Cond)))
theorem oX0_cut_in : ∀ w ∈ oX0_cut, w ∈ wpX0_cut := fun w h => List.mem_cons_of_mem _ (List.mem_append_left _ h)
theorem gwoX0_cut : ∀ w ∈ oX0_cut, goodWord w = true := by decide +kernel
theorem gwX0_cut : ∀ w ∈ wpX0_cut, goodWord w = true := by
  unfold wpX0_cut
  exact List.forall_mem_cons.mpr ⟨rfl, List.forall_mem_append.mpr ⟨gwoX0_cut, List.forall_mem_append.mpr ⟨(sp_gS gwX0_unitOf), fun _ h => absurd h List.not_mem_nil⟩⟩⟩
set_option maxRecDepth 100000 in
theorem toX0_cut : ∀ w ∈ oX0_cut, w ∈ lw_tbl := by
  unfold oX0_cut
  exact List.forall_mem_cons.mpr ⟨(List.mem_of_getElem? (i := 407) (by decide +kernel)), List.forall_mem_cons.mpr ⟨(List.mem_of_getElem? (i := 408) (by decide +kernel)), fun _ h => absurd h List.not_mem_nil⟩⟩
set_option maxRecDepth 100000 in
theorem tX0_cut : ∀ w ∈ wpX0_cut, w ∈ lw_tbl := by
  unfold wpX0_cut
  exact List.forall_mem_cons.mpr ⟨(List.mem_of_getElem? (i := 406) (by rfl)), List.forall_mem_append.mpr ⟨toX0_cut, List.forall_mem_append.mpr ⟨(sp_tS (List.mem_of_getElem? (i := 409) (by decide +kernel)) (List.mem_of_getElem? (i := 410) (by decide +kernel)) (List.mem_of_getElem? (i := 47) (by decide +kernel)) tX0_unitOf), fun _ h => absurd h List.not_mem_nil⟩⟩⟩
theorem gX0_cut_X0_unitOf_88 : GoodIn wpX0_cut (va_wsS RX0 88 yX0_unitOf wpX0_unitOf) := fun w h => ⟨List.mem_cons_of_mem _ (List.mem_append_right _ (List.mem_append_left _ h)), good_of_word (sp_gS gwX0_unitOf w h)⟩
set_option maxHeartbeats 4000000 in
set_option maxRecDepth 100000 in
theorem c_X0_cut (l : Launch) (D : va_G) (cI cJ cZ : ClassId) (sz : Nat) (x : Int32) : Met l yX0_cut wpX0_cut ({ frames := 1, cells := 0, slots := 0, locals := 20 }) (va_Pc ([.int x] : List Value) (sp_pre D vwCl (sp_ty cI cJ cZ) [] sz)) (va_Qi (fun (r : Int32) (_ : Unit) => r = kX0_cut x) (sp_B D vwCl (va_A [] sz) (fun (_ : Unit) => [])) (va_A [] sz)) 0 0 (va_A [] sz) := by
  refine sp_ofW (Qc := fun A => va_Qi (fun (r : Int32) (_ : Unit) => r = kX0_cut x) (sp_B D vwCl A (fun (_ : Unit) => [])) A) (by decide) rfl (Nat.le_of_ble_eq_true rfl) (fun p e s m below meth c A ls H locs C0 hA hS hP hK hD hl => ?_)
  obtain ⟨hx, hb, hr, hts, hown, hlocks, hml, hin⟩ := id C0
  have hown : s.vm.findClass RX0 = some m.cls := hown
  have hl : lv_has ls 1 [(0, .int x)] := hl
  have hK : va_K D vwCl [(cI, .int), (cJ, .long), (cZ, .boolean)] s := hK
  refine lv_iload_n hx hb dX0_cut_0 rfl (lv_at hl 0 rfl) ?_
  refine lv_ldc (v := 1065353216) hx hb hown (hts (.constant RX0 86 (1065353216)) (oX0_cut_in _ (List.mem_of_getElem? (i := 0) rfl))) dX0_cut_1 ?_
  refine lv_icmp_ge (tgt := 8) hx hb dX0_cut_3 (by decide) (fun c1 => ?_) (fun c1 => ?_)
  · skip
    have c1i : 1065353216 ≤ (x : Int32).toInt := Int32.le_iff_toInt_le.mp c1
    refine lv_iload_n hx hb dX0_cut_8 rfl (lv_at hl 0 rfl) ?_
    refine lv_ldc (v := 1258291200) hx hb hown (hts (.constant RX0 87 (1258291200)) (oX0_cut_in _ (List.mem_of_getElem? (i := 1) rfl))) dX0_cut_9 ?_
    have hj9 : ∀ (z8 : Int32) (H : Heap) (locs : List Loc) (ls : Array Slot), (z8 = kX0_cut_25_z8 x) → va_P D vwCl [] H → va_D A [] → va_S A s.heap H locs → lv_has ls 1 [(0, .int x)] → W p l e ({ frames := 1, cells := 0, slots := 0, locals := 20 }) s m (([.int x] : List Value).toArray) below meth c H locs 0 0 (MQ below (va_Qi (fun (r : Int32) (_ : Unit) => r = kX0_cut x) (sp_B D vwCl A (fun (_ : Unit) => [])) A) ([.int x] : List Value).toArray s 0 0 A) (F0 m 25 ls [.int z8]) := by
      intro z8 H locs ls hz8 hP hD hS hl
      subst z8
      refine W.widen (k := 0) (n := 0) (by decide) (by decide) ?_
      exact sp_iret (u := ()) hx hb hr hlocks hS (Eq.symm ((if_pos c1i).trans rfl)) (hP.sub [] rfl) (hD.sub [] (by decide) rfl) dX0_cut_25
    refine lv_icmp_lt (tgt := 18) hx hb dX0_cut_11 (by decide) (fun c2 => ?_) (fun c2 => ?_)
    · skip
      have c2i : (x : Int32).toInt < 1258291200 := Int32.lt_iff_toInt_lt.mp c2
      refine lv_iload_n hx hb dX0_cut_18 rfl (lv_at hl 0 rfl) ?_
      refine lv_iload_n hx hb dX0_cut_19 rfl (lv_at hl 0 rfl) ?_
      refine sp_calli (wr := []) (wc := []) hP hD hS hA [] [] rfl rfl (by decide) (by decide) (va_runS (As := [.int x]) (rest := [.int x]) ⟨hx, hb, hml, hown, hts⟩ (c_X0_unitOf l D cI cJ cZ H.size x) (va_cwS 1 hts gX0_cut_X0_unitOf_88 rfl rfl rfl (by decide +kernel) ⟨Nat.le_of_ble_eq_true rfl, Nat.le_of_ble_eq_true rfl⟩) (sp_preS [.int x] hK (hP.sub (ws' := []) [] rfl) (hD.sub (ws' := []) [] (by decide) rfl)) rfl rfl hl.1 rfl (lv_room (Nat.le_of_ble_eq_true rfl)) dX0_cut_20 ⟨Nat.le_of_ble_eq_true rfl, Nat.le_of_ble_eq_true rfl⟩) (fun r3 u4 H locs hw5 hP hD hS => ?_)
      have hq_5_0 : r3 = (kX0_unitOf x) := hw5
      subst r3
      have hP : va_P D vwCl [] H := hP
      have hD : va_D A [] := hD
      refine lv_ineg hx hb dX0_cut_23 ?_
      refine lv_iand hx hb dX0_cut_24 ?_
      exact hj9 ((x &&& (-(kX0_unitOf x)))) _ _ _ (Eq.symm ((if_pos c2i).trans rfl)) (hP.sub [] rfl) (hD.sub [] (by decide) rfl) hS (lv_sub hl [0] rfl)
    · skip
      have c2i : ¬ (x : Int32).toInt < 1258291200 := fun h => c2 (Int32.lt_iff_toInt_lt.mpr h)
      refine lv_iload_n hx hb dX0_cut_14 rfl (lv_at hl 0 rfl) ?_
      refine lv_goto (tgt := 25) hx hb dX0_cut_15 (by decide) ?_
      exact hj9 (x) _ _ _ (Eq.symm ((if_neg c2i).trans rfl)) (hP.sub [] rfl) (hD.sub [] (by decide) rfl) hS (lv_sub hl [0] rfl)
  · skip
    have c1i : ¬ 1065353216 ≤ (x : Int32).toInt := fun h => c1 (Int32.le_iff_toInt_le.mpr h)
    refine lv_iconst (v := 0) hx hb dX0_cut_6 (by decide) ?_
    refine W.widen (k := 0) (n := 0) (by decide) (by decide) ?_
    exact sp_iret (u := ()) hx hb hr hlocks hS (Eq.symm ((if_neg c1i).trans rfl)) (hP.sub [] rfl) (hD.sub [] (by decide) rfl) dX0_cut_7
def oX0_grown : List Cond := [.constant RX0 87 (1258291200), .constant RX0 86 (1065353216)]
def wpX0_grown : List Cond := .code yX0_grown cX0_grown 2 (some .int) :: (oX0_grown ++ ((va_wsS RX0 88 yX0_unitOf wpX0_unitOf) ++ ([] : List Cond)))
theorem oX0_grown_in : ∀ w ∈ oX0_grown, w ∈ wpX0_grown := fun w h => List.mem_cons_of_mem _ (List.mem_append_left _ h)
theorem gwoX0_grown : ∀ w ∈ oX0_grown, goodWord w = true := by decide +kernel
theorem gwX0_grown : ∀ w ∈ wpX0_grown, goodWord w = true := by
  unfold wpX0_grown
  exact List.forall_mem_cons.mpr ⟨rfl, List.forall_mem_append.mpr ⟨gwoX0_grown, List.forall_mem_append.mpr ⟨(sp_gS gwX0_unitOf), fun _ h => absurd h List.not_mem_nil⟩⟩⟩
set_option maxRecDepth 100000 in
theorem toX0_grown : ∀ w ∈ oX0_grown, w ∈ lw_tbl := by
  unfold oX0_grown
  exact List.forall_mem_cons.mpr ⟨(List.mem_of_getElem? (i := 408) (by decide +kernel)), List.forall_mem_cons.mpr ⟨(List.mem_of_getElem? (i := 407) (by decide +kernel)), fun _ h => absurd h List.not_mem_nil⟩⟩
set_option maxRecDepth 100000 in
theorem tX0_grown : ∀ w ∈ wpX0_grown, w ∈ lw_tbl := by
  unfold wpX0_grown
  exact List.forall_mem_cons.mpr ⟨(List.mem_of_getElem? (i := 414) (by rfl)), List.forall_mem_append.mpr ⟨toX0_grown, List.forall_mem_append.mpr ⟨(sp_tS (List.mem_of_getElem? (i := 409) (by decide +kernel)) (List.mem_of_getElem? (i := 410) (by decide +kernel)) (List.mem_of_getElem? (i := 47) (by decide +kernel)) tX0_unitOf), fun _ h => absurd h List.not_mem_nil⟩⟩⟩
theorem gX0_grown_X0_unitOf_88 : GoodIn wpX0_grown (va_wsS RX0 88 yX0_unitOf wpX0_unitOf) := fun w h => ⟨List.mem_cons_of_mem _ (List.mem_append_right _ (List.mem_append_left _ h)), good_of_word (sp_gS gwX0_unitOf w h)⟩
set_option maxHeartbeats 4000000 in
set_option maxRecDepth 100000 in
theorem c_X0_grown (l : Launch) (D : va_G) (cI cJ cZ : ClassId) (sz : Nat) (x : Int32) : Met l yX0_grown wpX0_grown ({ frames := 1, cells := 0, slots := 0, locals := 20 }) (va_Pc ([.int x] : List Value) (sp_pre D vwCl (sp_ty cI cJ cZ) [] sz)) (va_Qi (fun (r : Int32) (_ : Unit) => r = kX0_grown x) (sp_B D vwCl (va_A [] sz) (fun (_ : Unit) => [])) (va_A [] sz)) 0 0 (va_A [] sz) := by
  refine sp_ofW (Qc := fun A => va_Qi (fun (r : Int32) (_ : Unit) => r = kX0_grown x) (sp_B D vwCl A (fun (_ : Unit) => [])) A) (by decide) rfl (Nat.le_of_ble_eq_true rfl) (fun p e s m below meth c A ls H locs C0 hA hS hP hK hD hl => ?_)
  obtain ⟨hx, hb, hr, hts, hown, hlocks, hml, hin⟩ := id C0
  have hown : s.vm.findClass RX0 = some m.cls := hown
  have hl : lv_has ls 2 [(0, .int x)] := hl
  have hK : va_K D vwCl [(cI, .int), (cJ, .long), (cZ, .boolean)] s := hK
  refine lv_iload_n hx hb dX0_grown_0 rfl (lv_at hl 0 rfl) ?_
  refine lv_if_eq (tgt := 10) hx hb dX0_grown_1 (by decide) (fun c1 => ?_) (fun c1 => ?_)
  · skip
    have c1i : (x : Int32).toInt = 0 := congrArg Int32.toInt c1
    refine lv_iload_n hx hb dX0_grown_10 rfl (lv_at hl 0 rfl) ?_
    refine W.widen (k := 0) (n := 0) (by decide) (by decide) ?_
    exact sp_iret (u := ()) hx hb hr hlocks hS (Eq.symm ((if_pos c1i).trans rfl)) (hP.sub [] rfl) (hD.sub [] (by decide) rfl) dX0_grown_11
  · skip
    have c1i : ¬ (x : Int32).toInt = 0 := fun h => c1 (Int32.toInt_inj.mp h)
    refine lv_iload_n hx hb dX0_grown_4 rfl (lv_at hl 0 rfl) ?_
    refine lv_ldc (v := 1258291200) hx hb hown (hts (.constant RX0 87 (1258291200)) (oX0_grown_in _ (List.mem_of_getElem? (i := 0) rfl))) dX0_grown_5 ?_
    refine lv_icmp_lt (tgt := 12) hx hb dX0_grown_7 (by decide) (fun c2 => ?_) (fun c2 => ?_)
    · skip
      have c2i : (x : Int32).toInt < 1258291200 := Int32.lt_iff_toInt_lt.mp c2
      refine lv_iload_n hx hb dX0_grown_12 rfl (lv_at hl 0 rfl) ?_
      refine lv_ldc (v := 1065353216) hx hb hown (hts (.constant RX0 86 (1065353216)) (oX0_grown_in _ (List.mem_of_getElem? (i := 1) rfl))) dX0_grown_13 ?_
      refine lv_icmp_ge (tgt := 21) hx hb dX0_grown_15 (by decide) (fun c3 => ?_) (fun c3 => ?_)
      · skip
        have c3i : 1065353216 ≤ (x : Int32).toInt := Int32.le_iff_toInt_le.mp c3
        refine lv_iload_n hx hb dX0_grown_21 rfl (lv_at hl 0 rfl) ?_
        refine sp_calli (wr := []) (wc := []) hP hD hS hA [] [] rfl rfl (by decide) (by decide) (va_runS (As := [.int x]) (rest := []) ⟨hx, hb, hml, hown, hts⟩ (c_X0_unitOf l D cI cJ cZ H.size x) (va_cwS 1 hts gX0_grown_X0_unitOf_88 rfl rfl rfl (by decide +kernel) ⟨Nat.le_of_ble_eq_true rfl, Nat.le_of_ble_eq_true rfl⟩) (sp_preS [.int x] hK (hP.sub (ws' := []) [] rfl) (hD.sub (ws' := []) [] (by decide) rfl)) rfl rfl hl.1 rfl (lv_room (Nat.le_of_ble_eq_true rfl)) dX0_grown_22 ⟨Nat.le_of_ble_eq_true rfl, Nat.le_of_ble_eq_true rfl⟩) (fun r4 u5 H locs hw6 hP hD hS => ?_)
        have hq_6_0 : r4 = (kX0_unitOf x) := hw6
        subst r4
        have hP : va_P D vwCl [] H := hP
        have hD : va_D A [] := hD
        refine lv_istore_n (lv' := [(1, .int (kX0_unitOf x)), (0, .int x)]) hx hb dX0_grown_25 rfl hl (by decide) rfl (fun ls hl => ?_)
        refine lv_iload_n hx hb dX0_grown_26 rfl (lv_at hl 1 rfl) ?_
        refine lv_iload_n hx hb dX0_grown_27 rfl (lv_at hl 0 rfl) ?_
        refine lv_iadd hx hb dX0_grown_28 ?_
        refine lv_iconst (v := 1) hx hb dX0_grown_29 (by decide) ?_
        refine lv_isub hx hb dX0_grown_30 ?_
        refine lv_iload_n hx hb dX0_grown_31 rfl (lv_at hl 0 rfl) ?_
        refine lv_ineg hx hb dX0_grown_32 ?_
        refine lv_iand hx hb dX0_grown_33 ?_
        refine W.widen (k := 0) (n := 0) (by decide) (by decide) ?_
        exact sp_iret (u := ()) hx hb hr hlocks hS (Eq.symm ((if_neg c1i).trans ((if_pos c2i).trans ((if_pos c3i).trans rfl)))) (hP.sub [] rfl) (hD.sub [] (by decide) rfl) dX0_grown_34
      · skip
        have c3i : ¬ 1065353216 ≤ (x : Int32).toInt := fun h => c3 (Int32.le_iff_toInt_le.mpr h)
        refine lv_ldc (v := 1065353216) hx hb hown (hts (.constant RX0 86 (1065353216)) (oX0_grown_in _ (List.mem_of_getElem? (i := 1) rfl))) dX0_grown_18 ?_
        refine W.widen (k := 0) (n := 0) (by decide) (by decide) ?_
        exact sp_iret (u := ()) hx hb hr hlocks hS (Eq.symm ((if_neg c1i).trans ((if_pos c2i).trans ((if_neg c3i).trans rfl)))) (hP.sub [] rfl) (hD.sub [] (by decide) rfl) dX0_grown_20
    · skip
      have c2i : ¬ (x : Int32).toInt < 1258291200 := fun h => c2 (Int32.lt_iff_toInt_lt.mpr h)
      refine lv_iload_n hx hb dX0_grown_10 rfl (lv_at hl 0 rfl) ?_
      refine W.widen (k := 0) (n := 0) (by decide) (by decide) ?_
      exact sp_iret (u := ()) hx hb hr hlocks hS (Eq.symm ((if_neg c1i).trans ((if_neg c2i).trans rfl))) (hP.sub [] rfl) (hD.sub [] (by decide) rfl) dX0_grown_11
def oX0_nearestWhole : List Cond := [.constant RX0 87 (1258291200), .constant RX0 86 (1065353216), .constant RX0 91 (1056964608)]
def wpX0_nearestWhole : List Cond := .code yX0_nearestWhole cX0_nearestWhole 6 (some .int) :: (oX0_nearestWhole ++ ((va_wsS RX0 88 yX0_unitOf wpX0_unitOf) ++ ([] : List Cond)))
theorem oX0_nearestWhole_in : ∀ w ∈ oX0_nearestWhole, w ∈ wpX0_nearestWhole := fun w h => List.mem_cons_of_mem _ (List.mem_append_left _ h)
theorem gwoX0_nearestWhole : ∀ w ∈ oX0_nearestWhole, goodWord w = true := by decide +kernel
theorem gwX0_nearestWhole : ∀ w ∈ wpX0_nearestWhole, goodWord w = true := by
  unfold wpX0_nearestWhole
  exact List.forall_mem_cons.mpr ⟨rfl, List.forall_mem_append.mpr ⟨gwoX0_nearestWhole, List.forall_mem_append.mpr ⟨(sp_gS gwX0_unitOf), fun _ h => absurd h List.not_mem_nil⟩⟩⟩
set_option maxRecDepth 100000 in
theorem toX0_nearestWhole : ∀ w ∈ oX0_nearestWhole, w ∈ lw_tbl := by
  unfold oX0_nearestWhole
  exact List.forall_mem_cons.mpr ⟨(List.mem_of_getElem? (i := 408) (by decide +kernel)), List.forall_mem_cons.mpr ⟨(List.mem_of_getElem? (i := 407) (by decide +kernel)), List.forall_mem_cons.mpr ⟨(List.mem_of_getElem? (i := 418) (by decide +kernel)), fun _ h => absurd h List.not_mem_nil⟩⟩⟩
set_option maxRecDepth 100000 in
theorem tX0_nearestWhole : ∀ w ∈ wpX0_nearestWhole, w ∈ lw_tbl := by
  unfold wpX0_nearestWhole
  exact List.forall_mem_cons.mpr ⟨(List.mem_of_getElem? (i := 417) (by rfl)), List.forall_mem_append.mpr ⟨toX0_nearestWhole, List.forall_mem_append.mpr ⟨(sp_tS (List.mem_of_getElem? (i := 409) (by decide +kernel)) (List.mem_of_getElem? (i := 410) (by decide +kernel)) (List.mem_of_getElem? (i := 47) (by decide +kernel)) tX0_unitOf), fun _ h => absurd h List.not_mem_nil⟩⟩⟩
theorem gX0_nearestWhole_X0_unitOf_88 : GoodIn wpX0_nearestWhole (va_wsS RX0 88 yX0_unitOf wpX0_unitOf) := fun w h => ⟨List.mem_cons_of_mem _ (List.mem_append_right _ (List.mem_append_left _ h)), good_of_word (sp_gS gwX0_unitOf w h)⟩
set_option maxHeartbeats 4000000 in
set_option maxRecDepth 100000 in
theorem c_X0_nearestWhole (l : Launch) (D : va_G) (cI cJ cZ : ClassId) (sz : Nat) (x : Int32) : Met l yX0_nearestWhole wpX0_nearestWhole ({ frames := 1, cells := 0, slots := 0, locals := 20 }) (va_Pc ([.int x] : List Value) (sp_pre D vwCl (sp_ty cI cJ cZ) [] sz)) (va_Qi (fun (r : Int32) (_ : Unit) => r = kX0_nearestWhole x) (sp_B D vwCl (va_A [] sz) (fun (_ : Unit) => [])) (va_A [] sz)) 0 0 (va_A [] sz) := by
  refine sp_ofW (Qc := fun A => va_Qi (fun (r : Int32) (_ : Unit) => r = kX0_nearestWhole x) (sp_B D vwCl A (fun (_ : Unit) => [])) A) (by decide) rfl (Nat.le_of_ble_eq_true rfl) (fun p e s m below meth c A ls H locs C0 hA hS hP hK hD hl => ?_)
  obtain ⟨hx, hb, hr, hts, hown, hlocks, hml, hin⟩ := id C0
  have hown : s.vm.findClass RX0 = some m.cls := hown
  have hl : lv_has ls 6 [(0, .int x)] := hl
  have hK : va_K D vwCl [(cI, .int), (cJ, .long), (cZ, .boolean)] s := hK
  refine lv_iload_n hx hb dX0_nearestWhole_0 rfl (lv_at hl 0 rfl) ?_
  refine lv_ldc (v := 1258291200) hx hb hown (hts (.constant RX0 87 (1258291200)) (oX0_nearestWhole_in _ (List.mem_of_getElem? (i := 0) rfl))) dX0_nearestWhole_1 ?_
  refine lv_icmp_lt (tgt := 8) hx hb dX0_nearestWhole_3 (by decide) (fun c1 => ?_) (fun c1 => ?_)
  · skip
    have c1i : (x : Int32).toInt < 1258291200 := Int32.lt_iff_toInt_lt.mp c1
    refine lv_iload_n hx hb dX0_nearestWhole_8 rfl (lv_at hl 0 rfl) ?_
    refine lv_ldc (v := 1065353216) hx hb hown (hts (.constant RX0 86 (1065353216)) (oX0_nearestWhole_in _ (List.mem_of_getElem? (i := 1) rfl))) dX0_nearestWhole_9 ?_
    refine lv_icmp_ge (tgt := 27) hx hb dX0_nearestWhole_11 (by decide) (fun c2 => ?_) (fun c2 => ?_)
    · skip
      have c2i : 1065353216 ≤ (x : Int32).toInt := Int32.le_iff_toInt_le.mp c2
      refine lv_iload_n hx hb dX0_nearestWhole_27 rfl (lv_at hl 0 rfl) ?_
      refine sp_calli (wr := []) (wc := []) hP hD hS hA [] [] rfl rfl (by decide) (by decide) (va_runS (As := [.int x]) (rest := []) ⟨hx, hb, hml, hown, hts⟩ (c_X0_unitOf l D cI cJ cZ H.size x) (va_cwS 1 hts gX0_nearestWhole_X0_unitOf_88 rfl rfl rfl (by decide +kernel) ⟨Nat.le_of_ble_eq_true rfl, Nat.le_of_ble_eq_true rfl⟩) (sp_preS [.int x] hK (hP.sub (ws' := []) [] rfl) (hD.sub (ws' := []) [] (by decide) rfl)) rfl rfl hl.1 rfl (lv_room (Nat.le_of_ble_eq_true rfl)) dX0_nearestWhole_28 ⟨Nat.le_of_ble_eq_true rfl, Nat.le_of_ble_eq_true rfl⟩) (fun r3 u4 H locs hw5 hP hD hS => ?_)
      have hq_5_0 : r3 = (kX0_unitOf x) := hw5
      subst r3
      have hP : va_P D vwCl [] H := hP
      have hD : va_D A [] := hD
      refine lv_istore_n (lv' := [(1, .int (kX0_unitOf x)), (0, .int x)]) hx hb dX0_nearestWhole_31 rfl hl (by decide) rfl (fun ls hl => ?_)
      refine lv_iload_n hx hb dX0_nearestWhole_32 rfl (lv_at hl 1 rfl) ?_
      refine lv_iload_n hx hb dX0_nearestWhole_33 rfl (lv_at hl 0 rfl) ?_
      refine lv_ineg hx hb dX0_nearestWhole_34 ?_
      refine lv_iand hx hb dX0_nearestWhole_35 ?_
      refine lv_istore_n (lv' := [(2, .int (x &&& (-(kX0_unitOf x)))), (1, .int (kX0_unitOf x)), (0, .int x)]) hx hb dX0_nearestWhole_36 rfl hl (by decide) rfl (fun ls hl => ?_)
      refine lv_iload_n hx hb dX0_nearestWhole_37 rfl (lv_at hl 2 rfl) ?_
      refine lv_iload_n hx hb dX0_nearestWhole_38 rfl (lv_at hl 0 rfl) ?_
      refine lv_isub hx hb dX0_nearestWhole_39 ?_
      refine lv_istore_n (lv' := [(3, .int (kX0_nearestWhole_s40 x)), (2, .int (x &&& (-(kX0_unitOf x)))), (1, .int (kX0_unitOf x)), (0, .int x)]) hx hb dX0_nearestWhole_40 rfl hl (by decide) rfl (fun ls hl => ?_)
      refine lv_iload_n hx hb dX0_nearestWhole_41 rfl (lv_at hl 2 rfl) ?_
      refine lv_iconst (v := 1) hx hb dX0_nearestWhole_42 (by decide) ?_
      refine lv_ishr hx hb dX0_nearestWhole_43 ?_
      refine lv_istore (lv' := [(4, .int (kX0_nearestWhole_s44 x)), (3, .int (kX0_nearestWhole_s40 x)), (2, .int (x &&& (-(kX0_unitOf x)))), (1, .int (kX0_unitOf x)), (0, .int x)]) hx hb dX0_nearestWhole_44 hl (by decide) rfl (fun ls hl => ?_)
      refine lv_iload_n hx hb dX0_nearestWhole_46 rfl (lv_at hl 1 rfl) ?_
      refine lv_iload hx hb dX0_nearestWhole_47 (lv_at hl 0 rfl) ?_
      have hj20 : ∀ (z19 : Int32) (H : Heap) (locs : List Loc) (ls : Array Slot), (z19 = kX0_nearestWhole_69_z19 x) → va_P D vwCl [] H → va_D A [] → va_S A s.heap H locs → lv_has ls 6 [(4, .int (kX0_nearestWhole_s44 x)), (3, .int (kX0_nearestWhole_s40 x)), (2, .int (x &&& (-(kX0_unitOf x)))), (1, .int (kX0_unitOf x)), (0, .int x)] → W p l e ({ frames := 1, cells := 0, slots := 0, locals := 20 }) s m (([.int x] : List Value).toArray) below meth c H locs 0 0 (MQ below (va_Qi (fun (r : Int32) (_ : Unit) => r = kX0_nearestWhole x) (sp_B D vwCl A (fun (_ : Unit) => [])) A) ([.int x] : List Value).toArray s 0 0 A) (F0 m 69 ls [.int z19]) := by
        intro z19 H locs ls hz19 hP hD hS hl
        subst z19
        refine lv_istore (lv' := [(5, .int (kX0_nearestWhole_69_z19 x)), (4, .int (kX0_nearestWhole_s44 x)), (3, .int (kX0_nearestWhole_s40 x)), (2, .int (x &&& (-(kX0_unitOf x)))), (1, .int (kX0_unitOf x)), (0, .int x)]) hx hb dX0_nearestWhole_69 hl (by decide) rfl (fun ls hl => ?_)
        refine lv_iload hx hb dX0_nearestWhole_71 (lv_at hl 0 rfl) ?_
        have hj25 : ∀ (z24 : Int32) (H : Heap) (locs : List Loc) (ls : Array Slot), (z24 = kX0_nearestWhole_83_z24 x) → va_P D vwCl [] H → va_D A [] → va_S A s.heap H locs → lv_has ls 6 [(5, .int (kX0_nearestWhole_69_z19 x)), (4, .int (kX0_nearestWhole_s44 x)), (3, .int (kX0_nearestWhole_s40 x)), (2, .int (x &&& (-(kX0_unitOf x)))), (1, .int (kX0_unitOf x)), (0, .int x)] → W p l e ({ frames := 1, cells := 0, slots := 0, locals := 20 }) s m (([.int x] : List Value).toArray) below meth c H locs 0 0 (MQ below (va_Qi (fun (r : Int32) (_ : Unit) => r = kX0_nearestWhole x) (sp_B D vwCl A (fun (_ : Unit) => [])) A) ([.int x] : List Value).toArray s 0 0 A) (F0 m 83 ls [.int z24]) := by
          intro z24 H locs ls hz24 hP hD hS hl
          subst z24
          refine W.widen (k := 0) (n := 0) (by decide) (by decide) ?_
          exact sp_iret (u := ()) hx hb hr hlocks hS (Eq.symm ((if_pos c1i).trans ((if_pos c2i).trans rfl))) (hP.sub [] rfl) (hD.sub [] (by decide) rfl) dX0_nearestWhole_83
        refine lv_if_eq (tgt := 82) hx hb dX0_nearestWhole_73 (by decide) (fun c21 => ?_) (fun c21 => ?_)
        · skip
          have c21i : ((kX0_nearestWhole_69_z19 x) : Int32).toInt = 0 := congrArg Int32.toInt c21
          refine lv_iload_n hx hb dX0_nearestWhole_82 rfl (lv_at hl 3 rfl) ?_
          exact hj25 ((x &&& (-(kX0_unitOf x)))) _ _ _ (Eq.symm ((if_pos c21i).trans rfl)) (hP.sub [] rfl) (hD.sub [] (by decide) rfl) hS (lv_sub hl [0, 1, 2, 3, 4, 5] rfl)
        · skip
          have c21i : ¬ ((kX0_nearestWhole_69_z19 x) : Int32).toInt = 0 := fun h => c21 (Int32.toInt_inj.mp h)
          refine lv_iload_n hx hb dX0_nearestWhole_76 rfl (lv_at hl 3 rfl) ?_
          refine lv_iload_n hx hb dX0_nearestWhole_77 rfl (lv_at hl 4 rfl) ?_
          refine lv_iadd hx hb dX0_nearestWhole_78 ?_
          refine lv_goto (tgt := 83) hx hb dX0_nearestWhole_79 (by decide) ?_
          exact hj25 (((x &&& (-(kX0_unitOf x))) + (kX0_unitOf x))) _ _ _ (Eq.symm ((if_neg c21i).trans rfl)) (hP.sub [] rfl) (hD.sub [] (by decide) rfl) hS (lv_sub hl [0, 1, 2, 3, 4, 5] rfl)
      refine lv_icmp_gt (tgt := 64) hx hb dX0_nearestWhole_49 (by decide) (fun c6 => ?_) (fun c6 => ?_)
      · skip
        have c6i : ((kX0_nearestWhole_s44 x) : Int32).toInt < ((kX0_nearestWhole_s40 x) : Int32).toInt := Int32.lt_iff_toInt_lt.mp c6
        refine lv_iconst (v := 1) hx hb dX0_nearestWhole_64 (by decide) ?_
        refine lv_goto (tgt := 69) hx hb dX0_nearestWhole_65 (by decide) ?_
        exact hj20 (1) _ _ _ (Eq.symm ((if_pos c6i).trans rfl)) (hP.sub [] rfl) (hD.sub [] (by decide) rfl) hS (lv_sub hl [0, 1, 2, 3, 4] rfl)
      · skip
        have c6i : ¬ ((kX0_nearestWhole_s44 x) : Int32).toInt < ((kX0_nearestWhole_s40 x) : Int32).toInt := fun h => c6 (Int32.lt_iff_toInt_lt.mpr h)
        refine lv_iload_n hx hb dX0_nearestWhole_52 rfl (lv_at hl 1 rfl) ?_
        refine lv_iload hx hb dX0_nearestWhole_53 (lv_at hl 0 rfl) ?_
        have hj17 : ∀ (z16 : Int32) (H : Heap) (locs : List Loc) (ls : Array Slot), (z16 = kX0_nearestWhole_69_z16 x) → va_P D vwCl [] H → va_D A [] → va_S A s.heap H locs → lv_has ls 6 [(4, .int (kX0_nearestWhole_s44 x)), (3, .int (kX0_nearestWhole_s40 x)), (2, .int (x &&& (-(kX0_unitOf x)))), (1, .int (kX0_unitOf x)), (0, .int x)] → W p l e ({ frames := 1, cells := 0, slots := 0, locals := 20 }) s m (([.int x] : List Value).toArray) below meth c H locs 0 0 (MQ below (va_Qi (fun (r : Int32) (_ : Unit) => r = kX0_nearestWhole x) (sp_B D vwCl A (fun (_ : Unit) => [])) A) ([.int x] : List Value).toArray s 0 0 A) (F0 m 69 ls [.int z16]) := by
          intro z16 H locs ls hz16 hP hD hS hl
          subst z16
          exact hj20 ((kX0_nearestWhole_69_z16 x)) _ _ _ (Eq.symm ((if_neg c6i).trans rfl)) (hP.sub [] rfl) (hD.sub [] (by decide) rfl) hS (lv_sub hl [0, 1, 2, 3, 4] rfl)
        refine lv_icmp_ne (tgt := 68) hx hb dX0_nearestWhole_55 (by decide) (fun c8 => ?_) (fun c8 => ?_)
        · skip
          have c8i : ¬ ((kX0_nearestWhole_s40 x) : Int32).toInt = ((kX0_nearestWhole_s44 x) : Int32).toInt := fun h => c8 (Int32.toInt_inj.mp h)
          refine lv_iconst (v := 0) hx hb dX0_nearestWhole_68 (by decide) ?_
          exact hj17 (0) _ _ _ (Eq.symm ((if_neg c8i).trans rfl)) (hP.sub [] rfl) (hD.sub [] (by decide) rfl) hS (lv_sub hl [0, 1, 2, 3, 4] rfl)
        · skip
          have c8i : ((kX0_nearestWhole_s40 x) : Int32).toInt = ((kX0_nearestWhole_s44 x) : Int32).toInt := congrArg Int32.toInt c8
          refine lv_iload_n hx hb dX0_nearestWhole_58 rfl (lv_at hl 2 rfl) ?_
          refine lv_iload_n hx hb dX0_nearestWhole_59 rfl (lv_at hl 3 rfl) ?_
          refine lv_iand hx hb dX0_nearestWhole_60 ?_
          have hj14 : ∀ (z13 : Int32) (H : Heap) (locs : List Loc) (ls : Array Slot), (z13 = kX0_nearestWhole_69_z13 x) → va_P D vwCl [] H → va_D A [] → va_S A s.heap H locs → lv_has ls 6 [(4, .int (kX0_nearestWhole_s44 x)), (3, .int (kX0_nearestWhole_s40 x)), (2, .int (x &&& (-(kX0_unitOf x)))), (1, .int (kX0_unitOf x)), (0, .int x)] → W p l e ({ frames := 1, cells := 0, slots := 0, locals := 20 }) s m (([.int x] : List Value).toArray) below meth c H locs 0 0 (MQ below (va_Qi (fun (r : Int32) (_ : Unit) => r = kX0_nearestWhole x) (sp_B D vwCl A (fun (_ : Unit) => [])) A) ([.int x] : List Value).toArray s 0 0 A) (F0 m 69 ls [.int z13]) := by
            intro z13 H locs ls hz13 hP hD hS hl
            subst z13
            exact hj17 ((kX0_nearestWhole_69_z13 x)) _ _ _ (Eq.symm ((if_pos c8i).trans rfl)) (hP.sub [] rfl) (hD.sub [] (by decide) rfl) hS (lv_sub hl [0, 1, 2, 3, 4] rfl)
          refine lv_if_eq (tgt := 68) hx hb dX0_nearestWhole_61 (by decide) (fun c10 => ?_) (fun c10 => ?_)
          · skip
            have c10i : (((x &&& (-(kX0_unitOf x))) &&& (kX0_unitOf x)) : Int32).toInt = 0 := congrArg Int32.toInt c10
            refine lv_iconst (v := 0) hx hb dX0_nearestWhole_68 (by decide) ?_
            exact hj14 (0) _ _ _ (Eq.symm ((if_pos c10i).trans rfl)) (hP.sub [] rfl) (hD.sub [] (by decide) rfl) hS (lv_sub hl [0, 1, 2, 3, 4] rfl)
          · skip
            have c10i : ¬ (((x &&& (-(kX0_unitOf x))) &&& (kX0_unitOf x)) : Int32).toInt = 0 := fun h => c10 (Int32.toInt_inj.mp h)
            refine lv_iconst (v := 1) hx hb dX0_nearestWhole_64 (by decide) ?_
            refine lv_goto (tgt := 69) hx hb dX0_nearestWhole_65 (by decide) ?_
            exact hj14 (1) _ _ _ (Eq.symm ((if_neg c10i).trans rfl)) (hP.sub [] rfl) (hD.sub [] (by decide) rfl) hS (lv_sub hl [0, 1, 2, 3, 4] rfl)
    · skip
      have c2i : ¬ 1065353216 ≤ (x : Int32).toInt := fun h => c2 (Int32.le_iff_toInt_le.mpr h)
      refine lv_iload_n hx hb dX0_nearestWhole_14 rfl (lv_at hl 0 rfl) ?_
      refine lv_ldc (v := 1056964608) hx hb hown (hts (.constant RX0 91 (1056964608)) (oX0_nearestWhole_in _ (List.mem_of_getElem? (i := 2) rfl))) dX0_nearestWhole_15 ?_
      have hj30 : ∀ (z29 : Int32) (H : Heap) (locs : List Loc) (ls : Array Slot), (z29 = kX0_nearestWhole_26_z29 x) → va_P D vwCl [] H → va_D A [] → va_S A s.heap H locs → lv_has ls 6 [(0, .int x)] → W p l e ({ frames := 1, cells := 0, slots := 0, locals := 20 }) s m (([.int x] : List Value).toArray) below meth c H locs 0 0 (MQ below (va_Qi (fun (r : Int32) (_ : Unit) => r = kX0_nearestWhole x) (sp_B D vwCl A (fun (_ : Unit) => [])) A) ([.int x] : List Value).toArray s 0 0 A) (F0 m 26 ls [.int z29]) := by
        intro z29 H locs ls hz29 hP hD hS hl
        subst z29
        refine W.widen (k := 0) (n := 0) (by decide) (by decide) ?_
        exact sp_iret (u := ()) hx hb hr hlocks hS (Eq.symm ((if_pos c1i).trans ((if_neg c2i).trans rfl))) (hP.sub [] rfl) (hD.sub [] (by decide) rfl) dX0_nearestWhole_26
      refine lv_icmp_gt (tgt := 24) hx hb dX0_nearestWhole_17 (by decide) (fun c26 => ?_) (fun c26 => ?_)
      · skip
        have c26i : 1056964608 < (x : Int32).toInt := Int32.lt_iff_toInt_lt.mp c26
        refine lv_ldc (v := 1065353216) hx hb hown (hts (.constant RX0 86 (1065353216)) (oX0_nearestWhole_in _ (List.mem_of_getElem? (i := 1) rfl))) dX0_nearestWhole_24 ?_
        exact hj30 (1065353216) _ _ _ (Eq.symm ((if_pos c26i).trans rfl)) (hP.sub [] rfl) (hD.sub [] (by decide) rfl) hS (lv_sub hl [0] rfl)
      · skip
        have c26i : ¬ 1056964608 < (x : Int32).toInt := fun h => c26 (Int32.lt_iff_toInt_lt.mpr h)
        refine lv_iconst (v := 0) hx hb dX0_nearestWhole_20 (by decide) ?_
        refine lv_goto (tgt := 26) hx hb dX0_nearestWhole_21 (by decide) ?_
        exact hj30 (0) _ _ _ (Eq.symm ((if_neg c26i).trans rfl)) (hP.sub [] rfl) (hD.sub [] (by decide) rfl) hS (lv_sub hl [0] rfl)
  · skip
    have c1i : ¬ (x : Int32).toInt < 1258291200 := fun h => c1 (Int32.lt_iff_toInt_lt.mpr h)
    refine lv_iload_n hx hb dX0_nearestWhole_6 rfl (lv_at hl 0 rfl) ?_
    refine W.widen (k := 0) (n := 0) (by decide) (by decide) ?_
    exact sp_iret (u := ()) hx hb hr hlocks hS (Eq.symm ((if_neg c1i).trans rfl)) (hP.sub [] rfl) (hD.sub [] (by decide) rfl) dX0_nearestWhole_7
def oX0_asInt : List Cond := [.constant RX0 86 (1065353216), .constant RX0 92 (1325400064)]
def wpX0_asInt : List Cond := .code yX0_asInt cX0_asInt 2 (some .int) :: (oX0_asInt ++ ((va_wsS RX0 18 yX0_cut wpX0_cut) ++ ([] : List Cond)))
theorem oX0_asInt_in : ∀ w ∈ oX0_asInt, w ∈ wpX0_asInt := fun w h => List.mem_cons_of_mem _ (List.mem_append_left _ h)
theorem gwoX0_asInt : ∀ w ∈ oX0_asInt, goodWord w = true := by decide +kernel
theorem gwX0_asInt : ∀ w ∈ wpX0_asInt, goodWord w = true := by
  unfold wpX0_asInt
  exact List.forall_mem_cons.mpr ⟨rfl, List.forall_mem_append.mpr ⟨gwoX0_asInt, List.forall_mem_append.mpr ⟨(sp_gS gwX0_cut), fun _ h => absurd h List.not_mem_nil⟩⟩⟩
set_option maxRecDepth 100000 in
theorem toX0_asInt : ∀ w ∈ oX0_asInt, w ∈ lw_tbl := by
  unfold oX0_asInt
  exact List.forall_mem_cons.mpr ⟨(List.mem_of_getElem? (i := 407) (by decide +kernel)), List.forall_mem_cons.mpr ⟨(List.mem_of_getElem? (i := 422) (by decide +kernel)), fun _ h => absurd h List.not_mem_nil⟩⟩
set_option maxRecDepth 100000 in
theorem tX0_asInt : ∀ w ∈ wpX0_asInt, w ∈ lw_tbl := by
  unfold wpX0_asInt
  exact List.forall_mem_cons.mpr ⟨(List.mem_of_getElem? (i := 421) (by rfl)), List.forall_mem_append.mpr ⟨toX0_asInt, List.forall_mem_append.mpr ⟨(sp_tS (List.mem_of_getElem? (i := 404) (by decide +kernel)) (List.mem_of_getElem? (i := 405) (by decide +kernel)) (List.mem_of_getElem? (i := 47) (by decide +kernel)) tX0_cut), fun _ h => absurd h List.not_mem_nil⟩⟩⟩
theorem gX0_asInt_X0_cut_18 : GoodIn wpX0_asInt (va_wsS RX0 18 yX0_cut wpX0_cut) := fun w h => ⟨List.mem_cons_of_mem _ (List.mem_append_right _ (List.mem_append_left _ h)), good_of_word (sp_gS gwX0_cut w h)⟩
set_option maxHeartbeats 4000000 in
set_option maxRecDepth 100000 in
theorem c_X0_asInt (l : Launch) (D : va_G) (cI cJ cZ : ClassId) (sz : Nat) (g : Int32) (x : Int32) : Met l yX0_asInt wpX0_asInt ({ frames := 2, cells := 0, slots := 0, locals := 40 }) (va_Pc ([.int g, .int x] : List Value) (sp_pre D vwCl (sp_ty cI cJ cZ) [] sz)) (va_Qi (fun (r : Int32) (_ : Unit) => r = kX0_asInt g x) (sp_B D vwCl (va_A [] sz) (fun (_ : Unit) => [])) (va_A [] sz)) 0 0 (va_A [] sz) := by
  refine sp_ofW (Qc := fun A => va_Qi (fun (r : Int32) (_ : Unit) => r = kX0_asInt g x) (sp_B D vwCl A (fun (_ : Unit) => [])) A) (by decide) rfl (Nat.le_of_ble_eq_true rfl) (fun p e s m below meth c A ls H locs C0 hA hS hP hK hD hl => ?_)
  obtain ⟨hx, hb, hr, hts, hown, hlocks, hml, hin⟩ := id C0
  have hown : s.vm.findClass RX0 = some m.cls := hown
  have hl : lv_has ls 2 [(0, .int g), (1, .int x)] := hl
  have hK : va_K D vwCl [(cI, .int), (cJ, .long), (cZ, .boolean)] s := hK
  refine lv_iload_n hx hb dX0_asInt_0 rfl (lv_at hl 1 rfl) ?_
  refine lv_ldc (v := 1065353216) hx hb hown (hts (.constant RX0 86 (1065353216)) (oX0_asInt_in _ (List.mem_of_getElem? (i := 0) rfl))) dX0_asInt_1 ?_
  refine lv_icmp_ge (tgt := 8) hx hb dX0_asInt_3 (by decide) (fun c1 => ?_) (fun c1 => ?_)
  · skip
    have c1i : 1065353216 ≤ (x : Int32).toInt := Int32.le_iff_toInt_le.mp c1
    refine lv_iload_n hx hb dX0_asInt_8 rfl (lv_at hl 0 rfl) ?_
    refine lv_iload_n hx hb dX0_asInt_9 rfl (lv_at hl 1 rfl) ?_
    refine lv_ldc (v := 1325400064) hx hb hown (hts (.constant RX0 92 (1325400064)) (oX0_asInt_in _ (List.mem_of_getElem? (i := 1) rfl))) dX0_asInt_10 ?_
    have hj9 : ∀ (z8 : Int32) (H : Heap) (locs : List Loc) (ls : Array Slot), (z8 = kX0_asInt_24_z8 g x) → va_P D vwCl [] H → va_D A [] → va_S A s.heap H locs → lv_has ls 2 [(0, .int g), (1, .int x)] → W p l e ({ frames := 2, cells := 0, slots := 0, locals := 40 }) s m (([.int g, .int x] : List Value).toArray) below meth c H locs 0 0 (MQ below (va_Qi (fun (r : Int32) (_ : Unit) => r = kX0_asInt g x) (sp_B D vwCl A (fun (_ : Unit) => [])) A) ([.int g, .int x] : List Value).toArray s 0 0 A) (F0 m 24 ls [.int z8, .int g]) := by
      intro z8 H locs ls hz8 hP hD hS hl
      subst z8
      refine lv_ior hx hb dX0_asInt_24 ?_
      refine W.widen (k := 0) (n := 0) (by decide) (by decide) ?_
      exact sp_iret (u := ()) hx hb hr hlocks hS (Eq.symm ((if_pos c1i).trans rfl)) (hP.sub [] rfl) (hD.sub [] (by decide) rfl) dX0_asInt_25
    refine lv_icmp_lt (tgt := 20) hx hb dX0_asInt_12 (by decide) (fun c2 => ?_) (fun c2 => ?_)
    · skip
      have c2i : (x : Int32).toInt < 1325400064 := Int32.lt_iff_toInt_lt.mp c2
      refine lv_iload_n hx hb dX0_asInt_20 rfl (lv_at hl 1 rfl) ?_
      refine sp_calli (wr := []) (wc := []) hP hD hS hA [] [] rfl rfl (by decide) (by decide) (va_runS (As := [.int x]) (rest := [.int g]) ⟨hx, hb, hml, hown, hts⟩ (c_X0_cut l D cI cJ cZ H.size x) (va_cwS 1 hts gX0_asInt_X0_cut_18 rfl rfl rfl (by decide +kernel) ⟨Nat.le_of_ble_eq_true rfl, Nat.le_of_ble_eq_true rfl⟩) (sp_preS [.int x] hK (hP.sub (ws' := []) [] rfl) (hD.sub (ws' := []) [] (by decide) rfl)) rfl rfl hl.1 rfl (lv_room (Nat.le_of_ble_eq_true rfl)) dX0_asInt_21 ⟨Nat.le_of_ble_eq_true rfl, Nat.le_of_ble_eq_true rfl⟩) (fun r3 u4 H locs hw5 hP hD hS => ?_)
      have hq_5_0 : r3 = (kX0_cut x) := hw5
      subst r3
      have hP : va_P D vwCl [] H := hP
      have hD : va_D A [] := hD
      exact hj9 ((kX0_cut x)) _ _ _ (Eq.symm ((if_pos c2i).trans rfl)) (hP.sub [] rfl) (hD.sub [] (by decide) rfl) hS (lv_sub hl [0, 1] rfl)
    · skip
      have c2i : ¬ (x : Int32).toInt < 1325400064 := fun h => c2 (Int32.lt_iff_toInt_lt.mpr h)
      refine lv_ldc (v := 1325400064) hx hb hown (hts (.constant RX0 92 (1325400064)) (oX0_asInt_in _ (List.mem_of_getElem? (i := 1) rfl))) dX0_asInt_15 ?_
      refine lv_goto (tgt := 24) hx hb dX0_asInt_17 (by decide) ?_
      exact hj9 (1325400064) _ _ _ (Eq.symm ((if_neg c2i).trans rfl)) (hP.sub [] rfl) (hD.sub [] (by decide) rfl) hS (lv_sub hl [0, 1] rfl)
  · skip
    have c1i : ¬ 1065353216 ≤ (x : Int32).toInt := fun h => c1 (Int32.le_iff_toInt_le.mpr h)
    refine lv_iconst (v := 0) hx hb dX0_asInt_6 (by decide) ?_
    refine W.widen (k := 0) (n := 0) (by decide) (by decide) ?_
    exact sp_iret (u := ()) hx hb hr hlocks hS (Eq.symm ((if_neg c1i).trans rfl)) (hP.sub [] rfl) (hD.sub [] (by decide) rfl) dX0_asInt_7
def oX0_sum : List Cond := [.constant RX0 17 (2147483647), .constant RX0 52 (2139095040), .methodLink RX0 56 Lib.Math.abs.name, .static Lib.Math.abs.name, .initialized "java/lang/Math", .code Lib.Math.abs.name Lib.Math.abs.code 1 (some .int), .constant RX0 16 (-2147483648), .methodLink RX0 65 Lib.MathLoose.abs_long.x, .static Lib.MathLoose.abs_long.x, .code Lib.MathLoose.abs_long.x Lib.MathLoose.abs_long.code 2 (some .long), .constant RX0 15 (2143289344)]
def wpX0_sum : List Cond := .code yX0_sum cX0_sum 12 (some .int) :: (oX0_sum ++ ((va_wsS RX0 53 yX2_exponent wpX2_exponent) ++ ((va_wsS RX0 61 yX2_significand wpX2_significand) ++ ((va_wsS RX0 68 yX2_nearest wpX2_nearest) ++ ([] : List Cond)))))
theorem oX0_sum_in : ∀ w ∈ oX0_sum, w ∈ wpX0_sum := fun w h => List.mem_cons_of_mem _ (List.mem_append_left _ h)
theorem gwoX0_sum : ∀ w ∈ oX0_sum, goodWord w = true := by decide +kernel
theorem gwX0_sum : ∀ w ∈ wpX0_sum, goodWord w = true := by
  unfold wpX0_sum
  exact List.forall_mem_cons.mpr ⟨rfl, List.forall_mem_append.mpr ⟨gwoX0_sum, List.forall_mem_append.mpr ⟨(sp_gS gwX2_exponent), List.forall_mem_append.mpr ⟨(sp_gS gwX2_significand), List.forall_mem_append.mpr ⟨(sp_gS gwX2_nearest), fun _ h => absurd h List.not_mem_nil⟩⟩⟩⟩⟩
set_option maxRecDepth 100000 in
theorem toX0_sum : ∀ w ∈ oX0_sum, w ∈ lw_tbl := by
  unfold oX0_sum
  exact List.forall_mem_cons.mpr ⟨(List.mem_of_getElem? (i := 357) (by decide +kernel)), List.forall_mem_cons.mpr ⟨(List.mem_of_getElem? (i := 358) (by decide +kernel)), List.forall_mem_cons.mpr ⟨(List.mem_of_getElem? (i := 362) (by decide +kernel)), List.forall_mem_cons.mpr ⟨(List.mem_of_getElem? (i := 363) (by decide +kernel)), List.forall_mem_cons.mpr ⟨(List.mem_of_getElem? (i := 48) (by decide +kernel)), List.forall_mem_cons.mpr ⟨(List.mem_of_getElem? (i := 364) (by rfl)), List.forall_mem_cons.mpr ⟨(List.mem_of_getElem? (i := 370) (by decide +kernel)), List.forall_mem_cons.mpr ⟨(List.mem_of_getElem? (i := 371) (by decide +kernel)), List.forall_mem_cons.mpr ⟨(List.mem_of_getElem? (i := 372) (by decide +kernel)), List.forall_mem_cons.mpr ⟨(List.mem_of_getElem? (i := 373) (by rfl)), List.forall_mem_cons.mpr ⟨(List.mem_of_getElem? (i := 353) (by decide +kernel)), fun _ h => absurd h List.not_mem_nil⟩⟩⟩⟩⟩⟩⟩⟩⟩⟩⟩
set_option maxRecDepth 100000 in
theorem tX0_sum : ∀ w ∈ wpX0_sum, w ∈ lw_tbl := by
  unfold wpX0_sum
  exact List.forall_mem_cons.mpr ⟨(List.mem_of_getElem? (i := 356) (by rfl)), List.forall_mem_append.mpr ⟨toX0_sum, List.forall_mem_append.mpr ⟨(sp_tS (List.mem_of_getElem? (i := 359) (by decide +kernel)) (List.mem_of_getElem? (i := 360) (by decide +kernel)) (List.mem_of_getElem? (i := 46) (by decide +kernel)) tX2_exponent), List.forall_mem_append.mpr ⟨(sp_tS (List.mem_of_getElem? (i := 365) (by decide +kernel)) (List.mem_of_getElem? (i := 366) (by decide +kernel)) (List.mem_of_getElem? (i := 46) (by decide +kernel)) tX2_significand), List.forall_mem_append.mpr ⟨(sp_tS (List.mem_of_getElem? (i := 374) (by decide +kernel)) (List.mem_of_getElem? (i := 375) (by decide +kernel)) (List.mem_of_getElem? (i := 46) (by decide +kernel)) tX2_nearest), fun _ h => absurd h List.not_mem_nil⟩⟩⟩⟩⟩
theorem gX0_sum_X2_exponent_53 : GoodIn wpX0_sum (va_wsS RX0 53 yX2_exponent wpX2_exponent) := fun w h => ⟨List.mem_cons_of_mem _ (List.mem_append_right _ (List.mem_append_left _ h)), good_of_word (sp_gS gwX2_exponent w h)⟩
theorem gX0_sum_X2_significand_61 : GoodIn wpX0_sum (va_wsS RX0 61 yX2_significand wpX2_significand) := fun w h => ⟨List.mem_cons_of_mem _ (List.mem_append_right _ (List.mem_append_right _ (List.mem_append_left _ h))), good_of_word (sp_gS gwX2_significand w h)⟩
theorem gX0_sum_X2_nearest_68 : GoodIn wpX0_sum (va_wsS RX0 68 yX2_nearest wpX2_nearest) := fun w h => ⟨List.mem_cons_of_mem _ (List.mem_append_right _ (List.mem_append_right _ (List.mem_append_right _ (List.mem_append_left _ h)))), good_of_word (sp_gS gwX2_nearest w h)⟩
set_option maxHeartbeats 4000000 in
set_option maxRecDepth 100000 in
theorem c_X0_sum (l : Launch) (D : va_G) (cI cJ cZ : ClassId) (sz : Nat) (x : Int32) (y : Int32) : Met l yX0_sum wpX0_sum ({ frames := 3, cells := 0, slots := 0, locals := 75 }) (va_Pc ([.int x, .int y] : List Value) (sp_pre D vwCl (sp_ty cI cJ cZ) [] sz)) (va_Qi (fun (r : Int32) (_ : Unit) => r = kX0_sum x y) (sp_B D vwCl (va_A [] sz) (fun (_ : Unit) => [])) (va_A [] sz)) 0 0 (va_A [] sz) := by
  refine sp_ofW (Qc := fun A => va_Qi (fun (r : Int32) (_ : Unit) => r = kX0_sum x y) (sp_B D vwCl A (fun (_ : Unit) => [])) A) (by decide) rfl (Nat.le_of_ble_eq_true rfl) (fun p e s m below meth c A ls H locs C0 hA hS hP hK hD hl => ?_)
  obtain ⟨hx, hb, hr, hts, hown, hlocks, hml, hin⟩ := id C0
  have hown : s.vm.findClass RX0 = some m.cls := hown
  have hl : lv_has ls 12 [(0, .int x), (1, .int y)] := hl
  have hK : va_K D vwCl [(cI, .int), (cJ, .long), (cZ, .boolean)] s := hK
  refine lv_iload_n hx hb dX0_sum_0 rfl (lv_at hl 0 rfl) ?_
  refine lv_ldc (v := 2147483647) hx hb hown (hts (.constant RX0 17 (2147483647)) (oX0_sum_in _ (List.mem_of_getElem? (i := 0) rfl))) dX0_sum_1 ?_
  refine lv_iand hx hb dX0_sum_3 ?_
  refine lv_ldc (v := 2139095040) hx hb hown (hts (.constant RX0 52 (2139095040)) (oX0_sum_in _ (List.mem_of_getElem? (i := 1) rfl))) dX0_sum_4 ?_
  refine lv_icmp_ne (tgt := 30) hx hb dX0_sum_6 (by decide) (fun c1 => ?_) (fun c1 => ?_)
  · skip
    have c1i : ¬ ((x &&& 2147483647) : Int32).toInt = 2139095040 := fun h => c1 (Int32.toInt_inj.mp h)
    refine lv_iload_n hx hb dX0_sum_30 rfl (lv_at hl 1 rfl) ?_
    refine lv_ldc (v := 2147483647) hx hb hown (hts (.constant RX0 17 (2147483647)) (oX0_sum_in _ (List.mem_of_getElem? (i := 0) rfl))) dX0_sum_31 ?_
    refine lv_iand hx hb dX0_sum_33 ?_
    refine lv_ldc (v := 2139095040) hx hb hown (hts (.constant RX0 52 (2139095040)) (oX0_sum_in _ (List.mem_of_getElem? (i := 1) rfl))) dX0_sum_34 ?_
    refine lv_icmp_ne (tgt := 41) hx hb dX0_sum_36 (by decide) (fun c2 => ?_) (fun c2 => ?_)
    · skip
      have c2i : ¬ ((y &&& 2147483647) : Int32).toInt = 2139095040 := fun h => c2 (Int32.toInt_inj.mp h)
      refine lv_iload_n hx hb dX0_sum_41 rfl (lv_at hl 0 rfl) ?_
      refine sp_calli (wr := []) (wc := []) hP hD hS hA [] [] rfl rfl (by decide) (by decide) (va_runS (As := [.int x]) (rest := []) ⟨hx, hb, hml, hown, hts⟩ (c_X2_exponent l D cI cJ cZ H.size x) (va_cwS 1 hts gX0_sum_X2_exponent_53 rfl rfl rfl (by decide +kernel) ⟨Nat.le_of_ble_eq_true rfl, Nat.le_of_ble_eq_true rfl⟩) (sp_preS [.int x] hK (hP.sub (ws' := []) [] rfl) (hD.sub (ws' := []) [] (by decide) rfl)) rfl rfl hl.1 rfl (lv_room (Nat.le_of_ble_eq_true rfl)) dX0_sum_42 ⟨Nat.le_of_ble_eq_true rfl, Nat.le_of_ble_eq_true rfl⟩) (fun r3 u4 H locs hw5 hP hD hS => ?_)
      have hq_5_0 : r3 = (kX2_exponent x) := hw5
      subst r3
      have hP : va_P D vwCl [] H := hP
      have hD : va_D A [] := hD
      refine lv_iload_n hx hb dX0_sum_45 rfl (lv_at hl 1 rfl) ?_
      refine sp_calli (wr := []) (wc := []) hP hD hS hA [] [] rfl rfl (by decide) (by decide) (va_runS (As := [.int y]) (rest := [.int (kX2_exponent x)]) ⟨hx, hb, hml, hown, hts⟩ (c_X2_exponent l D cI cJ cZ H.size y) (va_cwS 1 hts gX0_sum_X2_exponent_53 rfl rfl rfl (by decide +kernel) ⟨Nat.le_of_ble_eq_true rfl, Nat.le_of_ble_eq_true rfl⟩) (sp_preS [.int y] hK (hP.sub (ws' := []) [] rfl) (hD.sub (ws' := []) [] (by decide) rfl)) rfl rfl hl.1 rfl (lv_room (Nat.le_of_ble_eq_true rfl)) dX0_sum_46 ⟨Nat.le_of_ble_eq_true rfl, Nat.le_of_ble_eq_true rfl⟩) (fun r6 u7 H locs hw8 hP hD hS => ?_)
      have hq_8_0 : r6 = (kX2_exponent y) := hw8
      subst r6
      have hP : va_P D vwCl [] H := hP
      have hD : va_D A [] := hD
      refine lv_isub hx hb dX0_sum_49 ?_
      refine lv_istore_n (lv' := [(2, .int (kX0_sum_s50 x y)), (0, .int x), (1, .int y)]) hx hb dX0_sum_50 rfl hl (by decide) rfl (fun ls hl => ?_)
      refine lv_iload_n hx hb dX0_sum_51 rfl (lv_at hl 0 rfl) ?_
      have hj13 : ∀ (z12 : Int32) (H : Heap) (locs : List Loc) (ls : Array Slot), (z12 = kX0_sum_60_z12 x y) → va_P D vwCl [] H → va_D A [] → va_S A s.heap H locs → lv_has ls 12 [(2, .int (kX0_sum_s50 x y)), (0, .int x), (1, .int y)] → W p l e ({ frames := 3, cells := 0, slots := 0, locals := 75 }) s m (([.int x, .int y] : List Value).toArray) below meth c H locs 0 0 (MQ below (va_Qi (fun (r : Int32) (_ : Unit) => r = kX0_sum x y) (sp_B D vwCl A (fun (_ : Unit) => [])) A) ([.int x, .int y] : List Value).toArray s 0 0 A) (F0 m 60 ls [.int z12]) := by
        intro z12 H locs ls hz12 hP hD hS hl
        subst z12
        refine lv_istore_n (lv' := [(3, .int (kX0_sum_60_z12 x y)), (2, .int (kX0_sum_s50 x y)), (0, .int x), (1, .int y)]) hx hb dX0_sum_60 rfl hl (by decide) rfl (fun ls hl => ?_)
        refine lv_iload_n hx hb dX0_sum_61 rfl (lv_at hl 1 rfl) ?_
        have hj18 : ∀ (z17 : Int32) (H : Heap) (locs : List Loc) (ls : Array Slot), (z17 = kX0_sum_70_z17 x y) → va_P D vwCl [] H → va_D A [] → va_S A s.heap H locs → lv_has ls 12 [(3, .int (kX0_sum_60_z12 x y)), (2, .int (kX0_sum_s50 x y)), (0, .int x), (1, .int y)] → W p l e ({ frames := 3, cells := 0, slots := 0, locals := 75 }) s m (([.int x, .int y] : List Value).toArray) below meth c H locs 0 0 (MQ below (va_Qi (fun (r : Int32) (_ : Unit) => r = kX0_sum x y) (sp_B D vwCl A (fun (_ : Unit) => [])) A) ([.int x, .int y] : List Value).toArray s 0 0 A) (F0 m 70 ls [.int z17]) := by
          intro z17 H locs ls hz17 hP hD hS hl
          subst z17
          refine lv_istore (lv' := [(4, .int (kX0_sum_70_z17 x y)), (3, .int (kX0_sum_60_z12 x y)), (2, .int (kX0_sum_s50 x y)), (0, .int x), (1, .int y)]) hx hb dX0_sum_70 hl (by decide) rfl (fun ls hl => ?_)
          refine lv_iload_n hx hb dX0_sum_72 rfl (lv_at hl 2 rfl) ?_
          refine va_mabs hx hb (by rw [hml]; exact hl.1.symm) hown (hts (.methodLink RX0 56 Lib.Math.abs.name) (oX0_sum_in _ (List.mem_of_getElem? (i := 2) rfl))) (hts (.static Lib.Math.abs.name) (oX0_sum_in _ (List.mem_of_getElem? (i := 3) rfl))) (hts (.initialized "java/lang/Math") (oX0_sum_in _ (List.mem_of_getElem? (i := 4) rfl))) (hts (.code Lib.Math.abs.name Lib.Math.abs.code 1 (some .int)) (oX0_sum_in _ (List.mem_of_getElem? (i := 5) rfl))) (Nat.le_of_ble_eq_true rfl) (Nat.le_of_ble_eq_true rfl) (Nat.le_of_ble_eq_true rfl) (Nat.le_of_ble_eq_true rfl) dX0_sum_73 ?_
          refine W.eq (g2 := F0 m 76 ls [.int (kabs ((kX0_sum_s50 x y)))]) rfl ?_
          refine lv_istore (lv' := [(5, .int (kabs ((kX0_sum_s50 x y)))), (4, .int (kX0_sum_70_z17 x y)), (3, .int (kX0_sum_60_z12 x y)), (2, .int (kX0_sum_s50 x y)), (0, .int x), (1, .int y)]) hx hb dX0_sum_76 hl (by decide) rfl (fun ls hl => ?_)
          refine lv_iload hx hb dX0_sum_78 (lv_at hl 0 rfl) ?_
          refine lv_bipush (v := 30) hx hb dX0_sum_80 (by decide) ?_
          refine lv_icmp_le (tgt := 87) hx hb dX0_sum_82 (by decide) (fun c19 => ?_) (fun c19 => ?_)
          · skip
            have c19i : ((kabs ((kX0_sum_s50 x y))) : Int32).toInt ≤ 30 := Int32.le_iff_toInt_le.mp c19
            refine lv_iload_n hx hb dX0_sum_87 rfl (lv_at hl 2 rfl) ?_
            refine sp_callj (wr := []) (wc := []) hP hD hS hA [] [] rfl rfl (by decide) (by decide) (va_runS (As := [.int (kX0_sum_60_z12 x y)]) (rest := []) ⟨hx, hb, hml, hown, hts⟩ (c_X2_significand l D cI cJ cZ H.size (kX0_sum_60_z12 x y)) (va_cwS 1 hts gX0_sum_X2_significand_61 rfl rfl rfl (by decide +kernel) ⟨Nat.le_of_ble_eq_true rfl, Nat.le_of_ble_eq_true rfl⟩) (sp_preS [.int (kX0_sum_60_z12 x y)] hK (hP.sub (ws' := []) [] rfl) (hD.sub (ws' := []) [] (by decide) rfl)) rfl rfl hl.1 rfl (lv_room (Nat.le_of_ble_eq_true rfl)) dX0_sum_88 ⟨Nat.le_of_ble_eq_true rfl, Nat.le_of_ble_eq_true rfl⟩) (fun r20 u21 H locs hw22 hP hD hS => ?_)
            have hq_22_0 : r20 = (kX2_significand (kX0_sum_60_z12 x y)) := hw22
            subst r20
            have hP : va_P D vwCl [] H := hP
            have hD : va_D A [] := hD
            refine lv_iload hx hb dX0_sum_91 (lv_at hl 0 rfl) ?_
            refine lv_lshl (v := _) hx hb dX0_sum_93 rfl ?_
            refine lv_lstore (lv' := [(6, .long (kX0_sum_s94 x y)), (5, .int (kabs ((kX0_sum_s50 x y)))), (4, .int (kX0_sum_70_z17 x y)), (3, .int (kX0_sum_60_z12 x y)), (2, .int (kX0_sum_s50 x y)), (0, .int x), (1, .int y)]) hx hb dX0_sum_94 hl (by decide) rfl (fun ls hl => ?_)
            refine lv_iload hx hb dX0_sum_96 (lv_at hl 2 rfl) ?_
            refine sp_callj (wr := []) (wc := []) hP hD hS hA [] [] rfl rfl (by decide) (by decide) (va_runS (As := [.int (kX0_sum_70_z17 x y)]) (rest := []) ⟨hx, hb, hml, hown, hts⟩ (c_X2_significand l D cI cJ cZ H.size (kX0_sum_70_z17 x y)) (va_cwS 1 hts gX0_sum_X2_significand_61 rfl rfl rfl (by decide +kernel) ⟨Nat.le_of_ble_eq_true rfl, Nat.le_of_ble_eq_true rfl⟩) (sp_preS [.int (kX0_sum_70_z17 x y)] hK (hP.sub (ws' := []) [] rfl) (hD.sub (ws' := []) [] (by decide) rfl)) rfl rfl hl.1 rfl (lv_room (Nat.le_of_ble_eq_true rfl)) dX0_sum_98 ⟨Nat.le_of_ble_eq_true rfl, Nat.le_of_ble_eq_true rfl⟩) (fun r23 u24 H locs hw25 hP hD hS => ?_)
            have hq_25_0 : r23 = (kX2_significand (kX0_sum_70_z17 x y)) := hw25
            subst r23
            have hP : va_P D vwCl [] H := hP
            have hD : va_D A [] := hD
            refine lv_lstore (lv' := [(8, .long (kX0_sum_s101 x y)), (6, .long (kX0_sum_s94 x y)), (5, .int (kabs ((kX0_sum_s50 x y)))), (4, .int (kX0_sum_70_z17 x y)), (3, .int (kX0_sum_60_z12 x y)), (2, .int (kX0_sum_s50 x y)), (0, .int x), (1, .int y)]) hx hb dX0_sum_101 hl (by decide) rfl (fun ls hl => ?_)
            refine lv_iload_n hx hb dX0_sum_103 rfl (lv_at hl 4 rfl) ?_
            have hj30 : ∀ (z29 : Int64) (H : Heap) (locs : List Loc) (ls : Array Slot), (z29 = kX0_sum_115_z29 x y) → va_P D vwCl [] H → va_D A [] → va_S A s.heap H locs → lv_has ls 12 [(8, .long (kX0_sum_s101 x y)), (6, .long (kX0_sum_s94 x y)), (5, .int (kabs ((kX0_sum_s50 x y)))), (4, .int (kX0_sum_70_z17 x y)), (3, .int (kX0_sum_60_z12 x y)), (2, .int (kX0_sum_s50 x y)), (0, .int x), (1, .int y)] → W p l e ({ frames := 3, cells := 0, slots := 0, locals := 75 }) s m (([.int x, .int y] : List Value).toArray) below meth c H locs 0 0 (MQ below (va_Qi (fun (r : Int32) (_ : Unit) => r = kX0_sum x y) (sp_B D vwCl A (fun (_ : Unit) => [])) A) ([.int x, .int y] : List Value).toArray s 0 0 A) (F0 m 115 ls [.long z29]) := by
              intro z29 H locs ls hz29 hP hD hS hl
              subst z29
              refine lv_iload hx hb dX0_sum_115 (lv_at hl 3 rfl) ?_
              have hj35 : ∀ (z34 : Int64) (H : Heap) (locs : List Loc) (ls : Array Slot), (z34 = kX0_sum_128_z34 x y) → va_P D vwCl [] H → va_D A [] → va_S A s.heap H locs → lv_has ls 12 [(8, .long (kX0_sum_s101 x y)), (6, .long (kX0_sum_s94 x y)), (5, .int (kabs ((kX0_sum_s50 x y)))), (4, .int (kX0_sum_70_z17 x y)), (3, .int (kX0_sum_60_z12 x y)), (2, .int (kX0_sum_s50 x y)), (0, .int x), (1, .int y)] → W p l e ({ frames := 3, cells := 0, slots := 0, locals := 75 }) s m (([.int x, .int y] : List Value).toArray) below meth c H locs 0 0 (MQ below (va_Qi (fun (r : Int32) (_ : Unit) => r = kX0_sum x y) (sp_B D vwCl A (fun (_ : Unit) => [])) A) ([.int x, .int y] : List Value).toArray s 0 0 A) (F0 m 128 ls [.long z34, .long (kX0_sum_115_z29 x y)]) := by
                intro z34 H locs ls hz34 hP hD hS hl
                subst z34
                refine lv_ladd hx hb dX0_sum_128 ?_
                refine lv_lstore (lv' := [(10, .long (kX0_sum_s129 x y)), (8, .long (kX0_sum_s101 x y)), (6, .long (kX0_sum_s94 x y)), (5, .int (kabs ((kX0_sum_s50 x y)))), (4, .int (kX0_sum_70_z17 x y)), (3, .int (kX0_sum_60_z12 x y)), (2, .int (kX0_sum_s50 x y)), (0, .int x), (1, .int y)]) hx hb dX0_sum_129 hl (by decide) rfl (fun ls hl => ?_)
                refine lv_lload hx hb dX0_sum_131 (lv_at hl 0 rfl) ?_
                refine lv_lconst (v := 0) hx hb dX0_sum_133 (by decide) ?_
                refine W.lcmp hx hb dX0_sum_134 ?_
                refine lv_if_ne (tgt := 145) hx hb dX0_sum_135 (by decide) (fun c36 => ?_) (fun c36 => ?_)
                · skip
                  have c36 := fun h => c36 ((lg_cmp_eq _ _).mpr h)
                  have c36i : ¬ ((kX0_sum_s129 x y) : Int64).toInt = 0 := fun h => c36 (Int64.toInt_inj.mp h)
                  refine lv_lload hx hb dX0_sum_145 (lv_at hl 0 rfl) ?_
                  refine lv_lconst (v := 0) hx hb dX0_sum_147 (by decide) ?_
                  refine W.lcmp hx hb dX0_sum_148 ?_
                  have hj41 : ∀ (z40 : Int32) (H : Heap) (locs : List Loc) (ls : Array Slot), (z40 = kX0_sum_158_z40 x y) → va_P D vwCl [] H → va_D A [] → va_S A s.heap H locs → lv_has ls 12 [(10, .long (kX0_sum_s129 x y)), (8, .long (kX0_sum_s101 x y)), (6, .long (kX0_sum_s94 x y)), (5, .int (kabs ((kX0_sum_s50 x y)))), (4, .int (kX0_sum_70_z17 x y)), (3, .int (kX0_sum_60_z12 x y)), (2, .int (kX0_sum_s50 x y)), (0, .int x), (1, .int y)] → W p l e ({ frames := 3, cells := 0, slots := 0, locals := 75 }) s m (([.int x, .int y] : List Value).toArray) below meth c H locs 0 0 (MQ below (va_Qi (fun (r : Int32) (_ : Unit) => r = kX0_sum x y) (sp_B D vwCl A (fun (_ : Unit) => [])) A) ([.int x, .int y] : List Value).toArray s 0 0 A) (F0 m 158 ls [.int z40]) := by
                    intro z40 H locs ls hz40 hP hD hS hl
                    subst z40
                    refine lv_lload hx hb dX0_sum_158 (lv_at hl 0 rfl) ?_
                    refine va_mabs_long hx hb (by rw [hml]; exact hl.1.symm) hown (hts (.methodLink RX0 65 Lib.MathLoose.abs_long.x) (oX0_sum_in _ (List.mem_of_getElem? (i := 7) rfl))) (hts (.static Lib.MathLoose.abs_long.x) (oX0_sum_in _ (List.mem_of_getElem? (i := 8) rfl))) (hts (.initialized "java/lang/Math") (oX0_sum_in _ (List.mem_of_getElem? (i := 4) rfl))) (hts (.code Lib.MathLoose.abs_long.x Lib.MathLoose.abs_long.code 2 (some .long)) (oX0_sum_in _ (List.mem_of_getElem? (i := 9) rfl))) (Nat.le_of_ble_eq_true rfl) (Nat.le_of_ble_eq_true rfl) (Nat.le_of_ble_eq_true rfl) (Nat.le_of_ble_eq_true rfl) dX0_sum_160 ?_
                    refine W.eq (g2 := F0 m 163 ls [.long (kabsl ((kX0_sum_s129 x y))), .int (kX0_sum_158_z40 x y)]) rfl ?_
                    refine lv_iload hx hb dX0_sum_163 (lv_at hl 4 rfl) ?_
                    refine sp_calli (wr := []) (wc := []) hP hD hS hA [] [] rfl rfl (by decide) (by decide) (va_runS (As := [.int (kX0_sum_70_z17 x y)]) (rest := [.long (kabsl ((kX0_sum_s129 x y))), .int (kX0_sum_158_z40 x y)]) ⟨hx, hb, hml, hown, hts⟩ (c_X2_exponent l D cI cJ cZ H.size (kX0_sum_70_z17 x y)) (va_cwS 1 hts gX0_sum_X2_exponent_53 rfl rfl rfl (by decide +kernel) ⟨Nat.le_of_ble_eq_true rfl, Nat.le_of_ble_eq_true rfl⟩) (sp_preS [.int (kX0_sum_70_z17 x y)] hK (hP.sub (ws' := []) [] rfl) (hD.sub (ws' := []) [] (by decide) rfl)) rfl rfl hl.1 rfl (lv_room (Nat.le_of_ble_eq_true rfl)) dX0_sum_165 ⟨Nat.le_of_ble_eq_true rfl, Nat.le_of_ble_eq_true rfl⟩) (fun r42 u43 H locs hw44 hP hD hS => ?_)
                    have hq_44_0 : r42 = (kX2_exponent (kX0_sum_70_z17 x y)) := hw44
                    subst r42
                    have hP : va_P D vwCl [] H := hP
                    have hD : va_D A [] := hD
                    refine sp_calli (wr := []) (wc := []) hP hD hS hA [] [] rfl rfl (by decide) (by decide) (va_runS (As := [.int (kX0_sum_158_z40 x y), .long (kabsl ((kX0_sum_s129 x y))), .int (kX2_exponent (kX0_sum_70_z17 x y))]) (rest := []) ⟨hx, hb, hml, hown, hts⟩ (c_X2_nearest l D cI cJ cZ H.size (kX0_sum_158_z40 x y) (kabsl ((kX0_sum_s129 x y))) (kX2_exponent (kX0_sum_70_z17 x y))) (va_cwS 3 hts gX0_sum_X2_nearest_68 rfl rfl rfl (by decide +kernel) ⟨Nat.le_of_ble_eq_true rfl, Nat.le_of_ble_eq_true rfl⟩) (sp_preS [.int (kX0_sum_158_z40 x y), .long (kabsl ((kX0_sum_s129 x y))), .int (kX2_exponent (kX0_sum_70_z17 x y))] hK (hP.sub (ws' := []) [] rfl) (hD.sub (ws' := []) [] (by decide) rfl)) rfl rfl hl.1 rfl (lv_room (Nat.le_of_ble_eq_true rfl)) dX0_sum_168 ⟨Nat.le_of_ble_eq_true rfl, Nat.le_of_ble_eq_true rfl⟩) (fun r45 u46 H locs hw47 hP hD hS => ?_)
                    have hq_47_0 : r45 = (kX2_nearest (kX0_sum_158_z40 x y) (kabsl ((kX0_sum_s129 x y))) (kX2_exponent (kX0_sum_70_z17 x y))) := hw47
                    subst r45
                    have hP : va_P D vwCl [] H := hP
                    have hD : va_D A [] := hD
                    refine W.widen (k := 0) (n := 0) (by decide) (by decide) ?_
                    exact sp_iret (u := ()) hx hb hr hlocks hS (Eq.symm ((if_neg c1i).trans ((if_neg c2i).trans ((if_pos c19i).trans ((if_neg c36i).trans rfl))))) (hP.sub [] rfl) (hD.sub [] (by decide) rfl) dX0_sum_171
                  refine lv_if_ge (tgt := 157) hx hb dX0_sum_149 (by decide) (fun c37 => ?_) (fun c37 => ?_)
                  · skip
                    have c37 := (lg_cmp_ge _ _).mp c37
                    have c37i : 0 ≤ ((kX0_sum_s129 x y) : Int64).toInt := Int64.le_iff_toInt_le.mp c37
                    refine lv_iconst (v := 0) hx hb dX0_sum_157 (by decide) ?_
                    exact hj41 (0) _ _ _ (Eq.symm ((if_pos c37i).trans rfl)) (hP.sub [] rfl) (hD.sub [] (by decide) rfl) hS (lv_sub hl [0, 1, 2, 3, 4, 5, 6, 7, 8] rfl)
                  · skip
                    have c37 := fun h => c37 ((lg_cmp_ge _ _).mpr h)
                    have c37i : ¬ 0 ≤ ((kX0_sum_s129 x y) : Int64).toInt := fun h => c37 (Int64.le_iff_toInt_le.mpr h)
                    refine lv_ldc (v := (-2147483648)) hx hb hown (hts (.constant RX0 16 (-2147483648)) (oX0_sum_in _ (List.mem_of_getElem? (i := 6) rfl))) dX0_sum_152 ?_
                    refine lv_goto (tgt := 158) hx hb dX0_sum_154 (by decide) ?_
                    exact hj41 ((-2147483648)) _ _ _ (Eq.symm ((if_neg c37i).trans rfl)) (hP.sub [] rfl) (hD.sub [] (by decide) rfl) hS (lv_sub hl [0, 1, 2, 3, 4, 5, 6, 7, 8] rfl)
                · skip
                  have c36 := (lg_cmp_eq _ _).mp c36
                  have c36i : ((kX0_sum_s129 x y) : Int64).toInt = 0 := congrArg Int64.toInt c36
                  refine lv_iload_n hx hb dX0_sum_138 rfl (lv_at hl 7 rfl) ?_
                  refine lv_iload_n hx hb dX0_sum_139 rfl (lv_at hl 8 rfl) ?_
                  refine lv_iand hx hb dX0_sum_140 ?_
                  refine lv_ldc (v := (-2147483648)) hx hb hown (hts (.constant RX0 16 (-2147483648)) (oX0_sum_in _ (List.mem_of_getElem? (i := 6) rfl))) dX0_sum_141 ?_
                  refine lv_iand hx hb dX0_sum_143 ?_
                  refine W.widen (k := 0) (n := 0) (by decide) (by decide) ?_
                  exact sp_iret (u := ()) hx hb hr hlocks hS (Eq.symm ((if_neg c1i).trans ((if_neg c2i).trans ((if_pos c19i).trans ((if_pos c36i).trans rfl))))) (hP.sub [] rfl) (hD.sub [] (by decide) rfl) dX0_sum_144
              refine lv_if_ge (tgt := 126) hx hb dX0_sum_117 (by decide) (fun c31 => ?_) (fun c31 => ?_)
              · skip
                have c31i : 0 ≤ ((kX0_sum_70_z17 x y) : Int32).toInt := Int32.le_iff_toInt_le.mp c31
                refine lv_lload hx hb dX0_sum_126 (lv_at hl 0 rfl) ?_
                exact hj35 ((kX0_sum_s101 x y)) _ _ _ (Eq.symm ((if_pos c31i).trans rfl)) (hP.sub [] rfl) (hD.sub [] (by decide) rfl) hS (lv_sub hl [0, 1, 2, 3, 4, 5, 6, 7] rfl)
              · skip
                have c31i : ¬ 0 ≤ ((kX0_sum_70_z17 x y) : Int32).toInt := fun h => c31 (Int32.le_iff_toInt_le.mpr h)
                refine lv_lload hx hb dX0_sum_120 (lv_at hl 0 rfl) ?_
                refine lv_lneg hx hb dX0_sum_122 ?_
                refine lv_goto (tgt := 128) hx hb dX0_sum_123 (by decide) ?_
                exact hj35 ((-(kX0_sum_s101 x y))) _ _ _ (Eq.symm ((if_neg c31i).trans rfl)) (hP.sub [] rfl) (hD.sub [] (by decide) rfl) hS (lv_sub hl [0, 1, 2, 3, 4, 5, 6, 7] rfl)
            refine lv_if_ge (tgt := 113) hx hb dX0_sum_104 (by decide) (fun c26 => ?_) (fun c26 => ?_)
            · skip
              have c26i : 0 ≤ ((kX0_sum_60_z12 x y) : Int32).toInt := Int32.le_iff_toInt_le.mp c26
              refine lv_lload hx hb dX0_sum_113 (lv_at hl 1 rfl) ?_
              exact hj30 ((kX0_sum_s94 x y)) _ _ _ (Eq.symm ((if_pos c26i).trans rfl)) (hP.sub [] rfl) (hD.sub [] (by decide) rfl) hS (lv_sub hl [0, 1, 2, 3, 4, 5, 6, 7] rfl)
            · skip
              have c26i : ¬ 0 ≤ ((kX0_sum_60_z12 x y) : Int32).toInt := fun h => c26 (Int32.le_iff_toInt_le.mpr h)
              refine lv_lload hx hb dX0_sum_107 (lv_at hl 1 rfl) ?_
              refine lv_lneg hx hb dX0_sum_109 ?_
              refine lv_goto (tgt := 115) hx hb dX0_sum_110 (by decide) ?_
              exact hj30 ((-(kX0_sum_s94 x y))) _ _ _ (Eq.symm ((if_neg c26i).trans rfl)) (hP.sub [] rfl) (hD.sub [] (by decide) rfl) hS (lv_sub hl [0, 1, 2, 3, 4, 5, 6, 7] rfl)
          · skip
            have c19i : ¬ ((kabs ((kX0_sum_s50 x y))) : Int32).toInt ≤ 30 := fun h => c19 (Int32.le_iff_toInt_le.mpr h)
            refine lv_iload_n hx hb dX0_sum_85 rfl (lv_at hl 2 rfl) ?_
            refine W.widen (k := 0) (n := 0) (by decide) (by decide) ?_
            exact sp_iret (u := ()) hx hb hr hlocks hS (Eq.symm ((if_neg c1i).trans ((if_neg c2i).trans ((if_neg c19i).trans rfl)))) (hP.sub [] rfl) (hD.sub [] (by decide) rfl) dX0_sum_86
        refine lv_if_lt (tgt := 69) hx hb dX0_sum_62 (by decide) (fun c14 => ?_) (fun c14 => ?_)
        · skip
          have c14i : ((kX0_sum_s50 x y) : Int32).toInt < 0 := Int32.lt_iff_toInt_lt.mp c14
          refine lv_iload_n hx hb dX0_sum_69 rfl (lv_at hl 2 rfl) ?_
          exact hj18 (x) _ _ _ (Eq.symm ((if_pos c14i).trans rfl)) (hP.sub [] rfl) (hD.sub [] (by decide) rfl) hS (lv_sub hl [0, 1, 2, 3] rfl)
        · skip
          have c14i : ¬ ((kX0_sum_s50 x y) : Int32).toInt < 0 := fun h => c14 (Int32.lt_iff_toInt_lt.mpr h)
          refine lv_iload_n hx hb dX0_sum_65 rfl (lv_at hl 3 rfl) ?_
          refine lv_goto (tgt := 70) hx hb dX0_sum_66 (by decide) ?_
          exact hj18 (y) _ _ _ (Eq.symm ((if_neg c14i).trans rfl)) (hP.sub [] rfl) (hD.sub [] (by decide) rfl) hS (lv_sub hl [0, 1, 2, 3] rfl)
      refine lv_if_lt (tgt := 59) hx hb dX0_sum_52 (by decide) (fun c9 => ?_) (fun c9 => ?_)
      · skip
        have c9i : ((kX0_sum_s50 x y) : Int32).toInt < 0 := Int32.lt_iff_toInt_lt.mp c9
        refine lv_iload_n hx hb dX0_sum_59 rfl (lv_at hl 2 rfl) ?_
        exact hj13 (y) _ _ _ (Eq.symm ((if_pos c9i).trans rfl)) (hP.sub [] rfl) (hD.sub [] (by decide) rfl) hS (lv_sub hl [0, 1, 2] rfl)
      · skip
        have c9i : ¬ ((kX0_sum_s50 x y) : Int32).toInt < 0 := fun h => c9 (Int32.lt_iff_toInt_lt.mpr h)
        refine lv_iload_n hx hb dX0_sum_55 rfl (lv_at hl 1 rfl) ?_
        refine lv_goto (tgt := 60) hx hb dX0_sum_56 (by decide) ?_
        exact hj13 (x) _ _ _ (Eq.symm ((if_neg c9i).trans rfl)) (hP.sub [] rfl) (hD.sub [] (by decide) rfl) hS (lv_sub hl [0, 1, 2] rfl)
    · skip
      have c2i : ((y &&& 2147483647) : Int32).toInt = 2139095040 := congrArg Int32.toInt c2
      refine lv_iload_n hx hb dX0_sum_39 rfl (lv_at hl 1 rfl) ?_
      refine W.widen (k := 0) (n := 0) (by decide) (by decide) ?_
      exact sp_iret (u := ()) hx hb hr hlocks hS (Eq.symm ((if_neg c1i).trans ((if_pos c2i).trans rfl))) (hP.sub [] rfl) (hD.sub [] (by decide) rfl) dX0_sum_40
  · skip
    have c1i : ((x &&& 2147483647) : Int32).toInt = 2139095040 := congrArg Int32.toInt c1
    refine lv_iload_n hx hb dX0_sum_9 rfl (lv_at hl 1 rfl) ?_
    refine lv_ldc (v := 2147483647) hx hb hown (hts (.constant RX0 17 (2147483647)) (oX0_sum_in _ (List.mem_of_getElem? (i := 0) rfl))) dX0_sum_10 ?_
    refine lv_iand hx hb dX0_sum_12 ?_
    refine lv_ldc (v := 2139095040) hx hb hown (hts (.constant RX0 52 (2139095040)) (oX0_sum_in _ (List.mem_of_getElem? (i := 1) rfl))) dX0_sum_13 ?_
    have hj57 : ∀ (z56 : Int32) (H : Heap) (locs : List Loc) (ls : Array Slot), (z56 = kX0_sum_29_z56 x y) → va_P D vwCl [] H → va_D A [] → va_S A s.heap H locs → lv_has ls 12 [(0, .int x), (1, .int y)] → W p l e ({ frames := 3, cells := 0, slots := 0, locals := 75 }) s m (([.int x, .int y] : List Value).toArray) below meth c H locs 0 0 (MQ below (va_Qi (fun (r : Int32) (_ : Unit) => r = kX0_sum x y) (sp_B D vwCl A (fun (_ : Unit) => [])) A) ([.int x, .int y] : List Value).toArray s 0 0 A) (F0 m 29 ls [.int z56]) := by
      intro z56 H locs ls hz56 hP hD hS hl
      subst z56
      refine W.widen (k := 0) (n := 0) (by decide) (by decide) ?_
      exact sp_iret (u := ()) hx hb hr hlocks hS (Eq.symm ((if_pos c1i).trans rfl)) (hP.sub [] rfl) (hD.sub [] (by decide) rfl) dX0_sum_29
    refine lv_icmp_ne (tgt := 28) hx hb dX0_sum_15 (by decide) (fun c48 => ?_) (fun c48 => ?_)
    · skip
      have c48i : ¬ ((y &&& 2147483647) : Int32).toInt = 2139095040 := fun h => c48 (Int32.toInt_inj.mp h)
      refine lv_iload_n hx hb dX0_sum_28 rfl (lv_at hl 0 rfl) ?_
      exact hj57 (x) _ _ _ (Eq.symm ((if_neg c48i).trans rfl)) (hP.sub [] rfl) (hD.sub [] (by decide) rfl) hS (lv_sub hl [0, 1] rfl)
    · skip
      have c48i : ((y &&& 2147483647) : Int32).toInt = 2139095040 := congrArg Int32.toInt c48
      refine lv_iload_n hx hb dX0_sum_18 rfl (lv_at hl 0 rfl) ?_
      refine lv_iload_n hx hb dX0_sum_19 rfl (lv_at hl 1 rfl) ?_
      have hj54 : ∀ (z53 : Int32) (H : Heap) (locs : List Loc) (ls : Array Slot), (z53 = kX0_sum_29_z53 x y) → va_P D vwCl [] H → va_D A [] → va_S A s.heap H locs → lv_has ls 12 [(0, .int x), (1, .int y)] → W p l e ({ frames := 3, cells := 0, slots := 0, locals := 75 }) s m (([.int x, .int y] : List Value).toArray) below meth c H locs 0 0 (MQ below (va_Qi (fun (r : Int32) (_ : Unit) => r = kX0_sum x y) (sp_B D vwCl A (fun (_ : Unit) => [])) A) ([.int x, .int y] : List Value).toArray s 0 0 A) (F0 m 29 ls [.int z53]) := by
        intro z53 H locs ls hz53 hP hD hS hl
        subst z53
        exact hj57 ((kX0_sum_29_z53 x y)) _ _ _ (Eq.symm ((if_pos c48i).trans rfl)) (hP.sub [] rfl) (hD.sub [] (by decide) rfl) hS (lv_sub hl [0, 1] rfl)
      refine lv_icmp_eq (tgt := 28) hx hb dX0_sum_20 (by decide) (fun c50 => ?_) (fun c50 => ?_)
      · skip
        have c50i : (x : Int32).toInt = (y : Int32).toInt := congrArg Int32.toInt c50
        refine lv_iload_n hx hb dX0_sum_28 rfl (lv_at hl 0 rfl) ?_
        exact hj54 (x) _ _ _ (Eq.symm ((if_pos c50i).trans rfl)) (hP.sub [] rfl) (hD.sub [] (by decide) rfl) hS (lv_sub hl [0, 1] rfl)
      · skip
        have c50i : ¬ (x : Int32).toInt = (y : Int32).toInt := fun h => c50 (Int32.toInt_inj.mp h)
        refine lv_ldc (v := 2143289344) hx hb hown (hts (.constant RX0 15 (2143289344)) (oX0_sum_in _ (List.mem_of_getElem? (i := 10) rfl))) dX0_sum_23 ?_
        refine lv_goto (tgt := 29) hx hb dX0_sum_25 (by decide) ?_
        exact hj54 (2143289344) _ _ _ (Eq.symm ((if_neg c50i).trans rfl)) (hP.sub [] rfl) (hD.sub [] (by decide) rfl) hS (lv_sub hl [0, 1] rfl)
def oX0_product : List Cond := [.constant RX0 16 (-2147483648), .constant RX0 17 (2147483647), .constant RX0 52 (2139095040), .constant RX0 15 (2143289344)]
def wpX0_product : List Cond := .code yX0_product cX0_product 7 (some .int) :: (oX0_product ++ ((va_wsS RX0 61 yX2_significand wpX2_significand) ++ ((va_wsS RX0 53 yX2_exponent wpX2_exponent) ++ ((va_wsS RX0 68 yX2_nearest wpX2_nearest) ++ ([] : List Cond)))))
theorem oX0_product_in : ∀ w ∈ oX0_product, w ∈ wpX0_product := fun w h => List.mem_cons_of_mem _ (List.mem_append_left _ h)
theorem gwoX0_product : ∀ w ∈ oX0_product, goodWord w = true := by decide +kernel
theorem gwX0_product : ∀ w ∈ wpX0_product, goodWord w = true := by
  unfold wpX0_product
  exact List.forall_mem_cons.mpr ⟨rfl, List.forall_mem_append.mpr ⟨gwoX0_product, List.forall_mem_append.mpr ⟨(sp_gS gwX2_significand), List.forall_mem_append.mpr ⟨(sp_gS gwX2_exponent), List.forall_mem_append.mpr ⟨(sp_gS gwX2_nearest), fun _ h => absurd h List.not_mem_nil⟩⟩⟩⟩⟩
set_option maxRecDepth 100000 in
theorem toX0_product : ∀ w ∈ oX0_product, w ∈ lw_tbl := by
  unfold oX0_product
  exact List.forall_mem_cons.mpr ⟨(List.mem_of_getElem? (i := 370) (by decide +kernel)), List.forall_mem_cons.mpr ⟨(List.mem_of_getElem? (i := 357) (by decide +kernel)), List.forall_mem_cons.mpr ⟨(List.mem_of_getElem? (i := 358) (by decide +kernel)), List.forall_mem_cons.mpr ⟨(List.mem_of_getElem? (i := 353) (by decide +kernel)), fun _ h => absurd h List.not_mem_nil⟩⟩⟩⟩
set_option maxRecDepth 100000 in
theorem tX0_product : ∀ w ∈ wpX0_product, w ∈ lw_tbl := by
  unfold wpX0_product
  exact List.forall_mem_cons.mpr ⟨(List.mem_of_getElem? (i := 389) (by rfl)), List.forall_mem_append.mpr ⟨toX0_product, List.forall_mem_append.mpr ⟨(sp_tS (List.mem_of_getElem? (i := 365) (by decide +kernel)) (List.mem_of_getElem? (i := 366) (by decide +kernel)) (List.mem_of_getElem? (i := 46) (by decide +kernel)) tX2_significand), List.forall_mem_append.mpr ⟨(sp_tS (List.mem_of_getElem? (i := 359) (by decide +kernel)) (List.mem_of_getElem? (i := 360) (by decide +kernel)) (List.mem_of_getElem? (i := 46) (by decide +kernel)) tX2_exponent), List.forall_mem_append.mpr ⟨(sp_tS (List.mem_of_getElem? (i := 374) (by decide +kernel)) (List.mem_of_getElem? (i := 375) (by decide +kernel)) (List.mem_of_getElem? (i := 46) (by decide +kernel)) tX2_nearest), fun _ h => absurd h List.not_mem_nil⟩⟩⟩⟩⟩
theorem gX0_product_X2_significand_61 : GoodIn wpX0_product (va_wsS RX0 61 yX2_significand wpX2_significand) := fun w h => ⟨List.mem_cons_of_mem _ (List.mem_append_right _ (List.mem_append_left _ h)), good_of_word (sp_gS gwX2_significand w h)⟩
theorem gX0_product_X2_exponent_53 : GoodIn wpX0_product (va_wsS RX0 53 yX2_exponent wpX2_exponent) := fun w h => ⟨List.mem_cons_of_mem _ (List.mem_append_right _ (List.mem_append_right _ (List.mem_append_left _ h))), good_of_word (sp_gS gwX2_exponent w h)⟩
theorem gX0_product_X2_nearest_68 : GoodIn wpX0_product (va_wsS RX0 68 yX2_nearest wpX2_nearest) := fun w h => ⟨List.mem_cons_of_mem _ (List.mem_append_right _ (List.mem_append_right _ (List.mem_append_right _ (List.mem_append_left _ h)))), good_of_word (sp_gS gwX2_nearest w h)⟩
set_option maxHeartbeats 4000000 in
set_option maxRecDepth 100000 in
theorem c_X0_product (l : Launch) (D : va_G) (cI cJ cZ : ClassId) (sz : Nat) (x : Int32) (y : Int32) : Met l yX0_product wpX0_product ({ frames := 3, cells := 0, slots := 0, locals := 75 }) (va_Pc ([.int x, .int y] : List Value) (sp_pre D vwCl (sp_ty cI cJ cZ) [] sz)) (va_Qi (fun (r : Int32) (_ : Unit) => r = kX0_product x y) (sp_B D vwCl (va_A [] sz) (fun (_ : Unit) => [])) (va_A [] sz)) 0 0 (va_A [] sz) := by
  refine sp_ofW (Qc := fun A => va_Qi (fun (r : Int32) (_ : Unit) => r = kX0_product x y) (sp_B D vwCl A (fun (_ : Unit) => [])) A) (by decide) rfl (Nat.le_of_ble_eq_true rfl) (fun p e s m below meth c A ls H locs C0 hA hS hP hK hD hl => ?_)
  obtain ⟨hx, hb, hr, hts, hown, hlocks, hml, hin⟩ := id C0
  have hown : s.vm.findClass RX0 = some m.cls := hown
  have hl : lv_has ls 7 [(0, .int x), (1, .int y)] := hl
  have hK : va_K D vwCl [(cI, .int), (cJ, .long), (cZ, .boolean)] s := hK
  refine lv_iload_n hx hb dX0_product_0 rfl (lv_at hl 0 rfl) ?_
  refine lv_iload_n hx hb dX0_product_1 rfl (lv_at hl 1 rfl) ?_
  refine lv_ixor hx hb dX0_product_2 ?_
  refine lv_ldc (v := (-2147483648)) hx hb hown (hts (.constant RX0 16 (-2147483648)) (oX0_product_in _ (List.mem_of_getElem? (i := 0) rfl))) dX0_product_3 ?_
  refine lv_iand hx hb dX0_product_5 ?_
  refine lv_istore_n (lv' := [(2, .int ((x ^^^ y) &&& (-2147483648))), (0, .int x), (1, .int y)]) hx hb dX0_product_6 rfl hl (by decide) rfl (fun ls hl => ?_)
  refine lv_iload_n hx hb dX0_product_7 rfl (lv_at hl 1 rfl) ?_
  refine lv_ldc (v := 2147483647) hx hb hown (hts (.constant RX0 17 (2147483647)) (oX0_product_in _ (List.mem_of_getElem? (i := 1) rfl))) dX0_product_8 ?_
  refine lv_iand hx hb dX0_product_10 ?_
  refine lv_istore_n (lv' := [(3, .int (x &&& 2147483647)), (2, .int ((x ^^^ y) &&& (-2147483648))), (0, .int x), (1, .int y)]) hx hb dX0_product_11 rfl hl (by decide) rfl (fun ls hl => ?_)
  refine lv_iload_n hx hb dX0_product_12 rfl (lv_at hl 3 rfl) ?_
  refine lv_ldc (v := 2147483647) hx hb hown (hts (.constant RX0 17 (2147483647)) (oX0_product_in _ (List.mem_of_getElem? (i := 1) rfl))) dX0_product_13 ?_
  refine lv_iand hx hb dX0_product_15 ?_
  refine lv_istore (lv' := [(4, .int (y &&& 2147483647)), (3, .int (x &&& 2147483647)), (2, .int ((x ^^^ y) &&& (-2147483648))), (0, .int x), (1, .int y)]) hx hb dX0_product_16 hl (by decide) rfl (fun ls hl => ?_)
  refine lv_iload_n hx hb dX0_product_18 rfl (lv_at hl 1 rfl) ?_
  refine lv_ldc (v := 2139095040) hx hb hown (hts (.constant RX0 52 (2139095040)) (oX0_product_in _ (List.mem_of_getElem? (i := 2) rfl))) dX0_product_19 ?_
  refine lv_icmp_eq (tgt := 31) hx hb dX0_product_21 (by decide) (fun c1 => ?_) (fun c1 => ?_)
  · skip
    have c1i : ((x &&& 2147483647) : Int32).toInt = 2139095040 := congrArg Int32.toInt c1
    refine lv_iload_n hx hb dX0_product_31 rfl (lv_at hl 1 rfl) ?_
    have hj11 : ∀ (z10 : Int32) (H : Heap) (locs : List Loc) (ls : Array Slot), (z10 = kX0_product_49_z10 x y) → va_P D vwCl [] H → va_D A [] → va_S A s.heap H locs → lv_has ls 7 [(4, .int (y &&& 2147483647)), (3, .int (x &&& 2147483647)), (2, .int ((x ^^^ y) &&& (-2147483648))), (0, .int x), (1, .int y)] → W p l e ({ frames := 3, cells := 0, slots := 0, locals := 75 }) s m (([.int x, .int y] : List Value).toArray) below meth c H locs 0 0 (MQ below (va_Qi (fun (r : Int32) (_ : Unit) => r = kX0_product x y) (sp_B D vwCl A (fun (_ : Unit) => [])) A) ([.int x, .int y] : List Value).toArray s 0 0 A) (F0 m 49 ls [.int z10]) := by
      intro z10 H locs ls hz10 hP hD hS hl
      subst z10
      refine W.widen (k := 0) (n := 0) (by decide) (by decide) ?_
      exact sp_iret (u := ()) hx hb hr hlocks hS (Eq.symm ((if_pos c1i).trans rfl)) (hP.sub [] rfl) (hD.sub [] (by decide) rfl) dX0_product_49
    refine lv_if_eq (tgt := 40) hx hb dX0_product_32 (by decide) (fun c2 => ?_) (fun c2 => ?_)
    · skip
      have c2i : ((x &&& 2147483647) : Int32).toInt = 0 := congrArg Int32.toInt c2
      refine lv_ldc (v := 2143289344) hx hb hown (hts (.constant RX0 15 (2143289344)) (oX0_product_in _ (List.mem_of_getElem? (i := 3) rfl))) dX0_product_40 ?_
      refine lv_goto (tgt := 49) hx hb dX0_product_42 (by decide) ?_
      exact hj11 (2143289344) _ _ _ (Eq.symm ((if_pos c2i).trans rfl)) (hP.sub [] rfl) (hD.sub [] (by decide) rfl) hS (lv_sub hl [0, 1, 2, 3, 4] rfl)
    · skip
      have c2i : ¬ ((x &&& 2147483647) : Int32).toInt = 0 := fun h => c2 (Int32.toInt_inj.mp h)
      refine lv_iload hx hb dX0_product_35 (lv_at hl 0 rfl) ?_
      have hj8 : ∀ (z7 : Int32) (H : Heap) (locs : List Loc) (ls : Array Slot), (z7 = kX0_product_49_z7 x y) → va_P D vwCl [] H → va_D A [] → va_S A s.heap H locs → lv_has ls 7 [(4, .int (y &&& 2147483647)), (3, .int (x &&& 2147483647)), (2, .int ((x ^^^ y) &&& (-2147483648))), (0, .int x), (1, .int y)] → W p l e ({ frames := 3, cells := 0, slots := 0, locals := 75 }) s m (([.int x, .int y] : List Value).toArray) below meth c H locs 0 0 (MQ below (va_Qi (fun (r : Int32) (_ : Unit) => r = kX0_product x y) (sp_B D vwCl A (fun (_ : Unit) => [])) A) ([.int x, .int y] : List Value).toArray s 0 0 A) (F0 m 49 ls [.int z7]) := by
        intro z7 H locs ls hz7 hP hD hS hl
        subst z7
        exact hj11 ((kX0_product_49_z7 x y)) _ _ _ (Eq.symm ((if_neg c2i).trans rfl)) (hP.sub [] rfl) (hD.sub [] (by decide) rfl) hS (lv_sub hl [0, 1, 2, 3, 4] rfl)
      refine lv_if_ne (tgt := 45) hx hb dX0_product_37 (by decide) (fun c4 => ?_) (fun c4 => ?_)
      · skip
        have c4i : ¬ ((y &&& 2147483647) : Int32).toInt = 0 := fun h => c4 (Int32.toInt_inj.mp h)
        refine lv_iload_n hx hb dX0_product_45 rfl (lv_at hl 2 rfl) ?_
        refine lv_ldc (v := 2139095040) hx hb hown (hts (.constant RX0 52 (2139095040)) (oX0_product_in _ (List.mem_of_getElem? (i := 2) rfl))) dX0_product_46 ?_
        refine lv_ior hx hb dX0_product_48 ?_
        exact hj8 ((((x ^^^ y) &&& (-2147483648)) ||| 2139095040)) _ _ _ (Eq.symm ((if_neg c4i).trans rfl)) (hP.sub [] rfl) (hD.sub [] (by decide) rfl) hS (lv_sub hl [0, 1, 2, 3, 4] rfl)
      · skip
        have c4i : ((y &&& 2147483647) : Int32).toInt = 0 := congrArg Int32.toInt c4
        refine lv_ldc (v := 2143289344) hx hb hown (hts (.constant RX0 15 (2143289344)) (oX0_product_in _ (List.mem_of_getElem? (i := 3) rfl))) dX0_product_40 ?_
        refine lv_goto (tgt := 49) hx hb dX0_product_42 (by decide) ?_
        exact hj8 (2143289344) _ _ _ (Eq.symm ((if_pos c4i).trans rfl)) (hP.sub [] rfl) (hD.sub [] (by decide) rfl) hS (lv_sub hl [0, 1, 2, 3, 4] rfl)
  · skip
    have c1i : ¬ ((x &&& 2147483647) : Int32).toInt = 2139095040 := fun h => c1 (Int32.toInt_inj.mp h)
    refine lv_iload hx hb dX0_product_24 (lv_at hl 0 rfl) ?_
    refine lv_ldc (v := 2139095040) hx hb hown (hts (.constant RX0 52 (2139095040)) (oX0_product_in _ (List.mem_of_getElem? (i := 2) rfl))) dX0_product_26 ?_
    refine lv_icmp_ne (tgt := 50) hx hb dX0_product_28 (by decide) (fun c12 => ?_) (fun c12 => ?_)
    · skip
      have c12i : ¬ ((y &&& 2147483647) : Int32).toInt = 2139095040 := fun h => c12 (Int32.toInt_inj.mp h)
      refine lv_iload_n hx hb dX0_product_50 rfl (lv_at hl 3 rfl) ?_
      refine sp_callj (wr := []) (wc := []) hP hD hS hA [] [] rfl rfl (by decide) (by decide) (va_runS (As := [.int x]) (rest := []) ⟨hx, hb, hml, hown, hts⟩ (c_X2_significand l D cI cJ cZ H.size x) (va_cwS 1 hts gX0_product_X2_significand_61 rfl rfl rfl (by decide +kernel) ⟨Nat.le_of_ble_eq_true rfl, Nat.le_of_ble_eq_true rfl⟩) (sp_preS [.int x] hK (hP.sub (ws' := []) [] rfl) (hD.sub (ws' := []) [] (by decide) rfl)) rfl rfl hl.1 rfl (lv_room (Nat.le_of_ble_eq_true rfl)) dX0_product_51 ⟨Nat.le_of_ble_eq_true rfl, Nat.le_of_ble_eq_true rfl⟩) (fun r13 u14 H locs hw15 hP hD hS => ?_)
      have hq_15_0 : r13 = (kX2_significand x) := hw15
      subst r13
      have hP : va_P D vwCl [] H := hP
      have hD : va_D A [] := hD
      refine lv_iload_n hx hb dX0_product_54 rfl (lv_at hl 4 rfl) ?_
      refine sp_callj (wr := []) (wc := []) hP hD hS hA [] [] rfl rfl (by decide) (by decide) (va_runS (As := [.int y]) (rest := [.long (kX2_significand x)]) ⟨hx, hb, hml, hown, hts⟩ (c_X2_significand l D cI cJ cZ H.size y) (va_cwS 1 hts gX0_product_X2_significand_61 rfl rfl rfl (by decide +kernel) ⟨Nat.le_of_ble_eq_true rfl, Nat.le_of_ble_eq_true rfl⟩) (sp_preS [.int y] hK (hP.sub (ws' := []) [] rfl) (hD.sub (ws' := []) [] (by decide) rfl)) rfl rfl hl.1 rfl (lv_room (Nat.le_of_ble_eq_true rfl)) dX0_product_55 ⟨Nat.le_of_ble_eq_true rfl, Nat.le_of_ble_eq_true rfl⟩) (fun r16 u17 H locs hw18 hP hD hS => ?_)
      have hq_18_0 : r16 = (kX2_significand y) := hw18
      subst r16
      have hP : va_P D vwCl [] H := hP
      have hD : va_D A [] := hD
      refine lv_lmul hx hb dX0_product_58 ?_
      refine lv_lstore (lv' := [(5, .long (kX0_product_s59 x y)), (4, .int (y &&& 2147483647)), (3, .int (x &&& 2147483647)), (2, .int ((x ^^^ y) &&& (-2147483648))), (0, .int x), (1, .int y)]) hx hb dX0_product_59 hl (by decide) rfl (fun ls hl => ?_)
      refine lv_iload_n hx hb dX0_product_61 rfl (lv_at hl 3 rfl) ?_
      refine lv_lload hx hb dX0_product_62 (lv_at hl 0 rfl) ?_
      refine lv_iload_n hx hb dX0_product_64 rfl (lv_at hl 4 rfl) ?_
      refine sp_calli (wr := []) (wc := []) hP hD hS hA [] [] rfl rfl (by decide) (by decide) (va_runS (As := [.int x]) (rest := [.long (kX0_product_s59 x y), .int ((x ^^^ y) &&& (-2147483648))]) ⟨hx, hb, hml, hown, hts⟩ (c_X2_exponent l D cI cJ cZ H.size x) (va_cwS 1 hts gX0_product_X2_exponent_53 rfl rfl rfl (by decide +kernel) ⟨Nat.le_of_ble_eq_true rfl, Nat.le_of_ble_eq_true rfl⟩) (sp_preS [.int x] hK (hP.sub (ws' := []) [] rfl) (hD.sub (ws' := []) [] (by decide) rfl)) rfl rfl hl.1 rfl (lv_room (Nat.le_of_ble_eq_true rfl)) dX0_product_65 ⟨Nat.le_of_ble_eq_true rfl, Nat.le_of_ble_eq_true rfl⟩) (fun r19 u20 H locs hw21 hP hD hS => ?_)
      have hq_21_0 : r19 = (kX2_exponent x) := hw21
      subst r19
      have hP : va_P D vwCl [] H := hP
      have hD : va_D A [] := hD
      refine lv_iload_n hx hb dX0_product_68 rfl (lv_at hl 5 rfl) ?_
      refine sp_calli (wr := []) (wc := []) hP hD hS hA [] [] rfl rfl (by decide) (by decide) (va_runS (As := [.int y]) (rest := [.int (kX2_exponent x), .long (kX0_product_s59 x y), .int ((x ^^^ y) &&& (-2147483648))]) ⟨hx, hb, hml, hown, hts⟩ (c_X2_exponent l D cI cJ cZ H.size y) (va_cwS 1 hts gX0_product_X2_exponent_53 rfl rfl rfl (by decide +kernel) ⟨Nat.le_of_ble_eq_true rfl, Nat.le_of_ble_eq_true rfl⟩) (sp_preS [.int y] hK (hP.sub (ws' := []) [] rfl) (hD.sub (ws' := []) [] (by decide) rfl)) rfl rfl hl.1 rfl (lv_room (Nat.le_of_ble_eq_true rfl)) dX0_product_69 ⟨Nat.le_of_ble_eq_true rfl, Nat.le_of_ble_eq_true rfl⟩) (fun r22 u23 H locs hw24 hP hD hS => ?_)
      have hq_24_0 : r22 = (kX2_exponent y) := hw24
      subst r22
      have hP : va_P D vwCl [] H := hP
      have hD : va_D A [] := hD
      refine lv_iadd hx hb dX0_product_72 ?_
      refine sp_calli (wr := []) (wc := []) hP hD hS hA [] [] rfl rfl (by decide) (by decide) (va_runS (As := [.int ((x ^^^ y) &&& (-2147483648)), .long (kX0_product_s59 x y), .int ((kX2_exponent x) + (kX2_exponent y))]) (rest := []) ⟨hx, hb, hml, hown, hts⟩ (c_X2_nearest l D cI cJ cZ H.size ((x ^^^ y) &&& (-2147483648)) (kX0_product_s59 x y) ((kX2_exponent x) + (kX2_exponent y))) (va_cwS 3 hts gX0_product_X2_nearest_68 rfl rfl rfl (by decide +kernel) ⟨Nat.le_of_ble_eq_true rfl, Nat.le_of_ble_eq_true rfl⟩) (sp_preS [.int ((x ^^^ y) &&& (-2147483648)), .long (kX0_product_s59 x y), .int ((kX2_exponent x) + (kX2_exponent y))] hK (hP.sub (ws' := []) [] rfl) (hD.sub (ws' := []) [] (by decide) rfl)) rfl rfl hl.1 rfl (lv_room (Nat.le_of_ble_eq_true rfl)) dX0_product_73 ⟨Nat.le_of_ble_eq_true rfl, Nat.le_of_ble_eq_true rfl⟩) (fun r25 u26 H locs hw27 hP hD hS => ?_)
      have hq_27_0 : r25 = (kX2_nearest ((x ^^^ y) &&& (-2147483648)) (kX0_product_s59 x y) ((kX2_exponent x) + (kX2_exponent y))) := hw27
      subst r25
      have hP : va_P D vwCl [] H := hP
      have hD : va_D A [] := hD
      refine W.widen (k := 0) (n := 0) (by decide) (by decide) ?_
      exact sp_iret (u := ()) hx hb hr hlocks hS (Eq.symm ((if_neg c1i).trans ((if_neg c12i).trans rfl))) (hP.sub [] rfl) (hD.sub [] (by decide) rfl) dX0_product_76
    · skip
      have c12i : ((y &&& 2147483647) : Int32).toInt = 2139095040 := congrArg Int32.toInt c12
      refine lv_iload_n hx hb dX0_product_31 rfl (lv_at hl 1 rfl) ?_
      have hj37 : ∀ (z36 : Int32) (H : Heap) (locs : List Loc) (ls : Array Slot), (z36 = kX0_product_49_z10 x y) → va_P D vwCl [] H → va_D A [] → va_S A s.heap H locs → lv_has ls 7 [(4, .int (y &&& 2147483647)), (3, .int (x &&& 2147483647)), (2, .int ((x ^^^ y) &&& (-2147483648))), (0, .int x), (1, .int y)] → W p l e ({ frames := 3, cells := 0, slots := 0, locals := 75 }) s m (([.int x, .int y] : List Value).toArray) below meth c H locs 0 0 (MQ below (va_Qi (fun (r : Int32) (_ : Unit) => r = kX0_product x y) (sp_B D vwCl A (fun (_ : Unit) => [])) A) ([.int x, .int y] : List Value).toArray s 0 0 A) (F0 m 49 ls [.int z36]) := by
        intro z36 H locs ls hz36 hP hD hS hl
        subst z36
        refine W.widen (k := 0) (n := 0) (by decide) (by decide) ?_
        exact sp_iret (u := ()) hx hb hr hlocks hS (Eq.symm ((if_neg c1i).trans ((if_pos c12i).trans rfl))) (hP.sub [] rfl) (hD.sub [] (by decide) rfl) dX0_product_49
      refine lv_if_eq (tgt := 40) hx hb dX0_product_32 (by decide) (fun c28 => ?_) (fun c28 => ?_)
      · skip
        have c28i : ((x &&& 2147483647) : Int32).toInt = 0 := congrArg Int32.toInt c28
        refine lv_ldc (v := 2143289344) hx hb hown (hts (.constant RX0 15 (2143289344)) (oX0_product_in _ (List.mem_of_getElem? (i := 3) rfl))) dX0_product_40 ?_
        refine lv_goto (tgt := 49) hx hb dX0_product_42 (by decide) ?_
        exact hj37 (2143289344) _ _ _ (Eq.symm ((if_pos c28i).trans rfl)) (hP.sub [] rfl) (hD.sub [] (by decide) rfl) hS (lv_sub hl [0, 1, 2, 3, 4] rfl)
      · skip
        have c28i : ¬ ((x &&& 2147483647) : Int32).toInt = 0 := fun h => c28 (Int32.toInt_inj.mp h)
        refine lv_iload hx hb dX0_product_35 (lv_at hl 0 rfl) ?_
        have hj34 : ∀ (z33 : Int32) (H : Heap) (locs : List Loc) (ls : Array Slot), (z33 = kX0_product_49_z7 x y) → va_P D vwCl [] H → va_D A [] → va_S A s.heap H locs → lv_has ls 7 [(4, .int (y &&& 2147483647)), (3, .int (x &&& 2147483647)), (2, .int ((x ^^^ y) &&& (-2147483648))), (0, .int x), (1, .int y)] → W p l e ({ frames := 3, cells := 0, slots := 0, locals := 75 }) s m (([.int x, .int y] : List Value).toArray) below meth c H locs 0 0 (MQ below (va_Qi (fun (r : Int32) (_ : Unit) => r = kX0_product x y) (sp_B D vwCl A (fun (_ : Unit) => [])) A) ([.int x, .int y] : List Value).toArray s 0 0 A) (F0 m 49 ls [.int z33]) := by
          intro z33 H locs ls hz33 hP hD hS hl
          subst z33
          exact hj37 ((kX0_product_49_z7 x y)) _ _ _ (Eq.symm ((if_neg c28i).trans rfl)) (hP.sub [] rfl) (hD.sub [] (by decide) rfl) hS (lv_sub hl [0, 1, 2, 3, 4] rfl)
        refine lv_if_ne (tgt := 45) hx hb dX0_product_37 (by decide) (fun c30 => ?_) (fun c30 => ?_)
        · skip
          have c30i : ¬ ((y &&& 2147483647) : Int32).toInt = 0 := fun h => c30 (Int32.toInt_inj.mp h)
          refine lv_iload_n hx hb dX0_product_45 rfl (lv_at hl 2 rfl) ?_
          refine lv_ldc (v := 2139095040) hx hb hown (hts (.constant RX0 52 (2139095040)) (oX0_product_in _ (List.mem_of_getElem? (i := 2) rfl))) dX0_product_46 ?_
          refine lv_ior hx hb dX0_product_48 ?_
          exact hj34 ((((x ^^^ y) &&& (-2147483648)) ||| 2139095040)) _ _ _ (Eq.symm ((if_neg c30i).trans rfl)) (hP.sub [] rfl) (hD.sub [] (by decide) rfl) hS (lv_sub hl [0, 1, 2, 3, 4] rfl)
        · skip
          have c30i : ((y &&& 2147483647) : Int32).toInt = 0 := congrArg Int32.toInt c30
          refine lv_ldc (v := 2143289344) hx hb hown (hts (.constant RX0 15 (2143289344)) (oX0_product_in _ (List.mem_of_getElem? (i := 3) rfl))) dX0_product_40 ?_
          refine lv_goto (tgt := 49) hx hb dX0_product_42 (by decide) ?_
          exact hj34 (2143289344) _ _ _ (Eq.symm ((if_pos c30i).trans rfl)) (hP.sub [] rfl) (hD.sub [] (by decide) rfl) hS (lv_sub hl [0, 1, 2, 3, 4] rfl)
def oX0_quotient : List Cond := [.constant RX0 16 (-2147483648), .constant RX0 17 (2147483647), .constant RX0 52 (2139095040), .constant RX0 15 (2143289344)]
def wpX0_quotient : List Cond := .code yX0_quotient cX0_quotient 16 (some .int) :: (oX0_quotient ++ ((va_wsS RX0 61 yX2_significand wpX2_significand) ++ ((va_wsS RX0 72 yJ13_numberOfLeadingZeros_95d88 wpJ13_numberOfLeadingZeros_95d88) ++ ((va_wsS RX0 53 yX2_exponent wpX2_exponent) ++ ((va_wsS RX0 68 yX2_nearest wpX2_nearest) ++ ([] : List Cond))))))
theorem oX0_quotient_in : ∀ w ∈ oX0_quotient, w ∈ wpX0_quotient := fun w h => List.mem_cons_of_mem _ (List.mem_append_left _ h)
theorem gwoX0_quotient : ∀ w ∈ oX0_quotient, goodWord w = true := by decide +kernel
theorem gwX0_quotient : ∀ w ∈ wpX0_quotient, goodWord w = true := by
  unfold wpX0_quotient
  exact List.forall_mem_cons.mpr ⟨rfl, List.forall_mem_append.mpr ⟨gwoX0_quotient, List.forall_mem_append.mpr ⟨(sp_gS gwX2_significand), List.forall_mem_append.mpr ⟨(sp_gS gwJ13_numberOfLeadingZeros_95d88), List.forall_mem_append.mpr ⟨(sp_gS gwX2_exponent), List.forall_mem_append.mpr ⟨(sp_gS gwX2_nearest), fun _ h => absurd h List.not_mem_nil⟩⟩⟩⟩⟩⟩
set_option maxRecDepth 100000 in
theorem toX0_quotient : ∀ w ∈ oX0_quotient, w ∈ lw_tbl := by
  unfold oX0_quotient
  exact List.forall_mem_cons.mpr ⟨(List.mem_of_getElem? (i := 370) (by decide +kernel)), List.forall_mem_cons.mpr ⟨(List.mem_of_getElem? (i := 357) (by decide +kernel)), List.forall_mem_cons.mpr ⟨(List.mem_of_getElem? (i := 358) (by decide +kernel)), List.forall_mem_cons.mpr ⟨(List.mem_of_getElem? (i := 353) (by decide +kernel)), fun _ h => absurd h List.not_mem_nil⟩⟩⟩⟩
set_option maxRecDepth 100000 in
theorem tX0_quotient : ∀ w ∈ wpX0_quotient, w ∈ lw_tbl := by
  unfold wpX0_quotient
  exact List.forall_mem_cons.mpr ⟨(List.mem_of_getElem? (i := 392) (by rfl)), List.forall_mem_append.mpr ⟨toX0_quotient, List.forall_mem_append.mpr ⟨(sp_tS (List.mem_of_getElem? (i := 365) (by decide +kernel)) (List.mem_of_getElem? (i := 366) (by decide +kernel)) (List.mem_of_getElem? (i := 46) (by decide +kernel)) tX2_significand), List.forall_mem_append.mpr ⟨(sp_tS (List.mem_of_getElem? (i := 393) (by decide +kernel)) (List.mem_of_getElem? (i := 378) (by decide +kernel)) (List.mem_of_getElem? (i := 49) (by decide +kernel)) tJ13_numberOfLeadingZeros_95d88), List.forall_mem_append.mpr ⟨(sp_tS (List.mem_of_getElem? (i := 359) (by decide +kernel)) (List.mem_of_getElem? (i := 360) (by decide +kernel)) (List.mem_of_getElem? (i := 46) (by decide +kernel)) tX2_exponent), List.forall_mem_append.mpr ⟨(sp_tS (List.mem_of_getElem? (i := 374) (by decide +kernel)) (List.mem_of_getElem? (i := 375) (by decide +kernel)) (List.mem_of_getElem? (i := 46) (by decide +kernel)) tX2_nearest), fun _ h => absurd h List.not_mem_nil⟩⟩⟩⟩⟩⟩
theorem gX0_quotient_X2_significand_61 : GoodIn wpX0_quotient (va_wsS RX0 61 yX2_significand wpX2_significand) := fun w h => ⟨List.mem_cons_of_mem _ (List.mem_append_right _ (List.mem_append_left _ h)), good_of_word (sp_gS gwX2_significand w h)⟩
theorem gX0_quotient_J13_numberOfLeadingZeros_95d88_72 : GoodIn wpX0_quotient (va_wsS RX0 72 yJ13_numberOfLeadingZeros_95d88 wpJ13_numberOfLeadingZeros_95d88) := fun w h => ⟨List.mem_cons_of_mem _ (List.mem_append_right _ (List.mem_append_right _ (List.mem_append_left _ h))), good_of_word (sp_gS gwJ13_numberOfLeadingZeros_95d88 w h)⟩
theorem gX0_quotient_X2_exponent_53 : GoodIn wpX0_quotient (va_wsS RX0 53 yX2_exponent wpX2_exponent) := fun w h => ⟨List.mem_cons_of_mem _ (List.mem_append_right _ (List.mem_append_right _ (List.mem_append_right _ (List.mem_append_left _ h)))), good_of_word (sp_gS gwX2_exponent w h)⟩
theorem gX0_quotient_X2_nearest_68 : GoodIn wpX0_quotient (va_wsS RX0 68 yX2_nearest wpX2_nearest) := fun w h => ⟨List.mem_cons_of_mem _ (List.mem_append_right _ (List.mem_append_right _ (List.mem_append_right _ (List.mem_append_right _ (List.mem_append_left _ h))))), good_of_word (sp_gS gwX2_nearest w h)⟩
set_option maxHeartbeats 4000000 in
set_option maxRecDepth 100000 in
theorem c_X0_quotient (l : Launch) (D : va_G) (cI cJ cZ : ClassId) (sz : Nat) (x : Int32) (y : Int32) : Met l yX0_quotient wpX0_quotient ({ frames := 3, cells := 0, slots := 0, locals := 75 }) (va_Pc ([.int x, .int y] : List Value) (sp_pre D vwCl (sp_ty cI cJ cZ) [] sz)) (va_Qi (fun (r : Int32) (_ : Unit) => r = kX0_quotient x y) (sp_B D vwCl (va_A [] sz) (fun (_ : Unit) => [])) (va_A [] sz)) 0 0 (va_A [] sz) := by
  refine sp_ofW (Qc := fun A => va_Qi (fun (r : Int32) (_ : Unit) => r = kX0_quotient x y) (sp_B D vwCl A (fun (_ : Unit) => [])) A) (by decide) rfl (Nat.le_of_ble_eq_true rfl) (fun p e s m below meth c A ls H locs C0 hA hS hP hK hD hl => ?_)
  obtain ⟨hx, hb, hr, hts, hown, hlocks, hml, hin⟩ := id C0
  have hown : s.vm.findClass RX0 = some m.cls := hown
  have hl : lv_has ls 16 [(0, .int x), (1, .int y)] := hl
  have hK : va_K D vwCl [(cI, .int), (cJ, .long), (cZ, .boolean)] s := hK
  refine lv_iload_n hx hb dX0_quotient_0 rfl (lv_at hl 0 rfl) ?_
  refine lv_iload_n hx hb dX0_quotient_1 rfl (lv_at hl 1 rfl) ?_
  refine lv_ixor hx hb dX0_quotient_2 ?_
  refine lv_ldc (v := (-2147483648)) hx hb hown (hts (.constant RX0 16 (-2147483648)) (oX0_quotient_in _ (List.mem_of_getElem? (i := 0) rfl))) dX0_quotient_3 ?_
  refine lv_iand hx hb dX0_quotient_5 ?_
  refine lv_istore_n (lv' := [(2, .int ((x ^^^ y) &&& (-2147483648))), (0, .int x), (1, .int y)]) hx hb dX0_quotient_6 rfl hl (by decide) rfl (fun ls hl => ?_)
  refine lv_iload_n hx hb dX0_quotient_7 rfl (lv_at hl 1 rfl) ?_
  refine lv_ldc (v := 2147483647) hx hb hown (hts (.constant RX0 17 (2147483647)) (oX0_quotient_in _ (List.mem_of_getElem? (i := 1) rfl))) dX0_quotient_8 ?_
  refine lv_iand hx hb dX0_quotient_10 ?_
  refine lv_istore_n (lv' := [(3, .int (x &&& 2147483647)), (2, .int ((x ^^^ y) &&& (-2147483648))), (0, .int x), (1, .int y)]) hx hb dX0_quotient_11 rfl hl (by decide) rfl (fun ls hl => ?_)
  refine lv_iload_n hx hb dX0_quotient_12 rfl (lv_at hl 3 rfl) ?_
  refine lv_ldc (v := 2147483647) hx hb hown (hts (.constant RX0 17 (2147483647)) (oX0_quotient_in _ (List.mem_of_getElem? (i := 1) rfl))) dX0_quotient_13 ?_
  refine lv_iand hx hb dX0_quotient_15 ?_
  refine lv_istore (lv' := [(4, .int (y &&& 2147483647)), (3, .int (x &&& 2147483647)), (2, .int ((x ^^^ y) &&& (-2147483648))), (0, .int x), (1, .int y)]) hx hb dX0_quotient_16 hl (by decide) rfl (fun ls hl => ?_)
  refine lv_iload_n hx hb dX0_quotient_18 rfl (lv_at hl 1 rfl) ?_
  refine lv_iload hx hb dX0_quotient_19 (lv_at hl 0 rfl) ?_
  refine lv_icmp_ne (tgt := 37) hx hb dX0_quotient_21 (by decide) (fun c1 => ?_) (fun c1 => ?_)
  · skip
    have c1i : ¬ ((x &&& 2147483647) : Int32).toInt = ((y &&& 2147483647) : Int32).toInt := fun h => c1 (Int32.toInt_inj.mp h)
    refine lv_iload_n hx hb dX0_quotient_37 rfl (lv_at hl 4 rfl) ?_
    refine sp_callj (wr := []) (wc := []) hP hD hS hA [] [] rfl rfl (by decide) (by decide) (va_runS (As := [.int y]) (rest := []) ⟨hx, hb, hml, hown, hts⟩ (c_X2_significand l D cI cJ cZ H.size y) (va_cwS 1 hts gX0_quotient_X2_significand_61 rfl rfl rfl (by decide +kernel) ⟨Nat.le_of_ble_eq_true rfl, Nat.le_of_ble_eq_true rfl⟩) (sp_preS [.int y] hK (hP.sub (ws' := []) [] rfl) (hD.sub (ws' := []) [] (by decide) rfl)) rfl rfl hl.1 rfl (lv_room (Nat.le_of_ble_eq_true rfl)) dX0_quotient_38 ⟨Nat.le_of_ble_eq_true rfl, Nat.le_of_ble_eq_true rfl⟩) (fun r2 u3 H locs hw4 hP hD hS => ?_)
    have hq_4_0 : r2 = (kX2_significand y) := hw4
    subst r2
    have hP : va_P D vwCl [] H := hP
    have hD : va_D A [] := hD
    refine lv_lstore (lv' := [(5, .long (kX2_significand y)), (4, .int (y &&& 2147483647)), (3, .int (x &&& 2147483647)), (2, .int ((x ^^^ y) &&& (-2147483648))), (0, .int x), (1, .int y)]) hx hb dX0_quotient_41 hl (by decide) rfl (fun ls hl => ?_)
    refine lv_iload_n hx hb dX0_quotient_43 rfl (lv_at hl 2 rfl) ?_
    refine lv_ldc (v := 2139095040) hx hb hown (hts (.constant RX0 52 (2139095040)) (oX0_quotient_in _ (List.mem_of_getElem? (i := 2) rfl))) dX0_quotient_44 ?_
    refine lv_icmp_eq (tgt := 56) hx hb dX0_quotient_46 (by decide) (fun c5 => ?_) (fun c5 => ?_)
    · skip
      have c5i : ((x &&& 2147483647) : Int32).toInt = 2139095040 := congrArg Int32.toInt c5
      refine lv_iload_n hx hb dX0_quotient_56 rfl (lv_at hl 3 rfl) ?_
      refine lv_ldc (v := 2139095040) hx hb hown (hts (.constant RX0 52 (2139095040)) (oX0_quotient_in _ (List.mem_of_getElem? (i := 2) rfl))) dX0_quotient_57 ?_
      refine lv_ior hx hb dX0_quotient_59 ?_
      refine W.widen (k := 0) (n := 0) (by decide) (by decide) ?_
      exact sp_iret (u := ()) hx hb hr hlocks hS (Eq.symm ((if_neg c1i).trans ((if_pos c5i).trans rfl))) (hP.sub [] rfl) (hD.sub [] (by decide) rfl) dX0_quotient_60
    · skip
      have c5i : ¬ ((x &&& 2147483647) : Int32).toInt = 2139095040 := fun h => c5 (Int32.toInt_inj.mp h)
      refine lv_lload hx hb dX0_quotient_49 (lv_at hl 0 rfl) ?_
      refine lv_lconst (v := 0) hx hb dX0_quotient_51 (by decide) ?_
      refine W.lcmp hx hb dX0_quotient_52 ?_
      refine lv_if_ne (tgt := 61) hx hb dX0_quotient_53 (by decide) (fun c6 => ?_) (fun c6 => ?_)
      · skip
        have c6 := fun h => c6 ((lg_cmp_eq _ _).mpr h)
        have c6i : ¬ ((kX2_significand y) : Int64).toInt = 0 := fun h => c6 (Int64.toInt_inj.mp h)
        refine lv_iload_n hx hb dX0_quotient_61 rfl (lv_at hl 2 rfl) ?_
        refine lv_if_eq (tgt := 72) hx hb dX0_quotient_62 (by decide) (fun c7 => ?_) (fun c7 => ?_)
        · skip
          have c7i : ((x &&& 2147483647) : Int32).toInt = 0 := congrArg Int32.toInt c7
          refine lv_iload_n hx hb dX0_quotient_72 rfl (lv_at hl 3 rfl) ?_
          refine W.widen (k := 0) (n := 0) (by decide) (by decide) ?_
          exact sp_iret (u := ()) hx hb hr hlocks hS (Eq.symm ((if_neg c1i).trans ((if_neg c5i).trans ((if_neg c6i).trans ((if_pos c7i).trans rfl))))) (hP.sub [] rfl) (hD.sub [] (by decide) rfl) dX0_quotient_73
        · skip
          have c7i : ¬ ((x &&& 2147483647) : Int32).toInt = 0 := fun h => c7 (Int32.toInt_inj.mp h)
          refine lv_iload hx hb dX0_quotient_65 (lv_at hl 1 rfl) ?_
          refine lv_ldc (v := 2139095040) hx hb hown (hts (.constant RX0 52 (2139095040)) (oX0_quotient_in _ (List.mem_of_getElem? (i := 2) rfl))) dX0_quotient_67 ?_
          refine lv_icmp_ne (tgt := 74) hx hb dX0_quotient_69 (by decide) (fun c8 => ?_) (fun c8 => ?_)
          · skip
            have c8i : ¬ ((y &&& 2147483647) : Int32).toInt = 2139095040 := fun h => c8 (Int32.toInt_inj.mp h)
            refine lv_iload_n hx hb dX0_quotient_74 rfl (lv_at hl 4 rfl) ?_
            refine sp_callj (wr := []) (wc := []) hP hD hS hA [] [] rfl rfl (by decide) (by decide) (va_runS (As := [.int x]) (rest := []) ⟨hx, hb, hml, hown, hts⟩ (c_X2_significand l D cI cJ cZ H.size x) (va_cwS 1 hts gX0_quotient_X2_significand_61 rfl rfl rfl (by decide +kernel) ⟨Nat.le_of_ble_eq_true rfl, Nat.le_of_ble_eq_true rfl⟩) (sp_preS [.int x] hK (hP.sub (ws' := []) [] rfl) (hD.sub (ws' := []) [] (by decide) rfl)) rfl rfl hl.1 rfl (lv_room (Nat.le_of_ble_eq_true rfl)) dX0_quotient_75 ⟨Nat.le_of_ble_eq_true rfl, Nat.le_of_ble_eq_true rfl⟩) (fun r9 u10 H locs hw11 hP hD hS => ?_)
            have hq_11_0 : r9 = (kX2_significand x) := hw11
            subst r9
            have hP : va_P D vwCl [] H := hP
            have hD : va_D A [] := hD
            refine lv_lstore (lv' := [(7, .long (kX2_significand x)), (5, .long (kX2_significand y)), (4, .int (y &&& 2147483647)), (3, .int (x &&& 2147483647)), (2, .int ((x ^^^ y) &&& (-2147483648))), (0, .int x), (1, .int y)]) hx hb dX0_quotient_78 hl (by decide) rfl (fun ls hl => ?_)
            refine lv_lload hx hb dX0_quotient_80 (lv_at hl 0 rfl) ?_
            refine sp_calli (wr := []) (wc := []) hP hD hS hA [] [] rfl rfl (by decide) (by decide) (va_runS (As := [.long (kX2_significand x)]) (rest := []) ⟨hx, hb, hml, hown, hts⟩ (c_J13_numberOfLeadingZeros_95d88 l D cI cJ cZ H.size (kX2_significand x)) (va_cwS 1 hts gX0_quotient_J13_numberOfLeadingZeros_95d88_72 rfl rfl rfl (by decide +kernel) ⟨Nat.le_of_ble_eq_true rfl, Nat.le_of_ble_eq_true rfl⟩) (sp_preS [.long (kX2_significand x)] hK (hP.sub (ws' := []) [] rfl) (hD.sub (ws' := []) [] (by decide) rfl)) rfl rfl hl.1 rfl (lv_room (Nat.le_of_ble_eq_true rfl)) dX0_quotient_82 ⟨Nat.le_of_ble_eq_true rfl, Nat.le_of_ble_eq_true rfl⟩) (fun r12 u13 H locs hw14 hP hD hS => ?_)
            have hq_14_0 : r12 = (kJ13_numberOfLeadingZeros_95d88 (kX2_significand x)) := hw14
            subst r12
            have hP : va_P D vwCl [] H := hP
            have hD : va_D A [] := hD
            refine lv_iconst (v := 2) hx hb dX0_quotient_85 (by decide) ?_
            refine lv_isub hx hb dX0_quotient_86 ?_
            refine lv_istore (lv' := [(9, .int (kX0_quotient_s87 x y)), (7, .long (kX2_significand x)), (5, .long (kX2_significand y)), (4, .int (y &&& 2147483647)), (3, .int (x &&& 2147483647)), (2, .int ((x ^^^ y) &&& (-2147483648))), (0, .int x), (1, .int y)]) hx hb dX0_quotient_87 hl (by decide) rfl (fun ls hl => ?_)
            refine lv_lload hx hb dX0_quotient_89 (lv_at hl 1 rfl) ?_
            refine lv_iload hx hb dX0_quotient_91 (lv_at hl 0 rfl) ?_
            refine lv_lshl (v := _) hx hb dX0_quotient_93 rfl ?_
            refine lv_lstore (lv' := [(10, .long (kX0_quotient_s94 x y)), (9, .int (kX0_quotient_s87 x y)), (7, .long (kX2_significand x)), (5, .long (kX2_significand y)), (4, .int (y &&& 2147483647)), (3, .int (x &&& 2147483647)), (2, .int ((x ^^^ y) &&& (-2147483648))), (0, .int x), (1, .int y)]) hx hb dX0_quotient_94 hl (by decide) rfl (fun ls hl => ?_)
            refine lv_lload hx hb dX0_quotient_96 (lv_at hl 0 rfl) ?_
            refine lv_lload hx hb dX0_quotient_98 (lv_at hl 3 rfl) ?_
            refine lv_ldiv hx hb dX0_quotient_100 (fun q => absurd (congrArg Int64.toInt q) (by show ¬ ((kX2_significand y) : Int64).toInt = 0; omega)) ?_
            refine lv_lstore (lv' := [(12, .long (kX0_quotient_s101 x y)), (10, .long (kX0_quotient_s94 x y)), (9, .int (kX0_quotient_s87 x y)), (7, .long (kX2_significand x)), (5, .long (kX2_significand y)), (4, .int (y &&& 2147483647)), (3, .int (x &&& 2147483647)), (2, .int ((x ^^^ y) &&& (-2147483648))), (0, .int x), (1, .int y)]) hx hb dX0_quotient_101 hl (by decide) rfl (fun ls hl => ?_)
            refine lv_lload hx hb dX0_quotient_103 (lv_at hl 0 rfl) ?_
            refine lv_lload hx hb dX0_quotient_105 (lv_at hl 4 rfl) ?_
            refine lv_lmul hx hb dX0_quotient_107 ?_
            refine lv_lload hx hb dX0_quotient_108 (lv_at hl 1 rfl) ?_
            refine W.lcmp hx hb dX0_quotient_110 ?_
            have hj19 : ∀ (z18 : Int64) (H : Heap) (locs : List Loc) (ls : Array Slot), (z18 = kX0_quotient_123_z18 x y) → va_P D vwCl [] H → va_D A [] → va_S A s.heap H locs → lv_has ls 16 [(12, .long (kX0_quotient_s101 x y)), (10, .long (kX0_quotient_s94 x y)), (9, .int (kX0_quotient_s87 x y)), (7, .long (kX2_significand x)), (5, .long (kX2_significand y)), (4, .int (y &&& 2147483647)), (3, .int (x &&& 2147483647)), (2, .int ((x ^^^ y) &&& (-2147483648))), (0, .int x), (1, .int y)] → W p l e ({ frames := 3, cells := 0, slots := 0, locals := 75 }) s m (([.int x, .int y] : List Value).toArray) below meth c H locs 0 0 (MQ below (va_Qi (fun (r : Int32) (_ : Unit) => r = kX0_quotient x y) (sp_B D vwCl A (fun (_ : Unit) => [])) A) ([.int x, .int y] : List Value).toArray s 0 0 A) (F0 m 123 ls [.long z18]) := by
              intro z18 H locs ls hz18 hP hD hS hl
              subst z18
              refine lv_lstore (lv' := [(14, .long (kX0_quotient_123_z18 x y)), (12, .long (kX0_quotient_s101 x y)), (10, .long (kX0_quotient_s94 x y)), (9, .int (kX0_quotient_s87 x y)), (7, .long (kX2_significand x)), (5, .long (kX2_significand y)), (4, .int (y &&& 2147483647)), (3, .int (x &&& 2147483647)), (2, .int ((x ^^^ y) &&& (-2147483648))), (0, .int x), (1, .int y)]) hx hb dX0_quotient_123 hl (by decide) rfl (fun ls hl => ?_)
              refine lv_iload_n hx hb dX0_quotient_125 rfl (lv_at hl 8 rfl) ?_
              refine lv_lload hx hb dX0_quotient_126 (lv_at hl 0 rfl) ?_
              refine lv_iload_n hx hb dX0_quotient_128 rfl (lv_at hl 9 rfl) ?_
              refine sp_calli (wr := []) (wc := []) hP hD hS hA [] [] rfl rfl (by decide) (by decide) (va_runS (As := [.int x]) (rest := [.long (kX0_quotient_123_z18 x y), .int ((x ^^^ y) &&& (-2147483648))]) ⟨hx, hb, hml, hown, hts⟩ (c_X2_exponent l D cI cJ cZ H.size x) (va_cwS 1 hts gX0_quotient_X2_exponent_53 rfl rfl rfl (by decide +kernel) ⟨Nat.le_of_ble_eq_true rfl, Nat.le_of_ble_eq_true rfl⟩) (sp_preS [.int x] hK (hP.sub (ws' := []) [] rfl) (hD.sub (ws' := []) [] (by decide) rfl)) rfl rfl hl.1 rfl (lv_room (Nat.le_of_ble_eq_true rfl)) dX0_quotient_129 ⟨Nat.le_of_ble_eq_true rfl, Nat.le_of_ble_eq_true rfl⟩) (fun r20 u21 H locs hw22 hP hD hS => ?_)
              have hq_22_0 : r20 = (kX2_exponent x) := hw22
              subst r20
              have hP : va_P D vwCl [] H := hP
              have hD : va_D A [] := hD
              refine lv_iload hx hb dX0_quotient_132 (lv_at hl 3 rfl) ?_
              refine lv_isub hx hb dX0_quotient_134 ?_
              refine lv_iload_n hx hb dX0_quotient_135 rfl (lv_at hl 10 rfl) ?_
              refine sp_calli (wr := []) (wc := []) hP hD hS hA [] [] rfl rfl (by decide) (by decide) (va_runS (As := [.int y]) (rest := [.int ((kX2_exponent x) - (kX0_quotient_s87 x y)), .long (kX0_quotient_123_z18 x y), .int ((x ^^^ y) &&& (-2147483648))]) ⟨hx, hb, hml, hown, hts⟩ (c_X2_exponent l D cI cJ cZ H.size y) (va_cwS 1 hts gX0_quotient_X2_exponent_53 rfl rfl rfl (by decide +kernel) ⟨Nat.le_of_ble_eq_true rfl, Nat.le_of_ble_eq_true rfl⟩) (sp_preS [.int y] hK (hP.sub (ws' := []) [] rfl) (hD.sub (ws' := []) [] (by decide) rfl)) rfl rfl hl.1 rfl (lv_room (Nat.le_of_ble_eq_true rfl)) dX0_quotient_136 ⟨Nat.le_of_ble_eq_true rfl, Nat.le_of_ble_eq_true rfl⟩) (fun r23 u24 H locs hw25 hP hD hS => ?_)
              have hq_25_0 : r23 = (kX2_exponent y) := hw25
              subst r23
              have hP : va_P D vwCl [] H := hP
              have hD : va_D A [] := hD
              refine lv_isub hx hb dX0_quotient_139 ?_
              refine sp_calli (wr := []) (wc := []) hP hD hS hA [] [] rfl rfl (by decide) (by decide) (va_runS (As := [.int ((x ^^^ y) &&& (-2147483648)), .long (kX0_quotient_123_z18 x y), .int (((kX2_exponent x) - (kX0_quotient_s87 x y)) - (kX2_exponent y))]) (rest := []) ⟨hx, hb, hml, hown, hts⟩ (c_X2_nearest l D cI cJ cZ H.size ((x ^^^ y) &&& (-2147483648)) (kX0_quotient_123_z18 x y) (((kX2_exponent x) - (kX0_quotient_s87 x y)) - (kX2_exponent y))) (va_cwS 3 hts gX0_quotient_X2_nearest_68 rfl rfl rfl (by decide +kernel) ⟨Nat.le_of_ble_eq_true rfl, Nat.le_of_ble_eq_true rfl⟩) (sp_preS [.int ((x ^^^ y) &&& (-2147483648)), .long (kX0_quotient_123_z18 x y), .int (((kX2_exponent x) - (kX0_quotient_s87 x y)) - (kX2_exponent y))] hK (hP.sub (ws' := []) [] rfl) (hD.sub (ws' := []) [] (by decide) rfl)) rfl rfl hl.1 rfl (lv_room (Nat.le_of_ble_eq_true rfl)) dX0_quotient_140 ⟨Nat.le_of_ble_eq_true rfl, Nat.le_of_ble_eq_true rfl⟩) (fun r26 u27 H locs hw28 hP hD hS => ?_)
              have hq_28_0 : r26 = (kX2_nearest ((x ^^^ y) &&& (-2147483648)) (kX0_quotient_123_z18 x y) (((kX2_exponent x) - (kX0_quotient_s87 x y)) - (kX2_exponent y))) := hw28
              subst r26
              have hP : va_P D vwCl [] H := hP
              have hD : va_D A [] := hD
              refine W.widen (k := 0) (n := 0) (by decide) (by decide) ?_
              exact sp_iret (u := ()) hx hb hr hlocks hS (Eq.symm ((if_neg c1i).trans ((if_neg c5i).trans ((if_neg c6i).trans ((if_neg c7i).trans ((if_neg c8i).trans rfl)))))) (hP.sub [] rfl) (hD.sub [] (by decide) rfl) dX0_quotient_143
            refine lv_if_ne (tgt := 119) hx hb dX0_quotient_111 (by decide) (fun c15 => ?_) (fun c15 => ?_)
            · skip
              have c15 := fun h => c15 ((lg_cmp_eq _ _).mpr h)
              have c15i : ¬ (((kX0_quotient_s101 x y) * (kX2_significand y)) : Int64).toInt = ((kX0_quotient_s94 x y) : Int64).toInt := fun h => c15 (Int64.toInt_inj.mp h)
              refine lv_lload hx hb dX0_quotient_119 (lv_at hl 0 rfl) ?_
              refine lv_lconst (v := 1) hx hb dX0_quotient_121 (by decide) ?_
              refine lv_lor hx hb dX0_quotient_122 ?_
              exact hj19 (((kX0_quotient_s101 x y) ||| 1)) _ _ _ (Eq.symm ((if_neg c15i).trans rfl)) (hP.sub [] rfl) (hD.sub [] (by decide) rfl) hS (lv_sub hl [0, 1, 2, 3, 4, 5, 6, 7, 8, 9] rfl)
            · skip
              have c15 := (lg_cmp_eq _ _).mp c15
              have c15i : (((kX0_quotient_s101 x y) * (kX2_significand y)) : Int64).toInt = ((kX0_quotient_s94 x y) : Int64).toInt := congrArg Int64.toInt c15
              refine lv_lload hx hb dX0_quotient_114 (lv_at hl 0 rfl) ?_
              refine lv_goto (tgt := 123) hx hb dX0_quotient_116 (by decide) ?_
              exact hj19 ((kX0_quotient_s101 x y)) _ _ _ (Eq.symm ((if_pos c15i).trans rfl)) (hP.sub [] rfl) (hD.sub [] (by decide) rfl) hS (lv_sub hl [0, 1, 2, 3, 4, 5, 6, 7, 8, 9] rfl)
          · skip
            have c8i : ((y &&& 2147483647) : Int32).toInt = 2139095040 := congrArg Int32.toInt c8
            refine lv_iload_n hx hb dX0_quotient_72 rfl (lv_at hl 3 rfl) ?_
            refine W.widen (k := 0) (n := 0) (by decide) (by decide) ?_
            exact sp_iret (u := ()) hx hb hr hlocks hS (Eq.symm ((if_neg c1i).trans ((if_neg c5i).trans ((if_neg c6i).trans ((if_neg c7i).trans ((if_pos c8i).trans rfl)))))) (hP.sub [] rfl) (hD.sub [] (by decide) rfl) dX0_quotient_73
      · skip
        have c6 := (lg_cmp_eq _ _).mp c6
        have c6i : ((kX2_significand y) : Int64).toInt = 0 := congrArg Int64.toInt c6
        refine lv_iload_n hx hb dX0_quotient_56 rfl (lv_at hl 3 rfl) ?_
        refine lv_ldc (v := 2139095040) hx hb hown (hts (.constant RX0 52 (2139095040)) (oX0_quotient_in _ (List.mem_of_getElem? (i := 2) rfl))) dX0_quotient_57 ?_
        refine lv_ior hx hb dX0_quotient_59 ?_
        refine W.widen (k := 0) (n := 0) (by decide) (by decide) ?_
        exact sp_iret (u := ()) hx hb hr hlocks hS (Eq.symm ((if_neg c1i).trans ((if_neg c5i).trans ((if_pos c6i).trans rfl)))) (hP.sub [] rfl) (hD.sub [] (by decide) rfl) dX0_quotient_60
  · skip
    have c1i : ((x &&& 2147483647) : Int32).toInt = ((y &&& 2147483647) : Int32).toInt := congrArg Int32.toInt c1
    refine lv_iload_n hx hb dX0_quotient_24 rfl (lv_at hl 1 rfl) ?_
    refine lv_if_eq (tgt := 34) hx hb dX0_quotient_25 (by decide) (fun c29 => ?_) (fun c29 => ?_)
    · skip
      have c29i : ((x &&& 2147483647) : Int32).toInt = 0 := congrArg Int32.toInt c29
      refine lv_ldc (v := 2143289344) hx hb hown (hts (.constant RX0 15 (2143289344)) (oX0_quotient_in _ (List.mem_of_getElem? (i := 3) rfl))) dX0_quotient_34 ?_
      refine W.widen (k := 0) (n := 0) (by decide) (by decide) ?_
      exact sp_iret (u := ()) hx hb hr hlocks hS (Eq.symm ((if_pos c1i).trans ((if_pos c29i).trans rfl))) (hP.sub [] rfl) (hD.sub [] (by decide) rfl) dX0_quotient_36
    · skip
      have c29i : ¬ ((x &&& 2147483647) : Int32).toInt = 0 := fun h => c29 (Int32.toInt_inj.mp h)
      refine lv_iload_n hx hb dX0_quotient_28 rfl (lv_at hl 1 rfl) ?_
      refine lv_ldc (v := 2139095040) hx hb hown (hts (.constant RX0 52 (2139095040)) (oX0_quotient_in _ (List.mem_of_getElem? (i := 2) rfl))) dX0_quotient_29 ?_
      refine lv_icmp_ne (tgt := 37) hx hb dX0_quotient_31 (by decide) (fun c30 => ?_) (fun c30 => ?_)
      · skip
        have c30i : ¬ ((x &&& 2147483647) : Int32).toInt = 2139095040 := fun h => c30 (Int32.toInt_inj.mp h)
        refine lv_iload_n hx hb dX0_quotient_37 rfl (lv_at hl 4 rfl) ?_
        refine sp_callj (wr := []) (wc := []) hP hD hS hA [] [] rfl rfl (by decide) (by decide) (va_runS (As := [.int y]) (rest := []) ⟨hx, hb, hml, hown, hts⟩ (c_X2_significand l D cI cJ cZ H.size y) (va_cwS 1 hts gX0_quotient_X2_significand_61 rfl rfl rfl (by decide +kernel) ⟨Nat.le_of_ble_eq_true rfl, Nat.le_of_ble_eq_true rfl⟩) (sp_preS [.int y] hK (hP.sub (ws' := []) [] rfl) (hD.sub (ws' := []) [] (by decide) rfl)) rfl rfl hl.1 rfl (lv_room (Nat.le_of_ble_eq_true rfl)) dX0_quotient_38 ⟨Nat.le_of_ble_eq_true rfl, Nat.le_of_ble_eq_true rfl⟩) (fun r31 u32 H locs hw33 hP hD hS => ?_)
        have hq_33_0 : r31 = (kX2_significand y) := hw33
        subst r31
        have hP : va_P D vwCl [] H := hP
        have hD : va_D A [] := hD
        refine lv_lstore (lv' := [(5, .long (kX2_significand y)), (4, .int (y &&& 2147483647)), (3, .int (x &&& 2147483647)), (2, .int ((x ^^^ y) &&& (-2147483648))), (0, .int x), (1, .int y)]) hx hb dX0_quotient_41 hl (by decide) rfl (fun ls hl => ?_)
        refine lv_iload_n hx hb dX0_quotient_43 rfl (lv_at hl 2 rfl) ?_
        refine lv_ldc (v := 2139095040) hx hb hown (hts (.constant RX0 52 (2139095040)) (oX0_quotient_in _ (List.mem_of_getElem? (i := 2) rfl))) dX0_quotient_44 ?_
        refine lv_icmp_eq (tgt := 56) hx hb dX0_quotient_46 (by decide) (fun c34 => ?_) (fun c34 => ?_)
        · skip
          have c34i : ((x &&& 2147483647) : Int32).toInt = 2139095040 := congrArg Int32.toInt c34
          refine lv_iload_n hx hb dX0_quotient_56 rfl (lv_at hl 3 rfl) ?_
          refine lv_ldc (v := 2139095040) hx hb hown (hts (.constant RX0 52 (2139095040)) (oX0_quotient_in _ (List.mem_of_getElem? (i := 2) rfl))) dX0_quotient_57 ?_
          refine lv_ior hx hb dX0_quotient_59 ?_
          refine W.widen (k := 0) (n := 0) (by decide) (by decide) ?_
          exact sp_iret (u := ()) hx hb hr hlocks hS (Eq.symm ((if_pos c1i).trans ((if_neg c29i).trans ((if_neg c30i).trans ((if_pos c34i).trans rfl))))) (hP.sub [] rfl) (hD.sub [] (by decide) rfl) dX0_quotient_60
        · skip
          have c34i : ¬ ((x &&& 2147483647) : Int32).toInt = 2139095040 := fun h => c34 (Int32.toInt_inj.mp h)
          refine lv_lload hx hb dX0_quotient_49 (lv_at hl 0 rfl) ?_
          refine lv_lconst (v := 0) hx hb dX0_quotient_51 (by decide) ?_
          refine W.lcmp hx hb dX0_quotient_52 ?_
          refine lv_if_ne (tgt := 61) hx hb dX0_quotient_53 (by decide) (fun c35 => ?_) (fun c35 => ?_)
          · skip
            have c35 := fun h => c35 ((lg_cmp_eq _ _).mpr h)
            have c35i : ¬ ((kX2_significand y) : Int64).toInt = 0 := fun h => c35 (Int64.toInt_inj.mp h)
            refine lv_iload_n hx hb dX0_quotient_61 rfl (lv_at hl 2 rfl) ?_
            refine lv_if_eq (tgt := 72) hx hb dX0_quotient_62 (by decide) (fun c36 => ?_) (fun c36 => ?_)
            · skip
              have c36i : ((x &&& 2147483647) : Int32).toInt = 0 := congrArg Int32.toInt c36
              refine lv_iload_n hx hb dX0_quotient_72 rfl (lv_at hl 3 rfl) ?_
              refine W.widen (k := 0) (n := 0) (by decide) (by decide) ?_
              exact sp_iret (u := ()) hx hb hr hlocks hS (Eq.symm ((if_pos c1i).trans ((if_neg c29i).trans ((if_neg c30i).trans ((if_neg c34i).trans ((if_neg c35i).trans ((if_pos c36i).trans rfl))))))) (hP.sub [] rfl) (hD.sub [] (by decide) rfl) dX0_quotient_73
            · skip
              have c36i : ¬ ((x &&& 2147483647) : Int32).toInt = 0 := fun h => c36 (Int32.toInt_inj.mp h)
              refine lv_iload hx hb dX0_quotient_65 (lv_at hl 1 rfl) ?_
              refine lv_ldc (v := 2139095040) hx hb hown (hts (.constant RX0 52 (2139095040)) (oX0_quotient_in _ (List.mem_of_getElem? (i := 2) rfl))) dX0_quotient_67 ?_
              refine lv_icmp_ne (tgt := 74) hx hb dX0_quotient_69 (by decide) (fun c37 => ?_) (fun c37 => ?_)
              · skip
                have c37i : ¬ ((y &&& 2147483647) : Int32).toInt = 2139095040 := fun h => c37 (Int32.toInt_inj.mp h)
                refine lv_iload_n hx hb dX0_quotient_74 rfl (lv_at hl 4 rfl) ?_
                refine sp_callj (wr := []) (wc := []) hP hD hS hA [] [] rfl rfl (by decide) (by decide) (va_runS (As := [.int x]) (rest := []) ⟨hx, hb, hml, hown, hts⟩ (c_X2_significand l D cI cJ cZ H.size x) (va_cwS 1 hts gX0_quotient_X2_significand_61 rfl rfl rfl (by decide +kernel) ⟨Nat.le_of_ble_eq_true rfl, Nat.le_of_ble_eq_true rfl⟩) (sp_preS [.int x] hK (hP.sub (ws' := []) [] rfl) (hD.sub (ws' := []) [] (by decide) rfl)) rfl rfl hl.1 rfl (lv_room (Nat.le_of_ble_eq_true rfl)) dX0_quotient_75 ⟨Nat.le_of_ble_eq_true rfl, Nat.le_of_ble_eq_true rfl⟩) (fun r38 u39 H locs hw40 hP hD hS => ?_)
                have hq_40_0 : r38 = (kX2_significand x) := hw40
                subst r38
                have hP : va_P D vwCl [] H := hP
                have hD : va_D A [] := hD
                refine lv_lstore (lv' := [(7, .long (kX2_significand x)), (5, .long (kX2_significand y)), (4, .int (y &&& 2147483647)), (3, .int (x &&& 2147483647)), (2, .int ((x ^^^ y) &&& (-2147483648))), (0, .int x), (1, .int y)]) hx hb dX0_quotient_78 hl (by decide) rfl (fun ls hl => ?_)
                refine lv_lload hx hb dX0_quotient_80 (lv_at hl 0 rfl) ?_
                refine sp_calli (wr := []) (wc := []) hP hD hS hA [] [] rfl rfl (by decide) (by decide) (va_runS (As := [.long (kX2_significand x)]) (rest := []) ⟨hx, hb, hml, hown, hts⟩ (c_J13_numberOfLeadingZeros_95d88 l D cI cJ cZ H.size (kX2_significand x)) (va_cwS 1 hts gX0_quotient_J13_numberOfLeadingZeros_95d88_72 rfl rfl rfl (by decide +kernel) ⟨Nat.le_of_ble_eq_true rfl, Nat.le_of_ble_eq_true rfl⟩) (sp_preS [.long (kX2_significand x)] hK (hP.sub (ws' := []) [] rfl) (hD.sub (ws' := []) [] (by decide) rfl)) rfl rfl hl.1 rfl (lv_room (Nat.le_of_ble_eq_true rfl)) dX0_quotient_82 ⟨Nat.le_of_ble_eq_true rfl, Nat.le_of_ble_eq_true rfl⟩) (fun r41 u42 H locs hw43 hP hD hS => ?_)
                have hq_43_0 : r41 = (kJ13_numberOfLeadingZeros_95d88 (kX2_significand x)) := hw43
                subst r41
                have hP : va_P D vwCl [] H := hP
                have hD : va_D A [] := hD
                refine lv_iconst (v := 2) hx hb dX0_quotient_85 (by decide) ?_
                refine lv_isub hx hb dX0_quotient_86 ?_
                refine lv_istore (lv' := [(9, .int (kX0_quotient_s87 x y)), (7, .long (kX2_significand x)), (5, .long (kX2_significand y)), (4, .int (y &&& 2147483647)), (3, .int (x &&& 2147483647)), (2, .int ((x ^^^ y) &&& (-2147483648))), (0, .int x), (1, .int y)]) hx hb dX0_quotient_87 hl (by decide) rfl (fun ls hl => ?_)
                refine lv_lload hx hb dX0_quotient_89 (lv_at hl 1 rfl) ?_
                refine lv_iload hx hb dX0_quotient_91 (lv_at hl 0 rfl) ?_
                refine lv_lshl (v := _) hx hb dX0_quotient_93 rfl ?_
                refine lv_lstore (lv' := [(10, .long (kX0_quotient_s94 x y)), (9, .int (kX0_quotient_s87 x y)), (7, .long (kX2_significand x)), (5, .long (kX2_significand y)), (4, .int (y &&& 2147483647)), (3, .int (x &&& 2147483647)), (2, .int ((x ^^^ y) &&& (-2147483648))), (0, .int x), (1, .int y)]) hx hb dX0_quotient_94 hl (by decide) rfl (fun ls hl => ?_)
                refine lv_lload hx hb dX0_quotient_96 (lv_at hl 0 rfl) ?_
                refine lv_lload hx hb dX0_quotient_98 (lv_at hl 3 rfl) ?_
                refine lv_ldiv hx hb dX0_quotient_100 (fun q => absurd (congrArg Int64.toInt q) (by show ¬ ((kX2_significand y) : Int64).toInt = 0; omega)) ?_
                refine lv_lstore (lv' := [(12, .long (kX0_quotient_s101 x y)), (10, .long (kX0_quotient_s94 x y)), (9, .int (kX0_quotient_s87 x y)), (7, .long (kX2_significand x)), (5, .long (kX2_significand y)), (4, .int (y &&& 2147483647)), (3, .int (x &&& 2147483647)), (2, .int ((x ^^^ y) &&& (-2147483648))), (0, .int x), (1, .int y)]) hx hb dX0_quotient_101 hl (by decide) rfl (fun ls hl => ?_)
                refine lv_lload hx hb dX0_quotient_103 (lv_at hl 0 rfl) ?_
                refine lv_lload hx hb dX0_quotient_105 (lv_at hl 4 rfl) ?_
                refine lv_lmul hx hb dX0_quotient_107 ?_
                refine lv_lload hx hb dX0_quotient_108 (lv_at hl 1 rfl) ?_
                refine W.lcmp hx hb dX0_quotient_110 ?_
                have hj48 : ∀ (z47 : Int64) (H : Heap) (locs : List Loc) (ls : Array Slot), (z47 = kX0_quotient_123_z18 x y) → va_P D vwCl [] H → va_D A [] → va_S A s.heap H locs → lv_has ls 16 [(12, .long (kX0_quotient_s101 x y)), (10, .long (kX0_quotient_s94 x y)), (9, .int (kX0_quotient_s87 x y)), (7, .long (kX2_significand x)), (5, .long (kX2_significand y)), (4, .int (y &&& 2147483647)), (3, .int (x &&& 2147483647)), (2, .int ((x ^^^ y) &&& (-2147483648))), (0, .int x), (1, .int y)] → W p l e ({ frames := 3, cells := 0, slots := 0, locals := 75 }) s m (([.int x, .int y] : List Value).toArray) below meth c H locs 0 0 (MQ below (va_Qi (fun (r : Int32) (_ : Unit) => r = kX0_quotient x y) (sp_B D vwCl A (fun (_ : Unit) => [])) A) ([.int x, .int y] : List Value).toArray s 0 0 A) (F0 m 123 ls [.long z47]) := by
                  intro z47 H locs ls hz47 hP hD hS hl
                  subst z47
                  refine lv_lstore (lv' := [(14, .long (kX0_quotient_123_z18 x y)), (12, .long (kX0_quotient_s101 x y)), (10, .long (kX0_quotient_s94 x y)), (9, .int (kX0_quotient_s87 x y)), (7, .long (kX2_significand x)), (5, .long (kX2_significand y)), (4, .int (y &&& 2147483647)), (3, .int (x &&& 2147483647)), (2, .int ((x ^^^ y) &&& (-2147483648))), (0, .int x), (1, .int y)]) hx hb dX0_quotient_123 hl (by decide) rfl (fun ls hl => ?_)
                  refine lv_iload_n hx hb dX0_quotient_125 rfl (lv_at hl 8 rfl) ?_
                  refine lv_lload hx hb dX0_quotient_126 (lv_at hl 0 rfl) ?_
                  refine lv_iload_n hx hb dX0_quotient_128 rfl (lv_at hl 9 rfl) ?_
                  refine sp_calli (wr := []) (wc := []) hP hD hS hA [] [] rfl rfl (by decide) (by decide) (va_runS (As := [.int x]) (rest := [.long (kX0_quotient_123_z18 x y), .int ((x ^^^ y) &&& (-2147483648))]) ⟨hx, hb, hml, hown, hts⟩ (c_X2_exponent l D cI cJ cZ H.size x) (va_cwS 1 hts gX0_quotient_X2_exponent_53 rfl rfl rfl (by decide +kernel) ⟨Nat.le_of_ble_eq_true rfl, Nat.le_of_ble_eq_true rfl⟩) (sp_preS [.int x] hK (hP.sub (ws' := []) [] rfl) (hD.sub (ws' := []) [] (by decide) rfl)) rfl rfl hl.1 rfl (lv_room (Nat.le_of_ble_eq_true rfl)) dX0_quotient_129 ⟨Nat.le_of_ble_eq_true rfl, Nat.le_of_ble_eq_true rfl⟩) (fun r49 u50 H locs hw51 hP hD hS => ?_)
                  have hq_51_0 : r49 = (kX2_exponent x) := hw51
                  subst r49
                  have hP : va_P D vwCl [] H := hP
                  have hD : va_D A [] := hD
                  refine lv_iload hx hb dX0_quotient_132 (lv_at hl 3 rfl) ?_
                  refine lv_isub hx hb dX0_quotient_134 ?_
                  refine lv_iload_n hx hb dX0_quotient_135 rfl (lv_at hl 10 rfl) ?_
                  refine sp_calli (wr := []) (wc := []) hP hD hS hA [] [] rfl rfl (by decide) (by decide) (va_runS (As := [.int y]) (rest := [.int ((kX2_exponent x) - (kX0_quotient_s87 x y)), .long (kX0_quotient_123_z18 x y), .int ((x ^^^ y) &&& (-2147483648))]) ⟨hx, hb, hml, hown, hts⟩ (c_X2_exponent l D cI cJ cZ H.size y) (va_cwS 1 hts gX0_quotient_X2_exponent_53 rfl rfl rfl (by decide +kernel) ⟨Nat.le_of_ble_eq_true rfl, Nat.le_of_ble_eq_true rfl⟩) (sp_preS [.int y] hK (hP.sub (ws' := []) [] rfl) (hD.sub (ws' := []) [] (by decide) rfl)) rfl rfl hl.1 rfl (lv_room (Nat.le_of_ble_eq_true rfl)) dX0_quotient_136 ⟨Nat.le_of_ble_eq_true rfl, Nat.le_of_ble_eq_true rfl⟩) (fun r52 u53 H locs hw54 hP hD hS => ?_)
                  have hq_54_0 : r52 = (kX2_exponent y) := hw54
                  subst r52
                  have hP : va_P D vwCl [] H := hP
                  have hD : va_D A [] := hD
                  refine lv_isub hx hb dX0_quotient_139 ?_
                  refine sp_calli (wr := []) (wc := []) hP hD hS hA [] [] rfl rfl (by decide) (by decide) (va_runS (As := [.int ((x ^^^ y) &&& (-2147483648)), .long (kX0_quotient_123_z18 x y), .int (((kX2_exponent x) - (kX0_quotient_s87 x y)) - (kX2_exponent y))]) (rest := []) ⟨hx, hb, hml, hown, hts⟩ (c_X2_nearest l D cI cJ cZ H.size ((x ^^^ y) &&& (-2147483648)) (kX0_quotient_123_z18 x y) (((kX2_exponent x) - (kX0_quotient_s87 x y)) - (kX2_exponent y))) (va_cwS 3 hts gX0_quotient_X2_nearest_68 rfl rfl rfl (by decide +kernel) ⟨Nat.le_of_ble_eq_true rfl, Nat.le_of_ble_eq_true rfl⟩) (sp_preS [.int ((x ^^^ y) &&& (-2147483648)), .long (kX0_quotient_123_z18 x y), .int (((kX2_exponent x) - (kX0_quotient_s87 x y)) - (kX2_exponent y))] hK (hP.sub (ws' := []) [] rfl) (hD.sub (ws' := []) [] (by decide) rfl)) rfl rfl hl.1 rfl (lv_room (Nat.le_of_ble_eq_true rfl)) dX0_quotient_140 ⟨Nat.le_of_ble_eq_true rfl, Nat.le_of_ble_eq_true rfl⟩) (fun r55 u56 H locs hw57 hP hD hS => ?_)
                  have hq_57_0 : r55 = (kX2_nearest ((x ^^^ y) &&& (-2147483648)) (kX0_quotient_123_z18 x y) (((kX2_exponent x) - (kX0_quotient_s87 x y)) - (kX2_exponent y))) := hw57
                  subst r55
                  have hP : va_P D vwCl [] H := hP
                  have hD : va_D A [] := hD
                  refine W.widen (k := 0) (n := 0) (by decide) (by decide) ?_
                  exact sp_iret (u := ()) hx hb hr hlocks hS (Eq.symm ((if_pos c1i).trans ((if_neg c29i).trans ((if_neg c30i).trans ((if_neg c34i).trans ((if_neg c35i).trans ((if_neg c36i).trans ((if_neg c37i).trans rfl)))))))) (hP.sub [] rfl) (hD.sub [] (by decide) rfl) dX0_quotient_143
                refine lv_if_ne (tgt := 119) hx hb dX0_quotient_111 (by decide) (fun c44 => ?_) (fun c44 => ?_)
                · skip
                  have c44 := fun h => c44 ((lg_cmp_eq _ _).mpr h)
                  have c44i : ¬ (((kX0_quotient_s101 x y) * (kX2_significand y)) : Int64).toInt = ((kX0_quotient_s94 x y) : Int64).toInt := fun h => c44 (Int64.toInt_inj.mp h)
                  refine lv_lload hx hb dX0_quotient_119 (lv_at hl 0 rfl) ?_
                  refine lv_lconst (v := 1) hx hb dX0_quotient_121 (by decide) ?_
                  refine lv_lor hx hb dX0_quotient_122 ?_
                  exact hj48 (((kX0_quotient_s101 x y) ||| 1)) _ _ _ (Eq.symm ((if_neg c44i).trans rfl)) (hP.sub [] rfl) (hD.sub [] (by decide) rfl) hS (lv_sub hl [0, 1, 2, 3, 4, 5, 6, 7, 8, 9] rfl)
                · skip
                  have c44 := (lg_cmp_eq _ _).mp c44
                  have c44i : (((kX0_quotient_s101 x y) * (kX2_significand y)) : Int64).toInt = ((kX0_quotient_s94 x y) : Int64).toInt := congrArg Int64.toInt c44
                  refine lv_lload hx hb dX0_quotient_114 (lv_at hl 0 rfl) ?_
                  refine lv_goto (tgt := 123) hx hb dX0_quotient_116 (by decide) ?_
                  exact hj48 ((kX0_quotient_s101 x y)) _ _ _ (Eq.symm ((if_pos c44i).trans rfl)) (hP.sub [] rfl) (hD.sub [] (by decide) rfl) hS (lv_sub hl [0, 1, 2, 3, 4, 5, 6, 7, 8, 9] rfl)
              · skip
                have c37i : ((y &&& 2147483647) : Int32).toInt = 2139095040 := congrArg Int32.toInt c37
                refine lv_iload_n hx hb dX0_quotient_72 rfl (lv_at hl 3 rfl) ?_
                refine W.widen (k := 0) (n := 0) (by decide) (by decide) ?_
                exact sp_iret (u := ()) hx hb hr hlocks hS (Eq.symm ((if_pos c1i).trans ((if_neg c29i).trans ((if_neg c30i).trans ((if_neg c34i).trans ((if_neg c35i).trans ((if_neg c36i).trans ((if_pos c37i).trans rfl)))))))) (hP.sub [] rfl) (hD.sub [] (by decide) rfl) dX0_quotient_73
          · skip
            have c35 := (lg_cmp_eq _ _).mp c35
            have c35i : ((kX2_significand y) : Int64).toInt = 0 := congrArg Int64.toInt c35
            refine lv_iload_n hx hb dX0_quotient_56 rfl (lv_at hl 3 rfl) ?_
            refine lv_ldc (v := 2139095040) hx hb hown (hts (.constant RX0 52 (2139095040)) (oX0_quotient_in _ (List.mem_of_getElem? (i := 2) rfl))) dX0_quotient_57 ?_
            refine lv_ior hx hb dX0_quotient_59 ?_
            refine W.widen (k := 0) (n := 0) (by decide) (by decide) ?_
            exact sp_iret (u := ()) hx hb hr hlocks hS (Eq.symm ((if_pos c1i).trans ((if_neg c29i).trans ((if_neg c30i).trans ((if_neg c34i).trans ((if_pos c35i).trans rfl)))))) (hP.sub [] rfl) (hD.sub [] (by decide) rfl) dX0_quotient_60
      · skip
        have c30i : ((x &&& 2147483647) : Int32).toInt = 2139095040 := congrArg Int32.toInt c30
        refine lv_ldc (v := 2143289344) hx hb hown (hts (.constant RX0 15 (2143289344)) (oX0_quotient_in _ (List.mem_of_getElem? (i := 3) rfl))) dX0_quotient_34 ?_
        refine W.widen (k := 0) (n := 0) (by decide) (by decide) ?_
        exact sp_iret (u := ()) hx hb hr hlocks hS (Eq.symm ((if_pos c1i).trans ((if_neg c29i).trans ((if_pos c30i).trans rfl)))) (hP.sub [] rfl) (hD.sub [] (by decide) rfl) dX0_quotient_36
def oX0_rootDown : List Cond := [.constantLong RX0 84 (1073741824)]
def wpX0_rootDown : List Cond := .code yX0_rootDown cX0_rootDown 8 (some .long) :: (oX0_rootDown ++ ([] : List Cond))
theorem oX0_rootDown_in : ∀ w ∈ oX0_rootDown, w ∈ wpX0_rootDown := fun w h => List.mem_cons_of_mem _ (List.mem_append_left _ h)
theorem gwoX0_rootDown : ∀ w ∈ oX0_rootDown, goodWord w = true := by decide +kernel
theorem gwX0_rootDown : ∀ w ∈ wpX0_rootDown, goodWord w = true := by
  unfold wpX0_rootDown
  exact List.forall_mem_cons.mpr ⟨rfl, List.forall_mem_append.mpr ⟨gwoX0_rootDown, fun _ h => absurd h List.not_mem_nil⟩⟩
set_option maxRecDepth 100000 in
theorem toX0_rootDown : ∀ w ∈ oX0_rootDown, w ∈ lw_tbl := by
  unfold oX0_rootDown
  exact List.forall_mem_cons.mpr ⟨(List.mem_of_getElem? (i := 429) (by decide +kernel)), fun _ h => absurd h List.not_mem_nil⟩
set_option maxRecDepth 100000 in
theorem tX0_rootDown : ∀ w ∈ wpX0_rootDown, w ∈ lw_tbl := by
  unfold wpX0_rootDown
  exact List.forall_mem_cons.mpr ⟨(List.mem_of_getElem? (i := 428) (by rfl)), List.forall_mem_append.mpr ⟨toX0_rootDown, fun _ h => absurd h List.not_mem_nil⟩⟩
set_option maxHeartbeats 4000000 in
set_option maxRecDepth 100000 in
theorem lp_X0_rootDown_7 {p : Program} {e : Env} {s : State} {m : MethodId} {below : List Frame} {meth : Method} {c : Code} {A : Nat → Prop} (l : Launch) (D : va_G) (cI cJ cZ : ClassId) (q : Int64) (C0 : sp_C cX0_rootDown (some .long) 8 wpX0_rootDown yX0_rootDown.cls yX0_rootDown.name p s m ([.long q] : List Value).toArray meth c) (hA : ∀ q : Nat, s.heap.size ≤ q → A q) (hK : va_K D vwCl [(cI, .int), (cJ, .long), (cZ, .boolean)] s) :
    ∀ (fuel : Nat) (r : Int64) (t : Int64) (H : Heap) (locs : List Loc) (ls : Array Slot), (0 ≤ (t : Int64).toInt) → (kX0_rootDown q = kX0_rootDown_l7 fuel q r t) → ((t : Int64).toInt < (fuel : Int)) → va_P D vwCl [] H → va_D A [] → va_S A s.heap H locs → lv_has ls 8 [(0, .long q), (2, .long r), (4, .long t)] → W p l e ({ frames := 0, cells := 0, slots := 0, locals := 0 }) s m (([.long q] : List Value).toArray) below meth c H locs 0 0 (MQ below (va_Ql (fun (r : Int64) (_ : Unit) => r = kX0_rootDown q) (sp_B D vwCl A (fun (_ : Unit) => [])) A) ([.long q] : List Value).toArray s 0 0 A) (F0 m 7 ls []) := by
  obtain ⟨hx, hb, hr, hts, hown, hlocks, hml, hin⟩ := id C0
  have hown : s.vm.findClass RX0 = some m.cls := hown
  intro fuel
  induction fuel with
  | zero =>
    intro r t H locs ls h0 hk_r hm
    exact absurd hm (by omega)
  | succ fuel ih =>
    intro r t H locs ls h0 hk_r hm hP hD hS hl
    refine lv_lload hx hb dX0_rootDown_7 (lv_at hl 2 rfl) ?_
    refine lv_lconst (v := 0) hx hb dX0_rootDown_9 (by decide) ?_
    refine W.lcmp hx hb dX0_rootDown_10 ?_
    refine lv_if_le (tgt := 42) hx hb dX0_rootDown_11 (by decide) (fun c1 => ?_) (fun c1 => ?_)
    · skip
      have c1 := (lg_cmp_le _ _).mp c1
      have c1i : (t : Int64).toInt ≤ 0 := Int64.le_iff_toInt_le.mp c1
      refine lv_lload_n hx hb dX0_rootDown_42 rfl (lv_at hl 1 rfl) ?_
      refine W.widen (k := 0) (n := 0) (by decide) (by decide) ?_
      exact sp_lret (u := ()) hx hb hr hlocks hS (Eq.symm (hk_r.trans ((if_pos c1i).trans rfl))) (hP.sub [] rfl) (hD.sub [] (by decide) rfl) dX0_rootDown_43
    · skip
      have c1 := fun h => c1 ((lg_cmp_le _ _).mpr h)
      have c1i : ¬ (t : Int64).toInt ≤ 0 := fun h => c1 (Int64.le_iff_toInt_le.mpr h)
      refine lv_lload_n hx hb dX0_rootDown_14 rfl (lv_at hl 1 rfl) ?_
      refine lv_lload hx hb dX0_rootDown_15 (lv_at hl 2 rfl) ?_
      refine lv_ladd hx hb dX0_rootDown_17 ?_
      refine lv_lstore (lv' := [(6, .long (r + t)), (0, .long q), (2, .long r), (4, .long t)]) hx hb dX0_rootDown_18 hl (by decide) rfl (fun ls hl => ?_)
      refine lv_lload hx hb dX0_rootDown_20 (lv_at hl 0 rfl) ?_
      refine lv_lload hx hb dX0_rootDown_22 (lv_at hl 0 rfl) ?_
      refine lv_lmul hx hb dX0_rootDown_24 ?_
      refine lv_lload_n hx hb dX0_rootDown_25 rfl (lv_at hl 1 rfl) ?_
      refine W.lcmp hx hb dX0_rootDown_26 ?_
      refine lv_if_gt (tgt := 33) hx hb dX0_rootDown_27 (by decide) (fun c2 => ?_) (fun c2 => ?_)
      · skip
        have c2 := (lg_cmp_gt _ _).mp c2
        have c2i : (q : Int64).toInt < (((r + t) * (r + t)) : Int64).toInt := Int64.lt_iff_toInt_lt.mp c2
        refine lv_lload hx hb dX0_rootDown_33 (lv_at hl 3 rfl) ?_
        refine lv_iconst (v := 1) hx hb dX0_rootDown_35 (by decide) ?_
        refine lv_lshr (v := _) hx hb dX0_rootDown_36 rfl ?_
        refine lv_lstore (lv' := [(4, .long (t >>> ((1 : Int32).toInt64 &&& 63))), (6, .long (r + t)), (0, .long q), (2, .long r)]) hx hb dX0_rootDown_37 hl (by decide) rfl (fun ls hl => ?_)
        refine lv_goto (tgt := 7) hx hb dX0_rootDown_39 (by decide) ?_
        have hs := px_shr1 (x := t) (by omega)
        exact ih (r) ((t >>> ((1 : Int32).toInt64 &&& 63))) _ _ _ (by first | assumption | omega) (hk_r.trans ((if_neg c1i).trans ((if_pos c2i).trans rfl))) (by omega) (hP.sub [] rfl) (hD.sub [] (by decide) rfl) hS (lv_sub hl [2, 3, 0] rfl)
      · skip
        have c2 := fun h => c2 ((lg_cmp_gt _ _).mpr h)
        have c2i : ¬ (q : Int64).toInt < (((r + t) * (r + t)) : Int64).toInt := fun h => c2 (Int64.lt_iff_toInt_lt.mpr h)
        refine lv_lload hx hb dX0_rootDown_30 (lv_at hl 0 rfl) ?_
        refine lv_lstore_n (lv' := [(2, .long (r + t)), (6, .long (r + t)), (0, .long q), (4, .long t)]) hx hb dX0_rootDown_32 rfl hl (by decide) rfl (fun ls hl => ?_)
        refine lv_lload hx hb dX0_rootDown_33 (lv_at hl 3 rfl) ?_
        refine lv_iconst (v := 1) hx hb dX0_rootDown_35 (by decide) ?_
        refine lv_lshr (v := _) hx hb dX0_rootDown_36 rfl ?_
        refine lv_lstore (lv' := [(4, .long (t >>> ((1 : Int32).toInt64 &&& 63))), (2, .long (r + t)), (6, .long (r + t)), (0, .long q)]) hx hb dX0_rootDown_37 hl (by decide) rfl (fun ls hl => ?_)
        refine lv_goto (tgt := 7) hx hb dX0_rootDown_39 (by decide) ?_
        have hs := px_shr1 (x := t) (by omega)
        exact ih ((r + t)) ((t >>> ((1 : Int32).toInt64 &&& 63))) _ _ _ (by first | assumption | omega) (hk_r.trans ((if_neg c1i).trans ((if_neg c2i).trans rfl))) (by omega) (hP.sub [] rfl) (hD.sub [] (by decide) rfl) hS (lv_sub hl [3, 1, 0] rfl)
set_option maxHeartbeats 4000000 in
set_option maxRecDepth 100000 in
theorem c_X0_rootDown (l : Launch) (D : va_G) (cI cJ cZ : ClassId) (sz : Nat) (q : Int64) : Met l yX0_rootDown wpX0_rootDown ({ frames := 0, cells := 0, slots := 0, locals := 0 }) (va_Pc ([.long q] : List Value) (sp_pre D vwCl (sp_ty cI cJ cZ) [] sz)) (va_Ql (fun (r : Int64) (_ : Unit) => r = kX0_rootDown q) (sp_B D vwCl (va_A [] sz) (fun (_ : Unit) => [])) (va_A [] sz)) 0 0 (va_A [] sz) := by
  refine sp_ofW (Qc := fun A => va_Ql (fun (r : Int64) (_ : Unit) => r = kX0_rootDown q) (sp_B D vwCl A (fun (_ : Unit) => [])) A) (by decide) rfl (Nat.le_of_ble_eq_true rfl) (fun p e s m below meth c A ls H locs C0 hA hS hP hK hD hl => ?_)
  obtain ⟨hx, hb, hr, hts, hown, hlocks, hml, hin⟩ := id C0
  have hown : s.vm.findClass RX0 = some m.cls := hown
  have hl : lv_has ls 8 [(0, .long q)] := hl
  have hK : va_K D vwCl [(cI, .int), (cJ, .long), (cZ, .boolean)] s := hK
  refine lv_lconst (v := 0) hx hb dX0_rootDown_0 (by decide) ?_
  refine lv_lstore_n (lv' := [(2, .long 0), (0, .long q)]) hx hb dX0_rootDown_1 rfl hl (by decide) rfl (fun ls hl => ?_)
  refine lv_ldc2 (v := 1073741824) hx hb hown (hts (.constantLong RX0 84 (1073741824)) (oX0_rootDown_in _ (List.mem_of_getElem? (i := 0) rfl))) dX0_rootDown_2 ?_
  refine lv_lstore (lv' := [(4, .long 1073741824), (2, .long 0), (0, .long q)]) hx hb dX0_rootDown_5 hl (by decide) rfl (fun ls hl => ?_)
  have kk1 : ((0) : Int64).toInt = (0) := by decide
  have kk2 : ((1073741824) : Int64).toInt = (1073741824) := by decide
  exact lp_X0_rootDown_7 l D cI cJ cZ q C0 hA hK 1073741825 (0) (1073741824) _ _ _ (by first | assumption | omega) rfl (by omega) (hP.sub [] rfl) (hD.sub [] (by decide) rfl) hS (lv_sub hl [2, 1, 0] rfl)
def oX0_remainder : List Cond := [.methodLink RX0 78 Lib.Math.min.name, .static Lib.Math.min.name, .initialized "java/lang/Math", .code Lib.Math.min.name Lib.Math.min.code 2 (some .int), .constant RX0 16 (-2147483648), .constant RX0 17 (2147483647), .constant RX0 52 (2139095040), .constant RX0 15 (2143289344)]
def wpX0_remainder : List Cond := .code yX0_remainder cX0_remainder 8 (some .int) :: (oX0_remainder ++ ((va_wsS RX0 68 yX2_nearest wpX2_nearest) ++ ((va_wsS RX0 61 yX2_significand wpX2_significand) ++ ((va_wsS RX0 53 yX2_exponent wpX2_exponent) ++ ([] : List Cond)))))
theorem oX0_remainder_in : ∀ w ∈ oX0_remainder, w ∈ wpX0_remainder := fun w h => List.mem_cons_of_mem _ (List.mem_append_left _ h)
theorem gwoX0_remainder : ∀ w ∈ oX0_remainder, goodWord w = true := by decide +kernel
theorem gwX0_remainder : ∀ w ∈ wpX0_remainder, goodWord w = true := by
  unfold wpX0_remainder
  exact List.forall_mem_cons.mpr ⟨rfl, List.forall_mem_append.mpr ⟨gwoX0_remainder, List.forall_mem_append.mpr ⟨(sp_gS gwX2_nearest), List.forall_mem_append.mpr ⟨(sp_gS gwX2_significand), List.forall_mem_append.mpr ⟨(sp_gS gwX2_exponent), fun _ h => absurd h List.not_mem_nil⟩⟩⟩⟩⟩
set_option maxRecDepth 100000 in
theorem toX0_remainder : ∀ w ∈ oX0_remainder, w ∈ lw_tbl := by
  unfold oX0_remainder
  exact List.forall_mem_cons.mpr ⟨(List.mem_of_getElem? (i := 398) (by decide +kernel)), List.forall_mem_cons.mpr ⟨(List.mem_of_getElem? (i := 399) (by decide +kernel)), List.forall_mem_cons.mpr ⟨(List.mem_of_getElem? (i := 48) (by decide +kernel)), List.forall_mem_cons.mpr ⟨(List.mem_of_getElem? (i := 400) (by rfl)), List.forall_mem_cons.mpr ⟨(List.mem_of_getElem? (i := 370) (by decide +kernel)), List.forall_mem_cons.mpr ⟨(List.mem_of_getElem? (i := 357) (by decide +kernel)), List.forall_mem_cons.mpr ⟨(List.mem_of_getElem? (i := 358) (by decide +kernel)), List.forall_mem_cons.mpr ⟨(List.mem_of_getElem? (i := 353) (by decide +kernel)), fun _ h => absurd h List.not_mem_nil⟩⟩⟩⟩⟩⟩⟩⟩
set_option maxRecDepth 100000 in
theorem tX0_remainder : ∀ w ∈ wpX0_remainder, w ∈ lw_tbl := by
  unfold wpX0_remainder
  exact List.forall_mem_cons.mpr ⟨(List.mem_of_getElem? (i := 397) (by rfl)), List.forall_mem_append.mpr ⟨toX0_remainder, List.forall_mem_append.mpr ⟨(sp_tS (List.mem_of_getElem? (i := 374) (by decide +kernel)) (List.mem_of_getElem? (i := 375) (by decide +kernel)) (List.mem_of_getElem? (i := 46) (by decide +kernel)) tX2_nearest), List.forall_mem_append.mpr ⟨(sp_tS (List.mem_of_getElem? (i := 365) (by decide +kernel)) (List.mem_of_getElem? (i := 366) (by decide +kernel)) (List.mem_of_getElem? (i := 46) (by decide +kernel)) tX2_significand), List.forall_mem_append.mpr ⟨(sp_tS (List.mem_of_getElem? (i := 359) (by decide +kernel)) (List.mem_of_getElem? (i := 360) (by decide +kernel)) (List.mem_of_getElem? (i := 46) (by decide +kernel)) tX2_exponent), fun _ h => absurd h List.not_mem_nil⟩⟩⟩⟩⟩
theorem gX0_remainder_X2_nearest_68 : GoodIn wpX0_remainder (va_wsS RX0 68 yX2_nearest wpX2_nearest) := fun w h => ⟨List.mem_cons_of_mem _ (List.mem_append_right _ (List.mem_append_left _ h)), good_of_word (sp_gS gwX2_nearest w h)⟩
theorem gX0_remainder_X2_significand_61 : GoodIn wpX0_remainder (va_wsS RX0 61 yX2_significand wpX2_significand) := fun w h => ⟨List.mem_cons_of_mem _ (List.mem_append_right _ (List.mem_append_right _ (List.mem_append_left _ h))), good_of_word (sp_gS gwX2_significand w h)⟩
theorem gX0_remainder_X2_exponent_53 : GoodIn wpX0_remainder (va_wsS RX0 53 yX2_exponent wpX2_exponent) := fun w h => ⟨List.mem_cons_of_mem _ (List.mem_append_right _ (List.mem_append_right _ (List.mem_append_right _ (List.mem_append_left _ h)))), good_of_word (sp_gS gwX2_exponent w h)⟩
set_option maxHeartbeats 4000000 in
set_option maxRecDepth 100000 in
theorem lp_X0_remainder_59 {p : Program} {e : Env} {s : State} {m : MethodId} {below : List Frame} {meth : Method} {c : Code} {A : Nat → Prop} (l : Launch) (D : va_G) (cI cJ cZ : ClassId) (x : Int32) (y : Int32) (C0 : sp_C cX0_remainder (some .int) 8 wpX0_remainder yX0_remainder.cls yX0_remainder.name p s m ([.int x, .int y] : List Value).toArray meth c) (hA : ∀ q : Nat, s.heap.size ≤ q → A q) (hK : va_K D vwCl [(cI, .int), (cJ, .long), (cZ, .boolean)] s) :
    ∀ (fuel : Nat) (dv : Int64) (un : Int32) (rs : Int64) (lf : Int32) (H : Heap) (locs : List Loc) (ls : Array Slot), (¬ (dv : Int64).toInt = 0) → (kX0_remainder x y = kX0_remainder_l59 fuel x y dv un rs lf) → ((if (lf : Int32).toInt < 0 then 0 else (lf : Int32).toInt) < (fuel : Int)) → va_P D vwCl [] H → va_D A [] → va_S A s.heap H locs → lv_has ls 8 [(0, .int x), (1, .int y), (2, .long dv), (4, .int un), (5, .long rs), (7, .int lf)] → W p l e ({ frames := 3, cells := 0, slots := 0, locals := 75 }) s m (([.int x, .int y] : List Value).toArray) below meth c H locs 0 0 (MQ below (va_Qi (fun (r : Int32) (_ : Unit) => r = kX0_remainder x y) (sp_B D vwCl A (fun (_ : Unit) => [])) A) ([.int x, .int y] : List Value).toArray s 0 0 A) (F0 m 59 ls []) := by
  obtain ⟨hx, hb, hr, hts, hown, hlocks, hml, hin⟩ := id C0
  have hown : s.vm.findClass RX0 = some m.cls := hown
  intro fuel
  induction fuel with
  | zero =>
    intro dv un rs lf H locs ls h0 hk_r hm
    exact absurd hm (by omega)
  | succ fuel ih =>
    intro dv un rs lf H locs ls h0 hk_r hm hP hD hS hl
    have hrl := px_rng lf
    refine lv_iload hx hb dX0_remainder_59 (lv_at hl 5 rfl) ?_
    refine lv_if_le (tgt := 84) hx hb dX0_remainder_61 (by decide) (fun c1 => ?_) (fun c1 => ?_)
    · skip
      have c1i : (lf : Int32).toInt ≤ 0 := Int32.le_iff_toInt_le.mp c1
      refine lv_iload_n hx hb dX0_remainder_84 rfl (lv_at hl 0 rfl) ?_
      refine lv_ldc (v := (-2147483648)) hx hb hown (hts (.constant RX0 16 (-2147483648)) (oX0_remainder_in _ (List.mem_of_getElem? (i := 4) rfl))) dX0_remainder_85 ?_
      refine lv_iand hx hb dX0_remainder_87 ?_
      refine lv_lload hx hb dX0_remainder_88 (lv_at hl 4 rfl) ?_
      refine lv_iload hx hb dX0_remainder_90 (lv_at hl 3 rfl) ?_
      refine sp_calli (wr := []) (wc := []) hP hD hS hA [] [] rfl rfl (by decide) (by decide) (va_runS (As := [.int (x &&& (-2147483648)), .long rs, .int un]) (rest := []) ⟨hx, hb, hml, hown, hts⟩ (c_X2_nearest l D cI cJ cZ H.size (x &&& (-2147483648)) rs un) (va_cwS 3 hts gX0_remainder_X2_nearest_68 rfl rfl rfl (by decide +kernel) ⟨Nat.le_of_ble_eq_true rfl, Nat.le_of_ble_eq_true rfl⟩) (sp_preS [.int (x &&& (-2147483648)), .long rs, .int un] hK (hP.sub (ws' := []) [] rfl) (hD.sub (ws' := []) [] (by decide) rfl)) rfl rfl hl.1 rfl (lv_room (Nat.le_of_ble_eq_true rfl)) dX0_remainder_92 ⟨Nat.le_of_ble_eq_true rfl, Nat.le_of_ble_eq_true rfl⟩) (fun r3 u4 H locs hw5 hP hD hS => ?_)
      have hq_5_0 : r3 = (kX2_nearest (x &&& (-2147483648)) rs un) := hw5
      subst r3
      have hP : va_P D vwCl [] H := hP
      have hD : va_D A [] := hD
      refine W.widen (k := 0) (n := 0) (by decide) (by decide) ?_
      exact sp_iret (u := ()) hx hb hr hlocks hS (Eq.symm (hk_r.trans ((if_pos c1i).trans rfl))) (hP.sub [] rfl) (hD.sub [] (by decide) rfl) dX0_remainder_95
    · skip
      have c1i : ¬ (lf : Int32).toInt ≤ 0 := fun h => c1 (Int32.le_iff_toInt_le.mpr h)
      refine lv_lload hx hb dX0_remainder_64 (lv_at hl 4 rfl) ?_
      refine lv_iload hx hb dX0_remainder_66 (lv_at hl 5 rfl) ?_
      refine lv_bipush (v := 38) hx hb dX0_remainder_68 (by decide) ?_
      refine va_mmin hx hb (by rw [hml]; exact hl.1.symm) hown (hts (.methodLink RX0 78 Lib.Math.min.name) (oX0_remainder_in _ (List.mem_of_getElem? (i := 0) rfl))) (hts (.static Lib.Math.min.name) (oX0_remainder_in _ (List.mem_of_getElem? (i := 1) rfl))) (hts (.initialized "java/lang/Math") (oX0_remainder_in _ (List.mem_of_getElem? (i := 2) rfl))) (hts (.code Lib.Math.min.name Lib.Math.min.code 2 (some .int)) (oX0_remainder_in _ (List.mem_of_getElem? (i := 3) rfl))) (Nat.le_of_ble_eq_true rfl) (Nat.le_of_ble_eq_true rfl) (Nat.le_of_ble_eq_true rfl) (Nat.le_of_ble_eq_true rfl) dX0_remainder_70 ?_
      refine W.eq (g2 := F0 m 73 ls [.int (kmin (lf) (38)), .long rs]) rfl ?_
      refine lv_lshl (v := _) hx hb dX0_remainder_73 rfl ?_
      refine lv_lload_n hx hb dX0_remainder_74 rfl (lv_at hl 2 rfl) ?_
      refine lv_lrem hx hb dX0_remainder_75 (fun q => absurd (congrArg Int64.toInt q) (by show ¬ (dv : Int64).toInt = 0; omega)) ?_
      refine lv_lstore (lv' := [(5, .long ((rs <<< (((kmin (lf) (38)) : Int32).toInt64 &&& 63)) - (rs <<< (((kmin (lf) (38)) : Int32).toInt64 &&& 63)) / dv * dv)), (0, .int x), (1, .int y), (2, .long dv), (4, .int un), (7, .int lf)]) hx hb dX0_remainder_76 hl (by decide) rfl (fun ls hl => ?_)
      refine lv_iinc (v := (lf + (-38))) (lv' := [(7, .int (lf + (-38))), (5, .long ((rs <<< (((kmin (lf) (38)) : Int32).toInt64 &&& 63)) - (rs <<< (((kmin (lf) (38)) : Int32).toInt64 &&& 63)) / dv * dv)), (0, .int x), (1, .int y), (2, .long dv), (4, .int un)]) hx hb dX0_remainder_78 hl (k := 5) rfl rfl (by decide) rfl (fun ls hl => ?_)
      refine lv_goto (tgt := 59) hx hb dX0_remainder_81 (by decide) ?_
      have hrl2 := px_rng ((lf + (-38)))
      have hlf := px_iadd (x := lf) (y := -38) (by have := (show ((-38 : Int32)).toInt = -38 by decide); omega) (by have := (show ((-38 : Int32)).toInt = -38 by decide); omega)
      have h38 : ((-38 : Int32)).toInt = -38 := by decide
      exact ih (dv) (un) (((rs <<< (((kmin (lf) (38)) : Int32).toInt64 &&& 63)) - (rs <<< (((kmin (lf) (38)) : Int32).toInt64 &&& 63)) / dv * dv)) ((lf + (-38))) _ _ _ (by first | assumption | omega) (hk_r.trans ((if_neg c1i).trans rfl)) (by omega) (hP.sub [] rfl) (hD.sub [] (by decide) rfl) hS (lv_sub hl [2, 3, 4, 5, 1, 0] rfl)
set_option maxHeartbeats 4000000 in
set_option maxRecDepth 100000 in
theorem c_X0_remainder (l : Launch) (D : va_G) (cI cJ cZ : ClassId) (sz : Nat) (x : Int32) (y : Int32) : Met l yX0_remainder wpX0_remainder ({ frames := 3, cells := 0, slots := 0, locals := 75 }) (va_Pc ([.int x, .int y] : List Value) (sp_pre D vwCl (sp_ty cI cJ cZ) [] sz)) (va_Qi (fun (r : Int32) (_ : Unit) => r = kX0_remainder x y) (sp_B D vwCl (va_A [] sz) (fun (_ : Unit) => [])) (va_A [] sz)) 0 0 (va_A [] sz) := by
  refine sp_ofW (Qc := fun A => va_Qi (fun (r : Int32) (_ : Unit) => r = kX0_remainder x y) (sp_B D vwCl A (fun (_ : Unit) => [])) A) (by decide) rfl (Nat.le_of_ble_eq_true rfl) (fun p e s m below meth c A ls H locs C0 hA hS hP hK hD hl => ?_)
  obtain ⟨hx, hb, hr, hts, hown, hlocks, hml, hin⟩ := id C0
  have hown : s.vm.findClass RX0 = some m.cls := hown
  have hl : lv_has ls 8 [(0, .int x), (1, .int y)] := hl
  have hK : va_K D vwCl [(cI, .int), (cJ, .long), (cZ, .boolean)] s := hK
  refine lv_iload_n hx hb dX0_remainder_0 rfl (lv_at hl 1 rfl) ?_
  refine sp_callj (wr := []) (wc := []) hP hD hS hA [] [] rfl rfl (by decide) (by decide) (va_runS (As := [.int y]) (rest := []) ⟨hx, hb, hml, hown, hts⟩ (c_X2_significand l D cI cJ cZ H.size y) (va_cwS 1 hts gX0_remainder_X2_significand_61 rfl rfl rfl (by decide +kernel) ⟨Nat.le_of_ble_eq_true rfl, Nat.le_of_ble_eq_true rfl⟩) (sp_preS [.int y] hK (hP.sub (ws' := []) [] rfl) (hD.sub (ws' := []) [] (by decide) rfl)) rfl rfl hl.1 rfl (lv_room (Nat.le_of_ble_eq_true rfl)) dX0_remainder_1 ⟨Nat.le_of_ble_eq_true rfl, Nat.le_of_ble_eq_true rfl⟩) (fun r1 u2 H locs hw3 hP hD hS => ?_)
  have hq_3_0 : r1 = (kX2_significand y) := hw3
  subst r1
  have hP : va_P D vwCl [] H := hP
  have hD : va_D A [] := hD
  refine lv_lstore_n (lv' := [(2, .long (kX2_significand y)), (0, .int x), (1, .int y)]) hx hb dX0_remainder_4 rfl hl (by decide) rfl (fun ls hl => ?_)
  refine lv_iload_n hx hb dX0_remainder_5 rfl (lv_at hl 1 rfl) ?_
  refine lv_ldc (v := 2147483647) hx hb hown (hts (.constant RX0 17 (2147483647)) (oX0_remainder_in _ (List.mem_of_getElem? (i := 5) rfl))) dX0_remainder_6 ?_
  refine lv_iand hx hb dX0_remainder_8 ?_
  refine lv_ldc (v := 2139095040) hx hb hown (hts (.constant RX0 52 (2139095040)) (oX0_remainder_in _ (List.mem_of_getElem? (i := 6) rfl))) dX0_remainder_9 ?_
  refine lv_icmp_eq (tgt := 20) hx hb dX0_remainder_11 (by decide) (fun c4 => ?_) (fun c4 => ?_)
  · skip
    have c4i : ((x &&& 2147483647) : Int32).toInt = 2139095040 := congrArg Int32.toInt c4
    refine lv_ldc (v := 2143289344) hx hb hown (hts (.constant RX0 15 (2143289344)) (oX0_remainder_in _ (List.mem_of_getElem? (i := 7) rfl))) dX0_remainder_20 ?_
    refine W.widen (k := 0) (n := 0) (by decide) (by decide) ?_
    exact sp_iret (u := ()) hx hb hr hlocks hS (Eq.symm ((if_pos c4i).trans rfl)) (hP.sub [] rfl) (hD.sub [] (by decide) rfl) dX0_remainder_22
  · skip
    have c4i : ¬ ((x &&& 2147483647) : Int32).toInt = 2139095040 := fun h => c4 (Int32.toInt_inj.mp h)
    refine lv_lload_n hx hb dX0_remainder_14 rfl (lv_at hl 0 rfl) ?_
    refine lv_lconst (v := 0) hx hb dX0_remainder_15 (by decide) ?_
    refine W.lcmp hx hb dX0_remainder_16 ?_
    refine lv_if_ne (tgt := 23) hx hb dX0_remainder_17 (by decide) (fun c5 => ?_) (fun c5 => ?_)
    · skip
      have c5 := fun h => c5 ((lg_cmp_eq _ _).mpr h)
      have c5i : ¬ ((kX2_significand y) : Int64).toInt = 0 := fun h => c5 (Int64.toInt_inj.mp h)
      refine lv_iload_n hx hb dX0_remainder_23 rfl (lv_at hl 1 rfl) ?_
      refine lv_ldc (v := 2147483647) hx hb hown (hts (.constant RX0 17 (2147483647)) (oX0_remainder_in _ (List.mem_of_getElem? (i := 5) rfl))) dX0_remainder_24 ?_
      refine lv_iand hx hb dX0_remainder_26 ?_
      refine lv_iload_n hx hb dX0_remainder_27 rfl (lv_at hl 2 rfl) ?_
      refine lv_ldc (v := 2147483647) hx hb hown (hts (.constant RX0 17 (2147483647)) (oX0_remainder_in _ (List.mem_of_getElem? (i := 5) rfl))) dX0_remainder_28 ?_
      refine lv_iand hx hb dX0_remainder_30 ?_
      refine lv_icmp_ge (tgt := 36) hx hb dX0_remainder_31 (by decide) (fun c6 => ?_) (fun c6 => ?_)
      · skip
        have c6i : ((y &&& 2147483647) : Int32).toInt ≤ ((x &&& 2147483647) : Int32).toInt := Int32.le_iff_toInt_le.mp c6
        refine lv_iload_n hx hb dX0_remainder_36 rfl (lv_at hl 2 rfl) ?_
        refine sp_calli (wr := []) (wc := []) hP hD hS hA [] [] rfl rfl (by decide) (by decide) (va_runS (As := [.int y]) (rest := []) ⟨hx, hb, hml, hown, hts⟩ (c_X2_exponent l D cI cJ cZ H.size y) (va_cwS 1 hts gX0_remainder_X2_exponent_53 rfl rfl rfl (by decide +kernel) ⟨Nat.le_of_ble_eq_true rfl, Nat.le_of_ble_eq_true rfl⟩) (sp_preS [.int y] hK (hP.sub (ws' := []) [] rfl) (hD.sub (ws' := []) [] (by decide) rfl)) rfl rfl hl.1 rfl (lv_room (Nat.le_of_ble_eq_true rfl)) dX0_remainder_37 ⟨Nat.le_of_ble_eq_true rfl, Nat.le_of_ble_eq_true rfl⟩) (fun r7 u8 H locs hw9 hP hD hS => ?_)
        have hq_9_0 : r7 = (kX2_exponent y) := hw9
        subst r7
        have hP : va_P D vwCl [] H := hP
        have hD : va_D A [] := hD
        refine lv_istore (lv' := [(4, .int (kX2_exponent y)), (2, .long (kX2_significand y)), (0, .int x), (1, .int y)]) hx hb dX0_remainder_40 hl (by decide) rfl (fun ls hl => ?_)
        refine lv_iload_n hx hb dX0_remainder_42 rfl (lv_at hl 2 rfl) ?_
        refine sp_callj (wr := []) (wc := []) hP hD hS hA [] [] rfl rfl (by decide) (by decide) (va_runS (As := [.int x]) (rest := []) ⟨hx, hb, hml, hown, hts⟩ (c_X2_significand l D cI cJ cZ H.size x) (va_cwS 1 hts gX0_remainder_X2_significand_61 rfl rfl rfl (by decide +kernel) ⟨Nat.le_of_ble_eq_true rfl, Nat.le_of_ble_eq_true rfl⟩) (sp_preS [.int x] hK (hP.sub (ws' := []) [] rfl) (hD.sub (ws' := []) [] (by decide) rfl)) rfl rfl hl.1 rfl (lv_room (Nat.le_of_ble_eq_true rfl)) dX0_remainder_43 ⟨Nat.le_of_ble_eq_true rfl, Nat.le_of_ble_eq_true rfl⟩) (fun r10 u11 H locs hw12 hP hD hS => ?_)
        have hq_12_0 : r10 = (kX2_significand x) := hw12
        subst r10
        have hP : va_P D vwCl [] H := hP
        have hD : va_D A [] := hD
        refine lv_lload_n hx hb dX0_remainder_46 rfl (lv_at hl 1 rfl) ?_
        refine lv_lrem hx hb dX0_remainder_47 (fun q => absurd (congrArg Int64.toInt q) (by show ¬ ((kX2_significand y) : Int64).toInt = 0; omega)) ?_
        refine lv_lstore (lv' := [(5, .long ((kX2_significand x) - (kX2_significand x) / (kX2_significand y) * (kX2_significand y))), (4, .int (kX2_exponent y)), (2, .long (kX2_significand y)), (0, .int x), (1, .int y)]) hx hb dX0_remainder_48 hl (by decide) rfl (fun ls hl => ?_)
        refine lv_iload_n hx hb dX0_remainder_50 rfl (lv_at hl 3 rfl) ?_
        refine sp_calli (wr := []) (wc := []) hP hD hS hA [] [] rfl rfl (by decide) (by decide) (va_runS (As := [.int x]) (rest := []) ⟨hx, hb, hml, hown, hts⟩ (c_X2_exponent l D cI cJ cZ H.size x) (va_cwS 1 hts gX0_remainder_X2_exponent_53 rfl rfl rfl (by decide +kernel) ⟨Nat.le_of_ble_eq_true rfl, Nat.le_of_ble_eq_true rfl⟩) (sp_preS [.int x] hK (hP.sub (ws' := []) [] rfl) (hD.sub (ws' := []) [] (by decide) rfl)) rfl rfl hl.1 rfl (lv_room (Nat.le_of_ble_eq_true rfl)) dX0_remainder_51 ⟨Nat.le_of_ble_eq_true rfl, Nat.le_of_ble_eq_true rfl⟩) (fun r13 u14 H locs hw15 hP hD hS => ?_)
        have hq_15_0 : r13 = (kX2_exponent x) := hw15
        subst r13
        have hP : va_P D vwCl [] H := hP
        have hD : va_D A [] := hD
        refine lv_iload hx hb dX0_remainder_54 (lv_at hl 1 rfl) ?_
        refine lv_isub hx hb dX0_remainder_56 ?_
        refine lv_istore (lv' := [(7, .int ((kX2_exponent x) - (kX2_exponent y))), (5, .long ((kX2_significand x) - (kX2_significand x) / (kX2_significand y) * (kX2_significand y))), (4, .int (kX2_exponent y)), (2, .long (kX2_significand y)), (0, .int x), (1, .int y)]) hx hb dX0_remainder_57 hl (by decide) rfl (fun ls hl => ?_)
        have hrl2 := px_rng (((kX2_exponent x) - (kX2_exponent y)))
        exact lp_X0_remainder_59 l D cI cJ cZ x y C0 hA hK 2147483649 ((kX2_significand y)) ((kX2_exponent y)) (((kX2_significand x) - (kX2_significand x) / (kX2_significand y) * (kX2_significand y))) (((kX2_exponent x) - (kX2_exponent y))) _ _ _ (by first | assumption | omega) ((if_neg c4i).trans ((if_neg c5i).trans ((if_pos c6i).trans rfl))) (by omega) (hP.sub [] rfl) (hD.sub [] (by decide) rfl) hS (lv_sub hl [4, 5, 3, 2, 1, 0] rfl)
      · skip
        have c6i : ¬ ((y &&& 2147483647) : Int32).toInt ≤ ((x &&& 2147483647) : Int32).toInt := fun h => c6 (Int32.le_iff_toInt_le.mpr h)
        refine lv_iload_n hx hb dX0_remainder_34 rfl (lv_at hl 1 rfl) ?_
        refine W.widen (k := 0) (n := 0) (by decide) (by decide) ?_
        exact sp_iret (u := ()) hx hb hr hlocks hS (Eq.symm ((if_neg c4i).trans ((if_neg c5i).trans ((if_neg c6i).trans rfl)))) (hP.sub [] rfl) (hD.sub [] (by decide) rfl) dX0_remainder_35
    · skip
      have c5 := (lg_cmp_eq _ _).mp c5
      have c5i : ((kX2_significand y) : Int64).toInt = 0 := congrArg Int64.toInt c5
      refine lv_ldc (v := 2143289344) hx hb hown (hts (.constant RX0 15 (2143289344)) (oX0_remainder_in _ (List.mem_of_getElem? (i := 7) rfl))) dX0_remainder_20 ?_
      refine W.widen (k := 0) (n := 0) (by decide) (by decide) ?_
      exact sp_iret (u := ()) hx hb hr hlocks hS (Eq.symm ((if_neg c4i).trans ((if_pos c5i).trans rfl))) (hP.sub [] rfl) (hD.sub [] (by decide) rfl) dX0_remainder_22
def oX0_root : List Cond := [.constant RX0 17 (2147483647), .constant RX0 52 (2139095040), .constant RX0 15 (2143289344)]
def wpX0_root : List Cond := .code yX0_root cX0_root 10 (some .int) :: (oX0_root ++ ((va_wsS RX0 61 yX2_significand wpX2_significand) ++ ((va_wsS RX0 72 yJ13_numberOfLeadingZeros_95d88 wpJ13_numberOfLeadingZeros_95d88) ++ ((va_wsS RX0 53 yX2_exponent wpX2_exponent) ++ ((va_wsS RX0 81 yX0_rootDown wpX0_rootDown) ++ ((va_wsS RX0 68 yX2_nearest wpX2_nearest) ++ ([] : List Cond)))))))
theorem oX0_root_in : ∀ w ∈ oX0_root, w ∈ wpX0_root := fun w h => List.mem_cons_of_mem _ (List.mem_append_left _ h)
theorem gwoX0_root : ∀ w ∈ oX0_root, goodWord w = true := by decide +kernel
theorem gwX0_root : ∀ w ∈ wpX0_root, goodWord w = true := by
  unfold wpX0_root
  exact List.forall_mem_cons.mpr ⟨rfl, List.forall_mem_append.mpr ⟨gwoX0_root, List.forall_mem_append.mpr ⟨(sp_gS gwX2_significand), List.forall_mem_append.mpr ⟨(sp_gS gwJ13_numberOfLeadingZeros_95d88), List.forall_mem_append.mpr ⟨(sp_gS gwX2_exponent), List.forall_mem_append.mpr ⟨(sp_gS gwX0_rootDown), List.forall_mem_append.mpr ⟨(sp_gS gwX2_nearest), fun _ h => absurd h List.not_mem_nil⟩⟩⟩⟩⟩⟩⟩
set_option maxRecDepth 100000 in
theorem toX0_root : ∀ w ∈ oX0_root, w ∈ lw_tbl := by
  unfold oX0_root
  exact List.forall_mem_cons.mpr ⟨(List.mem_of_getElem? (i := 357) (by decide +kernel)), List.forall_mem_cons.mpr ⟨(List.mem_of_getElem? (i := 358) (by decide +kernel)), List.forall_mem_cons.mpr ⟨(List.mem_of_getElem? (i := 353) (by decide +kernel)), fun _ h => absurd h List.not_mem_nil⟩⟩⟩
set_option maxRecDepth 100000 in
theorem tX0_root : ∀ w ∈ wpX0_root, w ∈ lw_tbl := by
  unfold wpX0_root
  exact List.forall_mem_cons.mpr ⟨(List.mem_of_getElem? (i := 425) (by rfl)), List.forall_mem_append.mpr ⟨toX0_root, List.forall_mem_append.mpr ⟨(sp_tS (List.mem_of_getElem? (i := 365) (by decide +kernel)) (List.mem_of_getElem? (i := 366) (by decide +kernel)) (List.mem_of_getElem? (i := 46) (by decide +kernel)) tX2_significand), List.forall_mem_append.mpr ⟨(sp_tS (List.mem_of_getElem? (i := 393) (by decide +kernel)) (List.mem_of_getElem? (i := 378) (by decide +kernel)) (List.mem_of_getElem? (i := 49) (by decide +kernel)) tJ13_numberOfLeadingZeros_95d88), List.forall_mem_append.mpr ⟨(sp_tS (List.mem_of_getElem? (i := 359) (by decide +kernel)) (List.mem_of_getElem? (i := 360) (by decide +kernel)) (List.mem_of_getElem? (i := 46) (by decide +kernel)) tX2_exponent), List.forall_mem_append.mpr ⟨(sp_tS (List.mem_of_getElem? (i := 426) (by decide +kernel)) (List.mem_of_getElem? (i := 427) (by decide +kernel)) (List.mem_of_getElem? (i := 47) (by decide +kernel)) tX0_rootDown), List.forall_mem_append.mpr ⟨(sp_tS (List.mem_of_getElem? (i := 374) (by decide +kernel)) (List.mem_of_getElem? (i := 375) (by decide +kernel)) (List.mem_of_getElem? (i := 46) (by decide +kernel)) tX2_nearest), fun _ h => absurd h List.not_mem_nil⟩⟩⟩⟩⟩⟩⟩
theorem gX0_root_X2_significand_61 : GoodIn wpX0_root (va_wsS RX0 61 yX2_significand wpX2_significand) := fun w h => ⟨List.mem_cons_of_mem _ (List.mem_append_right _ (List.mem_append_left _ h)), good_of_word (sp_gS gwX2_significand w h)⟩
theorem gX0_root_J13_numberOfLeadingZeros_95d88_72 : GoodIn wpX0_root (va_wsS RX0 72 yJ13_numberOfLeadingZeros_95d88 wpJ13_numberOfLeadingZeros_95d88) := fun w h => ⟨List.mem_cons_of_mem _ (List.mem_append_right _ (List.mem_append_right _ (List.mem_append_left _ h))), good_of_word (sp_gS gwJ13_numberOfLeadingZeros_95d88 w h)⟩
theorem gX0_root_X2_exponent_53 : GoodIn wpX0_root (va_wsS RX0 53 yX2_exponent wpX2_exponent) := fun w h => ⟨List.mem_cons_of_mem _ (List.mem_append_right _ (List.mem_append_right _ (List.mem_append_right _ (List.mem_append_left _ h)))), good_of_word (sp_gS gwX2_exponent w h)⟩
theorem gX0_root_X0_rootDown_81 : GoodIn wpX0_root (va_wsS RX0 81 yX0_rootDown wpX0_rootDown) := fun w h => ⟨List.mem_cons_of_mem _ (List.mem_append_right _ (List.mem_append_right _ (List.mem_append_right _ (List.mem_append_right _ (List.mem_append_left _ h))))), good_of_word (sp_gS gwX0_rootDown w h)⟩
theorem gX0_root_X2_nearest_68 : GoodIn wpX0_root (va_wsS RX0 68 yX2_nearest wpX2_nearest) := fun w h => ⟨List.mem_cons_of_mem _ (List.mem_append_right _ (List.mem_append_right _ (List.mem_append_right _ (List.mem_append_right _ (List.mem_append_right _ (List.mem_append_left _ h)))))), good_of_word (sp_gS gwX2_nearest w h)⟩
set_option maxHeartbeats 4000000 in
set_option maxRecDepth 100000 in
theorem c_X0_root (l : Launch) (D : va_G) (cI cJ cZ : ClassId) (sz : Nat) (x : Int32) : Met l yX0_root wpX0_root ({ frames := 3, cells := 0, slots := 0, locals := 75 }) (va_Pc ([.int x] : List Value) (sp_pre D vwCl (sp_ty cI cJ cZ) [] sz)) (va_Qi (fun (r : Int32) (_ : Unit) => r = kX0_root x) (sp_B D vwCl (va_A [] sz) (fun (_ : Unit) => [])) (va_A [] sz)) 0 0 (va_A [] sz) := by
  refine sp_ofW (Qc := fun A => va_Qi (fun (r : Int32) (_ : Unit) => r = kX0_root x) (sp_B D vwCl A (fun (_ : Unit) => [])) A) (by decide) rfl (Nat.le_of_ble_eq_true rfl) (fun p e s m below meth c A ls H locs C0 hA hS hP hK hD hl => ?_)
  obtain ⟨hx, hb, hr, hts, hown, hlocks, hml, hin⟩ := id C0
  have hown : s.vm.findClass RX0 = some m.cls := hown
  have hl : lv_has ls 10 [(0, .int x)] := hl
  have hK : va_K D vwCl [(cI, .int), (cJ, .long), (cZ, .boolean)] s := hK
  refine lv_iload_n hx hb dX0_root_0 rfl (lv_at hl 0 rfl) ?_
  refine lv_ldc (v := 2147483647) hx hb hown (hts (.constant RX0 17 (2147483647)) (oX0_root_in _ (List.mem_of_getElem? (i := 0) rfl))) dX0_root_1 ?_
  refine lv_iand hx hb dX0_root_3 ?_
  refine lv_if_eq (tgt := 13) hx hb dX0_root_4 (by decide) (fun c1 => ?_) (fun c1 => ?_)
  · skip
    have c1i : ((x &&& 2147483647) : Int32).toInt = 0 := congrArg Int32.toInt c1
    refine lv_iload_n hx hb dX0_root_13 rfl (lv_at hl 0 rfl) ?_
    refine W.widen (k := 0) (n := 0) (by decide) (by decide) ?_
    exact sp_iret (u := ()) hx hb hr hlocks hS (Eq.symm ((if_pos c1i).trans rfl)) (hP.sub [] rfl) (hD.sub [] (by decide) rfl) dX0_root_14
  · skip
    have c1i : ¬ ((x &&& 2147483647) : Int32).toInt = 0 := fun h => c1 (Int32.toInt_inj.mp h)
    refine lv_iload_n hx hb dX0_root_7 rfl (lv_at hl 0 rfl) ?_
    refine lv_ldc (v := 2139095040) hx hb hown (hts (.constant RX0 52 (2139095040)) (oX0_root_in _ (List.mem_of_getElem? (i := 1) rfl))) dX0_root_8 ?_
    refine lv_icmp_ne (tgt := 15) hx hb dX0_root_10 (by decide) (fun c2 => ?_) (fun c2 => ?_)
    · skip
      have c2i : ¬ (x : Int32).toInt = 2139095040 := fun h => c2 (Int32.toInt_inj.mp h)
      refine lv_iload_n hx hb dX0_root_15 rfl (lv_at hl 0 rfl) ?_
      refine lv_if_ge (tgt := 22) hx hb dX0_root_16 (by decide) (fun c3 => ?_) (fun c3 => ?_)
      · skip
        have c3i : 0 ≤ (x : Int32).toInt := Int32.le_iff_toInt_le.mp c3
        refine lv_iload_n hx hb dX0_root_22 rfl (lv_at hl 0 rfl) ?_
        refine sp_callj (wr := []) (wc := []) hP hD hS hA [] [] rfl rfl (by decide) (by decide) (va_runS (As := [.int x]) (rest := []) ⟨hx, hb, hml, hown, hts⟩ (c_X2_significand l D cI cJ cZ H.size x) (va_cwS 1 hts gX0_root_X2_significand_61 rfl rfl rfl (by decide +kernel) ⟨Nat.le_of_ble_eq_true rfl, Nat.le_of_ble_eq_true rfl⟩) (sp_preS [.int x] hK (hP.sub (ws' := []) [] rfl) (hD.sub (ws' := []) [] (by decide) rfl)) rfl rfl hl.1 rfl (lv_room (Nat.le_of_ble_eq_true rfl)) dX0_root_23 ⟨Nat.le_of_ble_eq_true rfl, Nat.le_of_ble_eq_true rfl⟩) (fun r4 u5 H locs hw6 hP hD hS => ?_)
        have hq_6_0 : r4 = (kX2_significand x) := hw6
        subst r4
        have hP : va_P D vwCl [] H := hP
        have hD : va_D A [] := hD
        refine lv_lstore_n (lv' := [(1, .long (kX2_significand x)), (0, .int x)]) hx hb dX0_root_26 rfl hl (by decide) rfl (fun ls hl => ?_)
        refine lv_lload_n hx hb dX0_root_27 rfl (lv_at hl 0 rfl) ?_
        refine sp_calli (wr := []) (wc := []) hP hD hS hA [] [] rfl rfl (by decide) (by decide) (va_runS (As := [.long (kX2_significand x)]) (rest := []) ⟨hx, hb, hml, hown, hts⟩ (c_J13_numberOfLeadingZeros_95d88 l D cI cJ cZ H.size (kX2_significand x)) (va_cwS 1 hts gX0_root_J13_numberOfLeadingZeros_95d88_72 rfl rfl rfl (by decide +kernel) ⟨Nat.le_of_ble_eq_true rfl, Nat.le_of_ble_eq_true rfl⟩) (sp_preS [.long (kX2_significand x)] hK (hP.sub (ws' := []) [] rfl) (hD.sub (ws' := []) [] (by decide) rfl)) rfl rfl hl.1 rfl (lv_room (Nat.le_of_ble_eq_true rfl)) dX0_root_28 ⟨Nat.le_of_ble_eq_true rfl, Nat.le_of_ble_eq_true rfl⟩) (fun r7 u8 H locs hw9 hP hD hS => ?_)
        have hq_9_0 : r7 = (kJ13_numberOfLeadingZeros_95d88 (kX2_significand x)) := hw9
        subst r7
        have hP : va_P D vwCl [] H := hP
        have hD : va_D A [] := hD
        refine lv_iconst (v := 2) hx hb dX0_root_31 (by decide) ?_
        refine lv_isub hx hb dX0_root_32 ?_
        refine lv_istore_n (lv' := [(3, .int (kX0_root_s33 x)), (1, .long (kX2_significand x)), (0, .int x)]) hx hb dX0_root_33 rfl hl (by decide) rfl (fun ls hl => ?_)
        refine lv_iload_n hx hb dX0_root_34 rfl (lv_at hl 2 rfl) ?_
        refine sp_calli (wr := []) (wc := []) hP hD hS hA [] [] rfl rfl (by decide) (by decide) (va_runS (As := [.int x]) (rest := []) ⟨hx, hb, hml, hown, hts⟩ (c_X2_exponent l D cI cJ cZ H.size x) (va_cwS 1 hts gX0_root_X2_exponent_53 rfl rfl rfl (by decide +kernel) ⟨Nat.le_of_ble_eq_true rfl, Nat.le_of_ble_eq_true rfl⟩) (sp_preS [.int x] hK (hP.sub (ws' := []) [] rfl) (hD.sub (ws' := []) [] (by decide) rfl)) rfl rfl hl.1 rfl (lv_room (Nat.le_of_ble_eq_true rfl)) dX0_root_35 ⟨Nat.le_of_ble_eq_true rfl, Nat.le_of_ble_eq_true rfl⟩) (fun r10 u11 H locs hw12 hP hD hS => ?_)
        have hq_12_0 : r10 = (kX2_exponent x) := hw12
        subst r10
        have hP : va_P D vwCl [] H := hP
        have hD : va_D A [] := hD
        refine lv_iload_n hx hb dX0_root_38 rfl (lv_at hl 0 rfl) ?_
        refine lv_isub hx hb dX0_root_39 ?_
        refine lv_iconst (v := 1) hx hb dX0_root_40 (by decide) ?_
        refine lv_iand hx hb dX0_root_41 ?_
        refine lv_iconst (v := 1) hx hb dX0_root_42 (by decide) ?_
        have hj17 : ∀ (z16 : Int32) (H : Heap) (locs : List Loc) (ls : Array Slot), (z16 = kX0_root_49_z16 x) → va_P D vwCl [] H → va_D A [] → va_S A s.heap H locs → lv_has ls 10 [(3, .int z16), (1, .long (kX2_significand x)), (0, .int x)] → W p l e ({ frames := 3, cells := 0, slots := 0, locals := 75 }) s m (([.int x] : List Value).toArray) below meth c H locs 0 0 (MQ below (va_Qi (fun (r : Int32) (_ : Unit) => r = kX0_root x) (sp_B D vwCl A (fun (_ : Unit) => [])) A) ([.int x] : List Value).toArray s 0 0 A) (F0 m 49 ls []) := by
          intro z16 H locs ls hz16 hP hD hS hl
          subst z16
          refine lv_lload_n hx hb dX0_root_49 rfl (lv_at hl 1 rfl) ?_
          refine lv_iload_n hx hb dX0_root_50 rfl (lv_at hl 0 rfl) ?_
          refine lv_lshl (v := _) hx hb dX0_root_51 rfl ?_
          refine lv_lstore (lv' := [(4, .long (kX0_root_s52 x)), (3, .int (kX0_root_49_z16 x)), (1, .long (kX2_significand x)), (0, .int x)]) hx hb dX0_root_52 hl (by decide) rfl (fun ls hl => ?_)
          refine lv_lload hx hb dX0_root_54 (lv_at hl 0 rfl) ?_
          refine sp_callj (wr := []) (wc := []) hP hD hS hA [] [] rfl rfl (by decide) (by decide) (va_runS (As := [.long (kX0_root_s52 x)]) (rest := []) ⟨hx, hb, hml, hown, hts⟩ (c_X0_rootDown l D cI cJ cZ H.size (kX0_root_s52 x)) (va_cwS 1 hts gX0_root_X0_rootDown_81 rfl rfl rfl (by decide +kernel) ⟨Nat.le_of_ble_eq_true rfl, Nat.le_of_ble_eq_true rfl⟩) (sp_preS [.long (kX0_root_s52 x)] hK (hP.sub (ws' := []) [] rfl) (hD.sub (ws' := []) [] (by decide) rfl)) rfl rfl hl.1 rfl (lv_room (Nat.le_of_ble_eq_true rfl)) dX0_root_56 ⟨Nat.le_of_ble_eq_true rfl, Nat.le_of_ble_eq_true rfl⟩) (fun r18 u19 H locs hw20 hP hD hS => ?_)
          have hq_20_0 : r18 = (kX0_rootDown (kX0_root_s52 x)) := hw20
          subst r18
          have hP : va_P D vwCl [] H := hP
          have hD : va_D A [] := hD
          refine lv_lstore (lv' := [(6, .long (kX0_root_s59 x)), (4, .long (kX0_root_s52 x)), (3, .int (kX0_root_49_z16 x)), (1, .long (kX2_significand x)), (0, .int x)]) hx hb dX0_root_59 hl (by decide) rfl (fun ls hl => ?_)
          refine lv_lload hx hb dX0_root_61 (lv_at hl 0 rfl) ?_
          refine lv_lload hx hb dX0_root_63 (lv_at hl 0 rfl) ?_
          refine lv_lmul hx hb dX0_root_65 ?_
          refine lv_lload hx hb dX0_root_66 (lv_at hl 1 rfl) ?_
          refine W.lcmp hx hb dX0_root_68 ?_
          have hj25 : ∀ (z24 : Int64) (H : Heap) (locs : List Loc) (ls : Array Slot), (z24 = kX0_root_81_z24 x) → va_P D vwCl [] H → va_D A [] → va_S A s.heap H locs → lv_has ls 10 [(6, .long (kX0_root_s59 x)), (4, .long (kX0_root_s52 x)), (3, .int (kX0_root_49_z16 x)), (1, .long (kX2_significand x)), (0, .int x)] → W p l e ({ frames := 3, cells := 0, slots := 0, locals := 75 }) s m (([.int x] : List Value).toArray) below meth c H locs 0 0 (MQ below (va_Qi (fun (r : Int32) (_ : Unit) => r = kX0_root x) (sp_B D vwCl A (fun (_ : Unit) => [])) A) ([.int x] : List Value).toArray s 0 0 A) (F0 m 81 ls [.long z24]) := by
            intro z24 H locs ls hz24 hP hD hS hl
            subst z24
            refine lv_lstore (lv' := [(8, .long (kX0_root_81_z24 x)), (6, .long (kX0_root_s59 x)), (4, .long (kX0_root_s52 x)), (3, .int (kX0_root_49_z16 x)), (1, .long (kX2_significand x)), (0, .int x)]) hx hb dX0_root_81 hl (by decide) rfl (fun ls hl => ?_)
            refine lv_iconst (v := 0) hx hb dX0_root_83 (by decide) ?_
            refine lv_lload hx hb dX0_root_84 (lv_at hl 0 rfl) ?_
            refine lv_iload_n hx hb dX0_root_86 rfl (lv_at hl 5 rfl) ?_
            refine sp_calli (wr := []) (wc := []) hP hD hS hA [] [] rfl rfl (by decide) (by decide) (va_runS (As := [.int x]) (rest := [.long (kX0_root_81_z24 x), .int 0]) ⟨hx, hb, hml, hown, hts⟩ (c_X2_exponent l D cI cJ cZ H.size x) (va_cwS 1 hts gX0_root_X2_exponent_53 rfl rfl rfl (by decide +kernel) ⟨Nat.le_of_ble_eq_true rfl, Nat.le_of_ble_eq_true rfl⟩) (sp_preS [.int x] hK (hP.sub (ws' := []) [] rfl) (hD.sub (ws' := []) [] (by decide) rfl)) rfl rfl hl.1 rfl (lv_room (Nat.le_of_ble_eq_true rfl)) dX0_root_87 ⟨Nat.le_of_ble_eq_true rfl, Nat.le_of_ble_eq_true rfl⟩) (fun r26 u27 H locs hw28 hP hD hS => ?_)
            have hq_28_0 : r26 = (kX2_exponent x) := hw28
            subst r26
            have hP : va_P D vwCl [] H := hP
            have hD : va_D A [] := hD
            refine lv_iload_n hx hb dX0_root_90 rfl (lv_at hl 3 rfl) ?_
            refine lv_isub hx hb dX0_root_91 ?_
            refine lv_iconst (v := 1) hx hb dX0_root_92 (by decide) ?_
            refine lv_ishr hx hb dX0_root_93 ?_
            refine sp_calli (wr := []) (wc := []) hP hD hS hA [] [] rfl rfl (by decide) (by decide) (va_runS (As := [.int 0, .long (kX0_root_81_z24 x), .int (((kX2_exponent x) - (kX0_root_49_z16 x)) >>> (1 &&& 31))]) (rest := []) ⟨hx, hb, hml, hown, hts⟩ (c_X2_nearest l D cI cJ cZ H.size 0 (kX0_root_81_z24 x) (((kX2_exponent x) - (kX0_root_49_z16 x)) >>> (1 &&& 31))) (va_cwS 3 hts gX0_root_X2_nearest_68 rfl rfl rfl (by decide +kernel) ⟨Nat.le_of_ble_eq_true rfl, Nat.le_of_ble_eq_true rfl⟩) (sp_preS [.int 0, .long (kX0_root_81_z24 x), .int (((kX2_exponent x) - (kX0_root_49_z16 x)) >>> (1 &&& 31))] hK (hP.sub (ws' := []) [] rfl) (hD.sub (ws' := []) [] (by decide) rfl)) rfl rfl hl.1 rfl (lv_room (Nat.le_of_ble_eq_true rfl)) dX0_root_94 ⟨Nat.le_of_ble_eq_true rfl, Nat.le_of_ble_eq_true rfl⟩) (fun r29 u30 H locs hw31 hP hD hS => ?_)
            have hq_31_0 : r29 = (kX2_nearest 0 (kX0_root_81_z24 x) (((kX2_exponent x) - (kX0_root_49_z16 x)) >>> (1 &&& 31))) := hw31
            subst r29
            have hP : va_P D vwCl [] H := hP
            have hD : va_D A [] := hD
            refine W.widen (k := 0) (n := 0) (by decide) (by decide) ?_
            exact sp_iret (u := ()) hx hb hr hlocks hS (Eq.symm ((if_neg c1i).trans ((if_neg c2i).trans ((if_pos c3i).trans rfl)))) (hP.sub [] rfl) (hD.sub [] (by decide) rfl) dX0_root_97
          refine lv_if_ne (tgt := 77) hx hb dX0_root_69 (by decide) (fun c21 => ?_) (fun c21 => ?_)
          · skip
            have c21 := fun h => c21 ((lg_cmp_eq _ _).mpr h)
            have c21i : ¬ (((kX0_root_s59 x) * (kX0_root_s59 x)) : Int64).toInt = ((kX0_root_s52 x) : Int64).toInt := fun h => c21 (Int64.toInt_inj.mp h)
            refine lv_lload hx hb dX0_root_77 (lv_at hl 0 rfl) ?_
            refine lv_lconst (v := 1) hx hb dX0_root_79 (by decide) ?_
            refine lv_lor hx hb dX0_root_80 ?_
            exact hj25 (((kX0_root_s59 x) ||| 1)) _ _ _ (Eq.symm ((if_neg c21i).trans rfl)) (hP.sub [] rfl) (hD.sub [] (by decide) rfl) hS (lv_sub hl [0, 1, 2, 3, 4] rfl)
          · skip
            have c21 := (lg_cmp_eq _ _).mp c21
            have c21i : (((kX0_root_s59 x) * (kX0_root_s59 x)) : Int64).toInt = ((kX0_root_s52 x) : Int64).toInt := congrArg Int64.toInt c21
            refine lv_lload hx hb dX0_root_72 (lv_at hl 0 rfl) ?_
            refine lv_goto (tgt := 81) hx hb dX0_root_74 (by decide) ?_
            exact hj25 ((kX0_root_s59 x)) _ _ _ (Eq.symm ((if_pos c21i).trans rfl)) (hP.sub [] rfl) (hD.sub [] (by decide) rfl) hS (lv_sub hl [0, 1, 2, 3, 4] rfl)
        refine lv_icmp_ne (tgt := 49) hx hb dX0_root_43 (by decide) (fun c13 => ?_) (fun c13 => ?_)
        · skip
          have c13i : ¬ ((((kX2_exponent x) - (kX0_root_s33 x)) &&& 1) : Int32).toInt = 1 := fun h => c13 (Int32.toInt_inj.mp h)
          exact hj17 ((kX0_root_s33 x)) _ _ _ (Eq.symm ((if_neg c13i).trans rfl)) (hP.sub [] rfl) (hD.sub [] (by decide) rfl) hS (lv_sub hl [0, 1, 2] rfl)
        · skip
          have c13i : ((((kX2_exponent x) - (kX0_root_s33 x)) &&& 1) : Int32).toInt = 1 := congrArg Int32.toInt c13
          refine lv_iinc (v := ((kX0_root_s33 x) + (-1))) (lv' := [(3, .int ((kX0_root_s33 x) + (-1))), (1, .long (kX2_significand x)), (0, .int x)]) hx hb dX0_root_46 hl (k := 0) rfl rfl (by decide) rfl (fun ls hl => ?_)
          exact hj17 (((kX0_root_s33 x) + (-1))) _ _ _ (Eq.symm ((if_pos c13i).trans rfl)) (hP.sub [] rfl) (hD.sub [] (by decide) rfl) hS (lv_sub hl [0, 1, 2] rfl)
      · skip
        have c3i : ¬ 0 ≤ (x : Int32).toInt := fun h => c3 (Int32.le_iff_toInt_le.mpr h)
        refine lv_ldc (v := 2143289344) hx hb hown (hts (.constant RX0 15 (2143289344)) (oX0_root_in _ (List.mem_of_getElem? (i := 2) rfl))) dX0_root_19 ?_
        refine W.widen (k := 0) (n := 0) (by decide) (by decide) ?_
        exact sp_iret (u := ()) hx hb hr hlocks hS (Eq.symm ((if_neg c1i).trans ((if_neg c2i).trans ((if_neg c3i).trans rfl)))) (hP.sub [] rfl) (hD.sub [] (by decide) rfl) dX0_root_21
    · skip
      have c2i : (x : Int32).toInt = 2139095040 := congrArg Int32.toInt c2
      refine lv_iload_n hx hb dX0_root_13 rfl (lv_at hl 0 rfl) ?_
      refine W.widen (k := 0) (n := 0) (by decide) (by decide) ?_
      exact sp_iret (u := ()) hx hb hr hlocks hS (Eq.symm ((if_neg c1i).trans ((if_pos c2i).trans rfl))) (hP.sub [] rfl) (hD.sub [] (by decide) rfl) dX0_root_14
def oX0_ofOne : List Cond := [.constant RX0 16 (-2147483648), .constant RX0 17 (2147483647), .constant RX0 15 (2143289344)]
def wpX0_ofOne : List Cond := .code yX0_ofOne cX0_ofOne 4 (some .int) :: (oX0_ofOne ++ ((va_wsS RX0 9 yX2_isNone wpX2_isNone) ++ ((va_wsS RX0 34 yX0_root wpX0_root) ++ ((va_wsS RX0 24 yX0_grown wpX0_grown) ++ ((va_wsS RX0 18 yX0_cut wpX0_cut) ++ ((va_wsS RX0 27 yX0_nearestWhole wpX0_nearestWhole) ++ ((va_wsS RX0 30 yX0_asInt wpX0_asInt) ++ ([] : List Cond))))))))
theorem oX0_ofOne_in : ∀ w ∈ oX0_ofOne, w ∈ wpX0_ofOne := fun w h => List.mem_cons_of_mem _ (List.mem_append_left _ h)
theorem gwoX0_ofOne : ∀ w ∈ oX0_ofOne, goodWord w = true := by decide +kernel
theorem gwX0_ofOne : ∀ w ∈ wpX0_ofOne, goodWord w = true := by
  unfold wpX0_ofOne
  exact List.forall_mem_cons.mpr ⟨rfl, List.forall_mem_append.mpr ⟨gwoX0_ofOne, List.forall_mem_append.mpr ⟨(sp_gS gwX2_isNone), List.forall_mem_append.mpr ⟨(sp_gS gwX0_root), List.forall_mem_append.mpr ⟨(sp_gS gwX0_grown), List.forall_mem_append.mpr ⟨(sp_gS gwX0_cut), List.forall_mem_append.mpr ⟨(sp_gS gwX0_nearestWhole), List.forall_mem_append.mpr ⟨(sp_gS gwX0_asInt), fun _ h => absurd h List.not_mem_nil⟩⟩⟩⟩⟩⟩⟩⟩
set_option maxRecDepth 100000 in
theorem toX0_ofOne : ∀ w ∈ oX0_ofOne, w ∈ lw_tbl := by
  unfold oX0_ofOne
  exact List.forall_mem_cons.mpr ⟨(List.mem_of_getElem? (i := 370) (by decide +kernel)), List.forall_mem_cons.mpr ⟨(List.mem_of_getElem? (i := 357) (by decide +kernel)), List.forall_mem_cons.mpr ⟨(List.mem_of_getElem? (i := 353) (by decide +kernel)), fun _ h => absurd h List.not_mem_nil⟩⟩⟩
set_option maxRecDepth 100000 in
theorem tX0_ofOne : ∀ w ∈ wpX0_ofOne, w ∈ lw_tbl := by
  unfold wpX0_ofOne
  exact List.forall_mem_cons.mpr ⟨(List.mem_of_getElem? (i := 403) (by rfl)), List.forall_mem_append.mpr ⟨toX0_ofOne, List.forall_mem_append.mpr ⟨(sp_tS (List.mem_of_getElem? (i := 352) (by decide +kernel)) (List.mem_of_getElem? (i := 280) (by decide +kernel)) (List.mem_of_getElem? (i := 46) (by decide +kernel)) tX2_isNone), List.forall_mem_append.mpr ⟨(sp_tS (List.mem_of_getElem? (i := 423) (by decide +kernel)) (List.mem_of_getElem? (i := 424) (by decide +kernel)) (List.mem_of_getElem? (i := 47) (by decide +kernel)) tX0_root), List.forall_mem_append.mpr ⟨(sp_tS (List.mem_of_getElem? (i := 412) (by decide +kernel)) (List.mem_of_getElem? (i := 413) (by decide +kernel)) (List.mem_of_getElem? (i := 47) (by decide +kernel)) tX0_grown), List.forall_mem_append.mpr ⟨(sp_tS (List.mem_of_getElem? (i := 404) (by decide +kernel)) (List.mem_of_getElem? (i := 405) (by decide +kernel)) (List.mem_of_getElem? (i := 47) (by decide +kernel)) tX0_cut), List.forall_mem_append.mpr ⟨(sp_tS (List.mem_of_getElem? (i := 415) (by decide +kernel)) (List.mem_of_getElem? (i := 416) (by decide +kernel)) (List.mem_of_getElem? (i := 47) (by decide +kernel)) tX0_nearestWhole), List.forall_mem_append.mpr ⟨(sp_tS (List.mem_of_getElem? (i := 419) (by decide +kernel)) (List.mem_of_getElem? (i := 420) (by decide +kernel)) (List.mem_of_getElem? (i := 47) (by decide +kernel)) tX0_asInt), fun _ h => absurd h List.not_mem_nil⟩⟩⟩⟩⟩⟩⟩⟩
theorem gX0_ofOne_X2_isNone_9 : GoodIn wpX0_ofOne (va_wsS RX0 9 yX2_isNone wpX2_isNone) := fun w h => ⟨List.mem_cons_of_mem _ (List.mem_append_right _ (List.mem_append_left _ h)), good_of_word (sp_gS gwX2_isNone w h)⟩
theorem gX0_ofOne_X0_root_34 : GoodIn wpX0_ofOne (va_wsS RX0 34 yX0_root wpX0_root) := fun w h => ⟨List.mem_cons_of_mem _ (List.mem_append_right _ (List.mem_append_right _ (List.mem_append_left _ h))), good_of_word (sp_gS gwX0_root w h)⟩
theorem gX0_ofOne_X0_grown_24 : GoodIn wpX0_ofOne (va_wsS RX0 24 yX0_grown wpX0_grown) := fun w h => ⟨List.mem_cons_of_mem _ (List.mem_append_right _ (List.mem_append_right _ (List.mem_append_right _ (List.mem_append_left _ h)))), good_of_word (sp_gS gwX0_grown w h)⟩
theorem gX0_ofOne_X0_cut_18 : GoodIn wpX0_ofOne (va_wsS RX0 18 yX0_cut wpX0_cut) := fun w h => ⟨List.mem_cons_of_mem _ (List.mem_append_right _ (List.mem_append_right _ (List.mem_append_right _ (List.mem_append_right _ (List.mem_append_left _ h))))), good_of_word (sp_gS gwX0_cut w h)⟩
theorem gX0_ofOne_X0_nearestWhole_27 : GoodIn wpX0_ofOne (va_wsS RX0 27 yX0_nearestWhole wpX0_nearestWhole) := fun w h => ⟨List.mem_cons_of_mem _ (List.mem_append_right _ (List.mem_append_right _ (List.mem_append_right _ (List.mem_append_right _ (List.mem_append_right _ (List.mem_append_left _ h)))))), good_of_word (sp_gS gwX0_nearestWhole w h)⟩
theorem gX0_ofOne_X0_asInt_30 : GoodIn wpX0_ofOne (va_wsS RX0 30 yX0_asInt wpX0_asInt) := fun w h => ⟨List.mem_cons_of_mem _ (List.mem_append_right _ (List.mem_append_right _ (List.mem_append_right _ (List.mem_append_right _ (List.mem_append_right _ (List.mem_append_right _ (List.mem_append_left _ h))))))), good_of_word (sp_gS gwX0_asInt w h)⟩
set_option maxHeartbeats 4000000 in
set_option maxRecDepth 100000 in
theorem c_X0_ofOne (l : Launch) (D : va_G) (cI cJ cZ : ClassId) (sz : Nat) (k : Int32) (x : Int32) : Met l yX0_ofOne wpX0_ofOne ({ frames := 4, cells := 0, slots := 0, locals := 104 }) (va_Pc ([.int k, .int x] : List Value) (sp_pre D vwCl (sp_ty cI cJ cZ) [] sz)) (va_Qi (fun (r : Int32) (_ : Unit) => r = kX0_ofOne k x) (sp_B D vwCl (va_A [] sz) (fun (_ : Unit) => [])) (va_A [] sz)) 0 0 (va_A [] sz) := by
  refine sp_ofW (Qc := fun A => va_Qi (fun (r : Int32) (_ : Unit) => r = kX0_ofOne k x) (sp_B D vwCl A (fun (_ : Unit) => [])) A) (by decide) rfl (Nat.le_of_ble_eq_true rfl) (fun p e s m below meth c A ls H locs C0 hA hS hP hK hD hl => ?_)
  obtain ⟨hx, hb, hr, hts, hown, hlocks, hml, hin⟩ := id C0
  have hown : s.vm.findClass RX0 = some m.cls := hown
  have hl : lv_has ls 4 [(0, .int k), (1, .int x)] := hl
  have hK : va_K D vwCl [(cI, .int), (cJ, .long), (cZ, .boolean)] s := hK
  refine lv_iload_n hx hb dX0_ofOne_0 rfl (lv_at hl 1 rfl) ?_
  refine sp_calli (wr := []) (wc := []) hP hD hS hA [] [] rfl rfl (by decide) (by decide) (va_runS (As := [.int x]) (rest := []) ⟨hx, hb, hml, hown, hts⟩ (c_X2_isNone l D cI cJ cZ H.size x) (va_cwS 1 hts gX0_ofOne_X2_isNone_9 rfl rfl rfl (by decide +kernel) ⟨Nat.le_of_ble_eq_true rfl, Nat.le_of_ble_eq_true rfl⟩) (sp_preS [.int x] hK (hP.sub (ws' := []) [] rfl) (hD.sub (ws' := []) [] (by decide) rfl)) rfl rfl hl.1 rfl (lv_room (Nat.le_of_ble_eq_true rfl)) dX0_ofOne_1 ⟨Nat.le_of_ble_eq_true rfl, Nat.le_of_ble_eq_true rfl⟩) (fun r1 u2 H locs hw3 hP hD hS => ?_)
  obtain ⟨hq_3_0, hm_1_⟩ : r1 = (kX2_isNone x) ∧ _ := hw3
  subst r1
  have hm_1_i : (((kX2_isNone x) : Int32).toInt = 1 ∧ (2139095040 < (x &&& 2147483647 : Int32).toInt)) ∨ (((kX2_isNone x) : Int32).toInt = 0 ∧ ¬ (2139095040 < (x &&& 2147483647 : Int32).toInt)) := sp_bool hm_1_
  have hP : va_P D vwCl [] H := hP
  have hD : va_D A [] := hD
  refine lv_if_eq (tgt := 20) hx hb dX0_ofOne_4 (by decide) (fun c4 => ?_) (fun c4 => ?_)
  · skip
    have c4i : ((kX2_isNone x) : Int32).toInt = 0 := congrArg Int32.toInt c4
    refine lv_iload_n hx hb dX0_ofOne_20 rfl (lv_at hl 1 rfl) ?_
    refine lv_ldc (v := (-2147483648)) hx hb hown (hts (.constant RX0 16 (-2147483648)) (oX0_ofOne_in _ (List.mem_of_getElem? (i := 0) rfl))) dX0_ofOne_21 ?_
    refine lv_iand hx hb dX0_ofOne_23 ?_
    refine lv_istore_n (lv' := [(2, .int (x &&& (-2147483648))), (0, .int k), (1, .int x)]) hx hb dX0_ofOne_24 rfl hl (by decide) rfl (fun ls hl => ?_)
    refine lv_iload_n hx hb dX0_ofOne_25 rfl (lv_at hl 2 rfl) ?_
    refine lv_ldc (v := 2147483647) hx hb hown (hts (.constant RX0 17 (2147483647)) (oX0_ofOne_in _ (List.mem_of_getElem? (i := 1) rfl))) dX0_ofOne_26 ?_
    refine lv_iand hx hb dX0_ofOne_28 ?_
    refine lv_istore_n (lv' := [(3, .int (x &&& 2147483647)), (2, .int (x &&& (-2147483648))), (0, .int k), (1, .int x)]) hx hb dX0_ofOne_29 rfl hl (by decide) rfl (fun ls hl => ?_)
    refine lv_iload_n hx hb dX0_ofOne_30 rfl (lv_at hl 2 rfl) ?_
    rcases (show (k : Int32).toInt < 6 ∨ 13 < (k : Int32).toInt ∨ (k : Int32).toInt = 6 ∨ (k : Int32).toInt = 7 ∨ (k : Int32).toInt = 8 ∨ (k : Int32).toInt = 9 ∨ (k : Int32).toInt = 10 ∨ (k : Int32).toInt = 11 ∨ (k : Int32).toInt = 12 ∨ (k : Int32).toInt = 13 by omega) with h5 | h5 | h5 | h5 | h5 | h5 | h5 | h5 | h5 | h5
    · skip
      refine lv_tableOut (tgt := 132) hx hb dX0_ofOne_31 (Or.inl h5) (by decide) ?_
      refine lv_iload_n hx hb dX0_ofOne_132 rfl (lv_at hl 3 rfl) ?_
      refine sp_calli (wr := []) (wc := []) hP hD hS hA [] [] rfl rfl (by decide) (by decide) (va_runS (As := [.int x]) (rest := []) ⟨hx, hb, hml, hown, hts⟩ (c_X0_root l D cI cJ cZ H.size x) (va_cwS 1 hts gX0_ofOne_X0_root_34 rfl rfl rfl (by decide +kernel) ⟨Nat.le_of_ble_eq_true rfl, Nat.le_of_ble_eq_true rfl⟩) (sp_preS [.int x] hK (hP.sub (ws' := []) [] rfl) (hD.sub (ws' := []) [] (by decide) rfl)) rfl rfl hl.1 rfl (lv_room (Nat.le_of_ble_eq_true rfl)) dX0_ofOne_133 ⟨Nat.le_of_ble_eq_true rfl, Nat.le_of_ble_eq_true rfl⟩) (fun r6 u7 H locs hw8 hP hD hS => ?_)
      have hq_8_0 : r6 = (kX0_root x) := hw8
      subst r6
      have hP : va_P D vwCl [] H := hP
      have hD : va_D A [] := hD
      refine W.widen (k := 0) (n := 0) (by decide) (by decide) ?_
      exact sp_iret (u := ()) hx hb hr hlocks hS (Eq.symm ((if_pos c4i).trans ((if_pos h5).trans rfl))) (hP.sub [] rfl) (hD.sub [] (by decide) rfl) dX0_ofOne_136
    · skip
      refine lv_tableOut (tgt := 132) hx hb dX0_ofOne_31 (Or.inr h5) (by decide) ?_
      refine lv_iload_n hx hb dX0_ofOne_132 rfl (lv_at hl 3 rfl) ?_
      refine sp_calli (wr := []) (wc := []) hP hD hS hA [] [] rfl rfl (by decide) (by decide) (va_runS (As := [.int x]) (rest := []) ⟨hx, hb, hml, hown, hts⟩ (c_X0_root l D cI cJ cZ H.size x) (va_cwS 1 hts gX0_ofOne_X0_root_34 rfl rfl rfl (by decide +kernel) ⟨Nat.le_of_ble_eq_true rfl, Nat.le_of_ble_eq_true rfl⟩) (sp_preS [.int x] hK (hP.sub (ws' := []) [] rfl) (hD.sub (ws' := []) [] (by decide) rfl)) rfl rfl hl.1 rfl (lv_room (Nat.le_of_ble_eq_true rfl)) dX0_ofOne_133 ⟨Nat.le_of_ble_eq_true rfl, Nat.le_of_ble_eq_true rfl⟩) (fun r9 u10 H locs hw11 hP hD hS => ?_)
      have hq_11_0 : r9 = (kX0_root x) := hw11
      subst r9
      have hP : va_P D vwCl [] H := hP
      have hD : va_D A [] := hD
      refine W.widen (k := 0) (n := 0) (by decide) (by decide) ?_
      exact sp_iret (u := ()) hx hb hr hlocks hS (Eq.symm ((if_pos c4i).trans ((if_neg (show ¬ ((k : Int32).toInt < 6) by omega)).trans ((if_pos h5).trans rfl)))) (hP.sub [] rfl) (hD.sub [] (by decide) rfl) dX0_ofOne_136
    · skip
      refine lv_tableIn (off := 45) (tgt := 76) hx hb dX0_ofOne_31 (by omega) (by omega) (by rw [h5]; rfl) (by decide) ?_
      refine lv_iload_n hx hb dX0_ofOne_76 rfl (lv_at hl 3 rfl) ?_
      refine lv_ldc (v := (-2147483648)) hx hb hown (hts (.constant RX0 16 (-2147483648)) (oX0_ofOne_in _ (List.mem_of_getElem? (i := 0) rfl))) dX0_ofOne_77 ?_
      refine lv_ixor hx hb dX0_ofOne_79 ?_
      refine W.widen (k := 0) (n := 0) (by decide) (by decide) ?_
      exact sp_iret (u := ()) hx hb hr hlocks hS (Eq.symm ((if_pos c4i).trans ((if_neg (show ¬ ((k : Int32).toInt < 6) by omega)).trans ((if_neg (show ¬ (13 < (k : Int32).toInt) by omega)).trans ((if_pos h5).trans rfl))))) (hP.sub [] rfl) (hD.sub [] (by decide) rfl) dX0_ofOne_80
    · skip
      refine lv_tableIn (off := 50) (tgt := 81) hx hb dX0_ofOne_31 (by omega) (by omega) (by rw [h5]; rfl) (by decide) ?_
      refine lv_iload_n hx hb dX0_ofOne_81 rfl (lv_at hl 0 rfl) ?_
      refine W.widen (k := 0) (n := 0) (by decide) (by decide) ?_
      exact sp_iret (u := ()) hx hb hr hlocks hS (Eq.symm ((if_pos c4i).trans ((if_neg (show ¬ ((k : Int32).toInt < 6) by omega)).trans ((if_neg (show ¬ (13 < (k : Int32).toInt) by omega)).trans ((if_neg (show ¬ ((k : Int32).toInt = 6) by omega)).trans ((if_pos h5).trans rfl)))))) (hP.sub [] rfl) (hD.sub [] (by decide) rfl) dX0_ofOne_82
    · skip
      refine lv_tableIn (off := 101) (tgt := 132) hx hb dX0_ofOne_31 (by omega) (by omega) (by rw [h5]; rfl) (by decide) ?_
      refine lv_iload_n hx hb dX0_ofOne_132 rfl (lv_at hl 3 rfl) ?_
      refine sp_calli (wr := []) (wc := []) hP hD hS hA [] [] rfl rfl (by decide) (by decide) (va_runS (As := [.int x]) (rest := []) ⟨hx, hb, hml, hown, hts⟩ (c_X0_root l D cI cJ cZ H.size x) (va_cwS 1 hts gX0_ofOne_X0_root_34 rfl rfl rfl (by decide +kernel) ⟨Nat.le_of_ble_eq_true rfl, Nat.le_of_ble_eq_true rfl⟩) (sp_preS [.int x] hK (hP.sub (ws' := []) [] rfl) (hD.sub (ws' := []) [] (by decide) rfl)) rfl rfl hl.1 rfl (lv_room (Nat.le_of_ble_eq_true rfl)) dX0_ofOne_133 ⟨Nat.le_of_ble_eq_true rfl, Nat.le_of_ble_eq_true rfl⟩) (fun r12 u13 H locs hw14 hP hD hS => ?_)
      have hq_14_0 : r12 = (kX0_root x) := hw14
      subst r12
      have hP : va_P D vwCl [] H := hP
      have hD : va_D A [] := hD
      refine W.widen (k := 0) (n := 0) (by decide) (by decide) ?_
      exact sp_iret (u := ()) hx hb hr hlocks hS (Eq.symm ((if_pos c4i).trans ((if_neg (show ¬ ((k : Int32).toInt < 6) by omega)).trans ((if_neg (show ¬ (13 < (k : Int32).toInt) by omega)).trans ((if_neg (show ¬ ((k : Int32).toInt = 6) by omega)).trans ((if_neg (show ¬ ((k : Int32).toInt = 7) by omega)).trans ((if_pos h5).trans rfl))))))) (hP.sub [] rfl) (hD.sub [] (by decide) rfl) dX0_ofOne_136
    · skip
      refine lv_tableIn (off := 101) (tgt := 132) hx hb dX0_ofOne_31 (by omega) (by omega) (by rw [h5]; rfl) (by decide) ?_
      refine lv_iload_n hx hb dX0_ofOne_132 rfl (lv_at hl 3 rfl) ?_
      refine sp_calli (wr := []) (wc := []) hP hD hS hA [] [] rfl rfl (by decide) (by decide) (va_runS (As := [.int x]) (rest := []) ⟨hx, hb, hml, hown, hts⟩ (c_X0_root l D cI cJ cZ H.size x) (va_cwS 1 hts gX0_ofOne_X0_root_34 rfl rfl rfl (by decide +kernel) ⟨Nat.le_of_ble_eq_true rfl, Nat.le_of_ble_eq_true rfl⟩) (sp_preS [.int x] hK (hP.sub (ws' := []) [] rfl) (hD.sub (ws' := []) [] (by decide) rfl)) rfl rfl hl.1 rfl (lv_room (Nat.le_of_ble_eq_true rfl)) dX0_ofOne_133 ⟨Nat.le_of_ble_eq_true rfl, Nat.le_of_ble_eq_true rfl⟩) (fun r15 u16 H locs hw17 hP hD hS => ?_)
      have hq_17_0 : r15 = (kX0_root x) := hw17
      subst r15
      have hP : va_P D vwCl [] H := hP
      have hD : va_D A [] := hD
      refine W.widen (k := 0) (n := 0) (by decide) (by decide) ?_
      exact sp_iret (u := ()) hx hb hr hlocks hS (Eq.symm ((if_pos c4i).trans ((if_neg (show ¬ ((k : Int32).toInt < 6) by omega)).trans ((if_neg (show ¬ (13 < (k : Int32).toInt) by omega)).trans ((if_neg (show ¬ ((k : Int32).toInt = 6) by omega)).trans ((if_neg (show ¬ ((k : Int32).toInt = 7) by omega)).trans ((if_neg (show ¬ ((k : Int32).toInt = 8) by omega)).trans ((if_pos h5).trans rfl)))))))) (hP.sub [] rfl) (hD.sub [] (by decide) rfl) dX0_ofOne_136
    · skip
      refine lv_tableIn (off := 52) (tgt := 83) hx hb dX0_ofOne_31 (by omega) (by omega) (by rw [h5]; rfl) (by decide) ?_
      refine lv_iload_n hx hb dX0_ofOne_83 rfl (lv_at hl 1 rfl) ?_
      refine lv_iload_n hx hb dX0_ofOne_84 rfl (lv_at hl 1 rfl) ?_
      refine lv_if_ne (tgt := 95) hx hb dX0_ofOne_85 (by decide) (fun c18 => ?_) (fun c18 => ?_)
      · skip
        have c18i : ¬ ((x &&& (-2147483648)) : Int32).toInt = 0 := fun h => c18 (Int32.toInt_inj.mp h)
        refine lv_iload_n hx hb dX0_ofOne_95 rfl (lv_at hl 0 rfl) ?_
        refine sp_calli (wr := []) (wc := []) hP hD hS hA [] [] rfl rfl (by decide) (by decide) (va_runS (As := [.int (x &&& 2147483647)]) (rest := [.int (x &&& (-2147483648))]) ⟨hx, hb, hml, hown, hts⟩ (c_X0_grown l D cI cJ cZ H.size (x &&& 2147483647)) (va_cwS 1 hts gX0_ofOne_X0_grown_24 rfl rfl rfl (by decide +kernel) ⟨Nat.le_of_ble_eq_true rfl, Nat.le_of_ble_eq_true rfl⟩) (sp_preS [.int (x &&& 2147483647)] hK (hP.sub (ws' := []) [] rfl) (hD.sub (ws' := []) [] (by decide) rfl)) rfl rfl hl.1 rfl (lv_room (Nat.le_of_ble_eq_true rfl)) dX0_ofOne_96 ⟨Nat.le_of_ble_eq_true rfl, Nat.le_of_ble_eq_true rfl⟩) (fun r19 u20 H locs hw21 hP hD hS => ?_)
        have hq_21_0 : r19 = (kX0_grown (x &&& 2147483647)) := hw21
        subst r19
        have hP : va_P D vwCl [] H := hP
        have hD : va_D A [] := hD
        refine lv_ior hx hb dX0_ofOne_99 ?_
        refine W.widen (k := 0) (n := 0) (by decide) (by decide) ?_
        exact sp_iret (u := ()) hx hb hr hlocks hS (Eq.symm ((if_pos c4i).trans ((if_neg (show ¬ ((k : Int32).toInt < 6) by omega)).trans ((if_neg (show ¬ (13 < (k : Int32).toInt) by omega)).trans ((if_neg (show ¬ ((k : Int32).toInt = 6) by omega)).trans ((if_neg (show ¬ ((k : Int32).toInt = 7) by omega)).trans ((if_neg (show ¬ ((k : Int32).toInt = 8) by omega)).trans ((if_neg (show ¬ ((k : Int32).toInt = 9) by omega)).trans ((if_pos h5).trans ((if_neg c18i).trans rfl)))))))))) (hP.sub [] rfl) (hD.sub [] (by decide) rfl) dX0_ofOne_100
      · skip
        have c18i : ((x &&& (-2147483648)) : Int32).toInt = 0 := congrArg Int32.toInt c18
        refine lv_iload_n hx hb dX0_ofOne_88 rfl (lv_at hl 0 rfl) ?_
        refine sp_calli (wr := []) (wc := []) hP hD hS hA [] [] rfl rfl (by decide) (by decide) (va_runS (As := [.int (x &&& 2147483647)]) (rest := [.int (x &&& (-2147483648))]) ⟨hx, hb, hml, hown, hts⟩ (c_X0_cut l D cI cJ cZ H.size (x &&& 2147483647)) (va_cwS 1 hts gX0_ofOne_X0_cut_18 rfl rfl rfl (by decide +kernel) ⟨Nat.le_of_ble_eq_true rfl, Nat.le_of_ble_eq_true rfl⟩) (sp_preS [.int (x &&& 2147483647)] hK (hP.sub (ws' := []) [] rfl) (hD.sub (ws' := []) [] (by decide) rfl)) rfl rfl hl.1 rfl (lv_room (Nat.le_of_ble_eq_true rfl)) dX0_ofOne_89 ⟨Nat.le_of_ble_eq_true rfl, Nat.le_of_ble_eq_true rfl⟩) (fun r22 u23 H locs hw24 hP hD hS => ?_)
        have hq_24_0 : r22 = (kX0_cut (x &&& 2147483647)) := hw24
        subst r22
        have hP : va_P D vwCl [] H := hP
        have hD : va_D A [] := hD
        refine lv_goto (tgt := 99) hx hb dX0_ofOne_92 (by decide) ?_
        refine lv_ior hx hb dX0_ofOne_99 ?_
        refine W.widen (k := 0) (n := 0) (by decide) (by decide) ?_
        exact sp_iret (u := ()) hx hb hr hlocks hS (Eq.symm ((if_pos c4i).trans ((if_neg (show ¬ ((k : Int32).toInt < 6) by omega)).trans ((if_neg (show ¬ (13 < (k : Int32).toInt) by omega)).trans ((if_neg (show ¬ ((k : Int32).toInt = 6) by omega)).trans ((if_neg (show ¬ ((k : Int32).toInt = 7) by omega)).trans ((if_neg (show ¬ ((k : Int32).toInt = 8) by omega)).trans ((if_neg (show ¬ ((k : Int32).toInt = 9) by omega)).trans ((if_pos h5).trans ((if_pos c18i).trans rfl)))))))))) (hP.sub [] rfl) (hD.sub [] (by decide) rfl) dX0_ofOne_100
    · skip
      refine lv_tableIn (off := 70) (tgt := 101) hx hb dX0_ofOne_31 (by omega) (by omega) (by rw [h5]; rfl) (by decide) ?_
      refine lv_iload_n hx hb dX0_ofOne_101 rfl (lv_at hl 1 rfl) ?_
      refine lv_iload_n hx hb dX0_ofOne_102 rfl (lv_at hl 1 rfl) ?_
      refine lv_if_ne (tgt := 113) hx hb dX0_ofOne_103 (by decide) (fun c25 => ?_) (fun c25 => ?_)
      · skip
        have c25i : ¬ ((x &&& (-2147483648)) : Int32).toInt = 0 := fun h => c25 (Int32.toInt_inj.mp h)
        refine lv_iload_n hx hb dX0_ofOne_113 rfl (lv_at hl 0 rfl) ?_
        refine sp_calli (wr := []) (wc := []) hP hD hS hA [] [] rfl rfl (by decide) (by decide) (va_runS (As := [.int (x &&& 2147483647)]) (rest := [.int (x &&& (-2147483648))]) ⟨hx, hb, hml, hown, hts⟩ (c_X0_cut l D cI cJ cZ H.size (x &&& 2147483647)) (va_cwS 1 hts gX0_ofOne_X0_cut_18 rfl rfl rfl (by decide +kernel) ⟨Nat.le_of_ble_eq_true rfl, Nat.le_of_ble_eq_true rfl⟩) (sp_preS [.int (x &&& 2147483647)] hK (hP.sub (ws' := []) [] rfl) (hD.sub (ws' := []) [] (by decide) rfl)) rfl rfl hl.1 rfl (lv_room (Nat.le_of_ble_eq_true rfl)) dX0_ofOne_114 ⟨Nat.le_of_ble_eq_true rfl, Nat.le_of_ble_eq_true rfl⟩) (fun r26 u27 H locs hw28 hP hD hS => ?_)
        have hq_28_0 : r26 = (kX0_cut (x &&& 2147483647)) := hw28
        subst r26
        have hP : va_P D vwCl [] H := hP
        have hD : va_D A [] := hD
        refine lv_ior hx hb dX0_ofOne_117 ?_
        refine W.widen (k := 0) (n := 0) (by decide) (by decide) ?_
        exact sp_iret (u := ()) hx hb hr hlocks hS (Eq.symm ((if_pos c4i).trans ((if_neg (show ¬ ((k : Int32).toInt < 6) by omega)).trans ((if_neg (show ¬ (13 < (k : Int32).toInt) by omega)).trans ((if_neg (show ¬ ((k : Int32).toInt = 6) by omega)).trans ((if_neg (show ¬ ((k : Int32).toInt = 7) by omega)).trans ((if_neg (show ¬ ((k : Int32).toInt = 8) by omega)).trans ((if_neg (show ¬ ((k : Int32).toInt = 9) by omega)).trans ((if_neg (show ¬ ((k : Int32).toInt = 10) by omega)).trans ((if_pos h5).trans ((if_neg c25i).trans rfl))))))))))) (hP.sub [] rfl) (hD.sub [] (by decide) rfl) dX0_ofOne_118
      · skip
        have c25i : ((x &&& (-2147483648)) : Int32).toInt = 0 := congrArg Int32.toInt c25
        refine lv_iload_n hx hb dX0_ofOne_106 rfl (lv_at hl 0 rfl) ?_
        refine sp_calli (wr := []) (wc := []) hP hD hS hA [] [] rfl rfl (by decide) (by decide) (va_runS (As := [.int (x &&& 2147483647)]) (rest := [.int (x &&& (-2147483648))]) ⟨hx, hb, hml, hown, hts⟩ (c_X0_grown l D cI cJ cZ H.size (x &&& 2147483647)) (va_cwS 1 hts gX0_ofOne_X0_grown_24 rfl rfl rfl (by decide +kernel) ⟨Nat.le_of_ble_eq_true rfl, Nat.le_of_ble_eq_true rfl⟩) (sp_preS [.int (x &&& 2147483647)] hK (hP.sub (ws' := []) [] rfl) (hD.sub (ws' := []) [] (by decide) rfl)) rfl rfl hl.1 rfl (lv_room (Nat.le_of_ble_eq_true rfl)) dX0_ofOne_107 ⟨Nat.le_of_ble_eq_true rfl, Nat.le_of_ble_eq_true rfl⟩) (fun r29 u30 H locs hw31 hP hD hS => ?_)
        have hq_31_0 : r29 = (kX0_grown (x &&& 2147483647)) := hw31
        subst r29
        have hP : va_P D vwCl [] H := hP
        have hD : va_D A [] := hD
        refine lv_goto (tgt := 117) hx hb dX0_ofOne_110 (by decide) ?_
        refine lv_ior hx hb dX0_ofOne_117 ?_
        refine W.widen (k := 0) (n := 0) (by decide) (by decide) ?_
        exact sp_iret (u := ()) hx hb hr hlocks hS (Eq.symm ((if_pos c4i).trans ((if_neg (show ¬ ((k : Int32).toInt < 6) by omega)).trans ((if_neg (show ¬ (13 < (k : Int32).toInt) by omega)).trans ((if_neg (show ¬ ((k : Int32).toInt = 6) by omega)).trans ((if_neg (show ¬ ((k : Int32).toInt = 7) by omega)).trans ((if_neg (show ¬ ((k : Int32).toInt = 8) by omega)).trans ((if_neg (show ¬ ((k : Int32).toInt = 9) by omega)).trans ((if_neg (show ¬ ((k : Int32).toInt = 10) by omega)).trans ((if_pos h5).trans ((if_pos c25i).trans rfl))))))))))) (hP.sub [] rfl) (hD.sub [] (by decide) rfl) dX0_ofOne_118
    · skip
      refine lv_tableIn (off := 88) (tgt := 119) hx hb dX0_ofOne_31 (by omega) (by omega) (by rw [h5]; rfl) (by decide) ?_
      refine lv_iload_n hx hb dX0_ofOne_119 rfl (lv_at hl 1 rfl) ?_
      refine lv_iload_n hx hb dX0_ofOne_120 rfl (lv_at hl 0 rfl) ?_
      refine sp_calli (wr := []) (wc := []) hP hD hS hA [] [] rfl rfl (by decide) (by decide) (va_runS (As := [.int (x &&& 2147483647)]) (rest := [.int (x &&& (-2147483648))]) ⟨hx, hb, hml, hown, hts⟩ (c_X0_nearestWhole l D cI cJ cZ H.size (x &&& 2147483647)) (va_cwS 1 hts gX0_ofOne_X0_nearestWhole_27 rfl rfl rfl (by decide +kernel) ⟨Nat.le_of_ble_eq_true rfl, Nat.le_of_ble_eq_true rfl⟩) (sp_preS [.int (x &&& 2147483647)] hK (hP.sub (ws' := []) [] rfl) (hD.sub (ws' := []) [] (by decide) rfl)) rfl rfl hl.1 rfl (lv_room (Nat.le_of_ble_eq_true rfl)) dX0_ofOne_121 ⟨Nat.le_of_ble_eq_true rfl, Nat.le_of_ble_eq_true rfl⟩) (fun r32 u33 H locs hw34 hP hD hS => ?_)
      have hq_34_0 : r32 = (kX0_nearestWhole (x &&& 2147483647)) := hw34
      subst r32
      have hP : va_P D vwCl [] H := hP
      have hD : va_D A [] := hD
      refine lv_ior hx hb dX0_ofOne_124 ?_
      refine W.widen (k := 0) (n := 0) (by decide) (by decide) ?_
      exact sp_iret (u := ()) hx hb hr hlocks hS (Eq.symm ((if_pos c4i).trans ((if_neg (show ¬ ((k : Int32).toInt < 6) by omega)).trans ((if_neg (show ¬ (13 < (k : Int32).toInt) by omega)).trans ((if_neg (show ¬ ((k : Int32).toInt = 6) by omega)).trans ((if_neg (show ¬ ((k : Int32).toInt = 7) by omega)).trans ((if_neg (show ¬ ((k : Int32).toInt = 8) by omega)).trans ((if_neg (show ¬ ((k : Int32).toInt = 9) by omega)).trans ((if_neg (show ¬ ((k : Int32).toInt = 10) by omega)).trans ((if_neg (show ¬ ((k : Int32).toInt = 11) by omega)).trans ((if_pos h5).trans rfl))))))))))) (hP.sub [] rfl) (hD.sub [] (by decide) rfl) dX0_ofOne_125
    · skip
      refine lv_tableIn (off := 95) (tgt := 126) hx hb dX0_ofOne_31 (by omega) (by omega) (by rw [h5]; rfl) (by decide) ?_
      refine lv_iload_n hx hb dX0_ofOne_126 rfl (lv_at hl 1 rfl) ?_
      refine lv_iload_n hx hb dX0_ofOne_127 rfl (lv_at hl 0 rfl) ?_
      refine sp_calli (wr := []) (wc := []) hP hD hS hA [] [] rfl rfl (by decide) (by decide) (va_runS (As := [.int (x &&& (-2147483648)), .int (x &&& 2147483647)]) (rest := []) ⟨hx, hb, hml, hown, hts⟩ (c_X0_asInt l D cI cJ cZ H.size (x &&& (-2147483648)) (x &&& 2147483647)) (va_cwS 2 hts gX0_ofOne_X0_asInt_30 rfl rfl rfl (by decide +kernel) ⟨Nat.le_of_ble_eq_true rfl, Nat.le_of_ble_eq_true rfl⟩) (sp_preS [.int (x &&& (-2147483648)), .int (x &&& 2147483647)] hK (hP.sub (ws' := []) [] rfl) (hD.sub (ws' := []) [] (by decide) rfl)) rfl rfl hl.1 rfl (lv_room (Nat.le_of_ble_eq_true rfl)) dX0_ofOne_128 ⟨Nat.le_of_ble_eq_true rfl, Nat.le_of_ble_eq_true rfl⟩) (fun r35 u36 H locs hw37 hP hD hS => ?_)
      have hq_37_0 : r35 = (kX0_asInt (x &&& (-2147483648)) (x &&& 2147483647)) := hw37
      subst r35
      have hP : va_P D vwCl [] H := hP
      have hD : va_D A [] := hD
      refine W.widen (k := 0) (n := 0) (by decide) (by decide) ?_
      exact sp_iret (u := ()) hx hb hr hlocks hS (Eq.symm ((if_pos c4i).trans ((if_neg (show ¬ ((k : Int32).toInt < 6) by omega)).trans ((if_neg (show ¬ (13 < (k : Int32).toInt) by omega)).trans ((if_neg (show ¬ ((k : Int32).toInt = 6) by omega)).trans ((if_neg (show ¬ ((k : Int32).toInt = 7) by omega)).trans ((if_neg (show ¬ ((k : Int32).toInt = 8) by omega)).trans ((if_neg (show ¬ ((k : Int32).toInt = 9) by omega)).trans ((if_neg (show ¬ ((k : Int32).toInt = 10) by omega)).trans ((if_neg (show ¬ ((k : Int32).toInt = 11) by omega)).trans ((if_neg (show ¬ ((k : Int32).toInt = 12) by omega)).trans ((if_pos h5).trans rfl)))))))))))) (hP.sub [] rfl) (hD.sub [] (by decide) rfl) dX0_ofOne_131
  · skip
    have c4i : ¬ ((kX2_isNone x) : Int32).toInt = 0 := fun h => c4 (Int32.toInt_inj.mp h)
    refine lv_iload_n hx hb dX0_ofOne_7 rfl (lv_at hl 0 rfl) ?_
    refine lv_bipush (v := 13) hx hb dX0_ofOne_8 (by decide) ?_
    refine lv_icmp_ne (tgt := 17) hx hb dX0_ofOne_10 (by decide) (fun c38 => ?_) (fun c38 => ?_)
    · skip
      have c38i : ¬ (k : Int32).toInt = 13 := fun h => c38 (Int32.toInt_inj.mp h)
      refine lv_ldc (v := 2143289344) hx hb hown (hts (.constant RX0 15 (2143289344)) (oX0_ofOne_in _ (List.mem_of_getElem? (i := 2) rfl))) dX0_ofOne_17 ?_
      refine W.widen (k := 0) (n := 0) (by decide) (by decide) ?_
      exact sp_iret (u := ()) hx hb hr hlocks hS (Eq.symm ((if_neg c4i).trans ((if_neg c38i).trans rfl))) (hP.sub [] rfl) (hD.sub [] (by decide) rfl) dX0_ofOne_19
    · skip
      have c38i : (k : Int32).toInt = 13 := congrArg Int32.toInt c38
      refine lv_iconst (v := 0) hx hb dX0_ofOne_13 (by decide) ?_
      refine lv_goto (tgt := 19) hx hb dX0_ofOne_14 (by decide) ?_
      refine W.widen (k := 0) (n := 0) (by decide) (by decide) ?_
      exact sp_iret (u := ()) hx hb hr hlocks hS (Eq.symm ((if_neg c4i).trans ((if_pos c38i).trans rfl))) (hP.sub [] rfl) (hD.sub [] (by decide) rfl) dX0_ofOne_19
def oX0_ofTwo : List Cond := [.constant RX0 15 (2143289344), .constant RX0 16 (-2147483648)]
def wpX0_ofTwo : List Cond := .code yX0_ofTwo cX0_ofTwo 3 (some .int) :: (oX0_ofTwo ++ ((va_wsS RX0 9 yX2_isNone wpX2_isNone) ++ ((va_wsS RX0 49 yX0_remainder wpX0_remainder) ++ ((va_wsS RX0 37 yX0_sum wpX0_sum) ++ ((va_wsS RX0 40 yX0_product wpX0_product) ++ ((va_wsS RX0 43 yX0_quotient wpX0_quotient) ++ ((va_wsS RX0 46 yX2_placeOf wpX2_placeOf) ++ ([] : List Cond))))))))
theorem oX0_ofTwo_in : ∀ w ∈ oX0_ofTwo, w ∈ wpX0_ofTwo := fun w h => List.mem_cons_of_mem _ (List.mem_append_left _ h)
theorem gwoX0_ofTwo : ∀ w ∈ oX0_ofTwo, goodWord w = true := by decide +kernel
theorem gwX0_ofTwo : ∀ w ∈ wpX0_ofTwo, goodWord w = true := by
  unfold wpX0_ofTwo
  exact List.forall_mem_cons.mpr ⟨rfl, List.forall_mem_append.mpr ⟨gwoX0_ofTwo, List.forall_mem_append.mpr ⟨(sp_gS gwX2_isNone), List.forall_mem_append.mpr ⟨(sp_gS gwX0_remainder), List.forall_mem_append.mpr ⟨(sp_gS gwX0_sum), List.forall_mem_append.mpr ⟨(sp_gS gwX0_product), List.forall_mem_append.mpr ⟨(sp_gS gwX0_quotient), List.forall_mem_append.mpr ⟨(sp_gS gwX2_placeOf), fun _ h => absurd h List.not_mem_nil⟩⟩⟩⟩⟩⟩⟩⟩
set_option maxRecDepth 100000 in
theorem toX0_ofTwo : ∀ w ∈ oX0_ofTwo, w ∈ lw_tbl := by
  unfold oX0_ofTwo
  exact List.forall_mem_cons.mpr ⟨(List.mem_of_getElem? (i := 353) (by decide +kernel)), List.forall_mem_cons.mpr ⟨(List.mem_of_getElem? (i := 370) (by decide +kernel)), fun _ h => absurd h List.not_mem_nil⟩⟩
set_option maxRecDepth 100000 in
theorem tX0_ofTwo : ∀ w ∈ wpX0_ofTwo, w ∈ lw_tbl := by
  unfold wpX0_ofTwo
  exact List.forall_mem_cons.mpr ⟨(List.mem_of_getElem? (i := 351) (by rfl)), List.forall_mem_append.mpr ⟨toX0_ofTwo, List.forall_mem_append.mpr ⟨(sp_tS (List.mem_of_getElem? (i := 352) (by decide +kernel)) (List.mem_of_getElem? (i := 280) (by decide +kernel)) (List.mem_of_getElem? (i := 46) (by decide +kernel)) tX2_isNone), List.forall_mem_append.mpr ⟨(sp_tS (List.mem_of_getElem? (i := 395) (by decide +kernel)) (List.mem_of_getElem? (i := 396) (by decide +kernel)) (List.mem_of_getElem? (i := 47) (by decide +kernel)) tX0_remainder), List.forall_mem_append.mpr ⟨(sp_tS (List.mem_of_getElem? (i := 354) (by decide +kernel)) (List.mem_of_getElem? (i := 355) (by decide +kernel)) (List.mem_of_getElem? (i := 47) (by decide +kernel)) tX0_sum), List.forall_mem_append.mpr ⟨(sp_tS (List.mem_of_getElem? (i := 387) (by decide +kernel)) (List.mem_of_getElem? (i := 388) (by decide +kernel)) (List.mem_of_getElem? (i := 47) (by decide +kernel)) tX0_product), List.forall_mem_append.mpr ⟨(sp_tS (List.mem_of_getElem? (i := 390) (by decide +kernel)) (List.mem_of_getElem? (i := 391) (by decide +kernel)) (List.mem_of_getElem? (i := 47) (by decide +kernel)) tX0_quotient), List.forall_mem_append.mpr ⟨(sp_tS (List.mem_of_getElem? (i := 394) (by decide +kernel)) (List.mem_of_getElem? (i := 331) (by decide +kernel)) (List.mem_of_getElem? (i := 46) (by decide +kernel)) tX2_placeOf), fun _ h => absurd h List.not_mem_nil⟩⟩⟩⟩⟩⟩⟩⟩
theorem gX0_ofTwo_X2_isNone_9 : GoodIn wpX0_ofTwo (va_wsS RX0 9 yX2_isNone wpX2_isNone) := fun w h => ⟨List.mem_cons_of_mem _ (List.mem_append_right _ (List.mem_append_left _ h)), good_of_word (sp_gS gwX2_isNone w h)⟩
theorem gX0_ofTwo_X0_remainder_49 : GoodIn wpX0_ofTwo (va_wsS RX0 49 yX0_remainder wpX0_remainder) := fun w h => ⟨List.mem_cons_of_mem _ (List.mem_append_right _ (List.mem_append_right _ (List.mem_append_left _ h))), good_of_word (sp_gS gwX0_remainder w h)⟩
theorem gX0_ofTwo_X0_sum_37 : GoodIn wpX0_ofTwo (va_wsS RX0 37 yX0_sum wpX0_sum) := fun w h => ⟨List.mem_cons_of_mem _ (List.mem_append_right _ (List.mem_append_right _ (List.mem_append_right _ (List.mem_append_left _ h)))), good_of_word (sp_gS gwX0_sum w h)⟩
theorem gX0_ofTwo_X0_product_40 : GoodIn wpX0_ofTwo (va_wsS RX0 40 yX0_product wpX0_product) := fun w h => ⟨List.mem_cons_of_mem _ (List.mem_append_right _ (List.mem_append_right _ (List.mem_append_right _ (List.mem_append_right _ (List.mem_append_left _ h))))), good_of_word (sp_gS gwX0_product w h)⟩
theorem gX0_ofTwo_X0_quotient_43 : GoodIn wpX0_ofTwo (va_wsS RX0 43 yX0_quotient wpX0_quotient) := fun w h => ⟨List.mem_cons_of_mem _ (List.mem_append_right _ (List.mem_append_right _ (List.mem_append_right _ (List.mem_append_right _ (List.mem_append_right _ (List.mem_append_left _ h)))))), good_of_word (sp_gS gwX0_quotient w h)⟩
theorem gX0_ofTwo_X2_placeOf_46 : GoodIn wpX0_ofTwo (va_wsS RX0 46 yX2_placeOf wpX2_placeOf) := fun w h => ⟨List.mem_cons_of_mem _ (List.mem_append_right _ (List.mem_append_right _ (List.mem_append_right _ (List.mem_append_right _ (List.mem_append_right _ (List.mem_append_right _ (List.mem_append_left _ h))))))), good_of_word (sp_gS gwX2_placeOf w h)⟩
set_option maxHeartbeats 4000000 in
set_option maxRecDepth 100000 in
theorem c_X0_ofTwo (l : Launch) (D : va_G) (cI cJ cZ : ClassId) (sz : Nat) (k : Int32) (x : Int32) (y : Int32) : Met l yX0_ofTwo wpX0_ofTwo ({ frames := 4, cells := 0, slots := 0, locals := 110 }) (va_Pc ([.int k, .int x, .int y] : List Value) (sp_pre D vwCl (sp_ty cI cJ cZ) [] sz)) (va_Qi (fun (r : Int32) (_ : Unit) => r = kX0_ofTwo k x y) (sp_B D vwCl (va_A [] sz) (fun (_ : Unit) => [])) (va_A [] sz)) 0 0 (va_A [] sz) := by
  refine sp_ofW (Qc := fun A => va_Qi (fun (r : Int32) (_ : Unit) => r = kX0_ofTwo k x y) (sp_B D vwCl A (fun (_ : Unit) => [])) A) (by decide) rfl (Nat.le_of_ble_eq_true rfl) (fun p e s m below meth c A ls H locs C0 hA hS hP hK hD hl => ?_)
  obtain ⟨hx, hb, hr, hts, hown, hlocks, hml, hin⟩ := id C0
  have hown : s.vm.findClass RX0 = some m.cls := hown
  have hl : lv_has ls 3 [(0, .int k), (1, .int x), (2, .int y)] := hl
  have hK : va_K D vwCl [(cI, .int), (cJ, .long), (cZ, .boolean)] s := hK
  refine lv_iload_n hx hb dX0_ofTwo_0 rfl (lv_at hl 1 rfl) ?_
  refine sp_calli (wr := []) (wc := []) hP hD hS hA [] [] rfl rfl (by decide) (by decide) (va_runS (As := [.int x]) (rest := []) ⟨hx, hb, hml, hown, hts⟩ (c_X2_isNone l D cI cJ cZ H.size x) (va_cwS 1 hts gX0_ofTwo_X2_isNone_9 rfl rfl rfl (by decide +kernel) ⟨Nat.le_of_ble_eq_true rfl, Nat.le_of_ble_eq_true rfl⟩) (sp_preS [.int x] hK (hP.sub (ws' := []) [] rfl) (hD.sub (ws' := []) [] (by decide) rfl)) rfl rfl hl.1 rfl (lv_room (Nat.le_of_ble_eq_true rfl)) dX0_ofTwo_1 ⟨Nat.le_of_ble_eq_true rfl, Nat.le_of_ble_eq_true rfl⟩) (fun r1 u2 H locs hw3 hP hD hS => ?_)
  obtain ⟨hq_3_0, hm_1_⟩ : r1 = (kX2_isNone x) ∧ _ := hw3
  subst r1
  have hm_1_i : (((kX2_isNone x) : Int32).toInt = 1 ∧ (2139095040 < (x &&& 2147483647 : Int32).toInt)) ∨ (((kX2_isNone x) : Int32).toInt = 0 ∧ ¬ (2139095040 < (x &&& 2147483647 : Int32).toInt)) := sp_bool hm_1_
  have hP : va_P D vwCl [] H := hP
  have hD : va_D A [] := hD
  refine lv_if_ne (tgt := 14) hx hb dX0_ofTwo_4 (by decide) (fun c4 => ?_) (fun c4 => ?_)
  · skip
    have c4i : ¬ ((kX2_isNone x) : Int32).toInt = 0 := fun h => c4 (Int32.toInt_inj.mp h)
    refine lv_ldc (v := 2143289344) hx hb hown (hts (.constant RX0 15 (2143289344)) (oX0_ofTwo_in _ (List.mem_of_getElem? (i := 0) rfl))) dX0_ofTwo_14 ?_
    refine W.widen (k := 0) (n := 0) (by decide) (by decide) ?_
    exact sp_iret (u := ()) hx hb hr hlocks hS (Eq.symm ((if_neg c4i).trans rfl)) (hP.sub [] rfl) (hD.sub [] (by decide) rfl) dX0_ofTwo_16
  · skip
    have c4i : ((kX2_isNone x) : Int32).toInt = 0 := congrArg Int32.toInt c4
    refine lv_iload_n hx hb dX0_ofTwo_7 rfl (lv_at hl 2 rfl) ?_
    refine sp_calli (wr := []) (wc := []) hP hD hS hA [] [] rfl rfl (by decide) (by decide) (va_runS (As := [.int y]) (rest := []) ⟨hx, hb, hml, hown, hts⟩ (c_X2_isNone l D cI cJ cZ H.size y) (va_cwS 1 hts gX0_ofTwo_X2_isNone_9 rfl rfl rfl (by decide +kernel) ⟨Nat.le_of_ble_eq_true rfl, Nat.le_of_ble_eq_true rfl⟩) (sp_preS [.int y] hK (hP.sub (ws' := []) [] rfl) (hD.sub (ws' := []) [] (by decide) rfl)) rfl rfl hl.1 rfl (lv_room (Nat.le_of_ble_eq_true rfl)) dX0_ofTwo_8 ⟨Nat.le_of_ble_eq_true rfl, Nat.le_of_ble_eq_true rfl⟩) (fun r5 u6 H locs hw7 hP hD hS => ?_)
    obtain ⟨hq_7_0, hm_2_⟩ : r5 = (kX2_isNone y) ∧ _ := hw7
    subst r5
    have hm_2_i : (((kX2_isNone y) : Int32).toInt = 1 ∧ (2139095040 < (y &&& 2147483647 : Int32).toInt)) ∨ (((kX2_isNone y) : Int32).toInt = 0 ∧ ¬ (2139095040 < (y &&& 2147483647 : Int32).toInt)) := sp_bool hm_2_
    have hP : va_P D vwCl [] H := hP
    have hD : va_D A [] := hD
    refine lv_if_eq (tgt := 17) hx hb dX0_ofTwo_11 (by decide) (fun c8 => ?_) (fun c8 => ?_)
    · skip
      have c8i : ((kX2_isNone y) : Int32).toInt = 0 := congrArg Int32.toInt c8
      refine lv_iload_n hx hb dX0_ofTwo_17 rfl (lv_at hl 0 rfl) ?_
      rcases (show (k : Int32).toInt < 2 ∨ 9 < (k : Int32).toInt ∨ (k : Int32).toInt = 2 ∨ (k : Int32).toInt = 3 ∨ (k : Int32).toInt = 4 ∨ (k : Int32).toInt = 5 ∨ (k : Int32).toInt = 6 ∨ (k : Int32).toInt = 7 ∨ (k : Int32).toInt = 8 ∨ (k : Int32).toInt = 9 by omega) with h9 | h9 | h9 | h9 | h9 | h9 | h9 | h9 | h9 | h9
      · skip
        refine lv_tableOut (tgt := 125) hx hb dX0_ofTwo_18 (Or.inl h9) (by decide) ?_
        refine lv_iload_n hx hb dX0_ofTwo_125 rfl (lv_at hl 1 rfl) ?_
        refine lv_iload_n hx hb dX0_ofTwo_126 rfl (lv_at hl 2 rfl) ?_
        refine sp_calli (wr := []) (wc := []) hP hD hS hA [] [] rfl rfl (by decide) (by decide) (va_runS (As := [.int x, .int y]) (rest := []) ⟨hx, hb, hml, hown, hts⟩ (c_X0_remainder l D cI cJ cZ H.size x y) (va_cwS 2 hts gX0_ofTwo_X0_remainder_49 rfl rfl rfl (by decide +kernel) ⟨Nat.le_of_ble_eq_true rfl, Nat.le_of_ble_eq_true rfl⟩) (sp_preS [.int x, .int y] hK (hP.sub (ws' := []) [] rfl) (hD.sub (ws' := []) [] (by decide) rfl)) rfl rfl hl.1 rfl (lv_room (Nat.le_of_ble_eq_true rfl)) dX0_ofTwo_127 ⟨Nat.le_of_ble_eq_true rfl, Nat.le_of_ble_eq_true rfl⟩) (fun r10 u11 H locs hw12 hP hD hS => ?_)
        have hq_12_0 : r10 = (kX0_remainder x y) := hw12
        subst r10
        have hP : va_P D vwCl [] H := hP
        have hD : va_D A [] := hD
        refine W.widen (k := 0) (n := 0) (by decide) (by decide) ?_
        exact sp_iret (u := ()) hx hb hr hlocks hS (Eq.symm ((if_pos c4i).trans ((if_pos c8i).trans ((if_pos h9).trans rfl)))) (hP.sub [] rfl) (hD.sub [] (by decide) rfl) dX0_ofTwo_130
      · skip
        refine lv_tableOut (tgt := 125) hx hb dX0_ofTwo_18 (Or.inr h9) (by decide) ?_
        refine lv_iload_n hx hb dX0_ofTwo_125 rfl (lv_at hl 1 rfl) ?_
        refine lv_iload_n hx hb dX0_ofTwo_126 rfl (lv_at hl 2 rfl) ?_
        refine sp_calli (wr := []) (wc := []) hP hD hS hA [] [] rfl rfl (by decide) (by decide) (va_runS (As := [.int x, .int y]) (rest := []) ⟨hx, hb, hml, hown, hts⟩ (c_X0_remainder l D cI cJ cZ H.size x y) (va_cwS 2 hts gX0_ofTwo_X0_remainder_49 rfl rfl rfl (by decide +kernel) ⟨Nat.le_of_ble_eq_true rfl, Nat.le_of_ble_eq_true rfl⟩) (sp_preS [.int x, .int y] hK (hP.sub (ws' := []) [] rfl) (hD.sub (ws' := []) [] (by decide) rfl)) rfl rfl hl.1 rfl (lv_room (Nat.le_of_ble_eq_true rfl)) dX0_ofTwo_127 ⟨Nat.le_of_ble_eq_true rfl, Nat.le_of_ble_eq_true rfl⟩) (fun r13 u14 H locs hw15 hP hD hS => ?_)
        have hq_15_0 : r13 = (kX0_remainder x y) := hw15
        subst r13
        have hP : va_P D vwCl [] H := hP
        have hD : va_D A [] := hD
        refine W.widen (k := 0) (n := 0) (by decide) (by decide) ?_
        exact sp_iret (u := ()) hx hb hr hlocks hS (Eq.symm ((if_pos c4i).trans ((if_pos c8i).trans ((if_neg (show ¬ ((k : Int32).toInt < 2) by omega)).trans ((if_pos h9).trans rfl))))) (hP.sub [] rfl) (hD.sub [] (by decide) rfl) dX0_ofTwo_130
      · skip
        refine lv_tableIn (off := 46) (tgt := 64) hx hb dX0_ofTwo_18 (by omega) (by omega) (by rw [h9]; rfl) (by decide) ?_
        refine lv_iload_n hx hb dX0_ofTwo_64 rfl (lv_at hl 1 rfl) ?_
        refine lv_iload_n hx hb dX0_ofTwo_65 rfl (lv_at hl 2 rfl) ?_
        refine sp_calli (wr := []) (wc := []) hP hD hS hA [] [] rfl rfl (by decide) (by decide) (va_runS (As := [.int x, .int y]) (rest := []) ⟨hx, hb, hml, hown, hts⟩ (c_X0_sum l D cI cJ cZ H.size x y) (va_cwS 2 hts gX0_ofTwo_X0_sum_37 rfl rfl rfl (by decide +kernel) ⟨Nat.le_of_ble_eq_true rfl, Nat.le_of_ble_eq_true rfl⟩) (sp_preS [.int x, .int y] hK (hP.sub (ws' := []) [] rfl) (hD.sub (ws' := []) [] (by decide) rfl)) rfl rfl hl.1 rfl (lv_room (Nat.le_of_ble_eq_true rfl)) dX0_ofTwo_66 ⟨Nat.le_of_ble_eq_true rfl, Nat.le_of_ble_eq_true rfl⟩) (fun r16 u17 H locs hw18 hP hD hS => ?_)
        have hq_18_0 : r16 = (kX0_sum x y) := hw18
        subst r16
        have hP : va_P D vwCl [] H := hP
        have hD : va_D A [] := hD
        refine W.widen (k := 0) (n := 0) (by decide) (by decide) ?_
        exact sp_iret (u := ()) hx hb hr hlocks hS (Eq.symm ((if_pos c4i).trans ((if_pos c8i).trans ((if_neg (show ¬ ((k : Int32).toInt < 2) by omega)).trans ((if_neg (show ¬ (9 < (k : Int32).toInt) by omega)).trans ((if_pos h9).trans rfl)))))) (hP.sub [] rfl) (hD.sub [] (by decide) rfl) dX0_ofTwo_69
      · skip
        refine lv_tableIn (off := 52) (tgt := 70) hx hb dX0_ofTwo_18 (by omega) (by omega) (by rw [h9]; rfl) (by decide) ?_
        refine lv_iload_n hx hb dX0_ofTwo_70 rfl (lv_at hl 1 rfl) ?_
        refine lv_iload_n hx hb dX0_ofTwo_71 rfl (lv_at hl 2 rfl) ?_
        refine lv_ldc (v := (-2147483648)) hx hb hown (hts (.constant RX0 16 (-2147483648)) (oX0_ofTwo_in _ (List.mem_of_getElem? (i := 1) rfl))) dX0_ofTwo_72 ?_
        refine lv_ixor hx hb dX0_ofTwo_74 ?_
        refine sp_calli (wr := []) (wc := []) hP hD hS hA [] [] rfl rfl (by decide) (by decide) (va_runS (As := [.int x, .int (y ^^^ (-2147483648))]) (rest := []) ⟨hx, hb, hml, hown, hts⟩ (c_X0_sum l D cI cJ cZ H.size x (y ^^^ (-2147483648))) (va_cwS 2 hts gX0_ofTwo_X0_sum_37 rfl rfl rfl (by decide +kernel) ⟨Nat.le_of_ble_eq_true rfl, Nat.le_of_ble_eq_true rfl⟩) (sp_preS [.int x, .int (y ^^^ (-2147483648))] hK (hP.sub (ws' := []) [] rfl) (hD.sub (ws' := []) [] (by decide) rfl)) rfl rfl hl.1 rfl (lv_room (Nat.le_of_ble_eq_true rfl)) dX0_ofTwo_75 ⟨Nat.le_of_ble_eq_true rfl, Nat.le_of_ble_eq_true rfl⟩) (fun r19 u20 H locs hw21 hP hD hS => ?_)
        have hq_21_0 : r19 = (kX0_sum x (y ^^^ (-2147483648))) := hw21
        subst r19
        have hP : va_P D vwCl [] H := hP
        have hD : va_D A [] := hD
        refine W.widen (k := 0) (n := 0) (by decide) (by decide) ?_
        exact sp_iret (u := ()) hx hb hr hlocks hS (Eq.symm ((if_pos c4i).trans ((if_pos c8i).trans ((if_neg (show ¬ ((k : Int32).toInt < 2) by omega)).trans ((if_neg (show ¬ (9 < (k : Int32).toInt) by omega)).trans ((if_neg (show ¬ ((k : Int32).toInt = 2) by omega)).trans ((if_pos h9).trans rfl))))))) (hP.sub [] rfl) (hD.sub [] (by decide) rfl) dX0_ofTwo_78
      · skip
        refine lv_tableIn (off := 61) (tgt := 79) hx hb dX0_ofTwo_18 (by omega) (by omega) (by rw [h9]; rfl) (by decide) ?_
        refine lv_iload_n hx hb dX0_ofTwo_79 rfl (lv_at hl 1 rfl) ?_
        refine lv_iload_n hx hb dX0_ofTwo_80 rfl (lv_at hl 2 rfl) ?_
        refine sp_calli (wr := []) (wc := []) hP hD hS hA [] [] rfl rfl (by decide) (by decide) (va_runS (As := [.int x, .int y]) (rest := []) ⟨hx, hb, hml, hown, hts⟩ (c_X0_product l D cI cJ cZ H.size x y) (va_cwS 2 hts gX0_ofTwo_X0_product_40 rfl rfl rfl (by decide +kernel) ⟨Nat.le_of_ble_eq_true rfl, Nat.le_of_ble_eq_true rfl⟩) (sp_preS [.int x, .int y] hK (hP.sub (ws' := []) [] rfl) (hD.sub (ws' := []) [] (by decide) rfl)) rfl rfl hl.1 rfl (lv_room (Nat.le_of_ble_eq_true rfl)) dX0_ofTwo_81 ⟨Nat.le_of_ble_eq_true rfl, Nat.le_of_ble_eq_true rfl⟩) (fun r22 u23 H locs hw24 hP hD hS => ?_)
        have hq_24_0 : r22 = (kX0_product x y) := hw24
        subst r22
        have hP : va_P D vwCl [] H := hP
        have hD : va_D A [] := hD
        refine W.widen (k := 0) (n := 0) (by decide) (by decide) ?_
        exact sp_iret (u := ()) hx hb hr hlocks hS (Eq.symm ((if_pos c4i).trans ((if_pos c8i).trans ((if_neg (show ¬ ((k : Int32).toInt < 2) by omega)).trans ((if_neg (show ¬ (9 < (k : Int32).toInt) by omega)).trans ((if_neg (show ¬ ((k : Int32).toInt = 2) by omega)).trans ((if_neg (show ¬ ((k : Int32).toInt = 3) by omega)).trans ((if_pos h9).trans rfl)))))))) (hP.sub [] rfl) (hD.sub [] (by decide) rfl) dX0_ofTwo_84
      · skip
        refine lv_tableIn (off := 67) (tgt := 85) hx hb dX0_ofTwo_18 (by omega) (by omega) (by rw [h9]; rfl) (by decide) ?_
        refine lv_iload_n hx hb dX0_ofTwo_85 rfl (lv_at hl 1 rfl) ?_
        refine lv_iload_n hx hb dX0_ofTwo_86 rfl (lv_at hl 2 rfl) ?_
        refine sp_calli (wr := []) (wc := []) hP hD hS hA [] [] rfl rfl (by decide) (by decide) (va_runS (As := [.int x, .int y]) (rest := []) ⟨hx, hb, hml, hown, hts⟩ (c_X0_quotient l D cI cJ cZ H.size x y) (va_cwS 2 hts gX0_ofTwo_X0_quotient_43 rfl rfl rfl (by decide +kernel) ⟨Nat.le_of_ble_eq_true rfl, Nat.le_of_ble_eq_true rfl⟩) (sp_preS [.int x, .int y] hK (hP.sub (ws' := []) [] rfl) (hD.sub (ws' := []) [] (by decide) rfl)) rfl rfl hl.1 rfl (lv_room (Nat.le_of_ble_eq_true rfl)) dX0_ofTwo_87 ⟨Nat.le_of_ble_eq_true rfl, Nat.le_of_ble_eq_true rfl⟩) (fun r25 u26 H locs hw27 hP hD hS => ?_)
        have hq_27_0 : r25 = (kX0_quotient x y) := hw27
        subst r25
        have hP : va_P D vwCl [] H := hP
        have hD : va_D A [] := hD
        refine W.widen (k := 0) (n := 0) (by decide) (by decide) ?_
        exact sp_iret (u := ()) hx hb hr hlocks hS (Eq.symm ((if_pos c4i).trans ((if_pos c8i).trans ((if_neg (show ¬ ((k : Int32).toInt < 2) by omega)).trans ((if_neg (show ¬ (9 < (k : Int32).toInt) by omega)).trans ((if_neg (show ¬ ((k : Int32).toInt = 2) by omega)).trans ((if_neg (show ¬ ((k : Int32).toInt = 3) by omega)).trans ((if_neg (show ¬ ((k : Int32).toInt = 4) by omega)).trans ((if_pos h9).trans rfl))))))))) (hP.sub [] rfl) (hD.sub [] (by decide) rfl) dX0_ofTwo_90
      · skip
        refine lv_tableIn (off := 107) (tgt := 125) hx hb dX0_ofTwo_18 (by omega) (by omega) (by rw [h9]; rfl) (by decide) ?_
        refine lv_iload_n hx hb dX0_ofTwo_125 rfl (lv_at hl 1 rfl) ?_
        refine lv_iload_n hx hb dX0_ofTwo_126 rfl (lv_at hl 2 rfl) ?_
        refine sp_calli (wr := []) (wc := []) hP hD hS hA [] [] rfl rfl (by decide) (by decide) (va_runS (As := [.int x, .int y]) (rest := []) ⟨hx, hb, hml, hown, hts⟩ (c_X0_remainder l D cI cJ cZ H.size x y) (va_cwS 2 hts gX0_ofTwo_X0_remainder_49 rfl rfl rfl (by decide +kernel) ⟨Nat.le_of_ble_eq_true rfl, Nat.le_of_ble_eq_true rfl⟩) (sp_preS [.int x, .int y] hK (hP.sub (ws' := []) [] rfl) (hD.sub (ws' := []) [] (by decide) rfl)) rfl rfl hl.1 rfl (lv_room (Nat.le_of_ble_eq_true rfl)) dX0_ofTwo_127 ⟨Nat.le_of_ble_eq_true rfl, Nat.le_of_ble_eq_true rfl⟩) (fun r28 u29 H locs hw30 hP hD hS => ?_)
        have hq_30_0 : r28 = (kX0_remainder x y) := hw30
        subst r28
        have hP : va_P D vwCl [] H := hP
        have hD : va_D A [] := hD
        refine W.widen (k := 0) (n := 0) (by decide) (by decide) ?_
        exact sp_iret (u := ()) hx hb hr hlocks hS (Eq.symm ((if_pos c4i).trans ((if_pos c8i).trans ((if_neg (show ¬ ((k : Int32).toInt < 2) by omega)).trans ((if_neg (show ¬ (9 < (k : Int32).toInt) by omega)).trans ((if_neg (show ¬ ((k : Int32).toInt = 2) by omega)).trans ((if_neg (show ¬ ((k : Int32).toInt = 3) by omega)).trans ((if_neg (show ¬ ((k : Int32).toInt = 4) by omega)).trans ((if_neg (show ¬ ((k : Int32).toInt = 5) by omega)).trans ((if_pos h9).trans rfl)))))))))) (hP.sub [] rfl) (hD.sub [] (by decide) rfl) dX0_ofTwo_130
      · skip
        refine lv_tableIn (off := 107) (tgt := 125) hx hb dX0_ofTwo_18 (by omega) (by omega) (by rw [h9]; rfl) (by decide) ?_
        refine lv_iload_n hx hb dX0_ofTwo_125 rfl (lv_at hl 1 rfl) ?_
        refine lv_iload_n hx hb dX0_ofTwo_126 rfl (lv_at hl 2 rfl) ?_
        refine sp_calli (wr := []) (wc := []) hP hD hS hA [] [] rfl rfl (by decide) (by decide) (va_runS (As := [.int x, .int y]) (rest := []) ⟨hx, hb, hml, hown, hts⟩ (c_X0_remainder l D cI cJ cZ H.size x y) (va_cwS 2 hts gX0_ofTwo_X0_remainder_49 rfl rfl rfl (by decide +kernel) ⟨Nat.le_of_ble_eq_true rfl, Nat.le_of_ble_eq_true rfl⟩) (sp_preS [.int x, .int y] hK (hP.sub (ws' := []) [] rfl) (hD.sub (ws' := []) [] (by decide) rfl)) rfl rfl hl.1 rfl (lv_room (Nat.le_of_ble_eq_true rfl)) dX0_ofTwo_127 ⟨Nat.le_of_ble_eq_true rfl, Nat.le_of_ble_eq_true rfl⟩) (fun r31 u32 H locs hw33 hP hD hS => ?_)
        have hq_33_0 : r31 = (kX0_remainder x y) := hw33
        subst r31
        have hP : va_P D vwCl [] H := hP
        have hD : va_D A [] := hD
        refine W.widen (k := 0) (n := 0) (by decide) (by decide) ?_
        exact sp_iret (u := ()) hx hb hr hlocks hS (Eq.symm ((if_pos c4i).trans ((if_pos c8i).trans ((if_neg (show ¬ ((k : Int32).toInt < 2) by omega)).trans ((if_neg (show ¬ (9 < (k : Int32).toInt) by omega)).trans ((if_neg (show ¬ ((k : Int32).toInt = 2) by omega)).trans ((if_neg (show ¬ ((k : Int32).toInt = 3) by omega)).trans ((if_neg (show ¬ ((k : Int32).toInt = 4) by omega)).trans ((if_neg (show ¬ ((k : Int32).toInt = 5) by omega)).trans ((if_neg (show ¬ ((k : Int32).toInt = 6) by omega)).trans ((if_pos h9).trans rfl))))))))))) (hP.sub [] rfl) (hD.sub [] (by decide) rfl) dX0_ofTwo_130
      · skip
        refine lv_tableIn (off := 73) (tgt := 91) hx hb dX0_ofTwo_18 (by omega) (by omega) (by rw [h9]; rfl) (by decide) ?_
        refine lv_iload_n hx hb dX0_ofTwo_91 rfl (lv_at hl 1 rfl) ?_
        refine sp_calli (wr := []) (wc := []) hP hD hS hA [] [] rfl rfl (by decide) (by decide) (va_runS (As := [.int x]) (rest := []) ⟨hx, hb, hml, hown, hts⟩ (c_X2_placeOf l D cI cJ cZ H.size x) (va_cwS 1 hts gX0_ofTwo_X2_placeOf_46 rfl rfl rfl (by decide +kernel) ⟨Nat.le_of_ble_eq_true rfl, Nat.le_of_ble_eq_true rfl⟩) (sp_preS [.int x] hK (hP.sub (ws' := []) [] rfl) (hD.sub (ws' := []) [] (by decide) rfl)) rfl rfl hl.1 rfl (lv_room (Nat.le_of_ble_eq_true rfl)) dX0_ofTwo_92 ⟨Nat.le_of_ble_eq_true rfl, Nat.le_of_ble_eq_true rfl⟩) (fun r34 u35 H locs hw36 hP hD hS => ?_)
        have hq_36_0 : r34 = (kX2_placeOf x) := hw36
        subst r34
        have hP : va_P D vwCl [] H := hP
        have hD : va_D A [] := hD
        refine lv_iload_n hx hb dX0_ofTwo_95 rfl (lv_at hl 2 rfl) ?_
        refine sp_calli (wr := []) (wc := []) hP hD hS hA [] [] rfl rfl (by decide) (by decide) (va_runS (As := [.int y]) (rest := [.int (kX2_placeOf x)]) ⟨hx, hb, hml, hown, hts⟩ (c_X2_placeOf l D cI cJ cZ H.size y) (va_cwS 1 hts gX0_ofTwo_X2_placeOf_46 rfl rfl rfl (by decide +kernel) ⟨Nat.le_of_ble_eq_true rfl, Nat.le_of_ble_eq_true rfl⟩) (sp_preS [.int y] hK (hP.sub (ws' := []) [] rfl) (hD.sub (ws' := []) [] (by decide) rfl)) rfl rfl hl.1 rfl (lv_room (Nat.le_of_ble_eq_true rfl)) dX0_ofTwo_96 ⟨Nat.le_of_ble_eq_true rfl, Nat.le_of_ble_eq_true rfl⟩) (fun r37 u38 H locs hw39 hP hD hS => ?_)
        have hq_39_0 : r37 = (kX2_placeOf y) := hw39
        subst r37
        have hP : va_P D vwCl [] H := hP
        have hD : va_D A [] := hD
        refine lv_icmp_gt (tgt := 106) hx hb dX0_ofTwo_99 (by decide) (fun c40 => ?_) (fun c40 => ?_)
        · skip
          have c40i : ((kX2_placeOf y) : Int32).toInt < ((kX2_placeOf x) : Int32).toInt := Int32.lt_iff_toInt_lt.mp c40
          refine lv_iload_n hx hb dX0_ofTwo_106 rfl (lv_at hl 2 rfl) ?_
          refine W.widen (k := 0) (n := 0) (by decide) (by decide) ?_
          exact sp_iret (u := ()) hx hb hr hlocks hS (Eq.symm ((if_pos c4i).trans ((if_pos c8i).trans ((if_neg (show ¬ ((k : Int32).toInt < 2) by omega)).trans ((if_neg (show ¬ (9 < (k : Int32).toInt) by omega)).trans ((if_neg (show ¬ ((k : Int32).toInt = 2) by omega)).trans ((if_neg (show ¬ ((k : Int32).toInt = 3) by omega)).trans ((if_neg (show ¬ ((k : Int32).toInt = 4) by omega)).trans ((if_neg (show ¬ ((k : Int32).toInt = 5) by omega)).trans ((if_neg (show ¬ ((k : Int32).toInt = 6) by omega)).trans ((if_neg (show ¬ ((k : Int32).toInt = 7) by omega)).trans ((if_pos h9).trans ((if_pos c40i).trans rfl))))))))))))) (hP.sub [] rfl) (hD.sub [] (by decide) rfl) dX0_ofTwo_107
        · skip
          have c40i : ¬ ((kX2_placeOf y) : Int32).toInt < ((kX2_placeOf x) : Int32).toInt := fun h => c40 (Int32.lt_iff_toInt_lt.mpr h)
          refine lv_iload_n hx hb dX0_ofTwo_102 rfl (lv_at hl 1 rfl) ?_
          refine lv_goto (tgt := 107) hx hb dX0_ofTwo_103 (by decide) ?_
          refine W.widen (k := 0) (n := 0) (by decide) (by decide) ?_
          exact sp_iret (u := ()) hx hb hr hlocks hS (Eq.symm ((if_pos c4i).trans ((if_pos c8i).trans ((if_neg (show ¬ ((k : Int32).toInt < 2) by omega)).trans ((if_neg (show ¬ (9 < (k : Int32).toInt) by omega)).trans ((if_neg (show ¬ ((k : Int32).toInt = 2) by omega)).trans ((if_neg (show ¬ ((k : Int32).toInt = 3) by omega)).trans ((if_neg (show ¬ ((k : Int32).toInt = 4) by omega)).trans ((if_neg (show ¬ ((k : Int32).toInt = 5) by omega)).trans ((if_neg (show ¬ ((k : Int32).toInt = 6) by omega)).trans ((if_neg (show ¬ ((k : Int32).toInt = 7) by omega)).trans ((if_pos h9).trans ((if_neg c40i).trans rfl))))))))))))) (hP.sub [] rfl) (hD.sub [] (by decide) rfl) dX0_ofTwo_107
      · skip
        refine lv_tableIn (off := 90) (tgt := 108) hx hb dX0_ofTwo_18 (by omega) (by omega) (by rw [h9]; rfl) (by decide) ?_
        refine lv_iload_n hx hb dX0_ofTwo_108 rfl (lv_at hl 1 rfl) ?_
        refine sp_calli (wr := []) (wc := []) hP hD hS hA [] [] rfl rfl (by decide) (by decide) (va_runS (As := [.int x]) (rest := []) ⟨hx, hb, hml, hown, hts⟩ (c_X2_placeOf l D cI cJ cZ H.size x) (va_cwS 1 hts gX0_ofTwo_X2_placeOf_46 rfl rfl rfl (by decide +kernel) ⟨Nat.le_of_ble_eq_true rfl, Nat.le_of_ble_eq_true rfl⟩) (sp_preS [.int x] hK (hP.sub (ws' := []) [] rfl) (hD.sub (ws' := []) [] (by decide) rfl)) rfl rfl hl.1 rfl (lv_room (Nat.le_of_ble_eq_true rfl)) dX0_ofTwo_109 ⟨Nat.le_of_ble_eq_true rfl, Nat.le_of_ble_eq_true rfl⟩) (fun r41 u42 H locs hw43 hP hD hS => ?_)
        have hq_43_0 : r41 = (kX2_placeOf x) := hw43
        subst r41
        have hP : va_P D vwCl [] H := hP
        have hD : va_D A [] := hD
        refine lv_iload_n hx hb dX0_ofTwo_112 rfl (lv_at hl 2 rfl) ?_
        refine sp_calli (wr := []) (wc := []) hP hD hS hA [] [] rfl rfl (by decide) (by decide) (va_runS (As := [.int y]) (rest := [.int (kX2_placeOf x)]) ⟨hx, hb, hml, hown, hts⟩ (c_X2_placeOf l D cI cJ cZ H.size y) (va_cwS 1 hts gX0_ofTwo_X2_placeOf_46 rfl rfl rfl (by decide +kernel) ⟨Nat.le_of_ble_eq_true rfl, Nat.le_of_ble_eq_true rfl⟩) (sp_preS [.int y] hK (hP.sub (ws' := []) [] rfl) (hD.sub (ws' := []) [] (by decide) rfl)) rfl rfl hl.1 rfl (lv_room (Nat.le_of_ble_eq_true rfl)) dX0_ofTwo_113 ⟨Nat.le_of_ble_eq_true rfl, Nat.le_of_ble_eq_true rfl⟩) (fun r44 u45 H locs hw46 hP hD hS => ?_)
        have hq_46_0 : r44 = (kX2_placeOf y) := hw46
        subst r44
        have hP : va_P D vwCl [] H := hP
        have hD : va_D A [] := hD
        refine lv_icmp_lt (tgt := 123) hx hb dX0_ofTwo_116 (by decide) (fun c47 => ?_) (fun c47 => ?_)
        · skip
          have c47i : ((kX2_placeOf x) : Int32).toInt < ((kX2_placeOf y) : Int32).toInt := Int32.lt_iff_toInt_lt.mp c47
          refine lv_iload_n hx hb dX0_ofTwo_123 rfl (lv_at hl 2 rfl) ?_
          refine W.widen (k := 0) (n := 0) (by decide) (by decide) ?_
          exact sp_iret (u := ()) hx hb hr hlocks hS (Eq.symm ((if_pos c4i).trans ((if_pos c8i).trans ((if_neg (show ¬ ((k : Int32).toInt < 2) by omega)).trans ((if_neg (show ¬ (9 < (k : Int32).toInt) by omega)).trans ((if_neg (show ¬ ((k : Int32).toInt = 2) by omega)).trans ((if_neg (show ¬ ((k : Int32).toInt = 3) by omega)).trans ((if_neg (show ¬ ((k : Int32).toInt = 4) by omega)).trans ((if_neg (show ¬ ((k : Int32).toInt = 5) by omega)).trans ((if_neg (show ¬ ((k : Int32).toInt = 6) by omega)).trans ((if_neg (show ¬ ((k : Int32).toInt = 7) by omega)).trans ((if_neg (show ¬ ((k : Int32).toInt = 8) by omega)).trans ((if_pos h9).trans ((if_pos c47i).trans rfl)))))))))))))) (hP.sub [] rfl) (hD.sub [] (by decide) rfl) dX0_ofTwo_124
        · skip
          have c47i : ¬ ((kX2_placeOf x) : Int32).toInt < ((kX2_placeOf y) : Int32).toInt := fun h => c47 (Int32.lt_iff_toInt_lt.mpr h)
          refine lv_iload_n hx hb dX0_ofTwo_119 rfl (lv_at hl 1 rfl) ?_
          refine lv_goto (tgt := 124) hx hb dX0_ofTwo_120 (by decide) ?_
          refine W.widen (k := 0) (n := 0) (by decide) (by decide) ?_
          exact sp_iret (u := ()) hx hb hr hlocks hS (Eq.symm ((if_pos c4i).trans ((if_pos c8i).trans ((if_neg (show ¬ ((k : Int32).toInt < 2) by omega)).trans ((if_neg (show ¬ (9 < (k : Int32).toInt) by omega)).trans ((if_neg (show ¬ ((k : Int32).toInt = 2) by omega)).trans ((if_neg (show ¬ ((k : Int32).toInt = 3) by omega)).trans ((if_neg (show ¬ ((k : Int32).toInt = 4) by omega)).trans ((if_neg (show ¬ ((k : Int32).toInt = 5) by omega)).trans ((if_neg (show ¬ ((k : Int32).toInt = 6) by omega)).trans ((if_neg (show ¬ ((k : Int32).toInt = 7) by omega)).trans ((if_neg (show ¬ ((k : Int32).toInt = 8) by omega)).trans ((if_pos h9).trans ((if_neg c47i).trans rfl)))))))))))))) (hP.sub [] rfl) (hD.sub [] (by decide) rfl) dX0_ofTwo_124
    · skip
      have c8i : ¬ ((kX2_isNone y) : Int32).toInt = 0 := fun h => c8 (Int32.toInt_inj.mp h)
      refine lv_ldc (v := 2143289344) hx hb hown (hts (.constant RX0 15 (2143289344)) (oX0_ofTwo_in _ (List.mem_of_getElem? (i := 0) rfl))) dX0_ofTwo_14 ?_
      refine W.widen (k := 0) (n := 0) (by decide) (by decide) ?_
      exact sp_iret (u := ()) hx hb hr hlocks hS (Eq.symm ((if_pos c4i).trans ((if_neg c8i).trans rfl))) (hP.sub [] rfl) (hD.sub [] (by decide) rfl) dX0_ofTwo_16
