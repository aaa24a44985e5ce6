def kJ6_compare_7cf53 (x : Int32) (y : Int32) : Int32 := (if (y : Int32).toInt ≤ (x : Int32).toInt then (if (x : Int32).toInt = (y : Int32).toInt then (0) else (1)) else ((-1)))
def kJ6_numberOfLeadingZeros_0f7a4_s32 (x : Int32) : Int32 := (((x : Int32).toUInt32 >>> ((16 : Int32).toUInt32 &&& Int32.toUInt32 31)).toInt32)
def kJ6_numberOfLeadingZeros_0f7a4_33_z5 (x : Int32) : Int32 := (if (x : Int32).toInt < 65536 then (31) else (15))
def kJ6_numberOfLeadingZeros_0f7a4_33_z6 (x : Int32) : Int32 := (if (x : Int32).toInt < 65536 then (x) else ((kJ6_numberOfLeadingZeros_0f7a4_s32 x)))
def kJ6_numberOfLeadingZeros_0f7a4_s47 (x : Int32) : Int32 := ((((kJ6_numberOfLeadingZeros_0f7a4_33_z6 x) : Int32).toUInt32 >>> ((8 : Int32).toUInt32 &&& Int32.toUInt32 31)).toInt32)
def kJ6_numberOfLeadingZeros_0f7a4_48_z11 (x : Int32) : Int32 := (if ((kJ6_numberOfLeadingZeros_0f7a4_33_z6 x) : Int32).toInt < 256 then ((kJ6_numberOfLeadingZeros_0f7a4_33_z5 x)) else (((kJ6_numberOfLeadingZeros_0f7a4_33_z5 x) + (-8))))
def kJ6_numberOfLeadingZeros_0f7a4_48_z12 (x : Int32) : Int32 := (if ((kJ6_numberOfLeadingZeros_0f7a4_33_z6 x) : Int32).toInt < 256 then ((kJ6_numberOfLeadingZeros_0f7a4_33_z6 x)) else ((kJ6_numberOfLeadingZeros_0f7a4_s47 x)))
def kJ6_numberOfLeadingZeros_0f7a4_s60 (x : Int32) : Int32 := ((((kJ6_numberOfLeadingZeros_0f7a4_48_z12 x) : Int32).toUInt32 >>> ((4 : Int32).toUInt32 &&& Int32.toUInt32 31)).toInt32)
def kJ6_numberOfLeadingZeros_0f7a4_61_z17 (x : Int32) : Int32 := (if ((kJ6_numberOfLeadingZeros_0f7a4_48_z12 x) : Int32).toInt < 16 then ((kJ6_numberOfLeadingZeros_0f7a4_48_z11 x)) else (((kJ6_numberOfLeadingZeros_0f7a4_48_z11 x) + (-4))))
def kJ6_numberOfLeadingZeros_0f7a4_61_z18 (x : Int32) : Int32 := (if ((kJ6_numberOfLeadingZeros_0f7a4_48_z12 x) : Int32).toInt < 16 then ((kJ6_numberOfLeadingZeros_0f7a4_48_z12 x)) else ((kJ6_numberOfLeadingZeros_0f7a4_s60 x)))
def kJ6_numberOfLeadingZeros_0f7a4_s72 (x : Int32) : Int32 := ((((kJ6_numberOfLeadingZeros_0f7a4_61_z18 x) : Int32).toUInt32 >>> ((2 : Int32).toUInt32 &&& Int32.toUInt32 31)).toInt32)
def kJ6_numberOfLeadingZeros_0f7a4_73_z23 (x : Int32) : Int32 := (if ((kJ6_numberOfLeadingZeros_0f7a4_61_z18 x) : Int32).toInt < 4 then ((kJ6_numberOfLeadingZeros_0f7a4_61_z17 x)) else (((kJ6_numberOfLeadingZeros_0f7a4_61_z17 x) + (-2))))
def kJ6_numberOfLeadingZeros_0f7a4_73_z24 (x : Int32) : Int32 := (if ((kJ6_numberOfLeadingZeros_0f7a4_61_z18 x) : Int32).toInt < 4 then ((kJ6_numberOfLeadingZeros_0f7a4_61_z18 x)) else ((kJ6_numberOfLeadingZeros_0f7a4_s72 x)))
def kJ6_numberOfLeadingZeros_0f7a4_14_z29 (x : Int32) : Int32 := (if (x : Int32).toInt = 0 then (32) else (0))
def kJ6_numberOfLeadingZeros_0f7a4 (x : Int32) : Int32 := (if 0 < (x : Int32).toInt then (((kJ6_numberOfLeadingZeros_0f7a4_73_z23 x) - ((((kJ6_numberOfLeadingZeros_0f7a4_73_z24 x) : Int32).toUInt32 >>> ((1 : Int32).toUInt32 &&& Int32.toUInt32 31)).toInt32))) else ((kJ6_numberOfLeadingZeros_0f7a4_14_z29 x)))
def kJ13_numberOfLeadingZeros_95d88_s5 (x : Int64) : Int32 := ((((x : Int64).toUInt64 >>> ((32 : Int32).toInt64.toUInt64 &&& Int64.toUInt64 63)).toInt64)).toInt32
def kJ13_numberOfLeadingZeros_95d88_25_z10 (x : Int64) : Int32 := (if ((kJ13_numberOfLeadingZeros_95d88_s5 x) : Int32).toInt = 0 then ((32 + (kJ6_numberOfLeadingZeros_0f7a4 ((x).toInt32)))) else ((kJ6_numberOfLeadingZeros_0f7a4 (kJ13_numberOfLeadingZeros_95d88_s5 x))))
def kJ13_numberOfLeadingZeros_95d88 (x : Int64) : Int32 := ((kJ13_numberOfLeadingZeros_95d88_25_z10 x))
def kX2_isNone (b : Int32) : Int32 := (if ((b &&& 2147483647) : Int32).toInt ≤ 2139095040 then (0) else (1))
def kX2_placeOf (b : Int32) : Int32 := (if 0 ≤ (b : Int32).toInt then (b) else ((b ^^^ 2147483647)))
def kX2_bitsAt (b : Int32) : Int32 := (if 0 ≤ (b : Int32).toInt then (b) else ((b ^^^ 2147483647)))
def kX2_rank (b : Int32) : Int32 := (if 0 ≤ (b : Int32).toInt then (b) else ((b + 1)))
def kX2_exponent_s7 (b : Int32) : Int32 := ((((b &&& 2147483647) : Int32).toUInt32 >>> ((23 : Int32).toUInt32 &&& Int32.toUInt32 31)).toInt32)
def kX2_exponent_23_z4 (b : Int32) : Int32 := (if ((kX2_exponent_s7 b) : Int32).toInt = 0 then ((-149)) else (((kX2_exponent_s7 b) - 150)))
def kX2_exponent (b : Int32) : Int32 := ((kX2_exponent_23_z4 b))
def kX2_significand_22_z4 (b : Int32) : Int64 := (if ((b &&& 2139095040) : Int32).toInt = 0 then (((b &&& 8388607) : Int32).toInt64) else ((((b &&& 8388607) ||| 8388608) : Int32).toInt64))
def kX2_significand (b : Int32) : Int64 := ((kX2_significand_22_z4 b))
def kX2_nearest_s15 (g : Int32) (mm : Int64) (ex : Int32) : Int32 := (64 - (kJ13_numberOfLeadingZeros_95d88 mm))
def kX2_nearest_s30 (g : Int32) (mm : Int64) (ex : Int32) : Int32 := (kmax (((ex + (kX2_nearest_s15 g mm ex)) - 24)) ((-149)))
def kX2_nearest_s36 (g : Int32) (mm : Int64) (ex : Int32) : Int32 := ((kX2_nearest_s30 g mm ex) - ex)
def kX2_nearest_s68 (g : Int32) (mm : Int64) (ex : Int32) : Int64 := (mm <<< (((kmax ((-(kX2_nearest_s36 g mm ex))) (0)) : Int32).toInt64 &&& 63))
def kX2_nearest_s79 (g : Int32) (mm : Int64) (ex : Int32) : Int64 := (((mm : Int64).toUInt64 >>> (((kX2_nearest_s36 g mm ex) : Int32).toInt64.toUInt64 &&& Int64.toUInt64 63)).toInt64)
def kX2_nearest_s88 (g : Int32) (mm : Int64) (ex : Int32) : Int64 := (mm - ((kX2_nearest_s79 g mm ex) <<< (((kX2_nearest_s36 g mm ex) : Int32).toInt64 &&& 63)))
def kX2_nearest_s96 (g : Int32) (mm : Int64) (ex : Int32) : Int64 := (1 <<< ((((kX2_nearest_s36 g mm ex) - 1) : Int32).toInt64 &&& 63))
def kX2_nearest_s127 (g : Int32) (mm : Int64) (ex : Int32) : Int64 := ((kX2_nearest_s79 g mm ex) + 1)
def kX2_nearest_129_z16 (g : Int32) (mm : Int64) (ex : Int32) : Int64 := (if (((kX2_nearest_s79 g mm ex) &&& 1) : Int64).toInt = 1 then ((kX2_nearest_s127 g mm ex)) else ((kX2_nearest_s79 g mm ex)))
def kX2_nearest_129_z19 (g : Int32) (mm : Int64) (ex : Int32) : Int64 := (if ((kX2_nearest_s88 g mm ex) : Int64).toInt = ((kX2_nearest_s96 g mm ex) : Int64).toInt then ((kX2_nearest_129_z16 g mm ex)) else ((kX2_nearest_s79 g mm ex)))
def kX2_nearest_129_z22 (g : Int32) (mm : Int64) (ex : Int32) : Int64 := (if ((kX2_nearest_s96 g mm ex) : Int64).toInt < ((kX2_nearest_s88 g mm ex) : Int64).toInt then ((kX2_nearest_s127 g mm ex)) else ((kX2_nearest_129_z19 g mm ex)))
def kX2_nearest_129_z25 (g : Int32) (mm : Int64) (ex : Int32) : Int64 := (if ((kX2_nearest_s36 g mm ex) : Int32).toInt ≤ 0 then ((kX2_nearest_s68 g mm ex)) else ((kX2_nearest_129_z22 g mm ex)))
def kX2_nearest (g : Int32) (mm : Int64) (ex : Int32) : Int32 := (if (mm : Int64).toInt = 0 then (g) else (if ((kX2_nearest_s30 g mm ex) : Int32).toInt ≤ 104 then (if ((kX2_nearest_s36 g mm ex) : Int32).toInt ≤ ((kX2_nearest_s15 g mm ex) : Int32).toInt then ((g ||| ((((kX2_nearest_s30 g mm ex) + 149) <<< (23 &&& 31)) + ((kX2_nearest_129_z25 g mm ex)).toInt32))) else (g)) else ((g ||| 2139095040))))
def oJ6_compare_7cf53 : List Cond := []
def wpJ6_compare_7cf53 : List Cond := .code yJ6_compare_7cf53 cJ6_compare_7cf53 2 (some .int) :: (oJ6_compare_7cf53 ++ ([] : List Cond))
theorem oJ6_compare_7cf53_in : ∀ w ∈ oJ6_compare_7cf53, w ∈ wpJ6_compare_7cf53 := fun w h => List.mem_cons_of_mem _ (List.mem_append_left _ h)
theorem gwoJ6_compare_7cf53 : ∀ w ∈ oJ6_compare_7cf53, goodWord w = true := by decide +kernel
theorem gwJ6_compare_7cf53 : ∀ w ∈ wpJ6_compare_7cf53, goodWord w = true := by
  unfold wpJ6_compare_7cf53
  exact List.forall_mem_cons.mpr ⟨rfl, List.forall_mem_append.mpr ⟨gwoJ6_compare_7cf53, fun _ h => absurd h List.not_mem_nil⟩⟩
set_option maxRecDepth 100000 in
theorem toJ6_compare_7cf53 : ∀ w ∈ oJ6_compare_7cf53, w ∈ lw_tbl := by
  unfold oJ6_compare_7cf53
  exact fun _ h => absurd h List.not_mem_nil
set_option maxRecDepth 100000 in
theorem tJ6_compare_7cf53 : ∀ w ∈ wpJ6_compare_7cf53, w ∈ lw_tbl := by
  unfold wpJ6_compare_7cf53
  exact List.forall_mem_cons.mpr ⟨(List.mem_of_getElem? (i := 449) (by rfl)), List.forall_mem_append.mpr ⟨toJ6_compare_7cf53, fun _ h => absurd h List.not_mem_nil⟩⟩
set_option maxHeartbeats 4000000 in
set_option maxRecDepth 100000 in
theorem c_J6_compare_7cf53 (l : Launch) (D : va_G) (cI cJ cZ : ClassId) (sz : Nat) (x : Int32) (y : Int32) : Met l yJ6_compare_7cf53 wpJ6_compare_7cf53 ({ frames := 0, cells := 0, slots := 0, locals := 0 }) (va_Pc ([.int x, .int y] : List Value) (sp_pre D vwCl (sp_ty cI cJ cZ) [] sz)) (va_Qi (fun (r : Int32) (_ : Unit) => r = kJ6_compare_7cf53 x y) (sp_B D vwCl (va_A [] sz) (fun (_ : Unit) => [])) (va_A [] sz)) 0 0 (va_A [] sz) := by
  refine sp_ofW (Qc := fun A => va_Qi (fun (r : Int32) (_ : Unit) => r = kJ6_compare_7cf53 x y) (sp_B D vwCl A (fun (_ : Unit) => [])) A) (by decide) rfl (Nat.le_of_ble_eq_true rfl) (fun p e s m below meth c A ls H locs C0 hA hS hP hK hD hl => ?_)
  obtain ⟨hx, hb, hr, hts, hown, hlocks, hml, hin⟩ := id C0
  have hown : s.vm.findClass RJ6 = some m.cls := hown
  have hl : lv_has ls 2 [(0, .int x), (1, .int y)] := hl
  have hK : va_K D vwCl [(cI, .int), (cJ, .long), (cZ, .boolean)] s := hK
  refine lv_iload_n hx hb dJ6_compare_7cf53_0 rfl (lv_at hl 0 rfl) ?_
  refine lv_iload_n hx hb dJ6_compare_7cf53_1 rfl (lv_at hl 1 rfl) ?_
  refine lv_icmp_ge (tgt := 9) hx hb dJ6_compare_7cf53_2 (by decide) (fun c1 => ?_) (fun c1 => ?_)
  · skip
    have c1i : (y : Int32).toInt ≤ (x : Int32).toInt := Int32.le_iff_toInt_le.mp c1
    refine lv_iload_n hx hb dJ6_compare_7cf53_9 rfl (lv_at hl 0 rfl) ?_
    refine lv_iload_n hx hb dJ6_compare_7cf53_10 rfl (lv_at hl 1 rfl) ?_
    refine lv_icmp_ne (tgt := 18) hx hb dJ6_compare_7cf53_11 (by decide) (fun c2 => ?_) (fun c2 => ?_)
    · skip
      have c2i : ¬ (x : Int32).toInt = (y : Int32).toInt := fun h => c2 (Int32.toInt_inj.mp h)
      refine lv_iconst (v := 1) hx hb dJ6_compare_7cf53_18 (by decide) ?_
      refine W.widen (k := 0) (n := 0) (by decide) (by decide) ?_
      exact sp_iret (u := ()) hx hb hr hlocks hS (Eq.symm ((if_pos c1i).trans ((if_neg c2i).trans rfl))) (hP.sub [] rfl) (hD.sub [] (by decide) rfl) dJ6_compare_7cf53_19
    · skip
      have c2i : (x : Int32).toInt = (y : Int32).toInt := congrArg Int32.toInt c2
      refine lv_iconst (v := 0) hx hb dJ6_compare_7cf53_14 (by decide) ?_
      refine lv_goto (tgt := 19) hx hb dJ6_compare_7cf53_15 (by decide) ?_
      refine W.widen (k := 0) (n := 0) (by decide) (by decide) ?_
      exact sp_iret (u := ()) hx hb hr hlocks hS (Eq.symm ((if_pos c1i).trans ((if_pos c2i).trans rfl))) (hP.sub [] rfl) (hD.sub [] (by decide) rfl) dJ6_compare_7cf53_19
  · skip
    have c1i : ¬ (y : Int32).toInt ≤ (x : Int32).toInt := fun h => c1 (Int32.le_iff_toInt_le.mpr h)
    refine lv_iconst (v := (-1)) hx hb dJ6_compare_7cf53_5 (by decide) ?_
    refine lv_goto (tgt := 19) hx hb dJ6_compare_7cf53_6 (by decide) ?_
    refine W.widen (k := 0) (n := 0) (by decide) (by decide) ?_
    exact sp_iret (u := ()) hx hb hr hlocks hS (Eq.symm ((if_neg c1i).trans rfl)) (hP.sub [] rfl) (hD.sub [] (by decide) rfl) dJ6_compare_7cf53_19
def oJ6_numberOfLeadingZeros_0f7a4 : List Cond := [.constant RJ6 264 (65536)]
def wpJ6_numberOfLeadingZeros_0f7a4 : List Cond := .code yJ6_numberOfLeadingZeros_0f7a4 cJ6_numberOfLeadingZeros_0f7a4 2 (some .int) :: (oJ6_numberOfLeadingZeros_0f7a4 ++ ([] : List Cond))
theorem oJ6_numberOfLeadingZeros_0f7a4_in : ∀ w ∈ oJ6_numberOfLeadingZeros_0f7a4, w ∈ wpJ6_numberOfLeadingZeros_0f7a4 := fun w h => List.mem_cons_of_mem _ (List.mem_append_left _ h)
theorem gwoJ6_numberOfLeadingZeros_0f7a4 : ∀ w ∈ oJ6_numberOfLeadingZeros_0f7a4, goodWord w = true := by decide +kernel
theorem gwJ6_numberOfLeadingZeros_0f7a4 : ∀ w ∈ wpJ6_numberOfLeadingZeros_0f7a4, goodWord w = true := by
  unfold wpJ6_numberOfLeadingZeros_0f7a4
  exact List.forall_mem_cons.mpr ⟨rfl, List.forall_mem_append.mpr ⟨gwoJ6_numberOfLeadingZeros_0f7a4, fun _ h => absurd h List.not_mem_nil⟩⟩
set_option maxRecDepth 100000 in
theorem toJ6_numberOfLeadingZeros_0f7a4 : ∀ w ∈ oJ6_numberOfLeadingZeros_0f7a4, w ∈ lw_tbl := by
  unfold oJ6_numberOfLeadingZeros_0f7a4
  exact List.forall_mem_cons.mpr ⟨(List.mem_of_getElem? (i := 383) (by decide +kernel)), fun _ h => absurd h List.not_mem_nil⟩
set_option maxRecDepth 100000 in
theorem tJ6_numberOfLeadingZeros_0f7a4 : ∀ w ∈ wpJ6_numberOfLeadingZeros_0f7a4, w ∈ lw_tbl := by
  unfold wpJ6_numberOfLeadingZeros_0f7a4
  exact List.forall_mem_cons.mpr ⟨(List.mem_of_getElem? (i := 382) (by rfl)), List.forall_mem_append.mpr ⟨toJ6_numberOfLeadingZeros_0f7a4, fun _ h => absurd h List.not_mem_nil⟩⟩
set_option maxHeartbeats 4000000 in
set_option maxRecDepth 100000 in
theorem c_J6_numberOfLeadingZeros_0f7a4 (l : Launch) (D : va_G) (cI cJ cZ : ClassId) (sz : Nat) (x : Int32) : Met l yJ6_numberOfLeadingZeros_0f7a4 wpJ6_numberOfLeadingZeros_0f7a4 ({ frames := 0, cells := 0, slots := 0, locals := 0 }) (va_Pc ([.int x] : List Value) (sp_pre D vwCl (sp_ty cI cJ cZ) [] sz)) (va_Qi (fun (r : Int32) (_ : Unit) => r = kJ6_numberOfLeadingZeros_0f7a4 x) (sp_B D vwCl (va_A [] sz) (fun (_ : Unit) => [])) (va_A [] sz)) 0 0 (va_A [] sz) := by
  refine sp_ofW (Qc := fun A => va_Qi (fun (r : Int32) (_ : Unit) => r = kJ6_numberOfLeadingZeros_0f7a4 x) (sp_B D vwCl A (fun (_ : Unit) => [])) A) (by decide) rfl (Nat.le_of_ble_eq_true rfl) (fun p e s m below meth c A ls H locs C0 hA hS hP hK hD hl => ?_)
  obtain ⟨hx, hb, hr, hts, hown, hlocks, hml, hin⟩ := id C0
  have hown : s.vm.findClass RJ6 = some m.cls := hown
  have hl : lv_has ls 2 [(0, .int x)] := hl
  have hK : va_K D vwCl [(cI, .int), (cJ, .long), (cZ, .boolean)] s := hK
  refine lv_iload_n hx hb dJ6_numberOfLeadingZeros_0f7a4_0 rfl (lv_at hl 0 rfl) ?_
  refine lv_if_gt (tgt := 15) hx hb dJ6_numberOfLeadingZeros_0f7a4_1 (by decide) (fun c1 => ?_) (fun c1 => ?_)
  · skip
    have c1i : 0 < (x : Int32).toInt := Int32.lt_iff_toInt_lt.mp c1
    refine lv_bipush (v := 31) hx hb dJ6_numberOfLeadingZeros_0f7a4_15 (by decide) ?_
    refine lv_istore_n (lv' := [(1, .int 31), (0, .int x)]) hx hb dJ6_numberOfLeadingZeros_0f7a4_17 rfl hl (by decide) rfl (fun ls hl => ?_)
    refine lv_iload_n hx hb dJ6_numberOfLeadingZeros_0f7a4_18 rfl (lv_at hl 1 rfl) ?_
    refine lv_ldcw (v := 65536) hx hb hown (hts (.constant RJ6 264 (65536)) (oJ6_numberOfLeadingZeros_0f7a4_in _ (List.mem_of_getElem? (i := 0) rfl))) dJ6_numberOfLeadingZeros_0f7a4_19 ?_
    have hj7 : ∀ (z5 : Int32) (z6 : Int32) (H : Heap) (locs : List Loc) (ls : Array Slot), (z5 = kJ6_numberOfLeadingZeros_0f7a4_33_z5 x) → (z6 = kJ6_numberOfLeadingZeros_0f7a4_33_z6 x) → va_P D vwCl [] H → va_D A [] → va_S A s.heap H locs → lv_has ls 2 [(1, .int z5), (0, .int z6)] → W p l e ({ frames := 0, cells := 0, slots := 0, locals := 0 }) s m (([.int x] : List Value).toArray) below meth c H locs 0 0 (MQ below (va_Qi (fun (r : Int32) (_ : Unit) => r = kJ6_numberOfLeadingZeros_0f7a4 x) (sp_B D vwCl A (fun (_ : Unit) => [])) A) ([.int x] : List Value).toArray s 0 0 A) (F0 m 33 ls []) := by
      intro z5 z6 H locs ls hz5 hz6 hP hD hS hl
      subst z5 z6
      refine lv_iload_n hx hb dJ6_numberOfLeadingZeros_0f7a4_33 rfl (lv_at hl 1 rfl) ?_
      refine lv_sipush (v := 256) hx hb dJ6_numberOfLeadingZeros_0f7a4_34 (by decide) ?_
      have hj13 : ∀ (z11 : Int32) (z12 : Int32) (H : Heap) (locs : List Loc) (ls : Array Slot), (z11 = kJ6_numberOfLeadingZeros_0f7a4_48_z11 x) → (z12 = kJ6_numberOfLeadingZeros_0f7a4_48_z12 x) → va_P D vwCl [] H → va_D A [] → va_S A s.heap H locs → lv_has ls 2 [(1, .int z11), (0, .int z12)] → W p l e ({ frames := 0, cells := 0, slots := 0, locals := 0 }) s m (([.int x] : List Value).toArray) below meth c H locs 0 0 (MQ below (va_Qi (fun (r : Int32) (_ : Unit) => r = kJ6_numberOfLeadingZeros_0f7a4 x) (sp_B D vwCl A (fun (_ : Unit) => [])) A) ([.int x] : List Value).toArray s 0 0 A) (F0 m 48 ls []) := by
        intro z11 z12 H locs ls hz11 hz12 hP hD hS hl
        subst z11 z12
        refine lv_iload_n hx hb dJ6_numberOfLeadingZeros_0f7a4_48 rfl (lv_at hl 1 rfl) ?_
        refine lv_bipush (v := 16) hx hb dJ6_numberOfLeadingZeros_0f7a4_49 (by decide) ?_
        have hj19 : ∀ (z17 : Int32) (z18 : Int32) (H : Heap) (locs : List Loc) (ls : Array Slot), (z17 = kJ6_numberOfLeadingZeros_0f7a4_61_z17 x) → (z18 = kJ6_numberOfLeadingZeros_0f7a4_61_z18 x) → va_P D vwCl [] H → va_D A [] → va_S A s.heap H locs → lv_has ls 2 [(1, .int z17), (0, .int z18)] → W p l e ({ frames := 0, cells := 0, slots := 0, locals := 0 }) s m (([.int x] : List Value).toArray) below meth c H locs 0 0 (MQ below (va_Qi (fun (r : Int32) (_ : Unit) => r = kJ6_numberOfLeadingZeros_0f7a4 x) (sp_B D vwCl A (fun (_ : Unit) => [])) A) ([.int x] : List Value).toArray s 0 0 A) (F0 m 61 ls []) := by
          intro z17 z18 H locs ls hz17 hz18 hP hD hS hl
          subst z17 z18
          refine lv_iload_n hx hb dJ6_numberOfLeadingZeros_0f7a4_61 rfl (lv_at hl 1 rfl) ?_
          refine lv_iconst (v := 4) hx hb dJ6_numberOfLeadingZeros_0f7a4_62 (by decide) ?_
          have hj25 : ∀ (z23 : Int32) (z24 : Int32) (H : Heap) (locs : List Loc) (ls : Array Slot), (z23 = kJ6_numberOfLeadingZeros_0f7a4_73_z23 x) → (z24 = kJ6_numberOfLeadingZeros_0f7a4_73_z24 x) → va_P D vwCl [] H → va_D A [] → va_S A s.heap H locs → lv_has ls 2 [(1, .int z23), (0, .int z24)] → W p l e ({ frames := 0, cells := 0, slots := 0, locals := 0 }) s m (([.int x] : List Value).toArray) below meth c H locs 0 0 (MQ below (va_Qi (fun (r : Int32) (_ : Unit) => r = kJ6_numberOfLeadingZeros_0f7a4 x) (sp_B D vwCl A (fun (_ : Unit) => [])) A) ([.int x] : List Value).toArray s 0 0 A) (F0 m 73 ls []) := by
            intro z23 z24 H locs ls hz23 hz24 hP hD hS hl
            subst z23 z24
            refine lv_iload_n hx hb dJ6_numberOfLeadingZeros_0f7a4_73 rfl (lv_at hl 0 rfl) ?_
            refine lv_iload_n hx hb dJ6_numberOfLeadingZeros_0f7a4_74 rfl (lv_at hl 1 rfl) ?_
            refine lv_iconst (v := 1) hx hb dJ6_numberOfLeadingZeros_0f7a4_75 (by decide) ?_
            refine lv_iushr (v := _) hx hb dJ6_numberOfLeadingZeros_0f7a4_76 rfl ?_
            refine lv_isub hx hb dJ6_numberOfLeadingZeros_0f7a4_77 ?_
            refine W.widen (k := 0) (n := 0) (by decide) (by decide) ?_
            exact sp_iret (u := ()) hx hb hr hlocks hS (Eq.symm ((if_pos c1i).trans rfl)) (hP.sub [] rfl) (hD.sub [] (by decide) rfl) dJ6_numberOfLeadingZeros_0f7a4_78
          refine lv_icmp_lt (tgt := 73) hx hb dJ6_numberOfLeadingZeros_0f7a4_63 (by decide) (fun c20 => ?_) (fun c20 => ?_)
          · skip
            have c20i : ((kJ6_numberOfLeadingZeros_0f7a4_61_z18 x) : Int32).toInt < 4 := Int32.lt_iff_toInt_lt.mp c20
            exact hj25 ((kJ6_numberOfLeadingZeros_0f7a4_61_z17 x)) ((kJ6_numberOfLeadingZeros_0f7a4_61_z18 x)) _ _ _ (Eq.symm ((if_pos c20i).trans rfl)) (Eq.symm ((if_pos c20i).trans rfl)) (hP.sub [] rfl) (hD.sub [] (by decide) rfl) hS (lv_sub hl [0, 1] rfl)
          · skip
            have c20i : ¬ ((kJ6_numberOfLeadingZeros_0f7a4_61_z18 x) : Int32).toInt < 4 := fun h => c20 (Int32.lt_iff_toInt_lt.mpr h)
            refine lv_iinc (v := ((kJ6_numberOfLeadingZeros_0f7a4_61_z17 x) + (-2))) (lv' := [(1, .int ((kJ6_numberOfLeadingZeros_0f7a4_61_z17 x) + (-2))), (0, .int (kJ6_numberOfLeadingZeros_0f7a4_61_z18 x))]) hx hb dJ6_numberOfLeadingZeros_0f7a4_66 hl (k := 0) rfl rfl (by decide) rfl (fun ls hl => ?_)
            refine lv_iload_n hx hb dJ6_numberOfLeadingZeros_0f7a4_69 rfl (lv_at hl 1 rfl) ?_
            refine lv_iconst (v := 2) hx hb dJ6_numberOfLeadingZeros_0f7a4_70 (by decide) ?_
            refine lv_iushr (v := _) hx hb dJ6_numberOfLeadingZeros_0f7a4_71 rfl ?_
            refine lv_istore_n (lv' := [(0, .int (kJ6_numberOfLeadingZeros_0f7a4_s72 x)), (1, .int ((kJ6_numberOfLeadingZeros_0f7a4_61_z17 x) + (-2)))]) hx hb dJ6_numberOfLeadingZeros_0f7a4_72 rfl hl (by decide) rfl (fun ls hl => ?_)
            exact hj25 (((kJ6_numberOfLeadingZeros_0f7a4_61_z17 x) + (-2))) ((kJ6_numberOfLeadingZeros_0f7a4_s72 x)) _ _ _ (Eq.symm ((if_neg c20i).trans rfl)) (Eq.symm ((if_neg c20i).trans rfl)) (hP.sub [] rfl) (hD.sub [] (by decide) rfl) hS (lv_sub hl [1, 0] rfl)
        refine lv_icmp_lt (tgt := 61) hx hb dJ6_numberOfLeadingZeros_0f7a4_51 (by decide) (fun c14 => ?_) (fun c14 => ?_)
        · skip
          have c14i : ((kJ6_numberOfLeadingZeros_0f7a4_48_z12 x) : Int32).toInt < 16 := Int32.lt_iff_toInt_lt.mp c14
          exact hj19 ((kJ6_numberOfLeadingZeros_0f7a4_48_z11 x)) ((kJ6_numberOfLeadingZeros_0f7a4_48_z12 x)) _ _ _ (Eq.symm ((if_pos c14i).trans rfl)) (Eq.symm ((if_pos c14i).trans rfl)) (hP.sub [] rfl) (hD.sub [] (by decide) rfl) hS (lv_sub hl [0, 1] rfl)
        · skip
          have c14i : ¬ ((kJ6_numberOfLeadingZeros_0f7a4_48_z12 x) : Int32).toInt < 16 := fun h => c14 (Int32.lt_iff_toInt_lt.mpr h)
          refine lv_iinc (v := ((kJ6_numberOfLeadingZeros_0f7a4_48_z11 x) + (-4))) (lv' := [(1, .int ((kJ6_numberOfLeadingZeros_0f7a4_48_z11 x) + (-4))), (0, .int (kJ6_numberOfLeadingZeros_0f7a4_48_z12 x))]) hx hb dJ6_numberOfLeadingZeros_0f7a4_54 hl (k := 0) rfl rfl (by decide) rfl (fun ls hl => ?_)
          refine lv_iload_n hx hb dJ6_numberOfLeadingZeros_0f7a4_57 rfl (lv_at hl 1 rfl) ?_
          refine lv_iconst (v := 4) hx hb dJ6_numberOfLeadingZeros_0f7a4_58 (by decide) ?_
          refine lv_iushr (v := _) hx hb dJ6_numberOfLeadingZeros_0f7a4_59 rfl ?_
          refine lv_istore_n (lv' := [(0, .int (kJ6_numberOfLeadingZeros_0f7a4_s60 x)), (1, .int ((kJ6_numberOfLeadingZeros_0f7a4_48_z11 x) + (-4)))]) hx hb dJ6_numberOfLeadingZeros_0f7a4_60 rfl hl (by decide) rfl (fun ls hl => ?_)
          exact hj19 (((kJ6_numberOfLeadingZeros_0f7a4_48_z11 x) + (-4))) ((kJ6_numberOfLeadingZeros_0f7a4_s60 x)) _ _ _ (Eq.symm ((if_neg c14i).trans rfl)) (Eq.symm ((if_neg c14i).trans rfl)) (hP.sub [] rfl) (hD.sub [] (by decide) rfl) hS (lv_sub hl [1, 0] rfl)
      refine lv_icmp_lt (tgt := 48) hx hb dJ6_numberOfLeadingZeros_0f7a4_37 (by decide) (fun c8 => ?_) (fun c8 => ?_)
      · skip
        have c8i : ((kJ6_numberOfLeadingZeros_0f7a4_33_z6 x) : Int32).toInt < 256 := Int32.lt_iff_toInt_lt.mp c8
        exact hj13 ((kJ6_numberOfLeadingZeros_0f7a4_33_z5 x)) ((kJ6_numberOfLeadingZeros_0f7a4_33_z6 x)) _ _ _ (Eq.symm ((if_pos c8i).trans rfl)) (Eq.symm ((if_pos c8i).trans rfl)) (hP.sub [] rfl) (hD.sub [] (by decide) rfl) hS (lv_sub hl [0, 1] rfl)
      · skip
        have c8i : ¬ ((kJ6_numberOfLeadingZeros_0f7a4_33_z6 x) : Int32).toInt < 256 := fun h => c8 (Int32.lt_iff_toInt_lt.mpr h)
        refine lv_iinc (v := ((kJ6_numberOfLeadingZeros_0f7a4_33_z5 x) + (-8))) (lv' := [(1, .int ((kJ6_numberOfLeadingZeros_0f7a4_33_z5 x) + (-8))), (0, .int (kJ6_numberOfLeadingZeros_0f7a4_33_z6 x))]) hx hb dJ6_numberOfLeadingZeros_0f7a4_40 hl (k := 0) rfl rfl (by decide) rfl (fun ls hl => ?_)
        refine lv_iload_n hx hb dJ6_numberOfLeadingZeros_0f7a4_43 rfl (lv_at hl 1 rfl) ?_
        refine lv_bipush (v := 8) hx hb dJ6_numberOfLeadingZeros_0f7a4_44 (by decide) ?_
        refine lv_iushr (v := _) hx hb dJ6_numberOfLeadingZeros_0f7a4_46 rfl ?_
        refine lv_istore_n (lv' := [(0, .int (kJ6_numberOfLeadingZeros_0f7a4_s47 x)), (1, .int ((kJ6_numberOfLeadingZeros_0f7a4_33_z5 x) + (-8)))]) hx hb dJ6_numberOfLeadingZeros_0f7a4_47 rfl hl (by decide) rfl (fun ls hl => ?_)
        exact hj13 (((kJ6_numberOfLeadingZeros_0f7a4_33_z5 x) + (-8))) ((kJ6_numberOfLeadingZeros_0f7a4_s47 x)) _ _ _ (Eq.symm ((if_neg c8i).trans rfl)) (Eq.symm ((if_neg c8i).trans rfl)) (hP.sub [] rfl) (hD.sub [] (by decide) rfl) hS (lv_sub hl [1, 0] rfl)
    refine lv_icmp_lt (tgt := 33) hx hb dJ6_numberOfLeadingZeros_0f7a4_22 (by decide) (fun c2 => ?_) (fun c2 => ?_)
    · skip
      have c2i : (x : Int32).toInt < 65536 := Int32.lt_iff_toInt_lt.mp c2
      exact hj7 (31) (x) _ _ _ (Eq.symm ((if_pos c2i).trans rfl)) (Eq.symm ((if_pos c2i).trans rfl)) (hP.sub [] rfl) (hD.sub [] (by decide) rfl) hS (lv_sub hl [0, 1] rfl)
    · skip
      have c2i : ¬ (x : Int32).toInt < 65536 := fun h => c2 (Int32.lt_iff_toInt_lt.mpr h)
      refine lv_iinc (v := 15) (lv' := [(1, .int 15), (0, .int x)]) hx hb dJ6_numberOfLeadingZeros_0f7a4_25 hl (k := 0) rfl (by decide) (by decide) rfl (fun ls hl => ?_)
      refine lv_iload_n hx hb dJ6_numberOfLeadingZeros_0f7a4_28 rfl (lv_at hl 1 rfl) ?_
      refine lv_bipush (v := 16) hx hb dJ6_numberOfLeadingZeros_0f7a4_29 (by decide) ?_
      refine lv_iushr (v := _) hx hb dJ6_numberOfLeadingZeros_0f7a4_31 rfl ?_
      refine lv_istore_n (lv' := [(0, .int (kJ6_numberOfLeadingZeros_0f7a4_s32 x)), (1, .int 15)]) hx hb dJ6_numberOfLeadingZeros_0f7a4_32 rfl hl (by decide) rfl (fun ls hl => ?_)
      exact hj7 (15) ((kJ6_numberOfLeadingZeros_0f7a4_s32 x)) _ _ _ (Eq.symm ((if_neg c2i).trans rfl)) (Eq.symm ((if_neg c2i).trans rfl)) (hP.sub [] rfl) (hD.sub [] (by decide) rfl) hS (lv_sub hl [1, 0] rfl)
  · skip
    have c1i : ¬ 0 < (x : Int32).toInt := fun h => c1 (Int32.lt_iff_toInt_lt.mpr h)
    refine lv_iload_n hx hb dJ6_numberOfLeadingZeros_0f7a4_4 rfl (lv_at hl 0 rfl) ?_
    have hj30 : ∀ (z29 : Int32) (H : Heap) (locs : List Loc) (ls : Array Slot), (z29 = kJ6_numberOfLeadingZeros_0f7a4_14_z29 x) → va_P D vwCl [] H → va_D A [] → va_S A s.heap H locs → lv_has ls 2 [(0, .int x)] → W p l e ({ frames := 0, cells := 0, slots := 0, locals := 0 }) s m (([.int x] : List Value).toArray) below meth c H locs 0 0 (MQ below (va_Qi (fun (r : Int32) (_ : Unit) => r = kJ6_numberOfLeadingZeros_0f7a4 x) (sp_B D vwCl A (fun (_ : Unit) => [])) A) ([.int x] : List Value).toArray s 0 0 A) (F0 m 14 ls [.int z29]) := by
      intro z29 H locs ls hz29 hP hD hS hl
      subst z29
      refine W.widen (k := 0) (n := 0) (by decide) (by decide) ?_
      exact sp_iret (u := ()) hx hb hr hlocks hS (Eq.symm ((if_neg c1i).trans rfl)) (hP.sub [] rfl) (hD.sub [] (by decide) rfl) dJ6_numberOfLeadingZeros_0f7a4_14
    refine lv_if_ne (tgt := 13) hx hb dJ6_numberOfLeadingZeros_0f7a4_5 (by decide) (fun c26 => ?_) (fun c26 => ?_)
    · skip
      have c26i : ¬ (x : Int32).toInt = 0 := fun h => c26 (Int32.toInt_inj.mp h)
      refine lv_iconst (v := 0) hx hb dJ6_numberOfLeadingZeros_0f7a4_13 (by decide) ?_
      exact hj30 (0) _ _ _ (Eq.symm ((if_neg c26i).trans rfl)) (hP.sub [] rfl) (hD.sub [] (by decide) rfl) hS (lv_sub hl [0] rfl)
    · skip
      have c26i : (x : Int32).toInt = 0 := congrArg Int32.toInt c26
      refine lv_bipush (v := 32) hx hb dJ6_numberOfLeadingZeros_0f7a4_8 (by decide) ?_
      refine lv_goto (tgt := 14) hx hb dJ6_numberOfLeadingZeros_0f7a4_10 (by decide) ?_
      exact hj30 (32) _ _ _ (Eq.symm ((if_pos c26i).trans rfl)) (hP.sub [] rfl) (hD.sub [] (by decide) rfl) hS (lv_sub hl [0] rfl)
def oJ13_numberOfLeadingZeros_95d88 : List Cond := []
def wpJ13_numberOfLeadingZeros_95d88 : List Cond := .code yJ13_numberOfLeadingZeros_95d88 cJ13_numberOfLeadingZeros_95d88 3 (some .int) :: (oJ13_numberOfLeadingZeros_95d88 ++ ((va_wsS RJ13 308 yJ6_numberOfLeadingZeros_0f7a4 wpJ6_numberOfLeadingZeros_0f7a4) ++ ([] : List Cond)))
theorem oJ13_numberOfLeadingZeros_95d88_in : ∀ w ∈ oJ13_numberOfLeadingZeros_95d88, w ∈ wpJ13_numberOfLeadingZeros_95d88 := fun w h => List.mem_cons_of_mem _ (List.mem_append_left _ h)
theorem gwoJ13_numberOfLeadingZeros_95d88 : ∀ w ∈ oJ13_numberOfLeadingZeros_95d88, goodWord w = true := by decide +kernel
theorem gwJ13_numberOfLeadingZeros_95d88 : ∀ w ∈ wpJ13_numberOfLeadingZeros_95d88, goodWord w = true := by
  unfold wpJ13_numberOfLeadingZeros_95d88
  exact List.forall_mem_cons.mpr ⟨rfl, List.forall_mem_append.mpr ⟨gwoJ13_numberOfLeadingZeros_95d88, List.forall_mem_append.mpr ⟨(sp_gS gwJ6_numberOfLeadingZeros_0f7a4), fun _ h => absurd h List.not_mem_nil⟩⟩⟩
set_option maxRecDepth 100000 in
theorem toJ13_numberOfLeadingZeros_95d88 : ∀ w ∈ oJ13_numberOfLeadingZeros_95d88, w ∈ lw_tbl := by
  unfold oJ13_numberOfLeadingZeros_95d88
  exact fun _ h => absurd h List.not_mem_nil
set_option maxRecDepth 100000 in
theorem tJ13_numberOfLeadingZeros_95d88 : ∀ w ∈ wpJ13_numberOfLeadingZeros_95d88, w ∈ lw_tbl := by
  unfold wpJ13_numberOfLeadingZeros_95d88
  exact List.forall_mem_cons.mpr ⟨(List.mem_of_getElem? (i := 379) (by rfl)), List.forall_mem_append.mpr ⟨toJ13_numberOfLeadingZeros_95d88, List.forall_mem_append.mpr ⟨(sp_tS (List.mem_of_getElem? (i := 380) (by decide +kernel)) (List.mem_of_getElem? (i := 381) (by decide +kernel)) (List.mem_of_getElem? (i := 50) (by decide +kernel)) tJ6_numberOfLeadingZeros_0f7a4), fun _ h => absurd h List.not_mem_nil⟩⟩⟩
theorem gJ13_numberOfLeadingZeros_95d88_J6_numberOfLeadingZeros_0f7a4_308 : GoodIn wpJ13_numberOfLeadingZeros_95d88 (va_wsS RJ13 308 yJ6_numberOfLeadingZeros_0f7a4 wpJ6_numberOfLeadingZeros_0f7a4) := fun w h => ⟨List.mem_cons_of_mem _ (List.mem_append_right _ (List.mem_append_left _ h)), good_of_word (sp_gS gwJ6_numberOfLeadingZeros_0f7a4 w h)⟩
set_option maxHeartbeats 4000000 in
set_option maxRecDepth 100000 in
theorem c_J13_numberOfLeadingZeros_95d88 (l : Launch) (D : va_G) (cI cJ cZ : ClassId) (sz : Nat) (x : Int64) : Met l yJ13_numberOfLeadingZeros_95d88 wpJ13_numberOfLeadingZeros_95d88 ({ frames := 1, cells := 0, slots := 0, locals := 21 }) (va_Pc ([.long x] : List Value) (sp_pre D vwCl (sp_ty cI cJ cZ) [] sz)) (va_Qi (fun (r : Int32) (_ : Unit) => r = kJ13_numberOfLeadingZeros_95d88 x) (sp_B D vwCl (va_A [] sz) (fun (_ : Unit) => [])) (va_A [] sz)) 0 0 (va_A [] sz) := by
  refine sp_ofW (Qc := fun A => va_Qi (fun (r : Int32) (_ : Unit) => r = kJ13_numberOfLeadingZeros_95d88 x) (sp_B D vwCl A (fun (_ : Unit) => [])) A) (by decide) rfl (Nat.le_of_ble_eq_true rfl) (fun p e s m below meth c A ls H locs C0 hA hS hP hK hD hl => ?_)
  obtain ⟨hx, hb, hr, hts, hown, hlocks, hml, hin⟩ := id C0
  have hown : s.vm.findClass RJ13 = some m.cls := hown
  have hl : lv_has ls 3 [(0, .long x)] := hl
  have hK : va_K D vwCl [(cI, .int), (cJ, .long), (cZ, .boolean)] s := hK
  refine lv_lload_n hx hb dJ13_numberOfLeadingZeros_95d88_0 rfl (lv_at hl 0 rfl) ?_
  refine lv_bipush (v := 32) hx hb dJ13_numberOfLeadingZeros_95d88_1 (by decide) ?_
  refine lv_lushr (v := _) hx hb dJ13_numberOfLeadingZeros_95d88_3 rfl ?_
  refine lv_l2i (v := _) hx hb dJ13_numberOfLeadingZeros_95d88_4 rfl ?_
  refine lv_istore_n (lv' := [(2, .int (kJ13_numberOfLeadingZeros_95d88_s5 x)), (0, .long x)]) hx hb dJ13_numberOfLeadingZeros_95d88_5 rfl hl (by decide) rfl (fun ls hl => ?_)
  refine lv_iload_n hx hb dJ13_numberOfLeadingZeros_95d88_6 rfl (lv_at hl 0 rfl) ?_
  have hj11 : ∀ (z10 : Int32) (H : Heap) (locs : List Loc) (ls : Array Slot), (z10 = kJ13_numberOfLeadingZeros_95d88_25_z10 x) → va_P D vwCl [] H → va_D A [] → va_S A s.heap H locs → lv_has ls 3 [(2, .int (kJ13_numberOfLeadingZeros_95d88_s5 x)), (0, .long x)] → W p l e ({ frames := 1, cells := 0, slots := 0, locals := 21 }) s m (([.long x] : List Value).toArray) below meth c H locs 0 0 (MQ below (va_Qi (fun (r : Int32) (_ : Unit) => r = kJ13_numberOfLeadingZeros_95d88 x) (sp_B D vwCl A (fun (_ : Unit) => [])) A) ([.long x] : List Value).toArray s 0 0 A) (F0 m 25 ls [.int z10]) := by
    intro z10 H locs ls hz10 hP hD hS hl
    subst z10
    refine W.widen (k := 0) (n := 0) (by decide) (by decide) ?_
    exact sp_iret (u := ()) hx hb hr hlocks hS (Eq.symm rfl) (hP.sub [] rfl) (hD.sub [] (by decide) rfl) dJ13_numberOfLeadingZeros_95d88_25
  refine lv_if_ne (tgt := 21) hx hb dJ13_numberOfLeadingZeros_95d88_7 (by decide) (fun c1 => ?_) (fun c1 => ?_)
  · skip
    have c1i : ¬ ((kJ13_numberOfLeadingZeros_95d88_s5 x) : Int32).toInt = 0 := fun h => c1 (Int32.toInt_inj.mp h)
    refine lv_iload_n hx hb dJ13_numberOfLeadingZeros_95d88_21 rfl (lv_at hl 0 rfl) ?_
    refine sp_calli (wr := []) (wc := []) hP hD hS hA [] [] rfl rfl (by decide) (by decide) (va_runS (As := [.int (kJ13_numberOfLeadingZeros_95d88_s5 x)]) (rest := []) ⟨hx, hb, hml, hown, hts⟩ (c_J6_numberOfLeadingZeros_0f7a4 l D cI cJ cZ H.size (kJ13_numberOfLeadingZeros_95d88_s5 x)) (va_cwS 1 hts gJ13_numberOfLeadingZeros_95d88_J6_numberOfLeadingZeros_0f7a4_308 rfl rfl rfl (by decide +kernel) ⟨Nat.le_of_ble_eq_true rfl, Nat.le_of_ble_eq_true rfl⟩) (sp_preS [.int (kJ13_numberOfLeadingZeros_95d88_s5 x)] hK (hP.sub (ws' := []) [] rfl) (hD.sub (ws' := []) [] (by decide) rfl)) rfl rfl hl.1 rfl (lv_room (Nat.le_of_ble_eq_true rfl)) dJ13_numberOfLeadingZeros_95d88_22 ⟨Nat.le_of_ble_eq_true rfl, Nat.le_of_ble_eq_true rfl⟩) (fun r2 u3 H locs hw4 hP hD hS => ?_)
    have hq_4_0 : r2 = (kJ6_numberOfLeadingZeros_0f7a4 (kJ13_numberOfLeadingZeros_95d88_s5 x)) := hw4
    subst r2
    have hP : va_P D vwCl [] H := hP
    have hD : va_D A [] := hD
    exact hj11 ((kJ6_numberOfLeadingZeros_0f7a4 (kJ13_numberOfLeadingZeros_95d88_s5 x))) _ _ _ (Eq.symm ((if_neg c1i).trans rfl)) (hP.sub [] rfl) (hD.sub [] (by decide) rfl) hS (lv_sub hl [0, 1] rfl)
  · skip
    have c1i : ((kJ13_numberOfLeadingZeros_95d88_s5 x) : Int32).toInt = 0 := congrArg Int32.toInt c1
    refine lv_bipush (v := 32) hx hb dJ13_numberOfLeadingZeros_95d88_10 (by decide) ?_
    refine lv_lload_n hx hb dJ13_numberOfLeadingZeros_95d88_12 rfl (lv_at hl 1 rfl) ?_
    refine lv_l2i (v := _) hx hb dJ13_numberOfLeadingZeros_95d88_13 rfl ?_
    refine sp_calli (wr := []) (wc := []) hP hD hS hA [] [] rfl rfl (by decide) (by decide) (va_runS (As := [.int (x).toInt32]) (rest := [.int 32]) ⟨hx, hb, hml, hown, hts⟩ (c_J6_numberOfLeadingZeros_0f7a4 l D cI cJ cZ H.size ((x).toInt32)) (va_cwS 1 hts gJ13_numberOfLeadingZeros_95d88_J6_numberOfLeadingZeros_0f7a4_308 rfl rfl rfl (by decide +kernel) ⟨Nat.le_of_ble_eq_true rfl, Nat.le_of_ble_eq_true rfl⟩) (sp_preS [.int (x).toInt32] hK (hP.sub (ws' := []) [] rfl) (hD.sub (ws' := []) [] (by decide) rfl)) rfl rfl hl.1 rfl (lv_room (Nat.le_of_ble_eq_true rfl)) dJ13_numberOfLeadingZeros_95d88_14 ⟨Nat.le_of_ble_eq_true rfl, Nat.le_of_ble_eq_true rfl⟩) (fun r6 u7 H locs hw8 hP hD hS => ?_)
    have hq_8_0 : r6 = (kJ6_numberOfLeadingZeros_0f7a4 ((x).toInt32)) := hw8
    subst r6
    have hP : va_P D vwCl [] H := hP
    have hD : va_D A [] := hD
    refine lv_iadd hx hb dJ13_numberOfLeadingZeros_95d88_17 ?_
    refine lv_goto (tgt := 25) hx hb dJ13_numberOfLeadingZeros_95d88_18 (by decide) ?_
    exact hj11 ((32 + (kJ6_numberOfLeadingZeros_0f7a4 ((x).toInt32)))) _ _ _ (Eq.symm ((if_pos c1i).trans rfl)) (hP.sub [] rfl) (hD.sub [] (by decide) rfl) hS (lv_sub hl [0, 1] rfl)
def oX2_isNone : List Cond := [.constant RX2 9 (2147483647), .constant RX2 10 (2139095040)]
def wpX2_isNone : List Cond := .code yX2_isNone cX2_isNone 1 (some .boolean) :: (oX2_isNone ++ ([] : List Cond))
theorem oX2_isNone_in : ∀ w ∈ oX2_isNone, w ∈ wpX2_isNone := fun w h => List.mem_cons_of_mem _ (List.mem_append_left _ h)
theorem gwoX2_isNone : ∀ w ∈ oX2_isNone, goodWord w = true := by decide +kernel
theorem gwX2_isNone : ∀ w ∈ wpX2_isNone, goodWord w = true := by
  unfold wpX2_isNone
  exact List.forall_mem_cons.mpr ⟨rfl, List.forall_mem_append.mpr ⟨gwoX2_isNone, fun _ h => absurd h List.not_mem_nil⟩⟩
set_option maxRecDepth 100000 in
theorem toX2_isNone : ∀ w ∈ oX2_isNone, w ∈ lw_tbl := by
  unfold oX2_isNone
  exact List.forall_mem_cons.mpr ⟨(List.mem_of_getElem? (i := 282) (by decide +kernel)), List.forall_mem_cons.mpr ⟨(List.mem_of_getElem? (i := 283) (by decide +kernel)), fun _ h => absurd h List.not_mem_nil⟩⟩
set_option maxRecDepth 100000 in
theorem tX2_isNone : ∀ w ∈ wpX2_isNone, w ∈ lw_tbl := by
  unfold wpX2_isNone
  exact List.forall_mem_cons.mpr ⟨(List.mem_of_getElem? (i := 281) (by rfl)), List.forall_mem_append.mpr ⟨toX2_isNone, fun _ h => absurd h List.not_mem_nil⟩⟩
set_option maxHeartbeats 4000000 in
set_option maxRecDepth 100000 in
theorem c_X2_isNone (l : Launch) (D : va_G) (cI cJ cZ : ClassId) (sz : Nat) (b : Int32) : Met l yX2_isNone wpX2_isNone ({ frames := 0, cells := 0, slots := 0, locals := 0 }) (va_Pc ([.int b] : List Value) (sp_pre D vwCl (sp_ty cI cJ cZ) [] sz)) (va_Qi (fun (r : Int32) (_ : Unit) => r = kX2_isNone b ∧ ((r = 1 ∧ (2139095040 < (b &&& 2147483647 : Int32).toInt)) ∨ (r = 0 ∧ ¬ (2139095040 < (b &&& 2147483647 : Int32).toInt)))) (sp_B D vwCl (va_A [] sz) (fun (_ : Unit) => [])) (va_A [] sz)) 0 0 (va_A [] sz) := by
  refine sp_ofW (Qc := fun A => va_Qi (fun (r : Int32) (_ : Unit) => r = kX2_isNone b ∧ ((r = 1 ∧ (2139095040 < (b &&& 2147483647 : Int32).toInt)) ∨ (r = 0 ∧ ¬ (2139095040 < (b &&& 2147483647 : Int32).toInt)))) (sp_B D vwCl A (fun (_ : Unit) => [])) A) (by decide) rfl (Nat.le_of_ble_eq_true rfl) (fun p e s m below meth c A ls H locs C0 hA hS hP hK hD hl => ?_)
  obtain ⟨hx, hb, hr, hts, hown, hlocks, hml, hin⟩ := id C0
  have hown : s.vm.findClass RX2 = some m.cls := hown
  have hl : lv_has ls 1 [(0, .int b)] := hl
  have hK : va_K D vwCl [(cI, .int), (cJ, .long), (cZ, .boolean)] s := hK
  refine lv_iload_n hx hb dX2_isNone_0 rfl (lv_at hl 0 rfl) ?_
  refine lv_ldc (v := 2147483647) hx hb hown (hts (.constant RX2 9 (2147483647)) (oX2_isNone_in _ (List.mem_of_getElem? (i := 0) rfl))) dX2_isNone_1 ?_
  refine lv_iand hx hb dX2_isNone_3 ?_
  refine lv_ldc (v := 2139095040) hx hb hown (hts (.constant RX2 10 (2139095040)) (oX2_isNone_in _ (List.mem_of_getElem? (i := 1) rfl))) dX2_isNone_4 ?_
  refine lv_icmp_le (tgt := 13) hx hb dX2_isNone_6 (by decide) (fun c1 => ?_) (fun c1 => ?_)
  · skip
    have c1i : ((b &&& 2147483647) : Int32).toInt ≤ 2139095040 := Int32.le_iff_toInt_le.mp c1
    refine lv_iconst (v := 0) hx hb dX2_isNone_13 (by decide) ?_
    refine W.widen (k := 0) (n := 0) (by decide) (by decide) ?_
    exact sp_zret (u := ()) hx hb hr hlocks (by decide) hS ⟨(Eq.symm ((if_pos c1i).trans rfl)), (Or.inr ⟨rfl, by omega⟩)⟩ (hP.sub [] rfl) (hD.sub [] (by decide) rfl) dX2_isNone_14
  · skip
    have c1i : ¬ ((b &&& 2147483647) : Int32).toInt ≤ 2139095040 := fun h => c1 (Int32.le_iff_toInt_le.mpr h)
    refine lv_iconst (v := 1) hx hb dX2_isNone_9 (by decide) ?_
    refine lv_goto (tgt := 14) hx hb dX2_isNone_10 (by decide) ?_
    refine W.widen (k := 0) (n := 0) (by decide) (by decide) ?_
    exact sp_zret (u := ()) hx hb hr hlocks (by decide) hS ⟨(Eq.symm ((if_neg c1i).trans rfl)), (Or.inl ⟨rfl, by omega⟩)⟩ (hP.sub [] rfl) (hD.sub [] (by decide) rfl) dX2_isNone_14
def oX2_placeOf : List Cond := [.constant RX2 9 (2147483647)]
def wpX2_placeOf : List Cond := .code yX2_placeOf cX2_placeOf 1 (some .int) :: (oX2_placeOf ++ ([] : List Cond))
theorem oX2_placeOf_in : ∀ w ∈ oX2_placeOf, w ∈ wpX2_placeOf := fun w h => List.mem_cons_of_mem _ (List.mem_append_left _ h)
theorem gwoX2_placeOf : ∀ w ∈ oX2_placeOf, goodWord w = true := by decide +kernel
theorem gwX2_placeOf : ∀ w ∈ wpX2_placeOf, goodWord w = true := by
  unfold wpX2_placeOf
  exact List.forall_mem_cons.mpr ⟨rfl, List.forall_mem_append.mpr ⟨gwoX2_placeOf, fun _ h => absurd h List.not_mem_nil⟩⟩
set_option maxRecDepth 100000 in
theorem toX2_placeOf : ∀ w ∈ oX2_placeOf, w ∈ lw_tbl := by
  unfold oX2_placeOf
  exact List.forall_mem_cons.mpr ⟨(List.mem_of_getElem? (i := 282) (by decide +kernel)), fun _ h => absurd h List.not_mem_nil⟩
set_option maxRecDepth 100000 in
theorem tX2_placeOf : ∀ w ∈ wpX2_placeOf, w ∈ lw_tbl := by
  unfold wpX2_placeOf
  exact List.forall_mem_cons.mpr ⟨(List.mem_of_getElem? (i := 332) (by rfl)), List.forall_mem_append.mpr ⟨toX2_placeOf, fun _ h => absurd h List.not_mem_nil⟩⟩
set_option maxHeartbeats 4000000 in
set_option maxRecDepth 100000 in
theorem c_X2_placeOf (l : Launch) (D : va_G) (cI cJ cZ : ClassId) (sz : Nat) (b : Int32) : Met l yX2_placeOf wpX2_placeOf ({ frames := 0, cells := 0, slots := 0, locals := 0 }) (va_Pc ([.int b] : List Value) (sp_pre D vwCl (sp_ty cI cJ cZ) [] sz)) (va_Qi (fun (r : Int32) (_ : Unit) => r = kX2_placeOf b) (sp_B D vwCl (va_A [] sz) (fun (_ : Unit) => [])) (va_A [] sz)) 0 0 (va_A [] sz) := by
  refine sp_ofW (Qc := fun A => va_Qi (fun (r : Int32) (_ : Unit) => r = kX2_placeOf b) (sp_B D vwCl A (fun (_ : Unit) => [])) A) (by decide) rfl (Nat.le_of_ble_eq_true rfl) (fun p e s m below meth c A ls H locs C0 hA hS hP hK hD hl => ?_)
  obtain ⟨hx, hb, hr, hts, hown, hlocks, hml, hin⟩ := id C0
  have hown : s.vm.findClass RX2 = some m.cls := hown
  have hl : lv_has ls 1 [(0, .int b)] := hl
  have hK : va_K D vwCl [(cI, .int), (cJ, .long), (cZ, .boolean)] s := hK
  refine lv_iload_n hx hb dX2_placeOf_0 rfl (lv_at hl 0 rfl) ?_
  refine lv_if_ge (tgt := 11) hx hb dX2_placeOf_1 (by decide) (fun c1 => ?_) (fun c1 => ?_)
  · skip
    have c1i : 0 ≤ (b : Int32).toInt := Int32.le_iff_toInt_le.mp c1
    refine lv_iload_n hx hb dX2_placeOf_11 rfl (lv_at hl 0 rfl) ?_
    refine W.widen (k := 0) (n := 0) (by decide) (by decide) ?_
    exact sp_iret (u := ()) hx hb hr hlocks hS (Eq.symm ((if_pos c1i).trans rfl)) (hP.sub [] rfl) (hD.sub [] (by decide) rfl) dX2_placeOf_12
  · skip
    have c1i : ¬ 0 ≤ (b : Int32).toInt := fun h => c1 (Int32.le_iff_toInt_le.mpr h)
    refine lv_iload_n hx hb dX2_placeOf_4 rfl (lv_at hl 0 rfl) ?_
    refine lv_ldc (v := 2147483647) hx hb hown (hts (.constant RX2 9 (2147483647)) (oX2_placeOf_in _ (List.mem_of_getElem? (i := 0) rfl))) dX2_placeOf_5 ?_
    refine lv_ixor hx hb dX2_placeOf_7 ?_
    refine lv_goto (tgt := 12) hx hb dX2_placeOf_8 (by decide) ?_
    refine W.widen (k := 0) (n := 0) (by decide) (by decide) ?_
    exact sp_iret (u := ()) hx hb hr hlocks hS (Eq.symm ((if_neg c1i).trans rfl)) (hP.sub [] rfl) (hD.sub [] (by decide) rfl) dX2_placeOf_12
def oX2_bitsAt : List Cond := [.constant RX2 9 (2147483647)]
def wpX2_bitsAt : List Cond := .code yX2_bitsAt cX2_bitsAt 1 (some .int) :: (oX2_bitsAt ++ ([] : List Cond))
theorem oX2_bitsAt_in : ∀ w ∈ oX2_bitsAt, w ∈ wpX2_bitsAt := fun w h => List.mem_cons_of_mem _ (List.mem_append_left _ h)
theorem gwoX2_bitsAt : ∀ w ∈ oX2_bitsAt, goodWord w = true := by decide +kernel
theorem gwX2_bitsAt : ∀ w ∈ wpX2_bitsAt, goodWord w = true := by
  unfold wpX2_bitsAt
  exact List.forall_mem_cons.mpr ⟨rfl, List.forall_mem_append.mpr ⟨gwoX2_bitsAt, fun _ h => absurd h List.not_mem_nil⟩⟩
set_option maxRecDepth 100000 in
theorem toX2_bitsAt : ∀ w ∈ oX2_bitsAt, w ∈ lw_tbl := by
  unfold oX2_bitsAt
  exact List.forall_mem_cons.mpr ⟨(List.mem_of_getElem? (i := 282) (by decide +kernel)), fun _ h => absurd h List.not_mem_nil⟩
set_option maxRecDepth 100000 in
theorem tX2_bitsAt : ∀ w ∈ wpX2_bitsAt, w ∈ lw_tbl := by
  unfold wpX2_bitsAt
  exact List.forall_mem_cons.mpr ⟨(List.mem_of_getElem? (i := 339) (by rfl)), List.forall_mem_append.mpr ⟨toX2_bitsAt, fun _ h => absurd h List.not_mem_nil⟩⟩
set_option maxHeartbeats 4000000 in
set_option maxRecDepth 100000 in
theorem c_X2_bitsAt (l : Launch) (D : va_G) (cI cJ cZ : ClassId) (sz : Nat) (b : Int32) : Met l yX2_bitsAt wpX2_bitsAt ({ frames := 0, cells := 0, slots := 0, locals := 0 }) (va_Pc ([.int b] : List Value) (sp_pre D vwCl (sp_ty cI cJ cZ) [] sz)) (va_Qi (fun (r : Int32) (_ : Unit) => r = kX2_bitsAt b) (sp_B D vwCl (va_A [] sz) (fun (_ : Unit) => [])) (va_A [] sz)) 0 0 (va_A [] sz) := by
  refine sp_ofW (Qc := fun A => va_Qi (fun (r : Int32) (_ : Unit) => r = kX2_bitsAt b) (sp_B D vwCl A (fun (_ : Unit) => [])) A) (by decide) rfl (Nat.le_of_ble_eq_true rfl) (fun p e s m below meth c A ls H locs C0 hA hS hP hK hD hl => ?_)
  obtain ⟨hx, hb, hr, hts, hown, hlocks, hml, hin⟩ := id C0
  have hown : s.vm.findClass RX2 = some m.cls := hown
  have hl : lv_has ls 1 [(0, .int b)] := hl
  have hK : va_K D vwCl [(cI, .int), (cJ, .long), (cZ, .boolean)] s := hK
  refine lv_iload_n hx hb dX2_bitsAt_0 rfl (lv_at hl 0 rfl) ?_
  refine lv_if_ge (tgt := 11) hx hb dX2_bitsAt_1 (by decide) (fun c1 => ?_) (fun c1 => ?_)
  · skip
    have c1i : 0 ≤ (b : Int32).toInt := Int32.le_iff_toInt_le.mp c1
    refine lv_iload_n hx hb dX2_bitsAt_11 rfl (lv_at hl 0 rfl) ?_
    refine W.widen (k := 0) (n := 0) (by decide) (by decide) ?_
    exact sp_iret (u := ()) hx hb hr hlocks hS (Eq.symm ((if_pos c1i).trans rfl)) (hP.sub [] rfl) (hD.sub [] (by decide) rfl) dX2_bitsAt_12
  · skip
    have c1i : ¬ 0 ≤ (b : Int32).toInt := fun h => c1 (Int32.le_iff_toInt_le.mpr h)
    refine lv_iload_n hx hb dX2_bitsAt_4 rfl (lv_at hl 0 rfl) ?_
    refine lv_ldc (v := 2147483647) hx hb hown (hts (.constant RX2 9 (2147483647)) (oX2_bitsAt_in _ (List.mem_of_getElem? (i := 0) rfl))) dX2_bitsAt_5 ?_
    refine lv_ixor hx hb dX2_bitsAt_7 ?_
    refine lv_goto (tgt := 12) hx hb dX2_bitsAt_8 (by decide) ?_
    refine W.widen (k := 0) (n := 0) (by decide) (by decide) ?_
    exact sp_iret (u := ()) hx hb hr hlocks hS (Eq.symm ((if_neg c1i).trans rfl)) (hP.sub [] rfl) (hD.sub [] (by decide) rfl) dX2_bitsAt_12
def oX2_rank : List Cond := []
def wpX2_rank : List Cond := .code yX2_rank cX2_rank 1 (some .int) :: (oX2_rank ++ ([] : List Cond))
theorem oX2_rank_in : ∀ w ∈ oX2_rank, w ∈ wpX2_rank := fun w h => List.mem_cons_of_mem _ (List.mem_append_left _ h)
theorem gwoX2_rank : ∀ w ∈ oX2_rank, goodWord w = true := by decide +kernel
theorem gwX2_rank : ∀ w ∈ wpX2_rank, goodWord w = true := by
  unfold wpX2_rank
  exact List.forall_mem_cons.mpr ⟨rfl, List.forall_mem_append.mpr ⟨gwoX2_rank, fun _ h => absurd h List.not_mem_nil⟩⟩
set_option maxRecDepth 100000 in
theorem toX2_rank : ∀ w ∈ oX2_rank, w ∈ lw_tbl := by
  unfold oX2_rank
  exact fun _ h => absurd h List.not_mem_nil
set_option maxRecDepth 100000 in
theorem tX2_rank : ∀ w ∈ wpX2_rank, w ∈ lw_tbl := by
  unfold wpX2_rank
  exact List.forall_mem_cons.mpr ⟨(List.mem_of_getElem? (i := 446) (by rfl)), List.forall_mem_append.mpr ⟨toX2_rank, fun _ h => absurd h List.not_mem_nil⟩⟩
set_option maxHeartbeats 4000000 in
set_option maxRecDepth 100000 in
theorem c_X2_rank (l : Launch) (D : va_G) (cI cJ cZ : ClassId) (sz : Nat) (b : Int32) : Met l yX2_rank wpX2_rank ({ frames := 0, cells := 0, slots := 0, locals := 0 }) (va_Pc ([.int b] : List Value) (sp_pre D vwCl (sp_ty cI cJ cZ) [] sz)) (va_Qi (fun (r : Int32) (_ : Unit) => r = kX2_rank b) (sp_B D vwCl (va_A [] sz) (fun (_ : Unit) => [])) (va_A [] sz)) 0 0 (va_A [] sz) := by
  refine sp_ofW (Qc := fun A => va_Qi (fun (r : Int32) (_ : Unit) => r = kX2_rank b) (sp_B D vwCl A (fun (_ : Unit) => [])) A) (by decide) rfl (Nat.le_of_ble_eq_true rfl) (fun p e s m below meth c A ls H locs C0 hA hS hP hK hD hl => ?_)
  obtain ⟨hx, hb, hr, hts, hown, hlocks, hml, hin⟩ := id C0
  have hown : s.vm.findClass RX2 = some m.cls := hown
  have hl : lv_has ls 1 [(0, .int b)] := hl
  have hK : va_K D vwCl [(cI, .int), (cJ, .long), (cZ, .boolean)] s := hK
  refine lv_iload_n hx hb dX2_rank_0 rfl (lv_at hl 0 rfl) ?_
  refine lv_if_ge (tgt := 10) hx hb dX2_rank_1 (by decide) (fun c1 => ?_) (fun c1 => ?_)
  · skip
    have c1i : 0 ≤ (b : Int32).toInt := Int32.le_iff_toInt_le.mp c1
    refine lv_iload_n hx hb dX2_rank_10 rfl (lv_at hl 0 rfl) ?_
    refine W.widen (k := 0) (n := 0) (by decide) (by decide) ?_
    exact sp_iret (u := ()) hx hb hr hlocks hS (Eq.symm ((if_pos c1i).trans rfl)) (hP.sub [] rfl) (hD.sub [] (by decide) rfl) dX2_rank_11
  · skip
    have c1i : ¬ 0 ≤ (b : Int32).toInt := fun h => c1 (Int32.le_iff_toInt_le.mpr h)
    refine lv_iload_n hx hb dX2_rank_4 rfl (lv_at hl 0 rfl) ?_
    refine lv_iconst (v := 1) hx hb dX2_rank_5 (by decide) ?_
    refine lv_iadd hx hb dX2_rank_6 ?_
    refine lv_goto (tgt := 11) hx hb dX2_rank_7 (by decide) ?_
    refine W.widen (k := 0) (n := 0) (by decide) (by decide) ?_
    exact sp_iret (u := ()) hx hb hr hlocks hS (Eq.symm ((if_neg c1i).trans rfl)) (hP.sub [] rfl) (hD.sub [] (by decide) rfl) dX2_rank_11
def oX2_exponent : List Cond := [.constant RX2 9 (2147483647)]
def wpX2_exponent : List Cond := .code yX2_exponent cX2_exponent 2 (some .int) :: (oX2_exponent ++ ([] : List Cond))
theorem oX2_exponent_in : ∀ w ∈ oX2_exponent, w ∈ wpX2_exponent := fun w h => List.mem_cons_of_mem _ (List.mem_append_left _ h)
theorem gwoX2_exponent : ∀ w ∈ oX2_exponent, goodWord w = true := by decide +kernel
theorem gwX2_exponent : ∀ w ∈ wpX2_exponent, goodWord w = true := by
  unfold wpX2_exponent
  exact List.forall_mem_cons.mpr ⟨rfl, List.forall_mem_append.mpr ⟨gwoX2_exponent, fun _ h => absurd h List.not_mem_nil⟩⟩
set_option maxRecDepth 100000 in
theorem toX2_exponent : ∀ w ∈ oX2_exponent, w ∈ lw_tbl := by
  unfold oX2_exponent
  exact List.forall_mem_cons.mpr ⟨(List.mem_of_getElem? (i := 282) (by decide +kernel)), fun _ h => absurd h List.not_mem_nil⟩
set_option maxRecDepth 100000 in
theorem tX2_exponent : ∀ w ∈ wpX2_exponent, w ∈ lw_tbl := by
  unfold wpX2_exponent
  exact List.forall_mem_cons.mpr ⟨(List.mem_of_getElem? (i := 361) (by rfl)), List.forall_mem_append.mpr ⟨toX2_exponent, fun _ h => absurd h List.not_mem_nil⟩⟩
set_option maxHeartbeats 4000000 in
set_option maxRecDepth 100000 in
theorem c_X2_exponent (l : Launch) (D : va_G) (cI cJ cZ : ClassId) (sz : Nat) (b : Int32) : Met l yX2_exponent wpX2_exponent ({ frames := 0, cells := 0, slots := 0, locals := 0 }) (va_Pc ([.int b] : List Value) (sp_pre D vwCl (sp_ty cI cJ cZ) [] sz)) (va_Qi (fun (r : Int32) (_ : Unit) => r = kX2_exponent b) (sp_B D vwCl (va_A [] sz) (fun (_ : Unit) => [])) (va_A [] sz)) 0 0 (va_A [] sz) := by
  refine sp_ofW (Qc := fun A => va_Qi (fun (r : Int32) (_ : Unit) => r = kX2_exponent b) (sp_B D vwCl A (fun (_ : Unit) => [])) A) (by decide) rfl (Nat.le_of_ble_eq_true rfl) (fun p e s m below meth c A ls H locs C0 hA hS hP hK hD hl => ?_)
  obtain ⟨hx, hb, hr, hts, hown, hlocks, hml, hin⟩ := id C0
  have hown : s.vm.findClass RX2 = some m.cls := hown
  have hl : lv_has ls 2 [(0, .int b)] := hl
  have hK : va_K D vwCl [(cI, .int), (cJ, .long), (cZ, .boolean)] s := hK
  refine lv_iload_n hx hb dX2_exponent_0 rfl (lv_at hl 0 rfl) ?_
  refine lv_ldc (v := 2147483647) hx hb hown (hts (.constant RX2 9 (2147483647)) (oX2_exponent_in _ (List.mem_of_getElem? (i := 0) rfl))) dX2_exponent_1 ?_
  refine lv_iand hx hb dX2_exponent_3 ?_
  refine lv_bipush (v := 23) hx hb dX2_exponent_4 (by decide) ?_
  refine lv_iushr (v := _) hx hb dX2_exponent_6 rfl ?_
  refine lv_istore_n (lv' := [(1, .int (kX2_exponent_s7 b)), (0, .int b)]) hx hb dX2_exponent_7 rfl hl (by decide) rfl (fun ls hl => ?_)
  refine lv_iload_n hx hb dX2_exponent_8 rfl (lv_at hl 0 rfl) ?_
  have hj5 : ∀ (z4 : Int32) (H : Heap) (locs : List Loc) (ls : Array Slot), (z4 = kX2_exponent_23_z4 b) → va_P D vwCl [] H → va_D A [] → va_S A s.heap H locs → lv_has ls 2 [(1, .int (kX2_exponent_s7 b)), (0, .int b)] → W p l e ({ frames := 0, cells := 0, slots := 0, locals := 0 }) s m (([.int b] : List Value).toArray) below meth c H locs 0 0 (MQ below (va_Qi (fun (r : Int32) (_ : Unit) => r = kX2_exponent b) (sp_B D vwCl A (fun (_ : Unit) => [])) A) ([.int b] : List Value).toArray s 0 0 A) (F0 m 23 ls [.int z4]) := by
    intro z4 H locs ls hz4 hP hD hS hl
    subst z4
    refine W.widen (k := 0) (n := 0) (by decide) (by decide) ?_
    exact sp_iret (u := ()) hx hb hr hlocks hS (Eq.symm rfl) (hP.sub [] rfl) (hD.sub [] (by decide) rfl) dX2_exponent_23
  refine lv_if_ne (tgt := 18) hx hb dX2_exponent_9 (by decide) (fun c1 => ?_) (fun c1 => ?_)
  · skip
    have c1i : ¬ ((kX2_exponent_s7 b) : Int32).toInt = 0 := fun h => c1 (Int32.toInt_inj.mp h)
    refine lv_iload_n hx hb dX2_exponent_18 rfl (lv_at hl 0 rfl) ?_
    refine lv_sipush (v := 150) hx hb dX2_exponent_19 (by decide) ?_
    refine lv_isub hx hb dX2_exponent_22 ?_
    exact hj5 (((kX2_exponent_s7 b) - 150)) _ _ _ (Eq.symm ((if_neg c1i).trans rfl)) (hP.sub [] rfl) (hD.sub [] (by decide) rfl) hS (lv_sub hl [0, 1] rfl)
  · skip
    have c1i : ((kX2_exponent_s7 b) : Int32).toInt = 0 := congrArg Int32.toInt c1
    refine lv_sipush (v := (-149)) hx hb dX2_exponent_12 (by decide) ?_
    refine lv_goto (tgt := 23) hx hb dX2_exponent_15 (by decide) ?_
    exact hj5 ((-149)) _ _ _ (Eq.symm ((if_pos c1i).trans rfl)) (hP.sub [] rfl) (hD.sub [] (by decide) rfl) hS (lv_sub hl [0, 1] rfl)
def oX2_significand : List Cond := [.constant RX2 11 (8388607), .constant RX2 10 (2139095040), .constant RX2 12 (8388608)]
def wpX2_significand : List Cond := .code yX2_significand cX2_significand 2 (some .long) :: (oX2_significand ++ ([] : List Cond))
theorem oX2_significand_in : ∀ w ∈ oX2_significand, w ∈ wpX2_significand := fun w h => List.mem_cons_of_mem _ (List.mem_append_left _ h)
theorem gwoX2_significand : ∀ w ∈ oX2_significand, goodWord w = true := by decide +kernel
theorem gwX2_significand : ∀ w ∈ wpX2_significand, goodWord w = true := by
  unfold wpX2_significand
  exact List.forall_mem_cons.mpr ⟨rfl, List.forall_mem_append.mpr ⟨gwoX2_significand, fun _ h => absurd h List.not_mem_nil⟩⟩
set_option maxRecDepth 100000 in
theorem toX2_significand : ∀ w ∈ oX2_significand, w ∈ lw_tbl := by
  unfold oX2_significand
  exact List.forall_mem_cons.mpr ⟨(List.mem_of_getElem? (i := 368) (by decide +kernel)), List.forall_mem_cons.mpr ⟨(List.mem_of_getElem? (i := 283) (by decide +kernel)), List.forall_mem_cons.mpr ⟨(List.mem_of_getElem? (i := 369) (by decide +kernel)), fun _ h => absurd h List.not_mem_nil⟩⟩⟩
set_option maxRecDepth 100000 in
theorem tX2_significand : ∀ w ∈ wpX2_significand, w ∈ lw_tbl := by
  unfold wpX2_significand
  exact List.forall_mem_cons.mpr ⟨(List.mem_of_getElem? (i := 367) (by rfl)), List.forall_mem_append.mpr ⟨toX2_significand, fun _ h => absurd h List.not_mem_nil⟩⟩
set_option maxHeartbeats 4000000 in
set_option maxRecDepth 100000 in
theorem c_X2_significand (l : Launch) (D : va_G) (cI cJ cZ : ClassId) (sz : Nat) (b : Int32) : Met l yX2_significand wpX2_significand ({ frames := 0, cells := 0, slots := 0, locals := 0 }) (va_Pc ([.int b] : List Value) (sp_pre D vwCl (sp_ty cI cJ cZ) [] sz)) (va_Ql (fun (r : Int64) (_ : Unit) => r = kX2_significand b) (sp_B D vwCl (va_A [] sz) (fun (_ : Unit) => [])) (va_A [] sz)) 0 0 (va_A [] sz) := by
  refine sp_ofW (Qc := fun A => va_Ql (fun (r : Int64) (_ : Unit) => r = kX2_significand b) (sp_B D vwCl A (fun (_ : Unit) => [])) A) (by decide) rfl (Nat.le_of_ble_eq_true rfl) (fun p e s m below meth c A ls H locs C0 hA hS hP hK hD hl => ?_)
  obtain ⟨hx, hb, hr, hts, hown, hlocks, hml, hin⟩ := id C0
  have hown : s.vm.findClass RX2 = some m.cls := hown
  have hl : lv_has ls 2 [(0, .int b)] := hl
  have hK : va_K D vwCl [(cI, .int), (cJ, .long), (cZ, .boolean)] s := hK
  refine lv_iload_n hx hb dX2_significand_0 rfl (lv_at hl 0 rfl) ?_
  refine lv_ldc (v := 8388607) hx hb hown (hts (.constant RX2 11 (8388607)) (oX2_significand_in _ (List.mem_of_getElem? (i := 0) rfl))) dX2_significand_1 ?_
  refine lv_iand hx hb dX2_significand_3 ?_
  refine lv_istore_n (lv' := [(1, .int (b &&& 8388607)), (0, .int b)]) hx hb dX2_significand_4 rfl hl (by decide) rfl (fun ls hl => ?_)
  refine lv_iload_n hx hb dX2_significand_5 rfl (lv_at hl 1 rfl) ?_
  refine lv_ldc (v := 2139095040) hx hb hown (hts (.constant RX2 10 (2139095040)) (oX2_significand_in _ (List.mem_of_getElem? (i := 1) rfl))) dX2_significand_6 ?_
  refine lv_iand hx hb dX2_significand_8 ?_
  have hj5 : ∀ (z4 : Int64) (H : Heap) (locs : List Loc) (ls : Array Slot), (z4 = kX2_significand_22_z4 b) → va_P D vwCl [] H → va_D A [] → va_S A s.heap H locs → lv_has ls 2 [(1, .int (b &&& 8388607)), (0, .int b)] → W p l e ({ frames := 0, cells := 0, slots := 0, locals := 0 }) s m (([.int b] : List Value).toArray) below meth c H locs 0 0 (MQ below (va_Ql (fun (r : Int64) (_ : Unit) => r = kX2_significand b) (sp_B D vwCl A (fun (_ : Unit) => [])) A) ([.int b] : List Value).toArray s 0 0 A) (F0 m 22 ls [.long z4]) := by
    intro z4 H locs ls hz4 hP hD hS hl
    subst z4
    refine W.widen (k := 0) (n := 0) (by decide) (by decide) ?_
    exact sp_lret (u := ()) hx hb hr hlocks hS (Eq.symm rfl) (hP.sub [] rfl) (hD.sub [] (by decide) rfl) dX2_significand_22
  refine lv_if_ne (tgt := 17) hx hb dX2_significand_9 (by decide) (fun c1 => ?_) (fun c1 => ?_)
  · skip
    have c1i : ¬ ((b &&& 2139095040) : Int32).toInt = 0 := fun h => c1 (Int32.toInt_inj.mp h)
    refine lv_iload_n hx hb dX2_significand_17 rfl (lv_at hl 0 rfl) ?_
    refine lv_ldc (v := 8388608) hx hb hown (hts (.constant RX2 12 (8388608)) (oX2_significand_in _ (List.mem_of_getElem? (i := 2) rfl))) dX2_significand_18 ?_
    refine lv_ior hx hb dX2_significand_20 ?_
    refine lv_i2l (v := _) hx hb dX2_significand_21 rfl ?_
    exact hj5 ((((b &&& 8388607) ||| 8388608) : Int32).toInt64) _ _ _ (Eq.symm ((if_neg c1i).trans rfl)) (hP.sub [] rfl) (hD.sub [] (by decide) rfl) hS (lv_sub hl [0, 1] rfl)
  · skip
    have c1i : ((b &&& 2139095040) : Int32).toInt = 0 := congrArg Int32.toInt c1
    refine lv_iload_n hx hb dX2_significand_12 rfl (lv_at hl 0 rfl) ?_
    refine lv_i2l (v := _) hx hb dX2_significand_13 rfl ?_
    refine lv_goto (tgt := 22) hx hb dX2_significand_14 (by decide) ?_
    exact hj5 (((b &&& 8388607) : Int32).toInt64) _ _ _ (Eq.symm ((if_pos c1i).trans rfl)) (hP.sub [] rfl) (hD.sub [] (by decide) rfl) hS (lv_sub hl [0, 1] rfl)
def oX2_nearest : List Cond := [.methodLink RX2 19 Lib.Math.max.name, .static Lib.Math.max.name, .initialized "java/lang/Math", .code Lib.Math.max.name Lib.Math.max.code 2 (some .int), .constant RX2 10 (2139095040)]
def wpX2_nearest : List Cond := .code yX2_nearest cX2_nearest 13 (some .int) :: (oX2_nearest ++ ((va_wsS RX2 13 yJ13_numberOfLeadingZeros_95d88 wpJ13_numberOfLeadingZeros_95d88) ++ ([] : List Cond)))
theorem oX2_nearest_in : ∀ w ∈ oX2_nearest, w ∈ wpX2_nearest := fun w h => List.mem_cons_of_mem _ (List.mem_append_left _ h)
theorem gwoX2_nearest : ∀ w ∈ oX2_nearest, goodWord w = true := by decide +kernel
theorem gwX2_nearest : ∀ w ∈ wpX2_nearest, goodWord w = true := by
  unfold wpX2_nearest
  exact List.forall_mem_cons.mpr ⟨rfl, List.forall_mem_append.mpr ⟨gwoX2_nearest, List.forall_mem_append.mpr ⟨(sp_gS gwJ13_numberOfLeadingZeros_95d88), fun _ h => absurd h List.not_mem_nil⟩⟩⟩
set_option maxRecDepth 100000 in
theorem toX2_nearest : ∀ w ∈ oX2_nearest, w ∈ lw_tbl := by
  unfold oX2_nearest
  exact List.forall_mem_cons.mpr ⟨(List.mem_of_getElem? (i := 384) (by decide +kernel)), List.forall_mem_cons.mpr ⟨(List.mem_of_getElem? (i := 385) (by decide +kernel)), List.forall_mem_cons.mpr ⟨(List.mem_of_getElem? (i := 48) (by decide +kernel)), List.forall_mem_cons.mpr ⟨(List.mem_of_getElem? (i := 386) (by rfl)), List.forall_mem_cons.mpr ⟨(List.mem_of_getElem? (i := 283) (by decide +kernel)), fun _ h => absurd h List.not_mem_nil⟩⟩⟩⟩⟩
set_option maxRecDepth 100000 in
theorem tX2_nearest : ∀ w ∈ wpX2_nearest, w ∈ lw_tbl := by
  unfold wpX2_nearest
  exact List.forall_mem_cons.mpr ⟨(List.mem_of_getElem? (i := 376) (by rfl)), List.forall_mem_append.mpr ⟨toX2_nearest, List.forall_mem_append.mpr ⟨(sp_tS (List.mem_of_getElem? (i := 377) (by decide +kernel)) (List.mem_of_getElem? (i := 378) (by decide +kernel)) (List.mem_of_getElem? (i := 49) (by decide +kernel)) tJ13_numberOfLeadingZeros_95d88), fun _ h => absurd h List.not_mem_nil⟩⟩⟩
theorem gX2_nearest_J13_numberOfLeadingZeros_95d88_13 : GoodIn wpX2_nearest (va_wsS RX2 13 yJ13_numberOfLeadingZeros_95d88 wpJ13_numberOfLeadingZeros_95d88) := fun w h => ⟨List.mem_cons_of_mem _ (List.mem_append_right _ (List.mem_append_left _ h)), good_of_word (sp_gS gwJ13_numberOfLeadingZeros_95d88 w h)⟩
set_option maxHeartbeats 4000000 in
set_option maxRecDepth 100000 in
theorem c_X2_nearest (l : Launch) (D : va_G) (cI cJ cZ : ClassId) (sz : Nat) (g : Int32) (mm : Int64) (ex : Int32) : Met l yX2_nearest wpX2_nearest ({ frames := 2, cells := 0, slots := 0, locals := 43 }) (va_Pc ([.int g, .long mm, .int ex] : List Value) (sp_pre D vwCl (sp_ty cI cJ cZ) [] sz)) (va_Qi (fun (r : Int32) (_ : Unit) => r = kX2_nearest g mm ex) (sp_B D vwCl (va_A [] sz) (fun (_ : Unit) => [])) (va_A [] sz)) 0 0 (va_A [] sz) := by
  refine sp_ofW (Qc := fun A => va_Qi (fun (r : Int32) (_ : Unit) => r = kX2_nearest g mm ex) (sp_B D vwCl A (fun (_ : Unit) => [])) A) (by decide) rfl (Nat.le_of_ble_eq_true rfl) (fun p e s m below meth c A ls H locs C0 hA hS hP hK hD hl => ?_)
  obtain ⟨hx, hb, hr, hts, hown, hlocks, hml, hin⟩ := id C0
  have hown : s.vm.findClass RX2 = some m.cls := hown
  have hl : lv_has ls 13 [(0, .int g), (1, .long mm), (3, .int ex)] := hl
  have hK : va_K D vwCl [(cI, .int), (cJ, .long), (cZ, .boolean)] s := hK
  refine lv_lload_n hx hb dX2_nearest_0 rfl (lv_at hl 1 rfl) ?_
  refine lv_lconst (v := 0) hx hb dX2_nearest_1 (by decide) ?_
  refine W.lcmp hx hb dX2_nearest_2 ?_
  refine lv_if_ne (tgt := 8) hx hb dX2_nearest_3 (by decide) (fun c1 => ?_) (fun c1 => ?_)
  · skip
    have c1 := fun h => c1 ((lg_cmp_eq _ _).mpr h)
    have c1i : ¬ (mm : Int64).toInt = 0 := fun h => c1 (Int64.toInt_inj.mp h)
    refine lv_bipush (v := 64) hx hb dX2_nearest_8 (by decide) ?_
    refine lv_lload_n hx hb dX2_nearest_10 rfl (lv_at hl 1 rfl) ?_
    refine sp_calli (wr := []) (wc := []) hP hD hS hA [] [] rfl rfl (by decide) (by decide) (va_runS (As := [.long mm]) (rest := [.int 64]) ⟨hx, hb, hml, hown, hts⟩ (c_J13_numberOfLeadingZeros_95d88 l D cI cJ cZ H.size mm) (va_cwS 1 hts gX2_nearest_J13_numberOfLeadingZeros_95d88_13 rfl rfl rfl (by decide +kernel) ⟨Nat.le_of_ble_eq_true rfl, Nat.le_of_ble_eq_true rfl⟩) (sp_preS [.long mm] hK (hP.sub (ws' := []) [] rfl) (hD.sub (ws' := []) [] (by decide) rfl)) rfl rfl hl.1 rfl (lv_room (Nat.le_of_ble_eq_true rfl)) dX2_nearest_11 ⟨Nat.le_of_ble_eq_true rfl, Nat.le_of_ble_eq_true rfl⟩) (fun r2 u3 H locs hw4 hP hD hS => ?_)
    have hq_4_0 : r2 = (kJ13_numberOfLeadingZeros_95d88 mm) := hw4
    subst r2
    have hP : va_P D vwCl [] H := hP
    have hD : va_D A [] := hD
    refine lv_isub hx hb dX2_nearest_14 ?_
    refine lv_istore (lv' := [(4, .int (kX2_nearest_s15 g mm ex)), (0, .int g), (1, .long mm), (3, .int ex)]) hx hb dX2_nearest_15 hl (by decide) rfl (fun ls hl => ?_)
    refine lv_iload_n hx hb dX2_nearest_17 rfl (lv_at hl 3 rfl) ?_
    refine lv_iload hx hb dX2_nearest_18 (lv_at hl 0 rfl) ?_
    refine lv_iadd hx hb dX2_nearest_20 ?_
    refine lv_bipush (v := 24) hx hb dX2_nearest_21 (by decide) ?_
    refine lv_isub hx hb dX2_nearest_23 ?_
    refine lv_sipush (v := (-149)) hx hb dX2_nearest_24 (by decide) ?_
    refine va_mmax hx hb (by rw [hml]; exact hl.1.symm) hown (hts (.methodLink RX2 19 Lib.Math.max.name) (oX2_nearest_in _ (List.mem_of_getElem? (i := 0) rfl))) (hts (.static Lib.Math.max.name) (oX2_nearest_in _ (List.mem_of_getElem? (i := 1) rfl))) (hts (.initialized "java/lang/Math") (oX2_nearest_in _ (List.mem_of_getElem? (i := 2) rfl))) (hts (.code Lib.Math.max.name Lib.Math.max.code 2 (some .int)) (oX2_nearest_in _ (List.mem_of_getElem? (i := 3) rfl))) (Nat.le_of_ble_eq_true rfl) (Nat.le_of_ble_eq_true rfl) (Nat.le_of_ble_eq_true rfl) (Nat.le_of_ble_eq_true rfl) dX2_nearest_27 ?_
    refine W.eq (g2 := F0 m 30 ls [.int (kmax (((ex + (kX2_nearest_s15 g mm ex)) - 24)) ((-149)))]) rfl ?_
    refine lv_istore (lv' := [(5, .int (kX2_nearest_s30 g mm ex)), (4, .int (kX2_nearest_s15 g mm ex)), (0, .int g), (1, .long mm), (3, .int ex)]) hx hb dX2_nearest_30 hl (by decide) rfl (fun ls hl => ?_)
    refine lv_iload hx hb dX2_nearest_32 (lv_at hl 0 rfl) ?_
    refine lv_iload_n hx hb dX2_nearest_34 rfl (lv_at hl 4 rfl) ?_
    refine lv_isub hx hb dX2_nearest_35 ?_
    refine lv_istore (lv' := [(6, .int (kX2_nearest_s36 g mm ex)), (5, .int (kX2_nearest_s30 g mm ex)), (4, .int (kX2_nearest_s15 g mm ex)), (0, .int g), (1, .long mm), (3, .int ex)]) hx hb dX2_nearest_36 hl (by decide) rfl (fun ls hl => ?_)
    refine lv_iload hx hb dX2_nearest_38 (lv_at hl 1 rfl) ?_
    refine lv_bipush (v := 104) hx hb dX2_nearest_40 (by decide) ?_
    refine lv_icmp_le (tgt := 50) hx hb dX2_nearest_42 (by decide) (fun c5 => ?_) (fun c5 => ?_)
    · skip
      have c5i : ((kX2_nearest_s30 g mm ex) : Int32).toInt ≤ 104 := Int32.le_iff_toInt_le.mp c5
      refine lv_iload hx hb dX2_nearest_50 (lv_at hl 0 rfl) ?_
      refine lv_iload hx hb dX2_nearest_52 (lv_at hl 2 rfl) ?_
      refine lv_icmp_le (tgt := 59) hx hb dX2_nearest_54 (by decide) (fun c6 => ?_) (fun c6 => ?_)
      · skip
        have c6i : ((kX2_nearest_s36 g mm ex) : Int32).toInt ≤ ((kX2_nearest_s15 g mm ex) : Int32).toInt := Int32.le_iff_toInt_le.mp c6
        refine lv_lload_n hx hb dX2_nearest_59 rfl (lv_at hl 4 rfl) ?_
        refine lv_iload hx hb dX2_nearest_60 (lv_at hl 0 rfl) ?_
        refine lv_ineg hx hb dX2_nearest_62 ?_
        refine lv_iconst (v := 0) hx hb dX2_nearest_63 (by decide) ?_
        refine va_mmax hx hb (by rw [hml]; exact hl.1.symm) hown (hts (.methodLink RX2 19 Lib.Math.max.name) (oX2_nearest_in _ (List.mem_of_getElem? (i := 0) rfl))) (hts (.static Lib.Math.max.name) (oX2_nearest_in _ (List.mem_of_getElem? (i := 1) rfl))) (hts (.initialized "java/lang/Math") (oX2_nearest_in _ (List.mem_of_getElem? (i := 2) rfl))) (hts (.code Lib.Math.max.name Lib.Math.max.code 2 (some .int)) (oX2_nearest_in _ (List.mem_of_getElem? (i := 3) rfl))) (Nat.le_of_ble_eq_true rfl) (Nat.le_of_ble_eq_true rfl) (Nat.le_of_ble_eq_true rfl) (Nat.le_of_ble_eq_true rfl) dX2_nearest_64 ?_
        refine W.eq (g2 := F0 m 67 ls [.int (kmax ((-(kX2_nearest_s36 g mm ex))) (0)), .long mm]) rfl ?_
        refine lv_lshl (v := _) hx hb dX2_nearest_67 rfl ?_
        refine lv_lstore (lv' := [(7, .long (kX2_nearest_s68 g mm ex)), (6, .int (kX2_nearest_s36 g mm ex)), (5, .int (kX2_nearest_s30 g mm ex)), (4, .int (kX2_nearest_s15 g mm ex)), (0, .int g), (1, .long mm), (3, .int ex)]) hx hb dX2_nearest_68 hl (by decide) rfl (fun ls hl => ?_)
        refine lv_iload hx hb dX2_nearest_70 (lv_at hl 1 rfl) ?_
        have hj26 : ∀ (z25 : Int64) (H : Heap) (locs : List Loc) (ls : Array Slot), (z25 = kX2_nearest_129_z25 g mm ex) → va_P D vwCl [] H → va_D A [] → va_S A s.heap H locs → lv_has ls 13 [(7, .long z25), (6, .int (kX2_nearest_s36 g mm ex)), (5, .int (kX2_nearest_s30 g mm ex)), (4, .int (kX2_nearest_s15 g mm ex)), (0, .int g), (1, .long mm), (3, .int ex)] → W p l e ({ frames := 2, cells := 0, slots := 0, locals := 43 }) s m (([.int g, .long mm, .int ex] : List Value).toArray) below meth c H locs 0 0 (MQ below (va_Qi (fun (r : Int32) (_ : Unit) => r = kX2_nearest g mm ex) (sp_B D vwCl A (fun (_ : Unit) => [])) A) ([.int g, .long mm, .int ex] : List Value).toArray s 0 0 A) (F0 m 129 ls []) := by
          intro z25 H locs ls hz25 hP hD hS hl
          subst z25
          refine lv_iload_n hx hb dX2_nearest_129 rfl (lv_at hl 4 rfl) ?_
          refine lv_iload hx hb dX2_nearest_130 (lv_at hl 2 rfl) ?_
          refine lv_sipush (v := 149) hx hb dX2_nearest_132 (by decide) ?_
          refine lv_iadd hx hb dX2_nearest_135 ?_
          refine lv_bipush (v := 23) hx hb dX2_nearest_136 (by decide) ?_
          refine lv_ishl hx hb dX2_nearest_138 ?_
          refine lv_lload hx hb dX2_nearest_139 (lv_at hl 0 rfl) ?_
          refine lv_l2i (v := _) hx hb dX2_nearest_141 rfl ?_
          refine lv_iadd hx hb dX2_nearest_142 ?_
          refine lv_ior hx hb dX2_nearest_143 ?_
          refine W.widen (k := 0) (n := 0) (by decide) (by decide) ?_
          exact sp_iret (u := ()) hx hb hr hlocks hS (Eq.symm ((if_neg c1i).trans ((if_pos c5i).trans ((if_pos c6i).trans rfl)))) (hP.sub [] rfl) (hD.sub [] (by decide) rfl) dX2_nearest_144
        refine lv_if_le (tgt := 129) hx hb dX2_nearest_72 (by decide) (fun c7 => ?_) (fun c7 => ?_)
        · skip
          have c7i : ((kX2_nearest_s36 g mm ex) : Int32).toInt ≤ 0 := Int32.le_iff_toInt_le.mp c7
          exact hj26 ((kX2_nearest_s68 g mm ex)) _ _ _ (Eq.symm ((if_pos c7i).trans rfl)) (hP.sub [] rfl) (hD.sub [] (by decide) rfl) hS (lv_sub hl [0, 1, 2, 3, 4, 5, 6] rfl)
        · skip
          have c7i : ¬ ((kX2_nearest_s36 g mm ex) : Int32).toInt ≤ 0 := fun h => c7 (Int32.le_iff_toInt_le.mpr h)
          refine lv_lload_n hx hb dX2_nearest_75 rfl (lv_at hl 5 rfl) ?_
          refine lv_iload hx hb dX2_nearest_76 (lv_at hl 1 rfl) ?_
          refine lv_lushr (v := _) hx hb dX2_nearest_78 rfl ?_
          refine lv_lstore (lv' := [(7, .long (kX2_nearest_s79 g mm ex)), (6, .int (kX2_nearest_s36 g mm ex)), (5, .int (kX2_nearest_s30 g mm ex)), (4, .int (kX2_nearest_s15 g mm ex)), (0, .int g), (1, .long mm), (3, .int ex)]) hx hb dX2_nearest_79 hl (by decide) rfl (fun ls hl => ?_)
          refine lv_lload_n hx hb dX2_nearest_81 rfl (lv_at hl 5 rfl) ?_
          refine lv_lload hx hb dX2_nearest_82 (lv_at hl 0 rfl) ?_
          refine lv_iload hx hb dX2_nearest_84 (lv_at hl 1 rfl) ?_
          refine lv_lshl (v := _) hx hb dX2_nearest_86 rfl ?_
          refine lv_lsub hx hb dX2_nearest_87 ?_
          refine lv_lstore (lv' := [(9, .long (kX2_nearest_s88 g mm ex)), (7, .long (kX2_nearest_s79 g mm ex)), (6, .int (kX2_nearest_s36 g mm ex)), (5, .int (kX2_nearest_s30 g mm ex)), (4, .int (kX2_nearest_s15 g mm ex)), (0, .int g), (1, .long mm), (3, .int ex)]) hx hb dX2_nearest_88 hl (by decide) rfl (fun ls hl => ?_)
          refine lv_lconst (v := 1) hx hb dX2_nearest_90 (by decide) ?_
          refine lv_iload hx hb dX2_nearest_91 (lv_at hl 2 rfl) ?_
          refine lv_iconst (v := 1) hx hb dX2_nearest_93 (by decide) ?_
          refine lv_isub hx hb dX2_nearest_94 ?_
          refine lv_lshl (v := _) hx hb dX2_nearest_95 rfl ?_
          refine lv_lstore (lv' := [(11, .long (kX2_nearest_s96 g mm ex)), (9, .long (kX2_nearest_s88 g mm ex)), (7, .long (kX2_nearest_s79 g mm ex)), (6, .int (kX2_nearest_s36 g mm ex)), (5, .int (kX2_nearest_s30 g mm ex)), (4, .int (kX2_nearest_s15 g mm ex)), (0, .int g), (1, .long mm), (3, .int ex)]) hx hb dX2_nearest_96 hl (by decide) rfl (fun ls hl => ?_)
          refine lv_lload hx hb dX2_nearest_98 (lv_at hl 1 rfl) ?_
          refine lv_lload hx hb dX2_nearest_100 (lv_at hl 0 rfl) ?_
          refine W.lcmp hx hb dX2_nearest_102 ?_
          have hj23 : ∀ (z22 : Int64) (H : Heap) (locs : List Loc) (ls : Array Slot), (z22 = kX2_nearest_129_z22 g mm ex) → va_P D vwCl [] H → va_D A [] → va_S A s.heap H locs → lv_has ls 13 [(7, .long z22), (11, .long (kX2_nearest_s96 g mm ex)), (9, .long (kX2_nearest_s88 g mm ex)), (6, .int (kX2_nearest_s36 g mm ex)), (5, .int (kX2_nearest_s30 g mm ex)), (4, .int (kX2_nearest_s15 g mm ex)), (0, .int g), (1, .long mm), (3, .int ex)] → W p l e ({ frames := 2, cells := 0, slots := 0, locals := 43 }) s m (([.int g, .long mm, .int ex] : List Value).toArray) below meth c H locs 0 0 (MQ below (va_Qi (fun (r : Int32) (_ : Unit) => r = kX2_nearest g mm ex) (sp_B D vwCl A (fun (_ : Unit) => [])) A) ([.int g, .long mm, .int ex] : List Value).toArray s 0 0 A) (F0 m 129 ls []) := by
            intro z22 H locs ls hz22 hP hD hS hl
            subst z22
            exact hj26 ((kX2_nearest_129_z22 g mm ex)) _ _ _ (Eq.symm ((if_neg c7i).trans rfl)) (hP.sub [] rfl) (hD.sub [] (by decide) rfl) hS (lv_sub hl [0, 3, 4, 5, 6, 7, 8] rfl)
          refine lv_if_gt (tgt := 123) hx hb dX2_nearest_103 (by decide) (fun c9 => ?_) (fun c9 => ?_)
          · skip
            have c9 := (lg_cmp_gt _ _).mp c9
            have c9i : ((kX2_nearest_s96 g mm ex) : Int64).toInt < ((kX2_nearest_s88 g mm ex) : Int64).toInt := Int64.lt_iff_toInt_lt.mp c9
            refine lv_lload hx hb dX2_nearest_123 (lv_at hl 2 rfl) ?_
            refine lv_lconst (v := 1) hx hb dX2_nearest_125 (by decide) ?_
            refine lv_ladd hx hb dX2_nearest_126 ?_
            refine lv_lstore (lv' := [(7, .long (kX2_nearest_s127 g mm ex)), (11, .long (kX2_nearest_s96 g mm ex)), (9, .long (kX2_nearest_s88 g mm ex)), (6, .int (kX2_nearest_s36 g mm ex)), (5, .int (kX2_nearest_s30 g mm ex)), (4, .int (kX2_nearest_s15 g mm ex)), (0, .int g), (1, .long mm), (3, .int ex)]) hx hb dX2_nearest_127 hl (by decide) rfl (fun ls hl => ?_)
            exact hj23 ((kX2_nearest_s127 g mm ex)) _ _ _ (Eq.symm ((if_pos c9i).trans rfl)) (hP.sub [] rfl) (hD.sub [] (by decide) rfl) hS (lv_sub hl [0, 1, 2, 3, 4, 5, 6, 7, 8] rfl)
          · skip
            have c9 := fun h => c9 ((lg_cmp_gt _ _).mpr h)
            have c9i : ¬ ((kX2_nearest_s96 g mm ex) : Int64).toInt < ((kX2_nearest_s88 g mm ex) : Int64).toInt := fun h => c9 (Int64.lt_iff_toInt_lt.mpr h)
            refine lv_lload hx hb dX2_nearest_106 (lv_at hl 1 rfl) ?_
            refine lv_lload hx hb dX2_nearest_108 (lv_at hl 0 rfl) ?_
            refine W.lcmp hx hb dX2_nearest_110 ?_
            have hj20 : ∀ (z19 : Int64) (H : Heap) (locs : List Loc) (ls : Array Slot), (z19 = kX2_nearest_129_z19 g mm ex) → va_P D vwCl [] H → va_D A [] → va_S A s.heap H locs → lv_has ls 13 [(11, .long (kX2_nearest_s96 g mm ex)), (9, .long (kX2_nearest_s88 g mm ex)), (7, .long z19), (6, .int (kX2_nearest_s36 g mm ex)), (5, .int (kX2_nearest_s30 g mm ex)), (4, .int (kX2_nearest_s15 g mm ex)), (0, .int g), (1, .long mm), (3, .int ex)] → W p l e ({ frames := 2, cells := 0, slots := 0, locals := 43 }) s m (([.int g, .long mm, .int ex] : List Value).toArray) below meth c H locs 0 0 (MQ below (va_Qi (fun (r : Int32) (_ : Unit) => r = kX2_nearest g mm ex) (sp_B D vwCl A (fun (_ : Unit) => [])) A) ([.int g, .long mm, .int ex] : List Value).toArray s 0 0 A) (F0 m 129 ls []) := by
              intro z19 H locs ls hz19 hP hD hS hl
              subst z19
              exact hj23 ((kX2_nearest_129_z19 g mm ex)) _ _ _ (Eq.symm ((if_neg c9i).trans rfl)) (hP.sub [] rfl) (hD.sub [] (by decide) rfl) hS (lv_sub hl [2, 0, 1, 3, 4, 5, 6, 7, 8] rfl)
            refine lv_if_ne (tgt := 129) hx hb dX2_nearest_111 (by decide) (fun c11 => ?_) (fun c11 => ?_)
            · skip
              have c11 := fun h => c11 ((lg_cmp_eq _ _).mpr h)
              have c11i : ¬ ((kX2_nearest_s88 g mm ex) : Int64).toInt = ((kX2_nearest_s96 g mm ex) : Int64).toInt := fun h => c11 (Int64.toInt_inj.mp h)
              exact hj20 ((kX2_nearest_s79 g mm ex)) _ _ _ (Eq.symm ((if_neg c11i).trans rfl)) (hP.sub [] rfl) (hD.sub [] (by decide) rfl) hS (lv_sub hl [0, 1, 2, 3, 4, 5, 6, 7, 8] rfl)
            · skip
              have c11 := (lg_cmp_eq _ _).mp c11
              have c11i : ((kX2_nearest_s88 g mm ex) : Int64).toInt = ((kX2_nearest_s96 g mm ex) : Int64).toInt := congrArg Int64.toInt c11
              refine lv_lload hx hb dX2_nearest_114 (lv_at hl 2 rfl) ?_
              refine lv_lconst (v := 1) hx hb dX2_nearest_116 (by decide) ?_
              refine lv_land hx hb dX2_nearest_117 ?_
              refine lv_lconst (v := 1) hx hb dX2_nearest_118 (by decide) ?_
              refine W.lcmp hx hb dX2_nearest_119 ?_
              have hj17 : ∀ (z16 : Int64) (H : Heap) (locs : List Loc) (ls : Array Slot), (z16 = kX2_nearest_129_z16 g mm ex) → va_P D vwCl [] H → va_D A [] → va_S A s.heap H locs → lv_has ls 13 [(11, .long (kX2_nearest_s96 g mm ex)), (9, .long (kX2_nearest_s88 g mm ex)), (7, .long z16), (6, .int (kX2_nearest_s36 g mm ex)), (5, .int (kX2_nearest_s30 g mm ex)), (4, .int (kX2_nearest_s15 g mm ex)), (0, .int g), (1, .long mm), (3, .int ex)] → W p l e ({ frames := 2, cells := 0, slots := 0, locals := 43 }) s m (([.int g, .long mm, .int ex] : List Value).toArray) below meth c H locs 0 0 (MQ below (va_Qi (fun (r : Int32) (_ : Unit) => r = kX2_nearest g mm ex) (sp_B D vwCl A (fun (_ : Unit) => [])) A) ([.int g, .long mm, .int ex] : List Value).toArray s 0 0 A) (F0 m 129 ls []) := by
                intro z16 H locs ls hz16 hP hD hS hl
                subst z16
                exact hj20 ((kX2_nearest_129_z16 g mm ex)) _ _ _ (Eq.symm ((if_pos c11i).trans rfl)) (hP.sub [] rfl) (hD.sub [] (by decide) rfl) hS (lv_sub hl [0, 1, 2, 3, 4, 5, 6, 7, 8] rfl)
              refine lv_if_ne (tgt := 129) hx hb dX2_nearest_120 (by decide) (fun c13 => ?_) (fun c13 => ?_)
              · skip
                have c13 := fun h => c13 ((lg_cmp_eq _ _).mpr h)
                have c13i : ¬ (((kX2_nearest_s79 g mm ex) &&& 1) : Int64).toInt = 1 := fun h => c13 (Int64.toInt_inj.mp h)
                exact hj17 ((kX2_nearest_s79 g mm ex)) _ _ _ (Eq.symm ((if_neg c13i).trans rfl)) (hP.sub [] rfl) (hD.sub [] (by decide) rfl) hS (lv_sub hl [0, 1, 2, 3, 4, 5, 6, 7, 8] rfl)
              · skip
                have c13 := (lg_cmp_eq _ _).mp c13
                have c13i : (((kX2_nearest_s79 g mm ex) &&& 1) : Int64).toInt = 1 := congrArg Int64.toInt c13
                refine lv_lload hx hb dX2_nearest_123 (lv_at hl 2 rfl) ?_
                refine lv_lconst (v := 1) hx hb dX2_nearest_125 (by decide) ?_
                refine lv_ladd hx hb dX2_nearest_126 ?_
                refine lv_lstore (lv' := [(7, .long (kX2_nearest_s127 g mm ex)), (11, .long (kX2_nearest_s96 g mm ex)), (9, .long (kX2_nearest_s88 g mm ex)), (6, .int (kX2_nearest_s36 g mm ex)), (5, .int (kX2_nearest_s30 g mm ex)), (4, .int (kX2_nearest_s15 g mm ex)), (0, .int g), (1, .long mm), (3, .int ex)]) hx hb dX2_nearest_127 hl (by decide) rfl (fun ls hl => ?_)
                exact hj17 ((kX2_nearest_s127 g mm ex)) _ _ _ (Eq.symm ((if_pos c13i).trans rfl)) (hP.sub [] rfl) (hD.sub [] (by decide) rfl) hS (lv_sub hl [1, 2, 0, 3, 4, 5, 6, 7, 8] rfl)
      · skip
        have c6i : ¬ ((kX2_nearest_s36 g mm ex) : Int32).toInt ≤ ((kX2_nearest_s15 g mm ex) : Int32).toInt := fun h => c6 (Int32.le_iff_toInt_le.mpr h)
        refine lv_iload_n hx hb dX2_nearest_57 rfl (lv_at hl 3 rfl) ?_
        refine W.widen (k := 0) (n := 0) (by decide) (by decide) ?_
        exact sp_iret (u := ()) hx hb hr hlocks hS (Eq.symm ((if_neg c1i).trans ((if_pos c5i).trans ((if_neg c6i).trans rfl)))) (hP.sub [] rfl) (hD.sub [] (by decide) rfl) dX2_nearest_58
    · skip
      have c5i : ¬ ((kX2_nearest_s30 g mm ex) : Int32).toInt ≤ 104 := fun h => c5 (Int32.le_iff_toInt_le.mpr h)
      refine lv_iload_n hx hb dX2_nearest_45 rfl (lv_at hl 3 rfl) ?_
      refine lv_ldc (v := 2139095040) hx hb hown (hts (.constant RX2 10 (2139095040)) (oX2_nearest_in _ (List.mem_of_getElem? (i := 4) rfl))) dX2_nearest_46 ?_
      refine lv_ior hx hb dX2_nearest_48 ?_
      refine W.widen (k := 0) (n := 0) (by decide) (by decide) ?_
      exact sp_iret (u := ()) hx hb hr hlocks hS (Eq.symm ((if_neg c1i).trans ((if_neg c5i).trans rfl))) (hP.sub [] rfl) (hD.sub [] (by decide) rfl) dX2_nearest_49
  · skip
    have c1 := (lg_cmp_eq _ _).mp c1
    have c1i : (mm : Int64).toInt = 0 := congrArg Int64.toInt c1
    refine lv_iload_n hx hb dX2_nearest_6 rfl (lv_at hl 0 rfl) ?_
    refine W.widen (k := 0) (n := 0) (by decide) (by decide) ?_
    exact sp_iret (u := ()) hx hb hr hlocks hS (Eq.symm ((if_pos c1i).trans rfl)) (hP.sub [] rfl) (hD.sub [] (by decide) rfl) dX2_nearest_7
