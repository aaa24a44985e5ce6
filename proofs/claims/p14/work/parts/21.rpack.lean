def kX8_in (a : Int64) (b : Int64) (c0 : Int64) : Int32 := (if (a : Int64).toInt < (b : Int64).toInt then (0) else (if (c0 : Int64).toInt < (a : Int64).toInt then (0) else (1)))
def kX8_magOf_15_z4 (g : Int64) : Int64 := (if 0 ≤ (g : Int64).toInt then (g) else (((-1) - g)))
def kX8_magOf (g : Int64) : Int64 := ((kX8_magOf_15_z4 g))
def kX8_placeOf_13_z4 (z : Int32) (g : Int64) : Int64 := (if (z : Int32).toInt = 0 then (g) else (((-1) - g)))
def kX8_placeOf (z : Int32) (g : Int64) : Int64 := ((kX8_placeOf_13_z4 z g))
def kX8_digits_26_z7 (g : Int64) : Int64 := (if 8388608 ≤ ((kX8_magOf g) : Int64).toInt then ((((kX8_magOf g) - (kX8_magOf g) / 8388608 * 8388608) + 8388608)) else ((kX8_magOf g)))
def kX8_digits (g : Int64) : Int64 := ((kX8_digits_26_z7 g))
def kX8_power_s9 (g : Int64) : Int32 := (((kX8_magOf g) / 8388608)).toInt32
def kX8_power_25_z7 (g : Int64) : Int32 := (if ((kX8_power_s9 g) : Int32).toInt = 0 then ((-149)) else (((kX8_power_s9 g) - 150)))
def kX8_power (g : Int64) : Int32 := ((kX8_power_25_z7 g))
def kX8_isInfinite (g : Int64) : Int32 := (if (g : Int64).toInt = 9000000000 then (0) else (if ((kX8_magOf g) : Int64).toInt = 2139095040 then (1) else (0)))
def kX8_isZero (g : Int64) : Int32 := (if (g : Int64).toInt = 0 then (1) else (if (g : Int64).toInt = (-1) then (1) else (0)))
def kX8_pack_l91_166_z8 (zg : Int32) (wh : Int64) (pw : Int32) (mo : Int32) (mm : Int64) (ee : Int32) (hf : Int32) (rs : Int32) : Int64 := (if ((mm + 1) : Int64).toInt = 16777216 then (8388608) else ((mm + 1)))
def kX8_pack_l91_166_z9 (zg : Int32) (wh : Int64) (pw : Int32) (mo : Int32) (mm : Int64) (ee : Int32) (hf : Int32) (rs : Int32) : Int32 := (if ((mm + 1) : Int64).toInt = 16777216 then ((ee + 1)) else (ee))
def kX8_pack_l91_166_z21 (zg : Int32) (wh : Int64) (pw : Int32) (mo : Int32) (mm : Int64) (ee : Int32) (hf : Int32) (rs : Int32) : Int64 := (if ((mm - mm / 2 * 2) : Int64).toInt = 1 then ((kX8_pack_l91_166_z8 zg wh pw mo mm ee hf rs)) else (mm))
def kX8_pack_l91_166_z22 (zg : Int32) (wh : Int64) (pw : Int32) (mo : Int32) (mm : Int64) (ee : Int32) (hf : Int32) (rs : Int32) : Int32 := (if ((mm - mm / 2 * 2) : Int64).toInt = 1 then ((kX8_pack_l91_166_z9 zg wh pw mo mm ee hf rs)) else (ee))
def kX8_pack_l91_166_z25 (zg : Int32) (wh : Int64) (pw : Int32) (mo : Int32) (mm : Int64) (ee : Int32) (hf : Int32) (rs : Int32) : Int64 := (if (rs : Int32).toInt = 0 then ((kX8_pack_l91_166_z21 zg wh pw mo mm ee hf rs)) else ((kX8_pack_l91_166_z8 zg wh pw mo mm ee hf rs)))
def kX8_pack_l91_166_z26 (zg : Int32) (wh : Int64) (pw : Int32) (mo : Int32) (mm : Int64) (ee : Int32) (hf : Int32) (rs : Int32) : Int32 := (if (rs : Int32).toInt = 0 then ((kX8_pack_l91_166_z22 zg wh pw mo mm ee hf rs)) else ((kX8_pack_l91_166_z9 zg wh pw mo mm ee hf rs)))
def kX8_pack_l91_166_z29 (zg : Int32) (wh : Int64) (pw : Int32) (mo : Int32) (mm : Int64) (ee : Int32) (hf : Int32) (rs : Int32) : Int64 := (if (hf : Int32).toInt = 0 then (mm) else ((kX8_pack_l91_166_z25 zg wh pw mo mm ee hf rs)))
def kX8_pack_l91_166_z30 (zg : Int32) (wh : Int64) (pw : Int32) (mo : Int32) (mm : Int64) (ee : Int32) (hf : Int32) (rs : Int32) : Int32 := (if (hf : Int32).toInt = 0 then (ee) else ((kX8_pack_l91_166_z26 zg wh pw mo mm ee hf rs)))
def kX8_pack_l91_219_z36 (zg : Int32) (wh : Int64) (pw : Int32) (mo : Int32) (mm : Int64) (ee : Int32) (hf : Int32) (rs : Int32) : Int64 := (if 8388608 ≤ ((kX8_pack_l91_166_z29 zg wh pw mo mm ee hf rs) : Int64).toInt then (((((((kX8_pack_l91_166_z30 zg wh pw mo mm ee hf rs) : Int32).toInt64 + 150) * 8388608) + (kX8_pack_l91_166_z29 zg wh pw mo mm ee hf rs)) - 8388608)) else ((kX8_pack_l91_166_z29 zg wh pw mo mm ee hf rs)))
def kX8_pack_l25_57_z7 (zg : Int32) (wh : Int64) (pw : Int32) (mo : Int32) (mm : Int64) (ee : Int32) (hf : Int32) (rs : Int32) : Int32 := (if (hf : Int32).toInt = 0 then (0) else (1))
def kX8_pack_l25_57_z10 (zg : Int32) (wh : Int64) (pw : Int32) (mo : Int32) (mm : Int64) (ee : Int32) (hf : Int32) (rs : Int32) : Int32 := (if (rs : Int32).toInt = 0 then ((kX8_pack_l25_57_z7 zg wh pw mo mm ee hf rs)) else (1))
def kX8_pack_l25_75_z15 (zg : Int32) (wh : Int64) (pw : Int32) (mo : Int32) (mm : Int64) (ee : Int32) (hf : Int32) (rs : Int32) : Int32 := (if ((mm - mm / 2 * 2) : Int64).toInt = 1 then (1) else (0))
def kX8_pack_l91 (fuel : Nat) (zg : Int32) (wh : Int64) (pw : Int32) (mo : Int32) (mm : Int64) (ee : Int32) (hf : Int32) (rs : Int32) : Int64 := match fuel with
  | 0 => 0
  | fuel + 1 => (if 8388608 ≤ (mm : Int64).toInt then (if (((kX8_pack_l91_166_z30 zg wh pw mo mm ee hf rs) + 150) : Int32).toInt ≤ 254 then ((kX8_placeOf zg (kX8_pack_l91_219_z36 zg wh pw mo mm ee hf rs))) else ((kX8_placeOf zg 2139095040))) else (if (ee : Int32).toInt ≤ (-149) then (if (((kX8_pack_l91_166_z30 zg wh pw mo mm ee hf rs) + 150) : Int32).toInt ≤ 254 then ((kX8_placeOf zg (kX8_pack_l91_219_z36 zg wh pw mo mm ee hf rs))) else ((kX8_placeOf zg 2139095040))) else (kX8_pack_l91 fuel zg wh pw mo ((mm * 2)) ((ee + (-1))) (hf) (rs))))
theorem kX8_pack_l91_S (fuel : Nat) (zg : Int32) (wh : Int64) (pw : Int32) (mo : Int32) (mm : Int64) (ee : Int32) (hf : Int32) (rs : Int32) : kX8_pack_l91 (fuel + 1) zg wh pw mo mm ee hf rs = (if 8388608 ≤ (mm : Int64).toInt then (if (((kX8_pack_l91_166_z30 zg wh pw mo mm ee hf rs) + 150) : Int32).toInt ≤ 254 then ((kX8_placeOf zg (kX8_pack_l91_219_z36 zg wh pw mo mm ee hf rs))) else ((kX8_placeOf zg 2139095040))) else (if (ee : Int32).toInt ≤ (-149) then (if (((kX8_pack_l91_166_z30 zg wh pw mo mm ee hf rs) + 150) : Int32).toInt ≤ 254 then ((kX8_placeOf zg (kX8_pack_l91_219_z36 zg wh pw mo mm ee hf rs))) else ((kX8_placeOf zg 2139095040))) else (kX8_pack_l91 fuel zg wh pw mo ((mm * 2)) ((ee + (-1))) (hf) (rs)))) := rfl
def kX8_pack_l25 (fuel : Nat) (zg : Int32) (wh : Int64) (pw : Int32) (mo : Int32) (mm : Int64) (ee : Int32) (hf : Int32) (rs : Int32) : Int64 := match fuel with
  | 0 => 0
  | fuel + 1 => (if 16777216 ≤ (mm : Int64).toInt then (kX8_pack_l25 fuel zg wh pw mo ((mm / 2)) ((ee + 1)) ((kX8_pack_l25_75_z15 zg wh pw mo mm ee hf rs)) ((kX8_pack_l25_57_z10 zg wh pw mo mm ee hf rs))) else (if (-149) ≤ (ee : Int32).toInt then (kX8_pack_l91 2147484000 zg wh pw mo (mm) (ee) (hf) (rs)) else (kX8_pack_l25 fuel zg wh pw mo ((mm / 2)) ((ee + 1)) ((kX8_pack_l25_75_z15 zg wh pw mo mm ee hf rs)) ((kX8_pack_l25_57_z10 zg wh pw mo mm ee hf rs)))))
theorem kX8_pack_l25_S (fuel : Nat) (zg : Int32) (wh : Int64) (pw : Int32) (mo : Int32) (mm : Int64) (ee : Int32) (hf : Int32) (rs : Int32) : kX8_pack_l25 (fuel + 1) zg wh pw mo mm ee hf rs = (if 16777216 ≤ (mm : Int64).toInt then (kX8_pack_l25 fuel zg wh pw mo ((mm / 2)) ((ee + 1)) ((kX8_pack_l25_75_z15 zg wh pw mo mm ee hf rs)) ((kX8_pack_l25_57_z10 zg wh pw mo mm ee hf rs))) else (if (-149) ≤ (ee : Int32).toInt then (kX8_pack_l91 2147484000 zg wh pw mo (mm) (ee) (hf) (rs)) else (kX8_pack_l25 fuel zg wh pw mo ((mm / 2)) ((ee + 1)) ((kX8_pack_l25_75_z15 zg wh pw mo mm ee hf rs)) ((kX8_pack_l25_57_z10 zg wh pw mo mm ee hf rs))))) := rfl
def kX8_pack (zg : Int32) (wh : Int64) (pw : Int32) (mo : Int32) : Int64 := (if (wh : Int64).toInt = 0 then ((kX8_placeOf zg 0)) else (kX8_pack_l25 39614081257132168805361909760 zg wh pw mo (wh) (pw) (0) (mo)))
def oX8_in : List Cond := []
def wpX8_in : List Cond := .code yX8_in cX8_in 6 (some .boolean) :: (oX8_in ++ ([] : List Cond))
theorem oX8_in_in : ∀ w ∈ oX8_in, w ∈ wpX8_in := fun w h => List.mem_cons_of_mem _ (List.mem_append_left _ h)
theorem gwoX8_in : ∀ w ∈ oX8_in, goodWord w = true := by decide +kernel
theorem gwX8_in : ∀ w ∈ wpX8_in, goodWord w = true := by
  unfold wpX8_in
  exact List.forall_mem_cons.mpr ⟨rfl, List.forall_mem_append.mpr ⟨gwoX8_in, fun _ h => absurd h List.not_mem_nil⟩⟩
set_option maxRecDepth 100000 in
theorem toX8_in : ∀ w ∈ oX8_in, w ∈ lw_tbl := by
  unfold oX8_in
  exact fun _ h => absurd h List.not_mem_nil
set_option maxRecDepth 100000 in
theorem tX8_in : ∀ w ∈ wpX8_in, w ∈ lw_tbl := by
  unfold wpX8_in
  exact List.forall_mem_cons.mpr ⟨(List.mem_of_getElem? (i := 769) (by rfl)), List.forall_mem_append.mpr ⟨toX8_in, fun _ h => absurd h List.not_mem_nil⟩⟩
set_option maxHeartbeats 4000000 in
set_option maxRecDepth 100000 in
theorem c_X8_in (l : Launch) (D : va_G) (cI cJ cZ : ClassId) (sz : Nat) (a : Int64) (b : Int64) (c0 : Int64) : Met l yX8_in wpX8_in ({ frames := 0, cells := 0, slots := 0, locals := 0 }) (va_Pc ([.long a, .long b, .long c0] : List Value) (sp_pre D vwCl (sp_ty cI cJ cZ) [] sz)) (va_Qi (fun (r : Int32) (_ : Unit) => r = kX8_in a b c0 ∧ ((r = 1 ∧ (b.toInt ≤ a.toInt ∧ a.toInt ≤ c0.toInt)) ∨ (r = 0 ∧ ¬ (b.toInt ≤ a.toInt ∧ a.toInt ≤ c0.toInt)))) (sp_B D vwCl (va_A [] sz) (fun (_ : Unit) => [])) (va_A [] sz)) 0 0 (va_A [] sz) := by
  refine sp_ofW (Qc := fun A => va_Qi (fun (r : Int32) (_ : Unit) => r = kX8_in a b c0 ∧ ((r = 1 ∧ (b.toInt ≤ a.toInt ∧ a.toInt ≤ c0.toInt)) ∨ (r = 0 ∧ ¬ (b.toInt ≤ a.toInt ∧ a.toInt ≤ c0.toInt)))) (sp_B D vwCl A (fun (_ : Unit) => [])) A) (by decide) rfl (Nat.le_of_ble_eq_true rfl) (fun p e s m below meth c A ls H locs C0 hA hS hP hK hD hl => ?_)
  obtain ⟨hx, hb, hr, hts, hown, hlocks, hml, hin⟩ := id C0
  have hown : s.vm.findClass RX8 = some m.cls := hown
  have hl : lv_has ls 6 [(0, .long a), (2, .long b), (4, .long c0)] := hl
  have hK : va_K D vwCl [(cI, .int), (cJ, .long), (cZ, .boolean)] s := hK
  refine lv_lload_n hx hb dX8_in_0 rfl (lv_at hl 0 rfl) ?_
  refine lv_lload_n hx hb dX8_in_1 rfl (lv_at hl 1 rfl) ?_
  refine W.lcmp hx hb dX8_in_2 ?_
  refine lv_if_lt (tgt := 17) hx hb dX8_in_3 (by decide) (fun c1 => ?_) (fun c1 => ?_)
  · skip
    have c1 := (lg_cmp_lt _ _).mp c1
    have c1i : (a : Int64).toInt < (b : Int64).toInt := Int64.lt_iff_toInt_lt.mp c1
    refine lv_iconst (v := 0) hx hb dX8_in_17 (by decide) ?_
    refine W.widen (k := 0) (n := 0) (by decide) (by decide) ?_
    exact sp_zret (u := ()) hx hb hr hlocks (by decide) hS ⟨(Eq.symm ((if_pos c1i).trans rfl)), (Or.inr ⟨rfl, by omega⟩)⟩ (hP.sub [] rfl) (hD.sub [] (by decide) rfl) dX8_in_18
  · skip
    have c1 := fun h => c1 ((lg_cmp_lt _ _).mpr h)
    have c1i : ¬ (a : Int64).toInt < (b : Int64).toInt := fun h => c1 (Int64.lt_iff_toInt_lt.mpr h)
    refine lv_lload_n hx hb dX8_in_6 rfl (lv_at hl 0 rfl) ?_
    refine lv_lload hx hb dX8_in_7 (lv_at hl 2 rfl) ?_
    refine W.lcmp hx hb dX8_in_9 ?_
    refine lv_if_gt (tgt := 17) hx hb dX8_in_10 (by decide) (fun c2 => ?_) (fun c2 => ?_)
    · skip
      have c2 := (lg_cmp_gt _ _).mp c2
      have c2i : (c0 : Int64).toInt < (a : Int64).toInt := Int64.lt_iff_toInt_lt.mp c2
      refine lv_iconst (v := 0) hx hb dX8_in_17 (by decide) ?_
      refine W.widen (k := 0) (n := 0) (by decide) (by decide) ?_
      exact sp_zret (u := ()) hx hb hr hlocks (by decide) hS ⟨(Eq.symm ((if_neg c1i).trans ((if_pos c2i).trans rfl))), (Or.inr ⟨rfl, by omega⟩)⟩ (hP.sub [] rfl) (hD.sub [] (by decide) rfl) dX8_in_18
    · skip
      have c2 := fun h => c2 ((lg_cmp_gt _ _).mpr h)
      have c2i : ¬ (c0 : Int64).toInt < (a : Int64).toInt := fun h => c2 (Int64.lt_iff_toInt_lt.mpr h)
      refine lv_iconst (v := 1) hx hb dX8_in_13 (by decide) ?_
      refine lv_goto (tgt := 18) hx hb dX8_in_14 (by decide) ?_
      refine W.widen (k := 0) (n := 0) (by decide) (by decide) ?_
      exact sp_zret (u := ()) hx hb hr hlocks (by decide) hS ⟨(Eq.symm ((if_neg c1i).trans ((if_neg c2i).trans rfl))), (Or.inl ⟨rfl, by omega⟩)⟩ (hP.sub [] rfl) (hD.sub [] (by decide) rfl) dX8_in_18
def oX8_magOf : List Cond := [.constantLong RX8 74 (-1)]
def wpX8_magOf : List Cond := .code yX8_magOf cX8_magOf 2 (some .long) :: (oX8_magOf ++ ([] : List Cond))
theorem oX8_magOf_in : ∀ w ∈ oX8_magOf, w ∈ wpX8_magOf := fun w h => List.mem_cons_of_mem _ (List.mem_append_left _ h)
theorem gwoX8_magOf : ∀ w ∈ oX8_magOf, goodWord w = true := by decide +kernel
theorem gwX8_magOf : ∀ w ∈ wpX8_magOf, goodWord w = true := by
  unfold wpX8_magOf
  exact List.forall_mem_cons.mpr ⟨rfl, List.forall_mem_append.mpr ⟨gwoX8_magOf, fun _ h => absurd h List.not_mem_nil⟩⟩
set_option maxRecDepth 100000 in
theorem toX8_magOf : ∀ w ∈ oX8_magOf, w ∈ lw_tbl := by
  unfold oX8_magOf
  exact List.forall_mem_cons.mpr ⟨(List.mem_of_getElem? (i := 808) (by decide +kernel)), fun _ h => absurd h List.not_mem_nil⟩
set_option maxRecDepth 100000 in
theorem tX8_magOf : ∀ w ∈ wpX8_magOf, w ∈ lw_tbl := by
  unfold wpX8_magOf
  exact List.forall_mem_cons.mpr ⟨(List.mem_of_getElem? (i := 839) (by rfl)), List.forall_mem_append.mpr ⟨toX8_magOf, fun _ h => absurd h List.not_mem_nil⟩⟩
set_option maxHeartbeats 4000000 in
set_option maxRecDepth 100000 in
theorem c_X8_magOf (l : Launch) (D : va_G) (cI cJ cZ : ClassId) (sz : Nat) (g : Int64) : Met l yX8_magOf wpX8_magOf ({ frames := 0, cells := 0, slots := 0, locals := 0 }) (va_Pc ([.long g] : List Value) (sp_pre D vwCl (sp_ty cI cJ cZ) [] sz)) (va_Ql (fun (r : Int64) (_ : Unit) => r = kX8_magOf g) (sp_B D vwCl (va_A [] sz) (fun (_ : Unit) => [])) (va_A [] sz)) 0 0 (va_A [] sz) := by
  refine sp_ofW (Qc := fun A => va_Ql (fun (r : Int64) (_ : Unit) => r = kX8_magOf g) (sp_B D vwCl A (fun (_ : Unit) => [])) A) (by decide) rfl (Nat.le_of_ble_eq_true rfl) (fun p e s m below meth c A ls H locs C0 hA hS hP hK hD hl => ?_)
  obtain ⟨hx, hb, hr, hts, hown, hlocks, hml, hin⟩ := id C0
  have hown : s.vm.findClass RX8 = some m.cls := hown
  have hl : lv_has ls 2 [(0, .long g)] := hl
  have hK : va_K D vwCl [(cI, .int), (cJ, .long), (cZ, .boolean)] s := hK
  refine lv_lload_n hx hb dX8_magOf_0 rfl (lv_at hl 0 rfl) ?_
  refine lv_lconst (v := 0) hx hb dX8_magOf_1 (by decide) ?_
  refine W.lcmp hx hb dX8_magOf_2 ?_
  have hj5 : ∀ (z4 : Int64) (H : Heap) (locs : List Loc) (ls : Array Slot), (z4 = kX8_magOf_15_z4 g) → va_P D vwCl [] H → va_D A [] → va_S A s.heap H locs → lv_has ls 2 [(0, .long g)] → W p l e ({ frames := 0, cells := 0, slots := 0, locals := 0 }) s m (([.long g] : List Value).toArray) below meth c H locs 0 0 (MQ below (va_Ql (fun (r : Int64) (_ : Unit) => r = kX8_magOf g) (sp_B D vwCl A (fun (_ : Unit) => [])) A) ([.long g] : List Value).toArray s 0 0 A) (F0 m 15 ls [.long z4]) := by
    intro z4 H locs ls hz4 hP hD hS hl
    subst z4
    refine W.widen (k := 0) (n := 0) (by decide) (by decide) ?_
    exact sp_lret (u := ()) hx hb hr hlocks hS (Eq.symm rfl) (hP.sub [] rfl) (hD.sub [] (by decide) rfl) dX8_magOf_15
  refine lv_if_ge (tgt := 14) hx hb dX8_magOf_3 (by decide) (fun c1 => ?_) (fun c1 => ?_)
  · skip
    have c1 := (lg_cmp_ge _ _).mp c1
    have c1i : 0 ≤ (g : Int64).toInt := Int64.le_iff_toInt_le.mp c1
    refine lv_lload_n hx hb dX8_magOf_14 rfl (lv_at hl 0 rfl) ?_
    exact hj5 (g) _ _ _ (Eq.symm ((if_pos c1i).trans rfl)) (hP.sub [] rfl) (hD.sub [] (by decide) rfl) hS (lv_sub hl [0] rfl)
  · skip
    have c1 := fun h => c1 ((lg_cmp_ge _ _).mpr h)
    have c1i : ¬ 0 ≤ (g : Int64).toInt := fun h => c1 (Int64.le_iff_toInt_le.mpr h)
    refine lv_ldc2 (v := (-1)) hx hb hown (hts (.constantLong RX8 74 (-1)) (oX8_magOf_in _ (List.mem_of_getElem? (i := 0) rfl))) dX8_magOf_6 ?_
    refine lv_lload_n hx hb dX8_magOf_9 rfl (lv_at hl 0 rfl) ?_
    refine lv_lsub hx hb dX8_magOf_10 ?_
    refine lv_goto (tgt := 15) hx hb dX8_magOf_11 (by decide) ?_
    exact hj5 (((-1) - g)) _ _ _ (Eq.symm ((if_neg c1i).trans rfl)) (hP.sub [] rfl) (hD.sub [] (by decide) rfl) hS (lv_sub hl [0] rfl)
def oX8_placeOf : List Cond := [.constantLong RX8 74 (-1)]
def wpX8_placeOf : List Cond := .code yX8_placeOf cX8_placeOf 3 (some .long) :: (oX8_placeOf ++ ([] : List Cond))
theorem oX8_placeOf_in : ∀ w ∈ oX8_placeOf, w ∈ wpX8_placeOf := fun w h => List.mem_cons_of_mem _ (List.mem_append_left _ h)
theorem gwoX8_placeOf : ∀ w ∈ oX8_placeOf, goodWord w = true := by decide +kernel
theorem gwX8_placeOf : ∀ w ∈ wpX8_placeOf, goodWord w = true := by
  unfold wpX8_placeOf
  exact List.forall_mem_cons.mpr ⟨rfl, List.forall_mem_append.mpr ⟨gwoX8_placeOf, fun _ h => absurd h List.not_mem_nil⟩⟩
set_option maxRecDepth 100000 in
theorem toX8_placeOf : ∀ w ∈ oX8_placeOf, w ∈ lw_tbl := by
  unfold oX8_placeOf
  exact List.forall_mem_cons.mpr ⟨(List.mem_of_getElem? (i := 808) (by decide +kernel)), fun _ h => absurd h List.not_mem_nil⟩
set_option maxRecDepth 100000 in
theorem tX8_placeOf : ∀ w ∈ wpX8_placeOf, w ∈ lw_tbl := by
  unfold wpX8_placeOf
  exact List.forall_mem_cons.mpr ⟨(List.mem_of_getElem? (i := 807) (by rfl)), List.forall_mem_append.mpr ⟨toX8_placeOf, fun _ h => absurd h List.not_mem_nil⟩⟩
set_option maxHeartbeats 4000000 in
set_option maxRecDepth 100000 in
theorem c_X8_placeOf (l : Launch) (D : va_G) (cI cJ cZ : ClassId) (sz : Nat) (z : Int32) (g : Int64) : Met l yX8_placeOf wpX8_placeOf ({ frames := 0, cells := 0, slots := 0, locals := 0 }) (va_Pc ([.int z, .long g] : List Value) (sp_pre D vwCl (sp_ty cI cJ cZ) [] sz)) (va_Ql (fun (r : Int64) (_ : Unit) => r = kX8_placeOf z g) (sp_B D vwCl (va_A [] sz) (fun (_ : Unit) => [])) (va_A [] sz)) 0 0 (va_A [] sz) := by
  refine sp_ofW (Qc := fun A => va_Ql (fun (r : Int64) (_ : Unit) => r = kX8_placeOf z g) (sp_B D vwCl A (fun (_ : Unit) => [])) A) (by decide) rfl (Nat.le_of_ble_eq_true rfl) (fun p e s m below meth c A ls H locs C0 hA hS hP hK hD hl => ?_)
  obtain ⟨hx, hb, hr, hts, hown, hlocks, hml, hin⟩ := id C0
  have hown : s.vm.findClass RX8 = some m.cls := hown
  have hl : lv_has ls 3 [(0, .int z), (1, .long g)] := hl
  have hK : va_K D vwCl [(cI, .int), (cJ, .long), (cZ, .boolean)] s := hK
  refine lv_iload_n hx hb dX8_placeOf_0 rfl (lv_at hl 0 rfl) ?_
  have hj5 : ∀ (z4 : Int64) (H : Heap) (locs : List Loc) (ls : Array Slot), (z4 = kX8_placeOf_13_z4 z g) → va_P D vwCl [] H → va_D A [] → va_S A s.heap H locs → lv_has ls 3 [(0, .int z), (1, .long g)] → W p l e ({ frames := 0, cells := 0, slots := 0, locals := 0 }) s m (([.int z, .long g] : List Value).toArray) below meth c H locs 0 0 (MQ below (va_Ql (fun (r : Int64) (_ : Unit) => r = kX8_placeOf z g) (sp_B D vwCl A (fun (_ : Unit) => [])) A) ([.int z, .long g] : List Value).toArray s 0 0 A) (F0 m 13 ls [.long z4]) := by
    intro z4 H locs ls hz4 hP hD hS hl
    subst z4
    refine W.widen (k := 0) (n := 0) (by decide) (by decide) ?_
    exact sp_lret (u := ()) hx hb hr hlocks hS (Eq.symm rfl) (hP.sub [] rfl) (hD.sub [] (by decide) rfl) dX8_placeOf_13
  refine lv_if_eq (tgt := 12) hx hb dX8_placeOf_1 (by decide) (fun c1 => ?_) (fun c1 => ?_)
  · skip
    have c1i : (z : Int32).toInt = 0 := congrArg Int32.toInt c1
    refine lv_lload_n hx hb dX8_placeOf_12 rfl (lv_at hl 1 rfl) ?_
    exact hj5 (g) _ _ _ (Eq.symm ((if_pos c1i).trans rfl)) (hP.sub [] rfl) (hD.sub [] (by decide) rfl) hS (lv_sub hl [0, 1] rfl)
  · skip
    have c1i : ¬ (z : Int32).toInt = 0 := fun h => c1 (Int32.toInt_inj.mp h)
    refine lv_ldc2 (v := (-1)) hx hb hown (hts (.constantLong RX8 74 (-1)) (oX8_placeOf_in _ (List.mem_of_getElem? (i := 0) rfl))) dX8_placeOf_4 ?_
    refine lv_lload_n hx hb dX8_placeOf_7 rfl (lv_at hl 1 rfl) ?_
    refine lv_lsub hx hb dX8_placeOf_8 ?_
    refine lv_goto (tgt := 13) hx hb dX8_placeOf_9 (by decide) ?_
    exact hj5 (((-1) - g)) _ _ _ (Eq.symm ((if_neg c1i).trans rfl)) (hP.sub [] rfl) (hD.sub [] (by decide) rfl) hS (lv_sub hl [0, 1] rfl)
def oX8_digits : List Cond := [.constantLong RX8 80 (8388608)]
def wpX8_digits : List Cond := .code yX8_digits cX8_digits 4 (some .long) :: (oX8_digits ++ ((va_wsS RX8 76 yX8_magOf wpX8_magOf) ++ ([] : List Cond)))
theorem oX8_digits_in : ∀ w ∈ oX8_digits, w ∈ wpX8_digits := fun w h => List.mem_cons_of_mem _ (List.mem_append_left _ h)
theorem gwoX8_digits : ∀ w ∈ oX8_digits, goodWord w = true := by decide +kernel
theorem gwX8_digits : ∀ w ∈ wpX8_digits, goodWord w = true := by
  unfold wpX8_digits
  exact List.forall_mem_cons.mpr ⟨rfl, List.forall_mem_append.mpr ⟨gwoX8_digits, List.forall_mem_append.mpr ⟨(sp_gS gwX8_magOf), fun _ h => absurd h List.not_mem_nil⟩⟩⟩
set_option maxRecDepth 100000 in
theorem toX8_digits : ∀ w ∈ oX8_digits, w ∈ lw_tbl := by
  unfold oX8_digits
  exact List.forall_mem_cons.mpr ⟨(List.mem_of_getElem? (i := 843) (by decide +kernel)), fun _ h => absurd h List.not_mem_nil⟩
set_option maxRecDepth 100000 in
theorem tX8_digits : ∀ w ∈ wpX8_digits, w ∈ lw_tbl := by
  unfold wpX8_digits
  exact List.forall_mem_cons.mpr ⟨(List.mem_of_getElem? (i := 846) (by rfl)), List.forall_mem_append.mpr ⟨toX8_digits, List.forall_mem_append.mpr ⟨(sp_tS (List.mem_of_getElem? (i := 837) (by decide +kernel)) (List.mem_of_getElem? (i := 838) (by decide +kernel)) (List.mem_of_getElem? (i := 45) (by decide +kernel)) tX8_magOf), fun _ h => absurd h List.not_mem_nil⟩⟩⟩
theorem gX8_digits_X8_magOf_76 : GoodIn wpX8_digits (va_wsS RX8 76 yX8_magOf wpX8_magOf) := fun w h => ⟨List.mem_cons_of_mem _ (List.mem_append_right _ (List.mem_append_left _ h)), good_of_word (sp_gS gwX8_magOf w h)⟩
set_option maxHeartbeats 4000000 in
set_option maxRecDepth 100000 in
theorem c_X8_digits (l : Launch) (D : va_G) (cI cJ cZ : ClassId) (sz : Nat) (g : Int64) : Met l yX8_digits wpX8_digits ({ frames := 1, cells := 0, slots := 0, locals := 21 }) (va_Pc ([.long g] : List Value) (sp_pre D vwCl (sp_ty cI cJ cZ) [] sz)) (va_Ql (fun (r : Int64) (_ : Unit) => r = kX8_digits g) (sp_B D vwCl (va_A [] sz) (fun (_ : Unit) => [])) (va_A [] sz)) 0 0 (va_A [] sz) := by
  refine sp_ofW (Qc := fun A => va_Ql (fun (r : Int64) (_ : Unit) => r = kX8_digits g) (sp_B D vwCl A (fun (_ : Unit) => [])) A) (by decide) rfl (Nat.le_of_ble_eq_true rfl) (fun p e s m below meth c A ls H locs C0 hA hS hP hK hD hl => ?_)
  obtain ⟨hx, hb, hr, hts, hown, hlocks, hml, hin⟩ := id C0
  have hown : s.vm.findClass RX8 = some m.cls := hown
  have hl : lv_has ls 4 [(0, .long g)] := hl
  have hK : va_K D vwCl [(cI, .int), (cJ, .long), (cZ, .boolean)] s := hK
  refine lv_lload_n hx hb dX8_digits_0 rfl (lv_at hl 0 rfl) ?_
  refine sp_callj (wr := []) (wc := []) hP hD hS hA [] [] rfl rfl (by decide) (by decide) (va_runS (As := [.long g]) (rest := []) ⟨hx, hb, hml, hown, hts⟩ (c_X8_magOf l D cI cJ cZ H.size g) (va_cwS 1 hts gX8_digits_X8_magOf_76 rfl rfl rfl (by decide +kernel) ⟨Nat.le_of_ble_eq_true rfl, Nat.le_of_ble_eq_true rfl⟩) (sp_preS [.long g] hK (hP.sub (ws' := []) [] rfl) (hD.sub (ws' := []) [] (by decide) rfl)) rfl rfl hl.1 rfl (lv_room (Nat.le_of_ble_eq_true rfl)) dX8_digits_1 ⟨Nat.le_of_ble_eq_true rfl, Nat.le_of_ble_eq_true rfl⟩) (fun r1 u2 H locs hw3 hP hD hS => ?_)
  have hq_3_0 : r1 = (kX8_magOf g) := hw3
  subst r1
  have hP : va_P D vwCl [] H := hP
  have hD : va_D A [] := hD
  refine lv_lstore_n (lv' := [(2, .long (kX8_magOf g)), (0, .long g)]) hx hb dX8_digits_4 rfl hl (by decide) rfl (fun ls hl => ?_)
  refine lv_lload_n hx hb dX8_digits_5 rfl (lv_at hl 0 rfl) ?_
  refine lv_ldc2 (v := 8388608) hx hb hown (hts (.constantLong RX8 80 (8388608)) (oX8_digits_in _ (List.mem_of_getElem? (i := 0) rfl))) dX8_digits_6 ?_
  refine W.lcmp hx hb dX8_digits_9 ?_
  have hj8 : ∀ (z7 : Int64) (H : Heap) (locs : List Loc) (ls : Array Slot), (z7 = kX8_digits_26_z7 g) → va_P D vwCl [] H → va_D A [] → va_S A s.heap H locs → lv_has ls 4 [(2, .long (kX8_magOf g)), (0, .long g)] → W p l e ({ frames := 1, cells := 0, slots := 0, locals := 21 }) s m (([.long g] : List Value).toArray) below meth c H locs 0 0 (MQ below (va_Ql (fun (r : Int64) (_ : Unit) => r = kX8_digits g) (sp_B D vwCl A (fun (_ : Unit) => [])) A) ([.long g] : List Value).toArray s 0 0 A) (F0 m 26 ls [.long z7]) := by
    intro z7 H locs ls hz7 hP hD hS hl
    subst z7
    refine W.widen (k := 0) (n := 0) (by decide) (by decide) ?_
    exact sp_lret (u := ()) hx hb hr hlocks hS (Eq.symm rfl) (hP.sub [] rfl) (hD.sub [] (by decide) rfl) dX8_digits_26
  refine lv_if_ge (tgt := 17) hx hb dX8_digits_10 (by decide) (fun c4 => ?_) (fun c4 => ?_)
  · skip
    have c4 := (lg_cmp_ge _ _).mp c4
    have c4i : 8388608 ≤ ((kX8_magOf g) : Int64).toInt := Int64.le_iff_toInt_le.mp c4
    refine lv_lload_n hx hb dX8_digits_17 rfl (lv_at hl 0 rfl) ?_
    refine lv_ldc2 (v := 8388608) hx hb hown (hts (.constantLong RX8 80 (8388608)) (oX8_digits_in _ (List.mem_of_getElem? (i := 0) rfl))) dX8_digits_18 ?_
    refine lv_lrem hx hb dX8_digits_21 (by decide) ?_
    refine lv_ldc2 (v := 8388608) hx hb hown (hts (.constantLong RX8 80 (8388608)) (oX8_digits_in _ (List.mem_of_getElem? (i := 0) rfl))) dX8_digits_22 ?_
    refine lv_ladd hx hb dX8_digits_25 ?_
    exact hj8 ((((kX8_magOf g) - (kX8_magOf g) / 8388608 * 8388608) + 8388608)) _ _ _ (Eq.symm ((if_pos c4i).trans rfl)) (hP.sub [] rfl) (hD.sub [] (by decide) rfl) hS (lv_sub hl [0, 1] rfl)
  · skip
    have c4 := fun h => c4 ((lg_cmp_ge _ _).mpr h)
    have c4i : ¬ 8388608 ≤ ((kX8_magOf g) : Int64).toInt := fun h => c4 (Int64.le_iff_toInt_le.mpr h)
    refine lv_lload_n hx hb dX8_digits_13 rfl (lv_at hl 0 rfl) ?_
    refine lv_goto (tgt := 26) hx hb dX8_digits_14 (by decide) ?_
    exact hj8 ((kX8_magOf g)) _ _ _ (Eq.symm ((if_neg c4i).trans rfl)) (hP.sub [] rfl) (hD.sub [] (by decide) rfl) hS (lv_sub hl [0, 1] rfl)
def oX8_power : List Cond := [.constantLong RX8 80 (8388608)]
def wpX8_power : List Cond := .code yX8_power cX8_power 3 (some .int) :: (oX8_power ++ ((va_wsS RX8 76 yX8_magOf wpX8_magOf) ++ ([] : List Cond)))
theorem oX8_power_in : ∀ w ∈ oX8_power, w ∈ wpX8_power := fun w h => List.mem_cons_of_mem _ (List.mem_append_left _ h)
theorem gwoX8_power : ∀ w ∈ oX8_power, goodWord w = true := by decide +kernel
theorem gwX8_power : ∀ w ∈ wpX8_power, goodWord w = true := by
  unfold wpX8_power
  exact List.forall_mem_cons.mpr ⟨rfl, List.forall_mem_append.mpr ⟨gwoX8_power, List.forall_mem_append.mpr ⟨(sp_gS gwX8_magOf), fun _ h => absurd h List.not_mem_nil⟩⟩⟩
set_option maxRecDepth 100000 in
theorem toX8_power : ∀ w ∈ oX8_power, w ∈ lw_tbl := by
  unfold oX8_power
  exact List.forall_mem_cons.mpr ⟨(List.mem_of_getElem? (i := 843) (by decide +kernel)), fun _ h => absurd h List.not_mem_nil⟩
set_option maxRecDepth 100000 in
theorem tX8_power : ∀ w ∈ wpX8_power, w ∈ lw_tbl := by
  unfold wpX8_power
  exact List.forall_mem_cons.mpr ⟨(List.mem_of_getElem? (i := 842) (by rfl)), List.forall_mem_append.mpr ⟨toX8_power, List.forall_mem_append.mpr ⟨(sp_tS (List.mem_of_getElem? (i := 837) (by decide +kernel)) (List.mem_of_getElem? (i := 838) (by decide +kernel)) (List.mem_of_getElem? (i := 45) (by decide +kernel)) tX8_magOf), fun _ h => absurd h List.not_mem_nil⟩⟩⟩
theorem gX8_power_X8_magOf_76 : GoodIn wpX8_power (va_wsS RX8 76 yX8_magOf wpX8_magOf) := fun w h => ⟨List.mem_cons_of_mem _ (List.mem_append_right _ (List.mem_append_left _ h)), good_of_word (sp_gS gwX8_magOf w h)⟩
set_option maxHeartbeats 4000000 in
set_option maxRecDepth 100000 in
theorem c_X8_power (l : Launch) (D : va_G) (cI cJ cZ : ClassId) (sz : Nat) (g : Int64) : Met l yX8_power wpX8_power ({ frames := 1, cells := 0, slots := 0, locals := 21 }) (va_Pc ([.long g] : List Value) (sp_pre D vwCl (sp_ty cI cJ cZ) [] sz)) (va_Qi (fun (r : Int32) (_ : Unit) => r = kX8_power g) (sp_B D vwCl (va_A [] sz) (fun (_ : Unit) => [])) (va_A [] sz)) 0 0 (va_A [] sz) := by
  refine sp_ofW (Qc := fun A => va_Qi (fun (r : Int32) (_ : Unit) => r = kX8_power g) (sp_B D vwCl A (fun (_ : Unit) => [])) A) (by decide) rfl (Nat.le_of_ble_eq_true rfl) (fun p e s m below meth c A ls H locs C0 hA hS hP hK hD hl => ?_)
  obtain ⟨hx, hb, hr, hts, hown, hlocks, hml, hin⟩ := id C0
  have hown : s.vm.findClass RX8 = some m.cls := hown
  have hl : lv_has ls 3 [(0, .long g)] := hl
  have hK : va_K D vwCl [(cI, .int), (cJ, .long), (cZ, .boolean)] s := hK
  refine lv_lload_n hx hb dX8_power_0 rfl (lv_at hl 0 rfl) ?_
  refine sp_callj (wr := []) (wc := []) hP hD hS hA [] [] rfl rfl (by decide) (by decide) (va_runS (As := [.long g]) (rest := []) ⟨hx, hb, hml, hown, hts⟩ (c_X8_magOf l D cI cJ cZ H.size g) (va_cwS 1 hts gX8_power_X8_magOf_76 rfl rfl rfl (by decide +kernel) ⟨Nat.le_of_ble_eq_true rfl, Nat.le_of_ble_eq_true rfl⟩) (sp_preS [.long g] hK (hP.sub (ws' := []) [] rfl) (hD.sub (ws' := []) [] (by decide) rfl)) rfl rfl hl.1 rfl (lv_room (Nat.le_of_ble_eq_true rfl)) dX8_power_1 ⟨Nat.le_of_ble_eq_true rfl, Nat.le_of_ble_eq_true rfl⟩) (fun r1 u2 H locs hw3 hP hD hS => ?_)
  have hq_3_0 : r1 = (kX8_magOf g) := hw3
  subst r1
  have hP : va_P D vwCl [] H := hP
  have hD : va_D A [] := hD
  refine lv_ldc2 (v := 8388608) hx hb hown (hts (.constantLong RX8 80 (8388608)) (oX8_power_in _ (List.mem_of_getElem? (i := 0) rfl))) dX8_power_4 ?_
  refine lv_ldiv hx hb dX8_power_7 (by decide) ?_
  refine lv_l2i (v := _) hx hb dX8_power_8 rfl ?_
  refine lv_istore_n (lv' := [(2, .int (kX8_power_s9 g)), (0, .long g)]) hx hb dX8_power_9 rfl hl (by decide) rfl (fun ls hl => ?_)
  refine lv_iload_n hx hb dX8_power_10 rfl (lv_at hl 0 rfl) ?_
  have hj8 : ∀ (z7 : Int32) (H : Heap) (locs : List Loc) (ls : Array Slot), (z7 = kX8_power_25_z7 g) → va_P D vwCl [] H → va_D A [] → va_S A s.heap H locs → lv_has ls 3 [(2, .int (kX8_power_s9 g)), (0, .long g)] → W p l e ({ frames := 1, cells := 0, slots := 0, locals := 21 }) s m (([.long g] : List Value).toArray) below meth c H locs 0 0 (MQ below (va_Qi (fun (r : Int32) (_ : Unit) => r = kX8_power g) (sp_B D vwCl A (fun (_ : Unit) => [])) A) ([.long g] : List Value).toArray s 0 0 A) (F0 m 25 ls [.int z7]) := by
    intro z7 H locs ls hz7 hP hD hS hl
    subst z7
    refine W.widen (k := 0) (n := 0) (by decide) (by decide) ?_
    exact sp_iret (u := ()) hx hb hr hlocks hS (Eq.symm rfl) (hP.sub [] rfl) (hD.sub [] (by decide) rfl) dX8_power_25
  refine lv_if_ne (tgt := 20) hx hb dX8_power_11 (by decide) (fun c4 => ?_) (fun c4 => ?_)
  · skip
    have c4i : ¬ ((kX8_power_s9 g) : Int32).toInt = 0 := fun h => c4 (Int32.toInt_inj.mp h)
    refine lv_iload_n hx hb dX8_power_20 rfl (lv_at hl 0 rfl) ?_
    refine lv_sipush (v := 150) hx hb dX8_power_21 (by decide) ?_
    refine lv_isub hx hb dX8_power_24 ?_
    exact hj8 (((kX8_power_s9 g) - 150)) _ _ _ (Eq.symm ((if_neg c4i).trans rfl)) (hP.sub [] rfl) (hD.sub [] (by decide) rfl) hS (lv_sub hl [0, 1] rfl)
  · skip
    have c4i : ((kX8_power_s9 g) : Int32).toInt = 0 := congrArg Int32.toInt c4
    refine lv_sipush (v := (-149)) hx hb dX8_power_14 (by decide) ?_
    refine lv_goto (tgt := 25) hx hb dX8_power_17 (by decide) ?_
    exact hj8 ((-149)) _ _ _ (Eq.symm ((if_pos c4i).trans rfl)) (hP.sub [] rfl) (hD.sub [] (by decide) rfl) hS (lv_sub hl [0, 1] rfl)
def oX8_isInfinite : List Cond := [.constantLong RX8 82 (9000000000), .constantLong RX8 68 (2139095040)]
def wpX8_isInfinite : List Cond := .code yX8_isInfinite cX8_isInfinite 2 (some .boolean) :: (oX8_isInfinite ++ ((va_wsS RX8 76 yX8_magOf wpX8_magOf) ++ ([] : List Cond)))
theorem oX8_isInfinite_in : ∀ w ∈ oX8_isInfinite, w ∈ wpX8_isInfinite := fun w h => List.mem_cons_of_mem _ (List.mem_append_left _ h)
theorem gwoX8_isInfinite : ∀ w ∈ oX8_isInfinite, goodWord w = true := by decide +kernel
theorem gwX8_isInfinite : ∀ w ∈ wpX8_isInfinite, goodWord w = true := by
  unfold wpX8_isInfinite
  exact List.forall_mem_cons.mpr ⟨rfl, List.forall_mem_append.mpr ⟨gwoX8_isInfinite, List.forall_mem_append.mpr ⟨(sp_gS gwX8_magOf), fun _ h => absurd h List.not_mem_nil⟩⟩⟩
set_option maxRecDepth 100000 in
theorem toX8_isInfinite : ∀ w ∈ oX8_isInfinite, w ∈ lw_tbl := by
  unfold oX8_isInfinite
  exact List.forall_mem_cons.mpr ⟨(List.mem_of_getElem? (i := 804) (by decide +kernel)), List.forall_mem_cons.mpr ⟨(List.mem_of_getElem? (i := 682) (by decide +kernel)), fun _ h => absurd h List.not_mem_nil⟩⟩
set_option maxRecDepth 100000 in
theorem tX8_isInfinite : ∀ w ∈ wpX8_isInfinite, w ∈ lw_tbl := by
  unfold wpX8_isInfinite
  exact List.forall_mem_cons.mpr ⟨(List.mem_of_getElem? (i := 836) (by rfl)), List.forall_mem_append.mpr ⟨toX8_isInfinite, List.forall_mem_append.mpr ⟨(sp_tS (List.mem_of_getElem? (i := 837) (by decide +kernel)) (List.mem_of_getElem? (i := 838) (by decide +kernel)) (List.mem_of_getElem? (i := 45) (by decide +kernel)) tX8_magOf), fun _ h => absurd h List.not_mem_nil⟩⟩⟩
theorem gX8_isInfinite_X8_magOf_76 : GoodIn wpX8_isInfinite (va_wsS RX8 76 yX8_magOf wpX8_magOf) := fun w h => ⟨List.mem_cons_of_mem _ (List.mem_append_right _ (List.mem_append_left _ h)), good_of_word (sp_gS gwX8_magOf w h)⟩
set_option maxHeartbeats 4000000 in
set_option maxRecDepth 100000 in
theorem c_X8_isInfinite (l : Launch) (D : va_G) (cI cJ cZ : ClassId) (sz : Nat) (g : Int64) : Met l yX8_isInfinite wpX8_isInfinite ({ frames := 1, cells := 0, slots := 0, locals := 21 }) (va_Pc ([.long g] : List Value) (sp_pre D vwCl (sp_ty cI cJ cZ) [] sz)) (va_Qi (fun (r : Int32) (_ : Unit) => r = kX8_isInfinite g) (sp_B D vwCl (va_A [] sz) (fun (_ : Unit) => [])) (va_A [] sz)) 0 0 (va_A [] sz) := by
  refine sp_ofW (Qc := fun A => va_Qi (fun (r : Int32) (_ : Unit) => r = kX8_isInfinite g) (sp_B D vwCl A (fun (_ : Unit) => [])) A) (by decide) rfl (Nat.le_of_ble_eq_true rfl) (fun p e s m below meth c A ls H locs C0 hA hS hP hK hD hl => ?_)
  obtain ⟨hx, hb, hr, hts, hown, hlocks, hml, hin⟩ := id C0
  have hown : s.vm.findClass RX8 = some m.cls := hown
  have hl : lv_has ls 2 [(0, .long g)] := hl
  have hK : va_K D vwCl [(cI, .int), (cJ, .long), (cZ, .boolean)] s := hK
  refine lv_lload_n hx hb dX8_isInfinite_0 rfl (lv_at hl 0 rfl) ?_
  refine lv_ldc2 (v := 9000000000) hx hb hown (hts (.constantLong RX8 82 (9000000000)) (oX8_isInfinite_in _ (List.mem_of_getElem? (i := 0) rfl))) dX8_isInfinite_1 ?_
  refine W.lcmp hx hb dX8_isInfinite_4 ?_
  refine lv_if_eq (tgt := 23) hx hb dX8_isInfinite_5 (by decide) (fun c1 => ?_) (fun c1 => ?_)
  · skip
    have c1 := (lg_cmp_eq _ _).mp c1
    have c1i : (g : Int64).toInt = 9000000000 := congrArg Int64.toInt c1
    refine lv_iconst (v := 0) hx hb dX8_isInfinite_23 (by decide) ?_
    refine W.widen (k := 0) (n := 0) (by decide) (by decide) ?_
    exact sp_zret (u := ()) hx hb hr hlocks (by decide) hS (Eq.symm ((if_pos c1i).trans rfl)) (hP.sub [] rfl) (hD.sub [] (by decide) rfl) dX8_isInfinite_24
  · skip
    have c1 := fun h => c1 ((lg_cmp_eq _ _).mpr h)
    have c1i : ¬ (g : Int64).toInt = 9000000000 := fun h => c1 (Int64.toInt_inj.mp h)
    refine lv_lload_n hx hb dX8_isInfinite_8 rfl (lv_at hl 0 rfl) ?_
    refine sp_callj (wr := []) (wc := []) hP hD hS hA [] [] rfl rfl (by decide) (by decide) (va_runS (As := [.long g]) (rest := []) ⟨hx, hb, hml, hown, hts⟩ (c_X8_magOf l D cI cJ cZ H.size g) (va_cwS 1 hts gX8_isInfinite_X8_magOf_76 rfl rfl rfl (by decide +kernel) ⟨Nat.le_of_ble_eq_true rfl, Nat.le_of_ble_eq_true rfl⟩) (sp_preS [.long g] hK (hP.sub (ws' := []) [] rfl) (hD.sub (ws' := []) [] (by decide) rfl)) rfl rfl hl.1 rfl (lv_room (Nat.le_of_ble_eq_true rfl)) dX8_isInfinite_9 ⟨Nat.le_of_ble_eq_true rfl, Nat.le_of_ble_eq_true rfl⟩) (fun r2 u3 H locs hw4 hP hD hS => ?_)
    have hq_4_0 : r2 = (kX8_magOf g) := hw4
    subst r2
    have hP : va_P D vwCl [] H := hP
    have hD : va_D A [] := hD
    refine lv_ldc2 (v := 2139095040) hx hb hown (hts (.constantLong RX8 68 (2139095040)) (oX8_isInfinite_in _ (List.mem_of_getElem? (i := 1) rfl))) dX8_isInfinite_12 ?_
    refine W.lcmp hx hb dX8_isInfinite_15 ?_
    refine lv_if_ne (tgt := 23) hx hb dX8_isInfinite_16 (by decide) (fun c5 => ?_) (fun c5 => ?_)
    · skip
      have c5 := fun h => c5 ((lg_cmp_eq _ _).mpr h)
      have c5i : ¬ ((kX8_magOf g) : Int64).toInt = 2139095040 := fun h => c5 (Int64.toInt_inj.mp h)
      refine lv_iconst (v := 0) hx hb dX8_isInfinite_23 (by decide) ?_
      refine W.widen (k := 0) (n := 0) (by decide) (by decide) ?_
      exact sp_zret (u := ()) hx hb hr hlocks (by decide) hS (Eq.symm ((if_neg c1i).trans ((if_neg c5i).trans rfl))) (hP.sub [] rfl) (hD.sub [] (by decide) rfl) dX8_isInfinite_24
    · skip
      have c5 := (lg_cmp_eq _ _).mp c5
      have c5i : ((kX8_magOf g) : Int64).toInt = 2139095040 := congrArg Int64.toInt c5
      refine lv_iconst (v := 1) hx hb dX8_isInfinite_19 (by decide) ?_
      refine lv_goto (tgt := 24) hx hb dX8_isInfinite_20 (by decide) ?_
      refine W.widen (k := 0) (n := 0) (by decide) (by decide) ?_
      exact sp_zret (u := ()) hx hb hr hlocks (by decide) hS (Eq.symm ((if_neg c1i).trans ((if_pos c5i).trans rfl))) (hP.sub [] rfl) (hD.sub [] (by decide) rfl) dX8_isInfinite_24
def oX8_isZero : List Cond := [.constantLong RX8 74 (-1)]
def wpX8_isZero : List Cond := .code yX8_isZero cX8_isZero 2 (some .boolean) :: (oX8_isZero ++ ([] : List Cond))
theorem oX8_isZero_in : ∀ w ∈ oX8_isZero, w ∈ wpX8_isZero := fun w h => List.mem_cons_of_mem _ (List.mem_append_left _ h)
theorem gwoX8_isZero : ∀ w ∈ oX8_isZero, goodWord w = true := by decide +kernel
theorem gwX8_isZero : ∀ w ∈ wpX8_isZero, goodWord w = true := by
  unfold wpX8_isZero
  exact List.forall_mem_cons.mpr ⟨rfl, List.forall_mem_append.mpr ⟨gwoX8_isZero, fun _ h => absurd h List.not_mem_nil⟩⟩
set_option maxRecDepth 100000 in
theorem toX8_isZero : ∀ w ∈ oX8_isZero, w ∈ lw_tbl := by
  unfold oX8_isZero
  exact List.forall_mem_cons.mpr ⟨(List.mem_of_getElem? (i := 808) (by decide +kernel)), fun _ h => absurd h List.not_mem_nil⟩
set_option maxRecDepth 100000 in
theorem tX8_isZero : ∀ w ∈ wpX8_isZero, w ∈ lw_tbl := by
  unfold wpX8_isZero
  exact List.forall_mem_cons.mpr ⟨(List.mem_of_getElem? (i := 860) (by rfl)), List.forall_mem_append.mpr ⟨toX8_isZero, fun _ h => absurd h List.not_mem_nil⟩⟩
set_option maxHeartbeats 4000000 in
set_option maxRecDepth 100000 in
theorem c_X8_isZero (l : Launch) (D : va_G) (cI cJ cZ : ClassId) (sz : Nat) (g : Int64) : Met l yX8_isZero wpX8_isZero ({ frames := 0, cells := 0, slots := 0, locals := 0 }) (va_Pc ([.long g] : List Value) (sp_pre D vwCl (sp_ty cI cJ cZ) [] sz)) (va_Qi (fun (r : Int32) (_ : Unit) => r = kX8_isZero g ∧ ((r = 1 ∧ (g.toInt = 0 ∨ g.toInt = -1)) ∨ (r = 0 ∧ ¬ (g.toInt = 0 ∨ g.toInt = -1)))) (sp_B D vwCl (va_A [] sz) (fun (_ : Unit) => [])) (va_A [] sz)) 0 0 (va_A [] sz) := by
  refine sp_ofW (Qc := fun A => va_Qi (fun (r : Int32) (_ : Unit) => r = kX8_isZero g ∧ ((r = 1 ∧ (g.toInt = 0 ∨ g.toInt = -1)) ∨ (r = 0 ∧ ¬ (g.toInt = 0 ∨ g.toInt = -1)))) (sp_B D vwCl A (fun (_ : Unit) => [])) A) (by decide) rfl (Nat.le_of_ble_eq_true rfl) (fun p e s m below meth c A ls H locs C0 hA hS hP hK hD hl => ?_)
  obtain ⟨hx, hb, hr, hts, hown, hlocks, hml, hin⟩ := id C0
  have hown : s.vm.findClass RX8 = some m.cls := hown
  have hl : lv_has ls 2 [(0, .long g)] := hl
  have hK : va_K D vwCl [(cI, .int), (cJ, .long), (cZ, .boolean)] s := hK
  refine lv_lload_n hx hb dX8_isZero_0 rfl (lv_at hl 0 rfl) ?_
  refine lv_lconst (v := 0) hx hb dX8_isZero_1 (by decide) ?_
  refine W.lcmp hx hb dX8_isZero_2 ?_
  refine lv_if_eq (tgt := 14) hx hb dX8_isZero_3 (by decide) (fun c1 => ?_) (fun c1 => ?_)
  · skip
    have c1 := (lg_cmp_eq _ _).mp c1
    have c1i : (g : Int64).toInt = 0 := congrArg Int64.toInt c1
    refine lv_iconst (v := 1) hx hb dX8_isZero_14 (by decide) ?_
    refine lv_goto (tgt := 19) hx hb dX8_isZero_15 (by decide) ?_
    refine W.widen (k := 0) (n := 0) (by decide) (by decide) ?_
    exact sp_zret (u := ()) hx hb hr hlocks (by decide) hS ⟨(Eq.symm ((if_pos c1i).trans rfl)), (Or.inl ⟨rfl, by omega⟩)⟩ (hP.sub [] rfl) (hD.sub [] (by decide) rfl) dX8_isZero_19
  · skip
    have c1 := fun h => c1 ((lg_cmp_eq _ _).mpr h)
    have c1i : ¬ (g : Int64).toInt = 0 := fun h => c1 (Int64.toInt_inj.mp h)
    refine lv_lload_n hx hb dX8_isZero_6 rfl (lv_at hl 0 rfl) ?_
    refine lv_ldc2 (v := (-1)) hx hb hown (hts (.constantLong RX8 74 (-1)) (oX8_isZero_in _ (List.mem_of_getElem? (i := 0) rfl))) dX8_isZero_7 ?_
    refine W.lcmp hx hb dX8_isZero_10 ?_
    refine lv_if_ne (tgt := 18) hx hb dX8_isZero_11 (by decide) (fun c2 => ?_) (fun c2 => ?_)
    · skip
      have c2 := fun h => c2 ((lg_cmp_eq _ _).mpr h)
      have c2i : ¬ (g : Int64).toInt = (-1) := fun h => c2 (Int64.toInt_inj.mp h)
      refine lv_iconst (v := 0) hx hb dX8_isZero_18 (by decide) ?_
      refine W.widen (k := 0) (n := 0) (by decide) (by decide) ?_
      exact sp_zret (u := ()) hx hb hr hlocks (by decide) hS ⟨(Eq.symm ((if_neg c1i).trans ((if_neg c2i).trans rfl))), (Or.inr ⟨rfl, by omega⟩)⟩ (hP.sub [] rfl) (hD.sub [] (by decide) rfl) dX8_isZero_19
    · skip
      have c2 := (lg_cmp_eq _ _).mp c2
      have c2i : (g : Int64).toInt = (-1) := congrArg Int64.toInt c2
      refine lv_iconst (v := 1) hx hb dX8_isZero_14 (by decide) ?_
      refine lv_goto (tgt := 19) hx hb dX8_isZero_15 (by decide) ?_
      refine W.widen (k := 0) (n := 0) (by decide) (by decide) ?_
      exact sp_zret (u := ()) hx hb hr hlocks (by decide) hS ⟨(Eq.symm ((if_neg c1i).trans ((if_pos c2i).trans rfl))), (Or.inl ⟨rfl, by omega⟩)⟩ (hP.sub [] rfl) (hD.sub [] (by decide) rfl) dX8_isZero_19
def oX8_pack : List Cond := [.constantLong RX8 80 (8388608), .constantLong RX8 90 (2), .constantLong RX8 88 (16777216), .constantLong RX8 92 (150), .constantLong RX8 68 (2139095040)]
def wpX8_pack : List Cond := .code yX8_pack cX8_pack 10 (some .long) :: (oX8_pack ++ ((va_wsS RX8 84 yX8_placeOf wpX8_placeOf) ++ ([] : List Cond)))
theorem oX8_pack_in : ∀ w ∈ oX8_pack, w ∈ wpX8_pack := fun w h => List.mem_cons_of_mem _ (List.mem_append_left _ h)
theorem gwoX8_pack : ∀ w ∈ oX8_pack, goodWord w = true := by decide +kernel
theorem gwX8_pack : ∀ w ∈ wpX8_pack, goodWord w = true := by
  unfold wpX8_pack
  exact List.forall_mem_cons.mpr ⟨rfl, List.forall_mem_append.mpr ⟨gwoX8_pack, List.forall_mem_append.mpr ⟨(sp_gS gwX8_placeOf), fun _ h => absurd h List.not_mem_nil⟩⟩⟩
set_option maxRecDepth 100000 in
theorem toX8_pack : ∀ w ∈ oX8_pack, w ∈ lw_tbl := by
  unfold oX8_pack
  exact List.forall_mem_cons.mpr ⟨(List.mem_of_getElem? (i := 843) (by decide +kernel)), List.forall_mem_cons.mpr ⟨(List.mem_of_getElem? (i := 770) (by decide +kernel)), List.forall_mem_cons.mpr ⟨(List.mem_of_getElem? (i := 850) (by decide +kernel)), List.forall_mem_cons.mpr ⟨(List.mem_of_getElem? (i := 851) (by decide +kernel)), List.forall_mem_cons.mpr ⟨(List.mem_of_getElem? (i := 682) (by decide +kernel)), fun _ h => absurd h List.not_mem_nil⟩⟩⟩⟩⟩
set_option maxRecDepth 100000 in
theorem tX8_pack : ∀ w ∈ wpX8_pack, w ∈ lw_tbl := by
  unfold wpX8_pack
  exact List.forall_mem_cons.mpr ⟨(List.mem_of_getElem? (i := 849) (by rfl)), List.forall_mem_append.mpr ⟨toX8_pack, List.forall_mem_append.mpr ⟨(sp_tS (List.mem_of_getElem? (i := 805) (by decide +kernel)) (List.mem_of_getElem? (i := 806) (by decide +kernel)) (List.mem_of_getElem? (i := 45) (by decide +kernel)) tX8_placeOf), fun _ h => absurd h List.not_mem_nil⟩⟩⟩
theorem gX8_pack_X8_placeOf_84 : GoodIn wpX8_pack (va_wsS RX8 84 yX8_placeOf wpX8_placeOf) := fun w h => ⟨List.mem_cons_of_mem _ (List.mem_append_right _ (List.mem_append_left _ h)), good_of_word (sp_gS gwX8_placeOf w h)⟩
set_option maxHeartbeats 4000000 in
set_option maxRecDepth 100000 in
theorem lp_X8_pack_91 {p : Program} {e : Env} {s : State} {m : MethodId} {below : List Frame} {meth : Method} {c : Code} {A : Nat → Prop} (l : Launch) (D : va_G) (cI cJ cZ : ClassId) (zg : Int32) (wh : Int64) (pw : Int32) (mo : Int32) (C0 : sp_C cX8_pack (some .long) 10 wpX8_pack yX8_pack.cls yX8_pack.name p s m ([.int zg, .long wh, .int pw, .int mo] : List Value).toArray meth c) (hA : ∀ q : Nat, s.heap.size ≤ q → A q) (hK : va_K D vwCl [(cI, .int), (cJ, .long), (cZ, .boolean)] s) :
    ∀ (fuel : Nat) (mm : Int64) (ee : Int32) (hf : Int32) (rs : Int32) (H : Heap) (locs : List Loc) (ls : Array Slot), (kX8_pack zg wh pw mo = kX8_pack_l91 fuel zg wh pw mo mm ee hf rs) → ((if (ee : Int32).toInt < -149 then 0 else (ee : Int32).toInt + 149) < (fuel : Int)) → va_P D vwCl [] H → va_D A [] → va_S A s.heap H locs → lv_has ls 10 [(0, .int zg), (1, .long wh), (3, .int pw), (4, .int mo), (5, .long mm), (7, .int ee), (8, .int hf), (9, .int rs)] → W p l e ({ frames := 1, cells := 0, slots := 0, locals := 22 }) s m (([.int zg, .long wh, .int pw, .int mo] : List Value).toArray) below meth c H locs 0 0 (MQ below (va_Ql (fun (r : Int64) (_ : Unit) => r = kX8_pack zg wh pw mo) (sp_B D vwCl A (fun (_ : Unit) => [])) A) ([.int zg, .long wh, .int pw, .int mo] : List Value).toArray s 0 0 A) (F0 m 91 ls []) := by
  obtain ⟨hx, hb, hr, hts, hown, hlocks, hml, hin⟩ := id C0
  have hown : s.vm.findClass RX8 = some m.cls := hown
  intro fuel
  induction fuel with
  | zero =>
    intro mm ee hf rs H locs ls hk_r hm
    exact absurd hm (by omega)
  | succ fuel ih =>
    intro mm ee hf rs H locs ls hk_r hm hP hD hS hl
    have hrg := px_rng ee
    refine lv_lload hx hb dX8_pack_91 (lv_at hl 4 rfl) ?_
    refine lv_ldc2 (v := 8388608) hx hb hown (hts (.constantLong RX8 80 (8388608)) (oX8_pack_in _ (List.mem_of_getElem? (i := 0) rfl))) dX8_pack_93 ?_
    refine W.lcmp hx hb dX8_pack_96 ?_
    refine lv_if_ge (tgt := 122) hx hb dX8_pack_97 (by decide) (fun c1 => ?_) (fun c1 => ?_)
    · skip
      have c1 := (lg_cmp_ge _ _).mp c1
      have c1i : 8388608 ≤ (mm : Int64).toInt := Int64.le_iff_toInt_le.mp c1
      refine lv_iload hx hb dX8_pack_122 (lv_at hl 6 rfl) ?_
      have hj31 : ∀ (z29 : Int64) (z30 : Int32) (H : Heap) (locs : List Loc) (ls : Array Slot), (z29 = kX8_pack_l91_166_z29 zg wh pw mo mm ee hf rs) → (z30 = kX8_pack_l91_166_z30 zg wh pw mo mm ee hf rs) → va_P D vwCl [] H → va_D A [] → va_S A s.heap H locs → lv_has ls 10 [(0, .int zg), (1, .long wh), (3, .int pw), (4, .int mo), (5, .long z29), (7, .int z30), (8, .int hf), (9, .int rs)] → W p l e ({ frames := 1, cells := 0, slots := 0, locals := 22 }) s m (([.int zg, .long wh, .int pw, .int mo] : List Value).toArray) below meth c H locs 0 0 (MQ below (va_Ql (fun (r : Int64) (_ : Unit) => r = kX8_pack zg wh pw mo) (sp_B D vwCl A (fun (_ : Unit) => [])) A) ([.int zg, .long wh, .int pw, .int mo] : List Value).toArray s 0 0 A) (F0 m 166 ls []) := by
        intro z29 z30 H locs ls hz29 hz30 hP hD hS hl
        subst z29 z30
        refine lv_iload hx hb dX8_pack_166 (lv_at hl 5 rfl) ?_
        refine lv_sipush (v := 150) hx hb dX8_pack_168 (by decide) ?_
        refine lv_iadd hx hb dX8_pack_171 ?_
        refine lv_sipush (v := 254) hx hb dX8_pack_172 (by decide) ?_
        refine lv_icmp_le (tgt := 186) hx hb dX8_pack_175 (by decide) (fun c32 => ?_) (fun c32 => ?_)
        · skip
          have c32i : (((kX8_pack_l91_166_z30 zg wh pw mo mm ee hf rs) + 150) : Int32).toInt ≤ 254 := Int32.le_iff_toInt_le.mp c32
          refine lv_iload_n hx hb dX8_pack_186 rfl (lv_at hl 0 rfl) ?_
          refine lv_lload hx hb dX8_pack_187 (lv_at hl 4 rfl) ?_
          refine lv_ldc2 (v := 8388608) hx hb hown (hts (.constantLong RX8 80 (8388608)) (oX8_pack_in _ (List.mem_of_getElem? (i := 0) rfl))) dX8_pack_189 ?_
          refine W.lcmp hx hb dX8_pack_192 ?_
          have hj37 : ∀ (z36 : Int64) (H : Heap) (locs : List Loc) (ls : Array Slot), (z36 = kX8_pack_l91_219_z36 zg wh pw mo mm ee hf rs) → va_P D vwCl [] H → va_D A [] → va_S A s.heap H locs → lv_has ls 10 [(0, .int zg), (1, .long wh), (3, .int pw), (4, .int mo), (5, .long (kX8_pack_l91_166_z29 zg wh pw mo mm ee hf rs)), (7, .int (kX8_pack_l91_166_z30 zg wh pw mo mm ee hf rs)), (8, .int hf), (9, .int rs)] → W p l e ({ frames := 1, cells := 0, slots := 0, locals := 22 }) s m (([.int zg, .long wh, .int pw, .int mo] : List Value).toArray) below meth c H locs 0 0 (MQ below (va_Ql (fun (r : Int64) (_ : Unit) => r = kX8_pack zg wh pw mo) (sp_B D vwCl A (fun (_ : Unit) => [])) A) ([.int zg, .long wh, .int pw, .int mo] : List Value).toArray s 0 0 A) (F0 m 219 ls [.long z36, .int zg]) := by
            intro z36 H locs ls hz36 hP hD hS hl
            subst z36
            refine sp_callj (wr := []) (wc := []) hP hD hS hA [] [] rfl rfl (by decide) (by decide) (va_runS (As := [.int zg, .long (kX8_pack_l91_219_z36 zg wh pw mo mm ee hf rs)]) (rest := []) ⟨hx, hb, hml, hown, hts⟩ (c_X8_placeOf l D cI cJ cZ H.size zg (kX8_pack_l91_219_z36 zg wh pw mo mm ee hf rs)) (va_cwS 2 hts gX8_pack_X8_placeOf_84 rfl rfl rfl (by decide +kernel) ⟨Nat.le_of_ble_eq_true rfl, Nat.le_of_ble_eq_true rfl⟩) (sp_preS [.int zg, .long (kX8_pack_l91_219_z36 zg wh pw mo mm ee hf rs)] hK (hP.sub (ws' := []) [] rfl) (hD.sub (ws' := []) [] (by decide) rfl)) rfl rfl hl.1 rfl (lv_room (Nat.le_of_ble_eq_true rfl)) dX8_pack_219 ⟨Nat.le_of_ble_eq_true rfl, Nat.le_of_ble_eq_true rfl⟩) (fun r38 u39 H locs hw40 hP hD hS => ?_)
            have hq_40_0 : r38 = (kX8_placeOf zg (kX8_pack_l91_219_z36 zg wh pw mo mm ee hf rs)) := hw40
            subst r38
            have hP : va_P D vwCl [] H := hP
            have hD : va_D A [] := hD
            refine W.widen (k := 0) (n := 0) (by decide) (by decide) ?_
            exact sp_lret (u := ()) hx hb hr hlocks hS (Eq.symm (hk_r.trans ((if_pos c1i).trans ((if_pos c32i).trans rfl)))) (hP.sub [] rfl) (hD.sub [] (by decide) rfl) dX8_pack_222
          refine lv_if_ge (tgt := 201) hx hb dX8_pack_193 (by decide) (fun c33 => ?_) (fun c33 => ?_)
          · skip
            have c33 := (lg_cmp_ge _ _).mp c33
            have c33i : 8388608 ≤ ((kX8_pack_l91_166_z29 zg wh pw mo mm ee hf rs) : Int64).toInt := Int64.le_iff_toInt_le.mp c33
            refine lv_iload hx hb dX8_pack_201 (lv_at hl 5 rfl) ?_
            refine lv_i2l (v := _) hx hb dX8_pack_203 rfl ?_
            refine lv_ldc2 (v := 150) hx hb hown (hts (.constantLong RX8 92 (150)) (oX8_pack_in _ (List.mem_of_getElem? (i := 3) rfl))) dX8_pack_204 ?_
            refine lv_ladd hx hb dX8_pack_207 ?_
            refine lv_ldc2 (v := 8388608) hx hb hown (hts (.constantLong RX8 80 (8388608)) (oX8_pack_in _ (List.mem_of_getElem? (i := 0) rfl))) dX8_pack_208 ?_
            refine lv_lmul hx hb dX8_pack_211 ?_
            refine lv_lload hx hb dX8_pack_212 (lv_at hl 4 rfl) ?_
            refine lv_ladd hx hb dX8_pack_214 ?_
            refine lv_ldc2 (v := 8388608) hx hb hown (hts (.constantLong RX8 80 (8388608)) (oX8_pack_in _ (List.mem_of_getElem? (i := 0) rfl))) dX8_pack_215 ?_
            refine lv_lsub hx hb dX8_pack_218 ?_
            exact hj37 (((((((kX8_pack_l91_166_z30 zg wh pw mo mm ee hf rs) : Int32).toInt64 + 150) * 8388608) + (kX8_pack_l91_166_z29 zg wh pw mo mm ee hf rs)) - 8388608)) _ _ _ (Eq.symm ((if_pos c33i).trans rfl)) (hP.sub [] rfl) (hD.sub [] (by decide) rfl) hS (lv_sub hl [0, 1, 2, 3, 4, 5, 6, 7] rfl)
          · skip
            have c33 := fun h => c33 ((lg_cmp_ge _ _).mpr h)
            have c33i : ¬ 8388608 ≤ ((kX8_pack_l91_166_z29 zg wh pw mo mm ee hf rs) : Int64).toInt := fun h => c33 (Int64.le_iff_toInt_le.mpr h)
            refine lv_lload hx hb dX8_pack_196 (lv_at hl 4 rfl) ?_
            refine lv_goto (tgt := 219) hx hb dX8_pack_198 (by decide) ?_
            exact hj37 ((kX8_pack_l91_166_z29 zg wh pw mo mm ee hf rs)) _ _ _ (Eq.symm ((if_neg c33i).trans rfl)) (hP.sub [] rfl) (hD.sub [] (by decide) rfl) hS (lv_sub hl [0, 1, 2, 3, 4, 5, 6, 7] rfl)
        · skip
          have c32i : ¬ (((kX8_pack_l91_166_z30 zg wh pw mo mm ee hf rs) + 150) : Int32).toInt ≤ 254 := fun h => c32 (Int32.le_iff_toInt_le.mpr h)
          refine lv_iload_n hx hb dX8_pack_178 rfl (lv_at hl 0 rfl) ?_
          refine lv_ldc2 (v := 2139095040) hx hb hown (hts (.constantLong RX8 68 (2139095040)) (oX8_pack_in _ (List.mem_of_getElem? (i := 4) rfl))) dX8_pack_179 ?_
          refine sp_callj (wr := []) (wc := []) hP hD hS hA [] [] rfl rfl (by decide) (by decide) (va_runS (As := [.int zg, .long 2139095040]) (rest := []) ⟨hx, hb, hml, hown, hts⟩ (c_X8_placeOf l D cI cJ cZ H.size zg 2139095040) (va_cwS 2 hts gX8_pack_X8_placeOf_84 rfl rfl rfl (by decide +kernel) ⟨Nat.le_of_ble_eq_true rfl, Nat.le_of_ble_eq_true rfl⟩) (sp_preS [.int zg, .long 2139095040] hK (hP.sub (ws' := []) [] rfl) (hD.sub (ws' := []) [] (by decide) rfl)) rfl rfl hl.1 rfl (lv_room (Nat.le_of_ble_eq_true rfl)) dX8_pack_182 ⟨Nat.le_of_ble_eq_true rfl, Nat.le_of_ble_eq_true rfl⟩) (fun r41 u42 H locs hw43 hP hD hS => ?_)
          have hq_43_0 : r41 = (kX8_placeOf zg 2139095040) := hw43
          subst r41
          have hP : va_P D vwCl [] H := hP
          have hD : va_D A [] := hD
          refine W.widen (k := 0) (n := 0) (by decide) (by decide) ?_
          exact sp_lret (u := ()) hx hb hr hlocks hS (Eq.symm (hk_r.trans ((if_pos c1i).trans ((if_neg c32i).trans rfl)))) (hP.sub [] rfl) (hD.sub [] (by decide) rfl) dX8_pack_185
      refine lv_if_eq (tgt := 166) hx hb dX8_pack_124 (by decide) (fun c2 => ?_) (fun c2 => ?_)
      · skip
        have c2i : (hf : Int32).toInt = 0 := congrArg Int32.toInt c2
        exact hj31 (mm) (ee) _ _ _ (Eq.symm ((if_pos c2i).trans rfl)) (Eq.symm ((if_pos c2i).trans rfl)) (hP.sub [] rfl) (hD.sub [] (by decide) rfl) hS (lv_sub hl [0, 1, 2, 3, 4, 5, 6, 7] rfl)
      · skip
        have c2i : ¬ (hf : Int32).toInt = 0 := fun h => c2 (Int32.toInt_inj.mp h)
        refine lv_iload hx hb dX8_pack_127 (lv_at hl 7 rfl) ?_
        have hj27 : ∀ (z25 : Int64) (z26 : Int32) (H : Heap) (locs : List Loc) (ls : Array Slot), (z25 = kX8_pack_l91_166_z25 zg wh pw mo mm ee hf rs) → (z26 = kX8_pack_l91_166_z26 zg wh pw mo mm ee hf rs) → va_P D vwCl [] H → va_D A [] → va_S A s.heap H locs → lv_has ls 10 [(5, .long z25), (0, .int zg), (1, .long wh), (3, .int pw), (4, .int mo), (7, .int z26), (8, .int hf), (9, .int rs)] → W p l e ({ frames := 1, cells := 0, slots := 0, locals := 22 }) s m (([.int zg, .long wh, .int pw, .int mo] : List Value).toArray) below meth c H locs 0 0 (MQ below (va_Ql (fun (r : Int64) (_ : Unit) => r = kX8_pack zg wh pw mo) (sp_B D vwCl A (fun (_ : Unit) => [])) A) ([.int zg, .long wh, .int pw, .int mo] : List Value).toArray s 0 0 A) (F0 m 166 ls []) := by
          intro z25 z26 H locs ls hz25 hz26 hP hD hS hl
          subst z25 z26
          exact hj31 ((kX8_pack_l91_166_z25 zg wh pw mo mm ee hf rs)) ((kX8_pack_l91_166_z26 zg wh pw mo mm ee hf rs)) _ _ _ (Eq.symm ((if_neg c2i).trans rfl)) (Eq.symm ((if_neg c2i).trans rfl)) (hP.sub [] rfl) (hD.sub [] (by decide) rfl) hS (lv_sub hl [1, 2, 3, 4, 0, 5, 6, 7] rfl)
        refine lv_if_ne (tgt := 143) hx hb dX8_pack_129 (by decide) (fun c4 => ?_) (fun c4 => ?_)
        · skip
          have c4i : ¬ (rs : Int32).toInt = 0 := fun h => c4 (Int32.toInt_inj.mp h)
          refine lv_lload hx hb dX8_pack_143 (lv_at hl 4 rfl) ?_
          refine lv_lconst (v := 1) hx hb dX8_pack_145 (by decide) ?_
          refine lv_ladd hx hb dX8_pack_146 ?_
          refine lv_lstore (lv' := [(5, .long (mm + 1)), (0, .int zg), (1, .long wh), (3, .int pw), (4, .int mo), (7, .int ee), (8, .int hf), (9, .int rs)]) hx hb dX8_pack_147 hl (by decide) rfl (fun ls hl => ?_)
          refine lv_lload hx hb dX8_pack_149 (lv_at hl 0 rfl) ?_
          refine lv_ldc2 (v := 16777216) hx hb hown (hts (.constantLong RX8 88 (16777216)) (oX8_pack_in _ (List.mem_of_getElem? (i := 2) rfl))) dX8_pack_151 ?_
          refine W.lcmp hx hb dX8_pack_154 ?_
          have hj10 : ∀ (z8 : Int64) (z9 : Int32) (H : Heap) (locs : List Loc) (ls : Array Slot), (z8 = kX8_pack_l91_166_z8 zg wh pw mo mm ee hf rs) → (z9 = kX8_pack_l91_166_z9 zg wh pw mo mm ee hf rs) → va_P D vwCl [] H → va_D A [] → va_S A s.heap H locs → lv_has ls 10 [(5, .long z8), (0, .int zg), (1, .long wh), (3, .int pw), (4, .int mo), (7, .int z9), (8, .int hf), (9, .int rs)] → W p l e ({ frames := 1, cells := 0, slots := 0, locals := 22 }) s m (([.int zg, .long wh, .int pw, .int mo] : List Value).toArray) below meth c H locs 0 0 (MQ below (va_Ql (fun (r : Int64) (_ : Unit) => r = kX8_pack zg wh pw mo) (sp_B D vwCl A (fun (_ : Unit) => [])) A) ([.int zg, .long wh, .int pw, .int mo] : List Value).toArray s 0 0 A) (F0 m 166 ls []) := by
            intro z8 z9 H locs ls hz8 hz9 hP hD hS hl
            subst z8 z9
            exact hj27 ((kX8_pack_l91_166_z8 zg wh pw mo mm ee hf rs)) ((kX8_pack_l91_166_z9 zg wh pw mo mm ee hf rs)) _ _ _ (Eq.symm ((if_neg c4i).trans rfl)) (Eq.symm ((if_neg c4i).trans rfl)) (hP.sub [] rfl) (hD.sub [] (by decide) rfl) hS (lv_sub hl [0, 1, 2, 3, 4, 5, 6, 7] rfl)
          refine lv_if_ne (tgt := 166) hx hb dX8_pack_155 (by decide) (fun c5 => ?_) (fun c5 => ?_)
          · skip
            have c5 := fun h => c5 ((lg_cmp_eq _ _).mpr h)
            have c5i : ¬ ((mm + 1) : Int64).toInt = 16777216 := fun h => c5 (Int64.toInt_inj.mp h)
            exact hj10 ((mm + 1)) (ee) _ _ _ (Eq.symm ((if_neg c5i).trans rfl)) (Eq.symm ((if_neg c5i).trans rfl)) (hP.sub [] rfl) (hD.sub [] (by decide) rfl) hS (lv_sub hl [0, 1, 2, 3, 4, 5, 6, 7] rfl)
          · skip
            have c5 := (lg_cmp_eq _ _).mp c5
            have c5i : ((mm + 1) : Int64).toInt = 16777216 := congrArg Int64.toInt c5
            refine lv_ldc2 (v := 8388608) hx hb hown (hts (.constantLong RX8 80 (8388608)) (oX8_pack_in _ (List.mem_of_getElem? (i := 0) rfl))) dX8_pack_158 ?_
            refine lv_lstore (lv' := [(5, .long 8388608), (0, .int zg), (1, .long wh), (3, .int pw), (4, .int mo), (7, .int ee), (8, .int hf), (9, .int rs)]) hx hb dX8_pack_161 hl (by decide) rfl (fun ls hl => ?_)
            refine lv_iinc (v := (ee + 1)) (lv' := [(7, .int (ee + 1)), (5, .long 8388608), (0, .int zg), (1, .long wh), (3, .int pw), (4, .int mo), (8, .int hf), (9, .int rs)]) hx hb dX8_pack_163 hl (k := 5) rfl rfl (by decide) rfl (fun ls hl => ?_)
            exact hj10 (8388608) ((ee + 1)) _ _ _ (Eq.symm ((if_pos c5i).trans rfl)) (Eq.symm ((if_pos c5i).trans rfl)) (hP.sub [] rfl) (hD.sub [] (by decide) rfl) hS (lv_sub hl [1, 2, 3, 4, 5, 0, 6, 7] rfl)
        · skip
          have c4i : (rs : Int32).toInt = 0 := congrArg Int32.toInt c4
          refine lv_lload hx hb dX8_pack_132 (lv_at hl 4 rfl) ?_
          refine lv_ldc2 (v := 2) hx hb hown (hts (.constantLong RX8 90 (2)) (oX8_pack_in _ (List.mem_of_getElem? (i := 1) rfl))) dX8_pack_134 ?_
          refine lv_lrem hx hb dX8_pack_137 (by decide) ?_
          refine lv_lconst (v := 1) hx hb dX8_pack_138 (by decide) ?_
          refine W.lcmp hx hb dX8_pack_139 ?_
          have hj23 : ∀ (z21 : Int64) (z22 : Int32) (H : Heap) (locs : List Loc) (ls : Array Slot), (z21 = kX8_pack_l91_166_z21 zg wh pw mo mm ee hf rs) → (z22 = kX8_pack_l91_166_z22 zg wh pw mo mm ee hf rs) → va_P D vwCl [] H → va_D A [] → va_S A s.heap H locs → lv_has ls 10 [(0, .int zg), (1, .long wh), (3, .int pw), (4, .int mo), (5, .long z21), (7, .int z22), (8, .int hf), (9, .int rs)] → W p l e ({ frames := 1, cells := 0, slots := 0, locals := 22 }) s m (([.int zg, .long wh, .int pw, .int mo] : List Value).toArray) below meth c H locs 0 0 (MQ below (va_Ql (fun (r : Int64) (_ : Unit) => r = kX8_pack zg wh pw mo) (sp_B D vwCl A (fun (_ : Unit) => [])) A) ([.int zg, .long wh, .int pw, .int mo] : List Value).toArray s 0 0 A) (F0 m 166 ls []) := by
            intro z21 z22 H locs ls hz21 hz22 hP hD hS hl
            subst z21 z22
            exact hj27 ((kX8_pack_l91_166_z21 zg wh pw mo mm ee hf rs)) ((kX8_pack_l91_166_z22 zg wh pw mo mm ee hf rs)) _ _ _ (Eq.symm ((if_pos c4i).trans rfl)) (Eq.symm ((if_pos c4i).trans rfl)) (hP.sub [] rfl) (hD.sub [] (by decide) rfl) hS (lv_sub hl [4, 0, 1, 2, 3, 5, 6, 7] rfl)
          refine lv_if_ne (tgt := 166) hx hb dX8_pack_140 (by decide) (fun c12 => ?_) (fun c12 => ?_)
          · skip
            have c12 := fun h => c12 ((lg_cmp_eq _ _).mpr h)
            have c12i : ¬ ((mm - mm / 2 * 2) : Int64).toInt = 1 := fun h => c12 (Int64.toInt_inj.mp h)
            exact hj23 (mm) (ee) _ _ _ (Eq.symm ((if_neg c12i).trans rfl)) (Eq.symm ((if_neg c12i).trans rfl)) (hP.sub [] rfl) (hD.sub [] (by decide) rfl) hS (lv_sub hl [0, 1, 2, 3, 4, 5, 6, 7] rfl)
          · skip
            have c12 := (lg_cmp_eq _ _).mp c12
            have c12i : ((mm - mm / 2 * 2) : Int64).toInt = 1 := congrArg Int64.toInt c12
            refine lv_lload hx hb dX8_pack_143 (lv_at hl 4 rfl) ?_
            refine lv_lconst (v := 1) hx hb dX8_pack_145 (by decide) ?_
            refine lv_ladd hx hb dX8_pack_146 ?_
            refine lv_lstore (lv' := [(5, .long (mm + 1)), (0, .int zg), (1, .long wh), (3, .int pw), (4, .int mo), (7, .int ee), (8, .int hf), (9, .int rs)]) hx hb dX8_pack_147 hl (by decide) rfl (fun ls hl => ?_)
            refine lv_lload hx hb dX8_pack_149 (lv_at hl 0 rfl) ?_
            refine lv_ldc2 (v := 16777216) hx hb hown (hts (.constantLong RX8 88 (16777216)) (oX8_pack_in _ (List.mem_of_getElem? (i := 2) rfl))) dX8_pack_151 ?_
            refine W.lcmp hx hb dX8_pack_154 ?_
            have hj19 : ∀ (z17 : Int64) (z18 : Int32) (H : Heap) (locs : List Loc) (ls : Array Slot), (z17 = kX8_pack_l91_166_z8 zg wh pw mo mm ee hf rs) → (z18 = kX8_pack_l91_166_z9 zg wh pw mo mm ee hf rs) → va_P D vwCl [] H → va_D A [] → va_S A s.heap H locs → lv_has ls 10 [(5, .long z17), (0, .int zg), (1, .long wh), (3, .int pw), (4, .int mo), (7, .int z18), (8, .int hf), (9, .int rs)] → W p l e ({ frames := 1, cells := 0, slots := 0, locals := 22 }) s m (([.int zg, .long wh, .int pw, .int mo] : List Value).toArray) below meth c H locs 0 0 (MQ below (va_Ql (fun (r : Int64) (_ : Unit) => r = kX8_pack zg wh pw mo) (sp_B D vwCl A (fun (_ : Unit) => [])) A) ([.int zg, .long wh, .int pw, .int mo] : List Value).toArray s 0 0 A) (F0 m 166 ls []) := by
              intro z17 z18 H locs ls hz17 hz18 hP hD hS hl
              subst z17 z18
              exact hj23 ((kX8_pack_l91_166_z8 zg wh pw mo mm ee hf rs)) ((kX8_pack_l91_166_z9 zg wh pw mo mm ee hf rs)) _ _ _ (Eq.symm ((if_pos c12i).trans rfl)) (Eq.symm ((if_pos c12i).trans rfl)) (hP.sub [] rfl) (hD.sub [] (by decide) rfl) hS (lv_sub hl [1, 2, 3, 4, 0, 5, 6, 7] rfl)
            refine lv_if_ne (tgt := 166) hx hb dX8_pack_155 (by decide) (fun c14 => ?_) (fun c14 => ?_)
            · skip
              have c14 := fun h => c14 ((lg_cmp_eq _ _).mpr h)
              have c14i : ¬ ((mm + 1) : Int64).toInt = 16777216 := fun h => c14 (Int64.toInt_inj.mp h)
              exact hj19 ((mm + 1)) (ee) _ _ _ (Eq.symm ((if_neg c14i).trans rfl)) (Eq.symm ((if_neg c14i).trans rfl)) (hP.sub [] rfl) (hD.sub [] (by decide) rfl) hS (lv_sub hl [0, 1, 2, 3, 4, 5, 6, 7] rfl)
            · skip
              have c14 := (lg_cmp_eq _ _).mp c14
              have c14i : ((mm + 1) : Int64).toInt = 16777216 := congrArg Int64.toInt c14
              refine lv_ldc2 (v := 8388608) hx hb hown (hts (.constantLong RX8 80 (8388608)) (oX8_pack_in _ (List.mem_of_getElem? (i := 0) rfl))) dX8_pack_158 ?_
              refine lv_lstore (lv' := [(5, .long 8388608), (0, .int zg), (1, .long wh), (3, .int pw), (4, .int mo), (7, .int ee), (8, .int hf), (9, .int rs)]) hx hb dX8_pack_161 hl (by decide) rfl (fun ls hl => ?_)
              refine lv_iinc (v := (ee + 1)) (lv' := [(7, .int (ee + 1)), (5, .long 8388608), (0, .int zg), (1, .long wh), (3, .int pw), (4, .int mo), (8, .int hf), (9, .int rs)]) hx hb dX8_pack_163 hl (k := 5) rfl rfl (by decide) rfl (fun ls hl => ?_)
              exact hj19 (8388608) ((ee + 1)) _ _ _ (Eq.symm ((if_pos c14i).trans rfl)) (Eq.symm ((if_pos c14i).trans rfl)) (hP.sub [] rfl) (hD.sub [] (by decide) rfl) hS (lv_sub hl [1, 2, 3, 4, 5, 0, 6, 7] rfl)
    · skip
      have c1 := fun h => c1 ((lg_cmp_ge _ _).mpr h)
      have c1i : ¬ 8388608 ≤ (mm : Int64).toInt := fun h => c1 (Int64.le_iff_toInt_le.mpr h)
      refine lv_iload hx hb dX8_pack_100 (lv_at hl 5 rfl) ?_
      refine lv_sipush (v := (-149)) hx hb dX8_pack_102 (by decide) ?_
      refine lv_icmp_le (tgt := 122) hx hb dX8_pack_105 (by decide) (fun c44 => ?_) (fun c44 => ?_)
      · skip
        have c44i : (ee : Int32).toInt ≤ (-149) := Int32.le_iff_toInt_le.mp c44
        refine lv_iload hx hb dX8_pack_122 (lv_at hl 6 rfl) ?_
        have hj76 : ∀ (z74 : Int64) (z75 : Int32) (H : Heap) (locs : List Loc) (ls : Array Slot), (z74 = kX8_pack_l91_166_z29 zg wh pw mo mm ee hf rs) → (z75 = kX8_pack_l91_166_z30 zg wh pw mo mm ee hf rs) → va_P D vwCl [] H → va_D A [] → va_S A s.heap H locs → lv_has ls 10 [(0, .int zg), (1, .long wh), (3, .int pw), (4, .int mo), (5, .long z74), (7, .int z75), (8, .int hf), (9, .int rs)] → W p l e ({ frames := 1, cells := 0, slots := 0, locals := 22 }) s m (([.int zg, .long wh, .int pw, .int mo] : List Value).toArray) below meth c H locs 0 0 (MQ below (va_Ql (fun (r : Int64) (_ : Unit) => r = kX8_pack zg wh pw mo) (sp_B D vwCl A (fun (_ : Unit) => [])) A) ([.int zg, .long wh, .int pw, .int mo] : List Value).toArray s 0 0 A) (F0 m 166 ls []) := by
          intro z74 z75 H locs ls hz74 hz75 hP hD hS hl
          subst z74 z75
          refine lv_iload hx hb dX8_pack_166 (lv_at hl 5 rfl) ?_
          refine lv_sipush (v := 150) hx hb dX8_pack_168 (by decide) ?_
          refine lv_iadd hx hb dX8_pack_171 ?_
          refine lv_sipush (v := 254) hx hb dX8_pack_172 (by decide) ?_
          refine lv_icmp_le (tgt := 186) hx hb dX8_pack_175 (by decide) (fun c77 => ?_) (fun c77 => ?_)
          · skip
            have c77i : (((kX8_pack_l91_166_z30 zg wh pw mo mm ee hf rs) + 150) : Int32).toInt ≤ 254 := Int32.le_iff_toInt_le.mp c77
            refine lv_iload_n hx hb dX8_pack_186 rfl (lv_at hl 0 rfl) ?_
            refine lv_lload hx hb dX8_pack_187 (lv_at hl 4 rfl) ?_
            refine lv_ldc2 (v := 8388608) hx hb hown (hts (.constantLong RX8 80 (8388608)) (oX8_pack_in _ (List.mem_of_getElem? (i := 0) rfl))) dX8_pack_189 ?_
            refine W.lcmp hx hb dX8_pack_192 ?_
            have hj82 : ∀ (z81 : Int64) (H : Heap) (locs : List Loc) (ls : Array Slot), (z81 = kX8_pack_l91_219_z36 zg wh pw mo mm ee hf rs) → va_P D vwCl [] H → va_D A [] → va_S A s.heap H locs → lv_has ls 10 [(0, .int zg), (1, .long wh), (3, .int pw), (4, .int mo), (5, .long (kX8_pack_l91_166_z29 zg wh pw mo mm ee hf rs)), (7, .int (kX8_pack_l91_166_z30 zg wh pw mo mm ee hf rs)), (8, .int hf), (9, .int rs)] → W p l e ({ frames := 1, cells := 0, slots := 0, locals := 22 }) s m (([.int zg, .long wh, .int pw, .int mo] : List Value).toArray) below meth c H locs 0 0 (MQ below (va_Ql (fun (r : Int64) (_ : Unit) => r = kX8_pack zg wh pw mo) (sp_B D vwCl A (fun (_ : Unit) => [])) A) ([.int zg, .long wh, .int pw, .int mo] : List Value).toArray s 0 0 A) (F0 m 219 ls [.long z81, .int zg]) := by
              intro z81 H locs ls hz81 hP hD hS hl
              subst z81
              refine sp_callj (wr := []) (wc := []) hP hD hS hA [] [] rfl rfl (by decide) (by decide) (va_runS (As := [.int zg, .long (kX8_pack_l91_219_z36 zg wh pw mo mm ee hf rs)]) (rest := []) ⟨hx, hb, hml, hown, hts⟩ (c_X8_placeOf l D cI cJ cZ H.size zg (kX8_pack_l91_219_z36 zg wh pw mo mm ee hf rs)) (va_cwS 2 hts gX8_pack_X8_placeOf_84 rfl rfl rfl (by decide +kernel) ⟨Nat.le_of_ble_eq_true rfl, Nat.le_of_ble_eq_true rfl⟩) (sp_preS [.int zg, .long (kX8_pack_l91_219_z36 zg wh pw mo mm ee hf rs)] hK (hP.sub (ws' := []) [] rfl) (hD.sub (ws' := []) [] (by decide) rfl)) rfl rfl hl.1 rfl (lv_room (Nat.le_of_ble_eq_true rfl)) dX8_pack_219 ⟨Nat.le_of_ble_eq_true rfl, Nat.le_of_ble_eq_true rfl⟩) (fun r83 u84 H locs hw85 hP hD hS => ?_)
              have hq_85_0 : r83 = (kX8_placeOf zg (kX8_pack_l91_219_z36 zg wh pw mo mm ee hf rs)) := hw85
              subst r83
              have hP : va_P D vwCl [] H := hP
              have hD : va_D A [] := hD
              refine W.widen (k := 0) (n := 0) (by decide) (by decide) ?_
              exact sp_lret (u := ()) hx hb hr hlocks hS (Eq.symm (hk_r.trans ((if_neg c1i).trans ((if_pos c44i).trans ((if_pos c77i).trans rfl))))) (hP.sub [] rfl) (hD.sub [] (by decide) rfl) dX8_pack_222
            refine lv_if_ge (tgt := 201) hx hb dX8_pack_193 (by decide) (fun c78 => ?_) (fun c78 => ?_)
            · skip
              have c78 := (lg_cmp_ge _ _).mp c78
              have c78i : 8388608 ≤ ((kX8_pack_l91_166_z29 zg wh pw mo mm ee hf rs) : Int64).toInt := Int64.le_iff_toInt_le.mp c78
              refine lv_iload hx hb dX8_pack_201 (lv_at hl 5 rfl) ?_
              refine lv_i2l (v := _) hx hb dX8_pack_203 rfl ?_
              refine lv_ldc2 (v := 150) hx hb hown (hts (.constantLong RX8 92 (150)) (oX8_pack_in _ (List.mem_of_getElem? (i := 3) rfl))) dX8_pack_204 ?_
              refine lv_ladd hx hb dX8_pack_207 ?_
              refine lv_ldc2 (v := 8388608) hx hb hown (hts (.constantLong RX8 80 (8388608)) (oX8_pack_in _ (List.mem_of_getElem? (i := 0) rfl))) dX8_pack_208 ?_
              refine lv_lmul hx hb dX8_pack_211 ?_
              refine lv_lload hx hb dX8_pack_212 (lv_at hl 4 rfl) ?_
              refine lv_ladd hx hb dX8_pack_214 ?_
              refine lv_ldc2 (v := 8388608) hx hb hown (hts (.constantLong RX8 80 (8388608)) (oX8_pack_in _ (List.mem_of_getElem? (i := 0) rfl))) dX8_pack_215 ?_
              refine lv_lsub hx hb dX8_pack_218 ?_
              exact hj82 (((((((kX8_pack_l91_166_z30 zg wh pw mo mm ee hf rs) : Int32).toInt64 + 150) * 8388608) + (kX8_pack_l91_166_z29 zg wh pw mo mm ee hf rs)) - 8388608)) _ _ _ (Eq.symm ((if_pos c78i).trans rfl)) (hP.sub [] rfl) (hD.sub [] (by decide) rfl) hS (lv_sub hl [0, 1, 2, 3, 4, 5, 6, 7] rfl)
            · skip
              have c78 := fun h => c78 ((lg_cmp_ge _ _).mpr h)
              have c78i : ¬ 8388608 ≤ ((kX8_pack_l91_166_z29 zg wh pw mo mm ee hf rs) : Int64).toInt := fun h => c78 (Int64.le_iff_toInt_le.mpr h)
              refine lv_lload hx hb dX8_pack_196 (lv_at hl 4 rfl) ?_
              refine lv_goto (tgt := 219) hx hb dX8_pack_198 (by decide) ?_
              exact hj82 ((kX8_pack_l91_166_z29 zg wh pw mo mm ee hf rs)) _ _ _ (Eq.symm ((if_neg c78i).trans rfl)) (hP.sub [] rfl) (hD.sub [] (by decide) rfl) hS (lv_sub hl [0, 1, 2, 3, 4, 5, 6, 7] rfl)
          · skip
            have c77i : ¬ (((kX8_pack_l91_166_z30 zg wh pw mo mm ee hf rs) + 150) : Int32).toInt ≤ 254 := fun h => c77 (Int32.le_iff_toInt_le.mpr h)
            refine lv_iload_n hx hb dX8_pack_178 rfl (lv_at hl 0 rfl) ?_
            refine lv_ldc2 (v := 2139095040) hx hb hown (hts (.constantLong RX8 68 (2139095040)) (oX8_pack_in _ (List.mem_of_getElem? (i := 4) rfl))) dX8_pack_179 ?_
            refine sp_callj (wr := []) (wc := []) hP hD hS hA [] [] rfl rfl (by decide) (by decide) (va_runS (As := [.int zg, .long 2139095040]) (rest := []) ⟨hx, hb, hml, hown, hts⟩ (c_X8_placeOf l D cI cJ cZ H.size zg 2139095040) (va_cwS 2 hts gX8_pack_X8_placeOf_84 rfl rfl rfl (by decide +kernel) ⟨Nat.le_of_ble_eq_true rfl, Nat.le_of_ble_eq_true rfl⟩) (sp_preS [.int zg, .long 2139095040] hK (hP.sub (ws' := []) [] rfl) (hD.sub (ws' := []) [] (by decide) rfl)) rfl rfl hl.1 rfl (lv_room (Nat.le_of_ble_eq_true rfl)) dX8_pack_182 ⟨Nat.le_of_ble_eq_true rfl, Nat.le_of_ble_eq_true rfl⟩) (fun r86 u87 H locs hw88 hP hD hS => ?_)
            have hq_88_0 : r86 = (kX8_placeOf zg 2139095040) := hw88
            subst r86
            have hP : va_P D vwCl [] H := hP
            have hD : va_D A [] := hD
            refine W.widen (k := 0) (n := 0) (by decide) (by decide) ?_
            exact sp_lret (u := ()) hx hb hr hlocks hS (Eq.symm (hk_r.trans ((if_neg c1i).trans ((if_pos c44i).trans ((if_neg c77i).trans rfl))))) (hP.sub [] rfl) (hD.sub [] (by decide) rfl) dX8_pack_185
        refine lv_if_eq (tgt := 166) hx hb dX8_pack_124 (by decide) (fun c47 => ?_) (fun c47 => ?_)
        · skip
          have c47i : (hf : Int32).toInt = 0 := congrArg Int32.toInt c47
          exact hj76 (mm) (ee) _ _ _ (Eq.symm ((if_pos c47i).trans rfl)) (Eq.symm ((if_pos c47i).trans rfl)) (hP.sub [] rfl) (hD.sub [] (by decide) rfl) hS (lv_sub hl [0, 1, 2, 3, 4, 5, 6, 7] rfl)
        · skip
          have c47i : ¬ (hf : Int32).toInt = 0 := fun h => c47 (Int32.toInt_inj.mp h)
          refine lv_iload hx hb dX8_pack_127 (lv_at hl 7 rfl) ?_
          have hj72 : ∀ (z70 : Int64) (z71 : Int32) (H : Heap) (locs : List Loc) (ls : Array Slot), (z70 = kX8_pack_l91_166_z25 zg wh pw mo mm ee hf rs) → (z71 = kX8_pack_l91_166_z26 zg wh pw mo mm ee hf rs) → va_P D vwCl [] H → va_D A [] → va_S A s.heap H locs → lv_has ls 10 [(5, .long z70), (0, .int zg), (1, .long wh), (3, .int pw), (4, .int mo), (7, .int z71), (8, .int hf), (9, .int rs)] → W p l e ({ frames := 1, cells := 0, slots := 0, locals := 22 }) s m (([.int zg, .long wh, .int pw, .int mo] : List Value).toArray) below meth c H locs 0 0 (MQ below (va_Ql (fun (r : Int64) (_ : Unit) => r = kX8_pack zg wh pw mo) (sp_B D vwCl A (fun (_ : Unit) => [])) A) ([.int zg, .long wh, .int pw, .int mo] : List Value).toArray s 0 0 A) (F0 m 166 ls []) := by
            intro z70 z71 H locs ls hz70 hz71 hP hD hS hl
            subst z70 z71
            exact hj76 ((kX8_pack_l91_166_z25 zg wh pw mo mm ee hf rs)) ((kX8_pack_l91_166_z26 zg wh pw mo mm ee hf rs)) _ _ _ (Eq.symm ((if_neg c47i).trans rfl)) (Eq.symm ((if_neg c47i).trans rfl)) (hP.sub [] rfl) (hD.sub [] (by decide) rfl) hS (lv_sub hl [1, 2, 3, 4, 0, 5, 6, 7] rfl)
          refine lv_if_ne (tgt := 143) hx hb dX8_pack_129 (by decide) (fun c49 => ?_) (fun c49 => ?_)
          · skip
            have c49i : ¬ (rs : Int32).toInt = 0 := fun h => c49 (Int32.toInt_inj.mp h)
            refine lv_lload hx hb dX8_pack_143 (lv_at hl 4 rfl) ?_
            refine lv_lconst (v := 1) hx hb dX8_pack_145 (by decide) ?_
            refine lv_ladd hx hb dX8_pack_146 ?_
            refine lv_lstore (lv' := [(5, .long (mm + 1)), (0, .int zg), (1, .long wh), (3, .int pw), (4, .int mo), (7, .int ee), (8, .int hf), (9, .int rs)]) hx hb dX8_pack_147 hl (by decide) rfl (fun ls hl => ?_)
            refine lv_lload hx hb dX8_pack_149 (lv_at hl 0 rfl) ?_
            refine lv_ldc2 (v := 16777216) hx hb hown (hts (.constantLong RX8 88 (16777216)) (oX8_pack_in _ (List.mem_of_getElem? (i := 2) rfl))) dX8_pack_151 ?_
            refine W.lcmp hx hb dX8_pack_154 ?_
            have hj55 : ∀ (z53 : Int64) (z54 : Int32) (H : Heap) (locs : List Loc) (ls : Array Slot), (z53 = kX8_pack_l91_166_z8 zg wh pw mo mm ee hf rs) → (z54 = kX8_pack_l91_166_z9 zg wh pw mo mm ee hf rs) → va_P D vwCl [] H → va_D A [] → va_S A s.heap H locs → lv_has ls 10 [(5, .long z53), (0, .int zg), (1, .long wh), (3, .int pw), (4, .int mo), (7, .int z54), (8, .int hf), (9, .int rs)] → W p l e ({ frames := 1, cells := 0, slots := 0, locals := 22 }) s m (([.int zg, .long wh, .int pw, .int mo] : List Value).toArray) below meth c H locs 0 0 (MQ below (va_Ql (fun (r : Int64) (_ : Unit) => r = kX8_pack zg wh pw mo) (sp_B D vwCl A (fun (_ : Unit) => [])) A) ([.int zg, .long wh, .int pw, .int mo] : List Value).toArray s 0 0 A) (F0 m 166 ls []) := by
              intro z53 z54 H locs ls hz53 hz54 hP hD hS hl
              subst z53 z54
              exact hj72 ((kX8_pack_l91_166_z8 zg wh pw mo mm ee hf rs)) ((kX8_pack_l91_166_z9 zg wh pw mo mm ee hf rs)) _ _ _ (Eq.symm ((if_neg c49i).trans rfl)) (Eq.symm ((if_neg c49i).trans rfl)) (hP.sub [] rfl) (hD.sub [] (by decide) rfl) hS (lv_sub hl [0, 1, 2, 3, 4, 5, 6, 7] rfl)
            refine lv_if_ne (tgt := 166) hx hb dX8_pack_155 (by decide) (fun c50 => ?_) (fun c50 => ?_)
            · skip
              have c50 := fun h => c50 ((lg_cmp_eq _ _).mpr h)
              have c50i : ¬ ((mm + 1) : Int64).toInt = 16777216 := fun h => c50 (Int64.toInt_inj.mp h)
              exact hj55 ((mm + 1)) (ee) _ _ _ (Eq.symm ((if_neg c50i).trans rfl)) (Eq.symm ((if_neg c50i).trans rfl)) (hP.sub [] rfl) (hD.sub [] (by decide) rfl) hS (lv_sub hl [0, 1, 2, 3, 4, 5, 6, 7] rfl)
            · skip
              have c50 := (lg_cmp_eq _ _).mp c50
              have c50i : ((mm + 1) : Int64).toInt = 16777216 := congrArg Int64.toInt c50
              refine lv_ldc2 (v := 8388608) hx hb hown (hts (.constantLong RX8 80 (8388608)) (oX8_pack_in _ (List.mem_of_getElem? (i := 0) rfl))) dX8_pack_158 ?_
              refine lv_lstore (lv' := [(5, .long 8388608), (0, .int zg), (1, .long wh), (3, .int pw), (4, .int mo), (7, .int ee), (8, .int hf), (9, .int rs)]) hx hb dX8_pack_161 hl (by decide) rfl (fun ls hl => ?_)
              refine lv_iinc (v := (ee + 1)) (lv' := [(7, .int (ee + 1)), (5, .long 8388608), (0, .int zg), (1, .long wh), (3, .int pw), (4, .int mo), (8, .int hf), (9, .int rs)]) hx hb dX8_pack_163 hl (k := 5) rfl rfl (by decide) rfl (fun ls hl => ?_)
              exact hj55 (8388608) ((ee + 1)) _ _ _ (Eq.symm ((if_pos c50i).trans rfl)) (Eq.symm ((if_pos c50i).trans rfl)) (hP.sub [] rfl) (hD.sub [] (by decide) rfl) hS (lv_sub hl [1, 2, 3, 4, 5, 0, 6, 7] rfl)
          · skip
            have c49i : (rs : Int32).toInt = 0 := congrArg Int32.toInt c49
            refine lv_lload hx hb dX8_pack_132 (lv_at hl 4 rfl) ?_
            refine lv_ldc2 (v := 2) hx hb hown (hts (.constantLong RX8 90 (2)) (oX8_pack_in _ (List.mem_of_getElem? (i := 1) rfl))) dX8_pack_134 ?_
            refine lv_lrem hx hb dX8_pack_137 (by decide) ?_
            refine lv_lconst (v := 1) hx hb dX8_pack_138 (by decide) ?_
            refine W.lcmp hx hb dX8_pack_139 ?_
            have hj68 : ∀ (z66 : Int64) (z67 : Int32) (H : Heap) (locs : List Loc) (ls : Array Slot), (z66 = kX8_pack_l91_166_z21 zg wh pw mo mm ee hf rs) → (z67 = kX8_pack_l91_166_z22 zg wh pw mo mm ee hf rs) → va_P D vwCl [] H → va_D A [] → va_S A s.heap H locs → lv_has ls 10 [(0, .int zg), (1, .long wh), (3, .int pw), (4, .int mo), (5, .long z66), (7, .int z67), (8, .int hf), (9, .int rs)] → W p l e ({ frames := 1, cells := 0, slots := 0, locals := 22 }) s m (([.int zg, .long wh, .int pw, .int mo] : List Value).toArray) below meth c H locs 0 0 (MQ below (va_Ql (fun (r : Int64) (_ : Unit) => r = kX8_pack zg wh pw mo) (sp_B D vwCl A (fun (_ : Unit) => [])) A) ([.int zg, .long wh, .int pw, .int mo] : List Value).toArray s 0 0 A) (F0 m 166 ls []) := by
              intro z66 z67 H locs ls hz66 hz67 hP hD hS hl
              subst z66 z67
              exact hj72 ((kX8_pack_l91_166_z21 zg wh pw mo mm ee hf rs)) ((kX8_pack_l91_166_z22 zg wh pw mo mm ee hf rs)) _ _ _ (Eq.symm ((if_pos c49i).trans rfl)) (Eq.symm ((if_pos c49i).trans rfl)) (hP.sub [] rfl) (hD.sub [] (by decide) rfl) hS (lv_sub hl [4, 0, 1, 2, 3, 5, 6, 7] rfl)
            refine lv_if_ne (tgt := 166) hx hb dX8_pack_140 (by decide) (fun c57 => ?_) (fun c57 => ?_)
            · skip
              have c57 := fun h => c57 ((lg_cmp_eq _ _).mpr h)
              have c57i : ¬ ((mm - mm / 2 * 2) : Int64).toInt = 1 := fun h => c57 (Int64.toInt_inj.mp h)
              exact hj68 (mm) (ee) _ _ _ (Eq.symm ((if_neg c57i).trans rfl)) (Eq.symm ((if_neg c57i).trans rfl)) (hP.sub [] rfl) (hD.sub [] (by decide) rfl) hS (lv_sub hl [0, 1, 2, 3, 4, 5, 6, 7] rfl)
            · skip
              have c57 := (lg_cmp_eq _ _).mp c57
              have c57i : ((mm - mm / 2 * 2) : Int64).toInt = 1 := congrArg Int64.toInt c57
              refine lv_lload hx hb dX8_pack_143 (lv_at hl 4 rfl) ?_
              refine lv_lconst (v := 1) hx hb dX8_pack_145 (by decide) ?_
              refine lv_ladd hx hb dX8_pack_146 ?_
              refine lv_lstore (lv' := [(5, .long (mm + 1)), (0, .int zg), (1, .long wh), (3, .int pw), (4, .int mo), (7, .int ee), (8, .int hf), (9, .int rs)]) hx hb dX8_pack_147 hl (by decide) rfl (fun ls hl => ?_)
              refine lv_lload hx hb dX8_pack_149 (lv_at hl 0 rfl) ?_
              refine lv_ldc2 (v := 16777216) hx hb hown (hts (.constantLong RX8 88 (16777216)) (oX8_pack_in _ (List.mem_of_getElem? (i := 2) rfl))) dX8_pack_151 ?_
              refine W.lcmp hx hb dX8_pack_154 ?_
              have hj64 : ∀ (z62 : Int64) (z63 : Int32) (H : Heap) (locs : List Loc) (ls : Array Slot), (z62 = kX8_pack_l91_166_z8 zg wh pw mo mm ee hf rs) → (z63 = kX8_pack_l91_166_z9 zg wh pw mo mm ee hf rs) → va_P D vwCl [] H → va_D A [] → va_S A s.heap H locs → lv_has ls 10 [(5, .long z62), (0, .int zg), (1, .long wh), (3, .int pw), (4, .int mo), (7, .int z63), (8, .int hf), (9, .int rs)] → W p l e ({ frames := 1, cells := 0, slots := 0, locals := 22 }) s m (([.int zg, .long wh, .int pw, .int mo] : List Value).toArray) below meth c H locs 0 0 (MQ below (va_Ql (fun (r : Int64) (_ : Unit) => r = kX8_pack zg wh pw mo) (sp_B D vwCl A (fun (_ : Unit) => [])) A) ([.int zg, .long wh, .int pw, .int mo] : List Value).toArray s 0 0 A) (F0 m 166 ls []) := by
                intro z62 z63 H locs ls hz62 hz63 hP hD hS hl
                subst z62 z63
                exact hj68 ((kX8_pack_l91_166_z8 zg wh pw mo mm ee hf rs)) ((kX8_pack_l91_166_z9 zg wh pw mo mm ee hf rs)) _ _ _ (Eq.symm ((if_pos c57i).trans rfl)) (Eq.symm ((if_pos c57i).trans rfl)) (hP.sub [] rfl) (hD.sub [] (by decide) rfl) hS (lv_sub hl [1, 2, 3, 4, 0, 5, 6, 7] rfl)
              refine lv_if_ne (tgt := 166) hx hb dX8_pack_155 (by decide) (fun c59 => ?_) (fun c59 => ?_)
              · skip
                have c59 := fun h => c59 ((lg_cmp_eq _ _).mpr h)
                have c59i : ¬ ((mm + 1) : Int64).toInt = 16777216 := fun h => c59 (Int64.toInt_inj.mp h)
                exact hj64 ((mm + 1)) (ee) _ _ _ (Eq.symm ((if_neg c59i).trans rfl)) (Eq.symm ((if_neg c59i).trans rfl)) (hP.sub [] rfl) (hD.sub [] (by decide) rfl) hS (lv_sub hl [0, 1, 2, 3, 4, 5, 6, 7] rfl)
              · skip
                have c59 := (lg_cmp_eq _ _).mp c59
                have c59i : ((mm + 1) : Int64).toInt = 16777216 := congrArg Int64.toInt c59
                refine lv_ldc2 (v := 8388608) hx hb hown (hts (.constantLong RX8 80 (8388608)) (oX8_pack_in _ (List.mem_of_getElem? (i := 0) rfl))) dX8_pack_158 ?_
                refine lv_lstore (lv' := [(5, .long 8388608), (0, .int zg), (1, .long wh), (3, .int pw), (4, .int mo), (7, .int ee), (8, .int hf), (9, .int rs)]) hx hb dX8_pack_161 hl (by decide) rfl (fun ls hl => ?_)
                refine lv_iinc (v := (ee + 1)) (lv' := [(7, .int (ee + 1)), (5, .long 8388608), (0, .int zg), (1, .long wh), (3, .int pw), (4, .int mo), (8, .int hf), (9, .int rs)]) hx hb dX8_pack_163 hl (k := 5) rfl rfl (by decide) rfl (fun ls hl => ?_)
                exact hj64 (8388608) ((ee + 1)) _ _ _ (Eq.symm ((if_pos c59i).trans rfl)) (Eq.symm ((if_pos c59i).trans rfl)) (hP.sub [] rfl) (hD.sub [] (by decide) rfl) hS (lv_sub hl [1, 2, 3, 4, 5, 0, 6, 7] rfl)
      · skip
        have c44i : ¬ (ee : Int32).toInt ≤ (-149) := fun h => c44 (Int32.le_iff_toInt_le.mpr h)
        refine lv_lload hx hb dX8_pack_108 (lv_at hl 4 rfl) ?_
        refine lv_ldc2 (v := 2) hx hb hown (hts (.constantLong RX8 90 (2)) (oX8_pack_in _ (List.mem_of_getElem? (i := 1) rfl))) dX8_pack_110 ?_
        refine lv_lmul hx hb dX8_pack_113 ?_
        refine lv_lstore (lv' := [(5, .long (mm * 2)), (0, .int zg), (1, .long wh), (3, .int pw), (4, .int mo), (7, .int ee), (8, .int hf), (9, .int rs)]) hx hb dX8_pack_114 hl (by decide) rfl (fun ls hl => ?_)
        refine lv_iinc (v := (ee + (-1))) (lv' := [(7, .int (ee + (-1))), (5, .long (mm * 2)), (0, .int zg), (1, .long wh), (3, .int pw), (4, .int mo), (8, .int hf), (9, .int rs)]) hx hb dX8_pack_116 hl (k := 5) rfl rfl (by decide) rfl (fun ls hl => ?_)
        have ii46 : ((ee + (-1)) : Int32).toInt = (ee : Int32).toInt + (-1) := px_iadd (show -2147483648 ≤ (ee : Int32).toInt + (-1) by omega) (show (ee : Int32).toInt + (-1) < 2147483648 by omega)
        refine lv_goto (tgt := 91) hx hb dX8_pack_119 (by decide) ?_
        have hq2 := px_rng ((ee + (-1)))
        exact ih ((mm * 2)) ((ee + (-1))) (hf) (rs) _ _ _ (hk_r.trans ((if_neg c1i).trans ((if_neg c44i).trans rfl))) (by omega) (hP.sub [] rfl) (hD.sub [] (by decide) rfl) hS (lv_sub hl [2, 3, 4, 5, 1, 0, 6, 7] rfl)
set_option maxHeartbeats 4000000 in
set_option maxRecDepth 100000 in
theorem lp_X8_pack_25 {p : Program} {e : Env} {s : State} {m : MethodId} {below : List Frame} {meth : Method} {c : Code} {A : Nat → Prop} (l : Launch) (D : va_G) (cI cJ cZ : ClassId) (zg : Int32) (wh : Int64) (pw : Int32) (mo : Int32) (C0 : sp_C cX8_pack (some .long) 10 wpX8_pack yX8_pack.cls yX8_pack.name p s m ([.int zg, .long wh, .int pw, .int mo] : List Value).toArray meth c) (hA : ∀ q : Nat, s.heap.size ≤ q → A q) (hK : va_K D vwCl [(cI, .int), (cJ, .long), (cZ, .boolean)] s) :
    ∀ (fuel : Nat) (mm : Int64) (ee : Int32) (hf : Int32) (rs : Int32) (H : Heap) (locs : List Loc) (ls : Array Slot), (kX8_pack zg wh pw mo = kX8_pack_l25 fuel zg wh pw mo mm ee hf rs) → ((if (mm : Int64).toInt < 0 then 0 else (mm : Int64).toInt) * 4294967296 + (if (ee : Int32).toInt < -149 then -149 - (ee : Int32).toInt else 0) < (fuel : Int)) → va_P D vwCl [] H → va_D A [] → va_S A s.heap H locs → lv_has ls 10 [(0, .int zg), (1, .long wh), (3, .int pw), (4, .int mo), (5, .long mm), (7, .int ee), (8, .int hf), (9, .int rs)] → W p l e ({ frames := 1, cells := 0, slots := 0, locals := 22 }) s m (([.int zg, .long wh, .int pw, .int mo] : List Value).toArray) below meth c H locs 0 0 (MQ below (va_Ql (fun (r : Int64) (_ : Unit) => r = kX8_pack zg wh pw mo) (sp_B D vwCl A (fun (_ : Unit) => [])) A) ([.int zg, .long wh, .int pw, .int mo] : List Value).toArray s 0 0 A) (F0 m 25 ls []) := by
  obtain ⟨hx, hb, hr, hts, hown, hlocks, hml, hin⟩ := id C0
  have hown : s.vm.findClass RX8 = some m.cls := hown
  intro fuel
  induction fuel with
  | zero =>
    intro mm ee hf rs H locs ls hk_r hm
    exact absurd hm (by omega)
  | succ fuel ih =>
    intro mm ee hf rs H locs ls hk_r hm hP hD hS hl
    have hrg := px_rng ee
    have hrm := px_lrng mm
    refine lv_lload hx hb dX8_pack_25 (lv_at hl 4 rfl) ?_
    refine lv_ldc2 (v := 16777216) hx hb hown (hts (.constantLong RX8 88 (16777216)) (oX8_pack_in _ (List.mem_of_getElem? (i := 2) rfl))) dX8_pack_27 ?_
    refine W.lcmp hx hb dX8_pack_30 ?_
    refine lv_if_ge (tgt := 42) hx hb dX8_pack_31 (by decide) (fun c1 => ?_) (fun c1 => ?_)
    · skip
      have c1 := (lg_cmp_ge _ _).mp c1
      have c1i : 16777216 ≤ (mm : Int64).toInt := Int64.le_iff_toInt_le.mp c1
      refine lv_iload hx hb dX8_pack_42 (lv_at hl 7 rfl) ?_
      have hj11 : ∀ (z10 : Int32) (H : Heap) (locs : List Loc) (ls : Array Slot), (z10 = kX8_pack_l25_57_z10 zg wh pw mo mm ee hf rs) → va_P D vwCl [] H → va_D A [] → va_S A s.heap H locs → lv_has ls 10 [(0, .int zg), (1, .long wh), (3, .int pw), (4, .int mo), (5, .long mm), (7, .int ee), (8, .int hf), (9, .int rs)] → W p l e ({ frames := 1, cells := 0, slots := 0, locals := 22 }) s m (([.int zg, .long wh, .int pw, .int mo] : List Value).toArray) below meth c H locs 0 0 (MQ below (va_Ql (fun (r : Int64) (_ : Unit) => r = kX8_pack zg wh pw mo) (sp_B D vwCl A (fun (_ : Unit) => [])) A) ([.int zg, .long wh, .int pw, .int mo] : List Value).toArray s 0 0 A) (F0 m 57 ls [.int z10]) := by
        intro z10 H locs ls hz10 hP hD hS hl
        subst z10
        refine lv_istore (lv' := [(9, .int (kX8_pack_l25_57_z10 zg wh pw mo mm ee hf rs)), (0, .int zg), (1, .long wh), (3, .int pw), (4, .int mo), (5, .long mm), (7, .int ee), (8, .int hf)]) hx hb dX8_pack_57 hl (by decide) rfl (fun ls hl => ?_)
        refine lv_lload hx hb dX8_pack_59 (lv_at hl 5 rfl) ?_
        refine lv_ldc2 (v := 2) hx hb hown (hts (.constantLong RX8 90 (2)) (oX8_pack_in _ (List.mem_of_getElem? (i := 1) rfl))) dX8_pack_61 ?_
        refine lv_lrem hx hb dX8_pack_64 (by decide) ?_
        refine lv_lconst (v := 1) hx hb dX8_pack_65 (by decide) ?_
        refine W.lcmp hx hb dX8_pack_66 ?_
        have hj16 : ∀ (z15 : Int32) (H : Heap) (locs : List Loc) (ls : Array Slot), (z15 = kX8_pack_l25_75_z15 zg wh pw mo mm ee hf rs) → va_P D vwCl [] H → va_D A [] → va_S A s.heap H locs → lv_has ls 10 [(9, .int (kX8_pack_l25_57_z10 zg wh pw mo mm ee hf rs)), (0, .int zg), (1, .long wh), (3, .int pw), (4, .int mo), (5, .long mm), (7, .int ee), (8, .int hf)] → W p l e ({ frames := 1, cells := 0, slots := 0, locals := 22 }) s m (([.int zg, .long wh, .int pw, .int mo] : List Value).toArray) below meth c H locs 0 0 (MQ below (va_Ql (fun (r : Int64) (_ : Unit) => r = kX8_pack zg wh pw mo) (sp_B D vwCl A (fun (_ : Unit) => [])) A) ([.int zg, .long wh, .int pw, .int mo] : List Value).toArray s 0 0 A) (F0 m 75 ls [.int z15]) := by
          intro z15 H locs ls hz15 hP hD hS hl
          subst z15
          refine lv_istore (lv' := [(8, .int (kX8_pack_l25_75_z15 zg wh pw mo mm ee hf rs)), (9, .int (kX8_pack_l25_57_z10 zg wh pw mo mm ee hf rs)), (0, .int zg), (1, .long wh), (3, .int pw), (4, .int mo), (5, .long mm), (7, .int ee)]) hx hb dX8_pack_75 hl (by decide) rfl (fun ls hl => ?_)
          refine lv_lload hx hb dX8_pack_77 (lv_at hl 6 rfl) ?_
          refine lv_ldc2 (v := 2) hx hb hown (hts (.constantLong RX8 90 (2)) (oX8_pack_in _ (List.mem_of_getElem? (i := 1) rfl))) dX8_pack_79 ?_
          refine lv_ldiv hx hb dX8_pack_82 (by decide) ?_
          refine lv_lstore (lv' := [(5, .long (mm / 2)), (8, .int (kX8_pack_l25_75_z15 zg wh pw mo mm ee hf rs)), (9, .int (kX8_pack_l25_57_z10 zg wh pw mo mm ee hf rs)), (0, .int zg), (1, .long wh), (3, .int pw), (4, .int mo), (7, .int ee)]) hx hb dX8_pack_83 hl (by decide) rfl (fun ls hl => ?_)
          refine lv_iinc (v := (ee + 1)) (lv' := [(7, .int (ee + 1)), (5, .long (mm / 2)), (8, .int (kX8_pack_l25_75_z15 zg wh pw mo mm ee hf rs)), (9, .int (kX8_pack_l25_57_z10 zg wh pw mo mm ee hf rs)), (0, .int zg), (1, .long wh), (3, .int pw), (4, .int mo)]) hx hb dX8_pack_85 hl (k := 7) rfl rfl (by decide) rfl (fun ls hl => ?_)
          refine lv_goto (tgt := 25) hx hb dX8_pack_88 (by decide) ?_
          have hq1 := px_lrng ((mm / 2))
          have hq2 := px_rng ((ee + 1))
          have hq3 := px_half mm
          have hq4 : (ee : Int32).toInt < -149 → ((ee + 1) : Int32).toInt = (ee : Int32).toInt + 1 := fun h => sp_inc (by omega)
          exact ih ((mm / 2)) ((ee + 1)) ((kX8_pack_l25_75_z15 zg wh pw mo mm ee hf rs)) ((kX8_pack_l25_57_z10 zg wh pw mo mm ee hf rs)) _ _ _ (hk_r.trans ((if_pos c1i).trans rfl)) (by omega) (hP.sub [] rfl) (hD.sub [] (by decide) rfl) hS (lv_sub hl [4, 5, 6, 7, 1, 0, 2, 3] rfl)
        refine lv_if_ne (tgt := 74) hx hb dX8_pack_67 (by decide) (fun c12 => ?_) (fun c12 => ?_)
        · skip
          have c12 := fun h => c12 ((lg_cmp_eq _ _).mpr h)
          have c12i : ¬ ((mm - mm / 2 * 2) : Int64).toInt = 1 := fun h => c12 (Int64.toInt_inj.mp h)
          refine lv_iconst (v := 0) hx hb dX8_pack_74 (by decide) ?_
          exact hj16 (0) _ _ _ (Eq.symm ((if_neg c12i).trans rfl)) (hP.sub [] rfl) (hD.sub [] (by decide) rfl) hS (lv_sub hl [0, 1, 2, 3, 4, 5, 6, 7] rfl)
        · skip
          have c12 := (lg_cmp_eq _ _).mp c12
          have c12i : ((mm - mm / 2 * 2) : Int64).toInt = 1 := congrArg Int64.toInt c12
          refine lv_iconst (v := 1) hx hb dX8_pack_70 (by decide) ?_
          refine lv_goto (tgt := 75) hx hb dX8_pack_71 (by decide) ?_
          exact hj16 (1) _ _ _ (Eq.symm ((if_pos c12i).trans rfl)) (hP.sub [] rfl) (hD.sub [] (by decide) rfl) hS (lv_sub hl [0, 1, 2, 3, 4, 5, 6, 7] rfl)
      refine lv_if_ne (tgt := 52) hx hb dX8_pack_44 (by decide) (fun c2 => ?_) (fun c2 => ?_)
      · skip
        have c2i : ¬ (rs : Int32).toInt = 0 := fun h => c2 (Int32.toInt_inj.mp h)
        refine lv_iconst (v := 1) hx hb dX8_pack_52 (by decide) ?_
        refine lv_goto (tgt := 57) hx hb dX8_pack_53 (by decide) ?_
        exact hj11 (1) _ _ _ (Eq.symm ((if_neg c2i).trans rfl)) (hP.sub [] rfl) (hD.sub [] (by decide) rfl) hS (lv_sub hl [0, 1, 2, 3, 4, 5, 6, 7] rfl)
      · skip
        have c2i : (rs : Int32).toInt = 0 := congrArg Int32.toInt c2
        refine lv_iload hx hb dX8_pack_47 (lv_at hl 6 rfl) ?_
        have hj8 : ∀ (z7 : Int32) (H : Heap) (locs : List Loc) (ls : Array Slot), (z7 = kX8_pack_l25_57_z7 zg wh pw mo mm ee hf rs) → va_P D vwCl [] H → va_D A [] → va_S A s.heap H locs → lv_has ls 10 [(0, .int zg), (1, .long wh), (3, .int pw), (4, .int mo), (5, .long mm), (7, .int ee), (8, .int hf), (9, .int rs)] → W p l e ({ frames := 1, cells := 0, slots := 0, locals := 22 }) s m (([.int zg, .long wh, .int pw, .int mo] : List Value).toArray) below meth c H locs 0 0 (MQ below (va_Ql (fun (r : Int64) (_ : Unit) => r = kX8_pack zg wh pw mo) (sp_B D vwCl A (fun (_ : Unit) => [])) A) ([.int zg, .long wh, .int pw, .int mo] : List Value).toArray s 0 0 A) (F0 m 57 ls [.int z7]) := by
          intro z7 H locs ls hz7 hP hD hS hl
          subst z7
          exact hj11 ((kX8_pack_l25_57_z7 zg wh pw mo mm ee hf rs)) _ _ _ (Eq.symm ((if_pos c2i).trans rfl)) (hP.sub [] rfl) (hD.sub [] (by decide) rfl) hS (lv_sub hl [0, 1, 2, 3, 4, 5, 6, 7] rfl)
        refine lv_if_eq (tgt := 56) hx hb dX8_pack_49 (by decide) (fun c4 => ?_) (fun c4 => ?_)
        · skip
          have c4i : (hf : Int32).toInt = 0 := congrArg Int32.toInt c4
          refine lv_iconst (v := 0) hx hb dX8_pack_56 (by decide) ?_
          exact hj8 (0) _ _ _ (Eq.symm ((if_pos c4i).trans rfl)) (hP.sub [] rfl) (hD.sub [] (by decide) rfl) hS (lv_sub hl [0, 1, 2, 3, 4, 5, 6, 7] rfl)
        · skip
          have c4i : ¬ (hf : Int32).toInt = 0 := fun h => c4 (Int32.toInt_inj.mp h)
          refine lv_iconst (v := 1) hx hb dX8_pack_52 (by decide) ?_
          refine lv_goto (tgt := 57) hx hb dX8_pack_53 (by decide) ?_
          exact hj8 (1) _ _ _ (Eq.symm ((if_neg c4i).trans rfl)) (hP.sub [] rfl) (hD.sub [] (by decide) rfl) hS (lv_sub hl [0, 1, 2, 3, 4, 5, 6, 7] rfl)
    · skip
      have c1 := fun h => c1 ((lg_cmp_ge _ _).mpr h)
      have c1i : ¬ 16777216 ≤ (mm : Int64).toInt := fun h => c1 (Int64.le_iff_toInt_le.mpr h)
      refine lv_iload hx hb dX8_pack_34 (lv_at hl 5 rfl) ?_
      refine lv_sipush (v := (-149)) hx hb dX8_pack_36 (by decide) ?_
      refine lv_icmp_ge (tgt := 91) hx hb dX8_pack_39 (by decide) (fun c18 => ?_) (fun c18 => ?_)
      · skip
        have c18i : (-149) ≤ (ee : Int32).toInt := Int32.le_iff_toInt_le.mp c18
        have hq2 := px_rng (ee)
        exact lp_X8_pack_91 l D cI cJ cZ zg wh pw mo C0 hA hK 2147484000 (mm) (ee) (hf) (rs) _ _ _ (hk_r.trans ((if_neg c1i).trans ((if_pos c18i).trans rfl))) (by omega) (hP.sub [] rfl) (hD.sub [] (by decide) rfl) hS (lv_sub hl [0, 1, 2, 3, 4, 5, 6, 7] rfl)
      · skip
        have c18i : ¬ (-149) ≤ (ee : Int32).toInt := fun h => c18 (Int32.le_iff_toInt_le.mpr h)
        refine lv_iload hx hb dX8_pack_42 (lv_at hl 7 rfl) ?_
        have hj28 : ∀ (z27 : Int32) (H : Heap) (locs : List Loc) (ls : Array Slot), (z27 = kX8_pack_l25_57_z10 zg wh pw mo mm ee hf rs) → va_P D vwCl [] H → va_D A [] → va_S A s.heap H locs → lv_has ls 10 [(0, .int zg), (1, .long wh), (3, .int pw), (4, .int mo), (5, .long mm), (7, .int ee), (8, .int hf), (9, .int rs)] → W p l e ({ frames := 1, cells := 0, slots := 0, locals := 22 }) s m (([.int zg, .long wh, .int pw, .int mo] : List Value).toArray) below meth c H locs 0 0 (MQ below (va_Ql (fun (r : Int64) (_ : Unit) => r = kX8_pack zg wh pw mo) (sp_B D vwCl A (fun (_ : Unit) => [])) A) ([.int zg, .long wh, .int pw, .int mo] : List Value).toArray s 0 0 A) (F0 m 57 ls [.int z27]) := by
          intro z27 H locs ls hz27 hP hD hS hl
          subst z27
          refine lv_istore (lv' := [(9, .int (kX8_pack_l25_57_z10 zg wh pw mo mm ee hf rs)), (0, .int zg), (1, .long wh), (3, .int pw), (4, .int mo), (5, .long mm), (7, .int ee), (8, .int hf)]) hx hb dX8_pack_57 hl (by decide) rfl (fun ls hl => ?_)
          refine lv_lload hx hb dX8_pack_59 (lv_at hl 5 rfl) ?_
          refine lv_ldc2 (v := 2) hx hb hown (hts (.constantLong RX8 90 (2)) (oX8_pack_in _ (List.mem_of_getElem? (i := 1) rfl))) dX8_pack_61 ?_
          refine lv_lrem hx hb dX8_pack_64 (by decide) ?_
          refine lv_lconst (v := 1) hx hb dX8_pack_65 (by decide) ?_
          refine W.lcmp hx hb dX8_pack_66 ?_
          have hj33 : ∀ (z32 : Int32) (H : Heap) (locs : List Loc) (ls : Array Slot), (z32 = kX8_pack_l25_75_z15 zg wh pw mo mm ee hf rs) → va_P D vwCl [] H → va_D A [] → va_S A s.heap H locs → lv_has ls 10 [(9, .int (kX8_pack_l25_57_z10 zg wh pw mo mm ee hf rs)), (0, .int zg), (1, .long wh), (3, .int pw), (4, .int mo), (5, .long mm), (7, .int ee), (8, .int hf)] → W p l e ({ frames := 1, cells := 0, slots := 0, locals := 22 }) s m (([.int zg, .long wh, .int pw, .int mo] : List Value).toArray) below meth c H locs 0 0 (MQ below (va_Ql (fun (r : Int64) (_ : Unit) => r = kX8_pack zg wh pw mo) (sp_B D vwCl A (fun (_ : Unit) => [])) A) ([.int zg, .long wh, .int pw, .int mo] : List Value).toArray s 0 0 A) (F0 m 75 ls [.int z32]) := by
            intro z32 H locs ls hz32 hP hD hS hl
            subst z32
            refine lv_istore (lv' := [(8, .int (kX8_pack_l25_75_z15 zg wh pw mo mm ee hf rs)), (9, .int (kX8_pack_l25_57_z10 zg wh pw mo mm ee hf rs)), (0, .int zg), (1, .long wh), (3, .int pw), (4, .int mo), (5, .long mm), (7, .int ee)]) hx hb dX8_pack_75 hl (by decide) rfl (fun ls hl => ?_)
            refine lv_lload hx hb dX8_pack_77 (lv_at hl 6 rfl) ?_
            refine lv_ldc2 (v := 2) hx hb hown (hts (.constantLong RX8 90 (2)) (oX8_pack_in _ (List.mem_of_getElem? (i := 1) rfl))) dX8_pack_79 ?_
            refine lv_ldiv hx hb dX8_pack_82 (by decide) ?_
            refine lv_lstore (lv' := [(5, .long (mm / 2)), (8, .int (kX8_pack_l25_75_z15 zg wh pw mo mm ee hf rs)), (9, .int (kX8_pack_l25_57_z10 zg wh pw mo mm ee hf rs)), (0, .int zg), (1, .long wh), (3, .int pw), (4, .int mo), (7, .int ee)]) hx hb dX8_pack_83 hl (by decide) rfl (fun ls hl => ?_)
            refine lv_iinc (v := (ee + 1)) (lv' := [(7, .int (ee + 1)), (5, .long (mm / 2)), (8, .int (kX8_pack_l25_75_z15 zg wh pw mo mm ee hf rs)), (9, .int (kX8_pack_l25_57_z10 zg wh pw mo mm ee hf rs)), (0, .int zg), (1, .long wh), (3, .int pw), (4, .int mo)]) hx hb dX8_pack_85 hl (k := 7) rfl rfl (by decide) rfl (fun ls hl => ?_)
            refine lv_goto (tgt := 25) hx hb dX8_pack_88 (by decide) ?_
            have hq1 := px_lrng ((mm / 2))
            have hq2 := px_rng ((ee + 1))
            have hq3 := px_half mm
            have hq4 : (ee : Int32).toInt < -149 → ((ee + 1) : Int32).toInt = (ee : Int32).toInt + 1 := fun h => sp_inc (by omega)
            exact ih ((mm / 2)) ((ee + 1)) ((kX8_pack_l25_75_z15 zg wh pw mo mm ee hf rs)) ((kX8_pack_l25_57_z10 zg wh pw mo mm ee hf rs)) _ _ _ (hk_r.trans ((if_neg c1i).trans ((if_neg c18i).trans rfl))) (by omega) (hP.sub [] rfl) (hD.sub [] (by decide) rfl) hS (lv_sub hl [4, 5, 6, 7, 1, 0, 2, 3] rfl)
          refine lv_if_ne (tgt := 74) hx hb dX8_pack_67 (by decide) (fun c29 => ?_) (fun c29 => ?_)
          · skip
            have c29 := fun h => c29 ((lg_cmp_eq _ _).mpr h)
            have c29i : ¬ ((mm - mm / 2 * 2) : Int64).toInt = 1 := fun h => c29 (Int64.toInt_inj.mp h)
            refine lv_iconst (v := 0) hx hb dX8_pack_74 (by decide) ?_
            exact hj33 (0) _ _ _ (Eq.symm ((if_neg c29i).trans rfl)) (hP.sub [] rfl) (hD.sub [] (by decide) rfl) hS (lv_sub hl [0, 1, 2, 3, 4, 5, 6, 7] rfl)
          · skip
            have c29 := (lg_cmp_eq _ _).mp c29
            have c29i : ((mm - mm / 2 * 2) : Int64).toInt = 1 := congrArg Int64.toInt c29
            refine lv_iconst (v := 1) hx hb dX8_pack_70 (by decide) ?_
            refine lv_goto (tgt := 75) hx hb dX8_pack_71 (by decide) ?_
            exact hj33 (1) _ _ _ (Eq.symm ((if_pos c29i).trans rfl)) (hP.sub [] rfl) (hD.sub [] (by decide) rfl) hS (lv_sub hl [0, 1, 2, 3, 4, 5, 6, 7] rfl)
        refine lv_if_ne (tgt := 52) hx hb dX8_pack_44 (by decide) (fun c19 => ?_) (fun c19 => ?_)
        · skip
          have c19i : ¬ (rs : Int32).toInt = 0 := fun h => c19 (Int32.toInt_inj.mp h)
          refine lv_iconst (v := 1) hx hb dX8_pack_52 (by decide) ?_
          refine lv_goto (tgt := 57) hx hb dX8_pack_53 (by decide) ?_
          exact hj28 (1) _ _ _ (Eq.symm ((if_neg c19i).trans rfl)) (hP.sub [] rfl) (hD.sub [] (by decide) rfl) hS (lv_sub hl [0, 1, 2, 3, 4, 5, 6, 7] rfl)
        · skip
          have c19i : (rs : Int32).toInt = 0 := congrArg Int32.toInt c19
          refine lv_iload hx hb dX8_pack_47 (lv_at hl 6 rfl) ?_
          have hj25 : ∀ (z24 : Int32) (H : Heap) (locs : List Loc) (ls : Array Slot), (z24 = kX8_pack_l25_57_z7 zg wh pw mo mm ee hf rs) → va_P D vwCl [] H → va_D A [] → va_S A s.heap H locs → lv_has ls 10 [(0, .int zg), (1, .long wh), (3, .int pw), (4, .int mo), (5, .long mm), (7, .int ee), (8, .int hf), (9, .int rs)] → W p l e ({ frames := 1, cells := 0, slots := 0, locals := 22 }) s m (([.int zg, .long wh, .int pw, .int mo] : List Value).toArray) below meth c H locs 0 0 (MQ below (va_Ql (fun (r : Int64) (_ : Unit) => r = kX8_pack zg wh pw mo) (sp_B D vwCl A (fun (_ : Unit) => [])) A) ([.int zg, .long wh, .int pw, .int mo] : List Value).toArray s 0 0 A) (F0 m 57 ls [.int z24]) := by
            intro z24 H locs ls hz24 hP hD hS hl
            subst z24
            exact hj28 ((kX8_pack_l25_57_z7 zg wh pw mo mm ee hf rs)) _ _ _ (Eq.symm ((if_pos c19i).trans rfl)) (hP.sub [] rfl) (hD.sub [] (by decide) rfl) hS (lv_sub hl [0, 1, 2, 3, 4, 5, 6, 7] rfl)
          refine lv_if_eq (tgt := 56) hx hb dX8_pack_49 (by decide) (fun c21 => ?_) (fun c21 => ?_)
          · skip
            have c21i : (hf : Int32).toInt = 0 := congrArg Int32.toInt c21
            refine lv_iconst (v := 0) hx hb dX8_pack_56 (by decide) ?_
            exact hj25 (0) _ _ _ (Eq.symm ((if_pos c21i).trans rfl)) (hP.sub [] rfl) (hD.sub [] (by decide) rfl) hS (lv_sub hl [0, 1, 2, 3, 4, 5, 6, 7] rfl)
          · skip
            have c21i : ¬ (hf : Int32).toInt = 0 := fun h => c21 (Int32.toInt_inj.mp h)
            refine lv_iconst (v := 1) hx hb dX8_pack_52 (by decide) ?_
            refine lv_goto (tgt := 57) hx hb dX8_pack_53 (by decide) ?_
            exact hj25 (1) _ _ _ (Eq.symm ((if_neg c21i).trans rfl)) (hP.sub [] rfl) (hD.sub [] (by decide) rfl) hS (lv_sub hl [0, 1, 2, 3, 4, 5, 6, 7] rfl)
set_option maxHeartbeats 4000000 in
set_option maxRecDepth 100000 in
theorem c_X8_pack (l : Launch) (D : va_G) (cI cJ cZ : ClassId) (sz : Nat) (zg : Int32) (wh : Int64) (pw : Int32) (mo : Int32) : Met l yX8_pack wpX8_pack ({ frames := 1, cells := 0, slots := 0, locals := 22 }) (va_Pc ([.int zg, .long wh, .int pw, .int mo] : List Value) (sp_pre D vwCl (sp_ty cI cJ cZ) [] sz)) (va_Ql (fun (r : Int64) (_ : Unit) => r = kX8_pack zg wh pw mo) (sp_B D vwCl (va_A [] sz) (fun (_ : Unit) => [])) (va_A [] sz)) 0 0 (va_A [] sz) := by
  refine sp_ofW (Qc := fun A => va_Ql (fun (r : Int64) (_ : Unit) => r = kX8_pack zg wh pw mo) (sp_B D vwCl A (fun (_ : Unit) => [])) A) (by decide) rfl (Nat.le_of_ble_eq_true rfl) (fun p e s m below meth c A ls H locs C0 hA hS hP hK hD hl => ?_)
  obtain ⟨hx, hb, hr, hts, hown, hlocks, hml, hin⟩ := id C0
  have hown : s.vm.findClass RX8 = some m.cls := hown
  have hl : lv_has ls 10 [(0, .int zg), (1, .long wh), (3, .int pw), (4, .int mo)] := hl
  have hK : va_K D vwCl [(cI, .int), (cJ, .long), (cZ, .boolean)] s := hK
  refine lv_lload_n hx hb dX8_pack_0 rfl (lv_at hl 1 rfl) ?_
  refine lv_lconst (v := 0) hx hb dX8_pack_1 (by decide) ?_
  refine W.lcmp hx hb dX8_pack_2 ?_
  refine lv_if_ne (tgt := 12) hx hb dX8_pack_3 (by decide) (fun c1 => ?_) (fun c1 => ?_)
  · skip
    have c1 := fun h => c1 ((lg_cmp_eq _ _).mpr h)
    have c1i : ¬ (wh : Int64).toInt = 0 := fun h => c1 (Int64.toInt_inj.mp h)
    refine lv_lload_n hx hb dX8_pack_12 rfl (lv_at hl 1 rfl) ?_
    refine lv_lstore (lv' := [(5, .long wh), (0, .int zg), (1, .long wh), (3, .int pw), (4, .int mo)]) hx hb dX8_pack_13 hl (by decide) rfl (fun ls hl => ?_)
    refine lv_iload_n hx hb dX8_pack_15 rfl (lv_at hl 3 rfl) ?_
    refine lv_istore (lv' := [(7, .int pw), (5, .long wh), (0, .int zg), (1, .long wh), (3, .int pw), (4, .int mo)]) hx hb dX8_pack_16 hl (by decide) rfl (fun ls hl => ?_)
    refine lv_iconst (v := 0) hx hb dX8_pack_18 (by decide) ?_
    refine lv_istore (lv' := [(8, .int 0), (7, .int pw), (5, .long wh), (0, .int zg), (1, .long wh), (3, .int pw), (4, .int mo)]) hx hb dX8_pack_19 hl (by decide) rfl (fun ls hl => ?_)
    refine lv_iload hx hb dX8_pack_21 (lv_at hl 6 rfl) ?_
    refine lv_istore (lv' := [(9, .int mo), (8, .int 0), (7, .int pw), (5, .long wh), (0, .int zg), (1, .long wh), (3, .int pw), (4, .int mo)]) hx hb dX8_pack_23 hl (by decide) rfl (fun ls hl => ?_)
    have kk2 : ((0) : Int32).toInt = (0) := by decide
    have hq1 := px_lrng (wh)
    have hq2 := px_rng (pw)
    exact lp_X8_pack_25 l D cI cJ cZ zg wh pw mo C0 hA hK 39614081257132168805361909760 (wh) (pw) (0) (mo) _ _ _ ((if_neg c1i).trans rfl) (by omega) (hP.sub [] rfl) (hD.sub [] (by decide) rfl) hS (lv_sub hl [4, 5, 6, 7, 3, 2, 1, 0] rfl)
  · skip
    have c1 := (lg_cmp_eq _ _).mp c1
    have c1i : (wh : Int64).toInt = 0 := congrArg Int64.toInt c1
    refine lv_iload_n hx hb dX8_pack_6 rfl (lv_at hl 0 rfl) ?_
    refine lv_lconst (v := 0) hx hb dX8_pack_7 (by decide) ?_
    refine sp_callj (wr := []) (wc := []) hP hD hS hA [] [] rfl rfl (by decide) (by decide) (va_runS (As := [.int zg, .long 0]) (rest := []) ⟨hx, hb, hml, hown, hts⟩ (c_X8_placeOf l D cI cJ cZ H.size zg 0) (va_cwS 2 hts gX8_pack_X8_placeOf_84 rfl rfl rfl (by decide +kernel) ⟨Nat.le_of_ble_eq_true rfl, Nat.le_of_ble_eq_true rfl⟩) (sp_preS [.int zg, .long 0] hK (hP.sub (ws' := []) [] rfl) (hD.sub (ws' := []) [] (by decide) rfl)) rfl rfl hl.1 rfl (lv_room (Nat.le_of_ble_eq_true rfl)) dX8_pack_8 ⟨Nat.le_of_ble_eq_true rfl, Nat.le_of_ble_eq_true rfl⟩) (fun r3 u4 H locs hw5 hP hD hS => ?_)
    have hq_5_0 : r3 = (kX8_placeOf zg 0) := hw5
    subst r3
    have hP : va_P D vwCl [] H := hP
    have hD : va_D A [] := hD
    refine W.widen (k := 0) (n := 0) (by decide) (by decide) ?_
    exact sp_lret (u := ()) hx hb hr hlocks hS (Eq.symm ((if_pos c1i).trans rfl)) (hP.sub [] rfl) (hD.sub [] (by decide) rfl) dX8_pack_11
