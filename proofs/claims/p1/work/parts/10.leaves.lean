def oX2_isNone : List Cond := [.constant RX2 9 (2147483647), .constant RX2 10 (2139095040)]
def wpX2_isNone : List Cond := .code yX2_isNone cX2_isNone 1 (some .boolean) :: (oX2_isNone ++ ([] : List Cond))
theorem oX2_isNone_in : ∀ w ∈ oX2_isNone, w ∈ wpX2_isNone := fun w h => List.mem_cons_of_mem _ (List.mem_append_left _ h)
theorem gwoX2_isNone : ∀ w ∈ oX2_isNone, goodWord w = true := by decide +kernel
theorem gwX2_isNone : ∀ w ∈ wpX2_isNone, goodWord w = true := by
  unfold wpX2_isNone
  exact List.forall_mem_cons.mpr ⟨rfl, List.forall_mem_append.mpr ⟨gwoX2_isNone, fun _ h => absurd h List.not_mem_nil⟩⟩
set_option maxRecDepth 100000 in
theorem toX2_isNone : ∀ w ∈ oX2_isNone, w ∈ lw_tbl := by
  unfold oX2_isNone
  exact List.forall_mem_cons.mpr ⟨(List.mem_of_getElem? (i := 282) (by decide +kernel)), List.forall_mem_cons.mpr ⟨(List.mem_of_getElem? (i := 283) (by decide +kernel)), fun _ h => absurd h List.not_mem_nil⟩⟩
set_option maxRecDepth 100000 in
theorem tX2_isNone : ∀ w ∈ wpX2_isNone, w ∈ lw_tbl := by
  unfold wpX2_isNone
  exact List.forall_mem_cons.mpr ⟨(List.mem_of_getElem? (i := 281) (by rfl)), List.forall_mem_append.mpr ⟨toX2_isNone, fun _ h => absurd h List.not_mem_nil⟩⟩
set_option maxHeartbeats 4000000 in
set_option maxRecDepth 100000 in
theorem c_X2_isNone (l : Launch) (D : va_G) (cI cJ cZ : ClassId) (sz : Nat) (b : Int32) : Met l yX2_isNone wpX2_isNone ({ frames := 0, cells := 0, slots := 0, locals := 0 }) (va_Pc [.int b] (sp_pre D vwCl (sp_ty cI cJ cZ) [] sz)) (va_Qi (fun (r : Int32) (_ : Unit) => (r = 1 ∧ (2139095040 < (b &&& 2147483647 : Int32).toInt)) ∨ (r = 0 ∧ ¬ (2139095040 < (b &&& 2147483647 : Int32).toInt))) (sp_B D vwCl (va_A [] sz) (fun (_ : Unit) => [])) (va_A [] sz)) 0 0 (va_A [] sz) := by
  refine sp_ofW (Qc := fun A => va_Qi (fun (r : Int32) (_ : Unit) => (r = 1 ∧ (2139095040 < (b &&& 2147483647 : Int32).toInt)) ∨ (r = 0 ∧ ¬ (2139095040 < (b &&& 2147483647 : Int32).toInt))) (sp_B D vwCl A (fun (_ : Unit) => [])) A) (by decide) rfl (Nat.le_of_ble_eq_true rfl) (fun p e s m below meth c A ls H locs C0 hA hS hP hK hD hl => ?_)
  obtain ⟨hx, hb, hr, hts, hown, hlocks, hml, hin⟩ := C0
  have hown : s.vm.findClass RX2 = some m.cls := hown
  have hl : lv_has ls 1 [(0, .int b)] := hl
  have hK : va_K D vwCl [(cI, .int), (cJ, .long), (cZ, .boolean)] s := hK
  refine lv_iload_n hx hb dX2_isNone_0 rfl (lv_at hl 0 rfl) ?_
  refine lv_ldc (v := 2147483647) hx hb hown (hts (.constant RX2 9 (2147483647)) (oX2_isNone_in _ (List.mem_of_getElem? (i := 0) rfl))) dX2_isNone_1 ?_
  refine lv_iand hx hb dX2_isNone_3 ?_
  refine lv_ldc (v := 2139095040) hx hb hown (hts (.constant RX2 10 (2139095040)) (oX2_isNone_in _ (List.mem_of_getElem? (i := 1) rfl))) dX2_isNone_4 ?_
  refine lv_icmp_le (tgt := 13) hx hb dX2_isNone_6 (by decide) (fun c1 => ?_) (fun c1 => ?_)
  · skip
    have c1i : ((b &&& 2147483647) : Int32).toInt ≤ 2139095040 := Int32.le_iff_toInt_le.mp c1
    refine lv_iconst (v := 0) hx hb dX2_isNone_13 (by decide) ?_
    refine W.widen (k := 0) (n := 0) (by decide) (by decide) ?_
    exact sp_zret (u := ()) hx hb hr hlocks (by decide) hS (by first | exact Or.inl ⟨rfl, by omega⟩ | exact Or.inr ⟨rfl, by omega⟩) (hP.sub [] rfl) (hD.sub [] (by decide) rfl) dX2_isNone_14
  · skip
    have c1i : ¬ ((b &&& 2147483647) : Int32).toInt ≤ 2139095040 := fun h => c1 (Int32.le_iff_toInt_le.mpr h)
    refine lv_iconst (v := 1) hx hb dX2_isNone_9 (by decide) ?_
    refine lv_goto (tgt := 14) hx hb dX2_isNone_10 (by decide) ?_
    refine W.widen (k := 0) (n := 0) (by decide) (by decide) ?_
    exact sp_zret (u := ()) hx hb hr hlocks (by decide) hS (by first | exact Or.inl ⟨rfl, by omega⟩ | exact Or.inr ⟨rfl, by omega⟩) (hP.sub [] rfl) (hD.sub [] (by decide) rfl) dX2_isNone_14
def oX2_placeOf : List Cond := [.constant RX2 9 (2147483647)]
def wpX2_placeOf : List Cond := .code yX2_placeOf cX2_placeOf 1 (some .int) :: (oX2_placeOf ++ ([] : List Cond))
theorem oX2_placeOf_in : ∀ w ∈ oX2_placeOf, w ∈ wpX2_placeOf := fun w h => List.mem_cons_of_mem _ (List.mem_append_left _ h)
theorem gwoX2_placeOf : ∀ w ∈ oX2_placeOf, goodWord w = true := by decide +kernel
theorem gwX2_placeOf : ∀ w ∈ wpX2_placeOf, goodWord w = true := by
  unfold wpX2_placeOf
  exact List.forall_mem_cons.mpr ⟨rfl, List.forall_mem_append.mpr ⟨gwoX2_placeOf, fun _ h => absurd h List.not_mem_nil⟩⟩
set_option maxRecDepth 100000 in
theorem toX2_placeOf : ∀ w ∈ oX2_placeOf, w ∈ lw_tbl := by
  unfold oX2_placeOf
  exact List.forall_mem_cons.mpr ⟨(List.mem_of_getElem? (i := 282) (by decide +kernel)), fun _ h => absurd h List.not_mem_nil⟩
set_option maxRecDepth 100000 in
theorem tX2_placeOf : ∀ w ∈ wpX2_placeOf, w ∈ lw_tbl := by
  unfold wpX2_placeOf
  exact List.forall_mem_cons.mpr ⟨(List.mem_of_getElem? (i := 332) (by rfl)), List.forall_mem_append.mpr ⟨toX2_placeOf, fun _ h => absurd h List.not_mem_nil⟩⟩
set_option maxHeartbeats 4000000 in
set_option maxRecDepth 100000 in
theorem c_X2_placeOf (l : Launch) (D : va_G) (cI cJ cZ : ClassId) (sz : Nat) (b : Int32) : Met l yX2_placeOf wpX2_placeOf ({ frames := 0, cells := 0, slots := 0, locals := 0 }) (va_Pc [.int b] (sp_pre D vwCl (sp_ty cI cJ cZ) [] sz)) (va_Qi (fun (r : Int32) (_ : Unit) => (b.toInt < 0 ∧ r = b ^^^ 2147483647) ∨ (¬ b.toInt < 0 ∧ r = b)) (sp_B D vwCl (va_A [] sz) (fun (_ : Unit) => [])) (va_A [] sz)) 0 0 (va_A [] sz) := by
  refine sp_ofW (Qc := fun A => va_Qi (fun (r : Int32) (_ : Unit) => (b.toInt < 0 ∧ r = b ^^^ 2147483647) ∨ (¬ b.toInt < 0 ∧ r = b)) (sp_B D vwCl A (fun (_ : Unit) => [])) A) (by decide) rfl (Nat.le_of_ble_eq_true rfl) (fun p e s m below meth c A ls H locs C0 hA hS hP hK hD hl => ?_)
  obtain ⟨hx, hb, hr, hts, hown, hlocks, hml, hin⟩ := C0
  have hown : s.vm.findClass RX2 = some m.cls := hown
  have hl : lv_has ls 1 [(0, .int b)] := hl
  have hK : va_K D vwCl [(cI, .int), (cJ, .long), (cZ, .boolean)] s := hK
  refine lv_iload_n hx hb dX2_placeOf_0 rfl (lv_at hl 0 rfl) ?_
  refine lv_if_ge (tgt := 11) hx hb dX2_placeOf_1 (by decide) (fun c1 => ?_) (fun c1 => ?_)
  · skip
    have c1i : 0 ≤ (b : Int32).toInt := Int32.le_iff_toInt_le.mp c1
    refine lv_iload_n hx hb dX2_placeOf_11 rfl (lv_at hl 0 rfl) ?_
    refine W.widen (k := 0) (n := 0) (by decide) (by decide) ?_
    exact sp_iret (u := ()) hx hb hr hlocks hS (by first | exact Or.inl ⟨by omega, rfl⟩ | exact Or.inr ⟨by omega, rfl⟩) (hP.sub [] rfl) (hD.sub [] (by decide) rfl) dX2_placeOf_12
  · skip
    have c1i : ¬ 0 ≤ (b : Int32).toInt := fun h => c1 (Int32.le_iff_toInt_le.mpr h)
    refine lv_iload_n hx hb dX2_placeOf_4 rfl (lv_at hl 0 rfl) ?_
    refine lv_ldc (v := 2147483647) hx hb hown (hts (.constant RX2 9 (2147483647)) (oX2_placeOf_in _ (List.mem_of_getElem? (i := 0) rfl))) dX2_placeOf_5 ?_
    refine lv_ixor hx hb dX2_placeOf_7 ?_
    refine lv_goto (tgt := 12) hx hb dX2_placeOf_8 (by decide) ?_
    refine W.widen (k := 0) (n := 0) (by decide) (by decide) ?_
    exact sp_iret (u := ()) hx hb hr hlocks hS (by first | exact Or.inl ⟨by omega, rfl⟩ | exact Or.inr ⟨by omega, rfl⟩) (hP.sub [] rfl) (hD.sub [] (by decide) rfl) dX2_placeOf_12
def oX2_bitsAt : List Cond := [.constant RX2 9 (2147483647)]
def wpX2_bitsAt : List Cond := .code yX2_bitsAt cX2_bitsAt 1 (some .int) :: (oX2_bitsAt ++ ([] : List Cond))
theorem oX2_bitsAt_in : ∀ w ∈ oX2_bitsAt, w ∈ wpX2_bitsAt := fun w h => List.mem_cons_of_mem _ (List.mem_append_left _ h)
theorem gwoX2_bitsAt : ∀ w ∈ oX2_bitsAt, goodWord w = true := by decide +kernel
theorem gwX2_bitsAt : ∀ w ∈ wpX2_bitsAt, goodWord w = true := by
  unfold wpX2_bitsAt
  exact List.forall_mem_cons.mpr ⟨rfl, List.forall_mem_append.mpr ⟨gwoX2_bitsAt, fun _ h => absurd h List.not_mem_nil⟩⟩
set_option maxRecDepth 100000 in
theorem toX2_bitsAt : ∀ w ∈ oX2_bitsAt, w ∈ lw_tbl := by
  unfold oX2_bitsAt
  exact List.forall_mem_cons.mpr ⟨(List.mem_of_getElem? (i := 282) (by decide +kernel)), fun _ h => absurd h List.not_mem_nil⟩
set_option maxRecDepth 100000 in
theorem tX2_bitsAt : ∀ w ∈ wpX2_bitsAt, w ∈ lw_tbl := by
  unfold wpX2_bitsAt
  exact List.forall_mem_cons.mpr ⟨(List.mem_of_getElem? (i := 339) (by rfl)), List.forall_mem_append.mpr ⟨toX2_bitsAt, fun _ h => absurd h List.not_mem_nil⟩⟩
set_option maxHeartbeats 4000000 in
set_option maxRecDepth 100000 in
theorem c_X2_bitsAt (l : Launch) (D : va_G) (cI cJ cZ : ClassId) (sz : Nat) (b : Int32) : Met l yX2_bitsAt wpX2_bitsAt ({ frames := 0, cells := 0, slots := 0, locals := 0 }) (va_Pc [.int b] (sp_pre D vwCl (sp_ty cI cJ cZ) [] sz)) (va_Qi (fun (r : Int32) (_ : Unit) => (b.toInt < 0 ∧ r = b ^^^ 2147483647) ∨ (¬ b.toInt < 0 ∧ r = b)) (sp_B D vwCl (va_A [] sz) (fun (_ : Unit) => [])) (va_A [] sz)) 0 0 (va_A [] sz) := by
  refine sp_ofW (Qc := fun A => va_Qi (fun (r : Int32) (_ : Unit) => (b.toInt < 0 ∧ r = b ^^^ 2147483647) ∨ (¬ b.toInt < 0 ∧ r = b)) (sp_B D vwCl A (fun (_ : Unit) => [])) A) (by decide) rfl (Nat.le_of_ble_eq_true rfl) (fun p e s m below meth c A ls H locs C0 hA hS hP hK hD hl => ?_)
  obtain ⟨hx, hb, hr, hts, hown, hlocks, hml, hin⟩ := C0
  have hown : s.vm.findClass RX2 = some m.cls := hown
  have hl : lv_has ls 1 [(0, .int b)] := hl
  have hK : va_K D vwCl [(cI, .int), (cJ, .long), (cZ, .boolean)] s := hK
  refine lv_iload_n hx hb dX2_bitsAt_0 rfl (lv_at hl 0 rfl) ?_
  refine lv_if_ge (tgt := 11) hx hb dX2_bitsAt_1 (by decide) (fun c1 => ?_) (fun c1 => ?_)
  · skip
    have c1i : 0 ≤ (b : Int32).toInt := Int32.le_iff_toInt_le.mp c1
    refine lv_iload_n hx hb dX2_bitsAt_11 rfl (lv_at hl 0 rfl) ?_
    refine W.widen (k := 0) (n := 0) (by decide) (by decide) ?_
    exact sp_iret (u := ()) hx hb hr hlocks hS (by first | exact Or.inl ⟨by omega, rfl⟩ | exact Or.inr ⟨by omega, rfl⟩) (hP.sub [] rfl) (hD.sub [] (by decide) rfl) dX2_bitsAt_12
  · skip
    have c1i : ¬ 0 ≤ (b : Int32).toInt := fun h => c1 (Int32.le_iff_toInt_le.mpr h)
    refine lv_iload_n hx hb dX2_bitsAt_4 rfl (lv_at hl 0 rfl) ?_
    refine lv_ldc (v := 2147483647) hx hb hown (hts (.constant RX2 9 (2147483647)) (oX2_bitsAt_in _ (List.mem_of_getElem? (i := 0) rfl))) dX2_bitsAt_5 ?_
    refine lv_ixor hx hb dX2_bitsAt_7 ?_
    refine lv_goto (tgt := 12) hx hb dX2_bitsAt_8 (by decide) ?_
    refine W.widen (k := 0) (n := 0) (by decide) (by decide) ?_
    exact sp_iret (u := ()) hx hb hr hlocks hS (by first | exact Or.inl ⟨by omega, rfl⟩ | exact Or.inr ⟨by omega, rfl⟩) (hP.sub [] rfl) (hD.sub [] (by decide) rfl) dX2_bitsAt_12
def oX7_isVariable : List Cond := []
def wpX7_isVariable : List Cond := .code yX7_isVariable cX7_isVariable 1 (some .boolean) :: (oX7_isVariable ++ ([] : List Cond))
theorem oX7_isVariable_in : ∀ w ∈ oX7_isVariable, w ∈ wpX7_isVariable := fun w h => List.mem_cons_of_mem _ (List.mem_append_left _ h)
theorem gwoX7_isVariable : ∀ w ∈ oX7_isVariable, goodWord w = true := by decide +kernel
theorem gwX7_isVariable : ∀ w ∈ wpX7_isVariable, goodWord w = true := by
  unfold wpX7_isVariable
  exact List.forall_mem_cons.mpr ⟨rfl, List.forall_mem_append.mpr ⟨gwoX7_isVariable, fun _ h => absurd h List.not_mem_nil⟩⟩
set_option maxRecDepth 100000 in
theorem toX7_isVariable : ∀ w ∈ oX7_isVariable, w ∈ lw_tbl := by
  unfold oX7_isVariable
  exact fun _ h => absurd h List.not_mem_nil
set_option maxRecDepth 100000 in
theorem tX7_isVariable : ∀ w ∈ wpX7_isVariable, w ∈ lw_tbl := by
  unfold wpX7_isVariable
  exact List.forall_mem_cons.mpr ⟨(List.mem_of_getElem? (i := 264) (by rfl)), List.forall_mem_append.mpr ⟨toX7_isVariable, fun _ h => absurd h List.not_mem_nil⟩⟩
set_option maxHeartbeats 4000000 in
set_option maxRecDepth 100000 in
theorem c_X7_isVariable (l : Launch) (D : va_G) (cI cJ cZ : ClassId) (sz : Nat) (v : Int32) : Met l yX7_isVariable wpX7_isVariable ({ frames := 0, cells := 0, slots := 0, locals := 0 }) (va_Pc [.int v] (sp_pre D vwCl (sp_ty cI cJ cZ) [] sz)) (va_Qi (fun (r : Int32) (_ : Unit) => (r = 1 ∧ (0 ≤ v.toInt ∧ v.toInt < 4)) ∨ (r = 0 ∧ ¬ (0 ≤ v.toInt ∧ v.toInt < 4))) (sp_B D vwCl (va_A [] sz) (fun (_ : Unit) => [])) (va_A [] sz)) 0 0 (va_A [] sz) := by
  refine sp_ofW (Qc := fun A => va_Qi (fun (r : Int32) (_ : Unit) => (r = 1 ∧ (0 ≤ v.toInt ∧ v.toInt < 4)) ∨ (r = 0 ∧ ¬ (0 ≤ v.toInt ∧ v.toInt < 4))) (sp_B D vwCl A (fun (_ : Unit) => [])) A) (by decide) rfl (Nat.le_of_ble_eq_true rfl) (fun p e s m below meth c A ls H locs C0 hA hS hP hK hD hl => ?_)
  obtain ⟨hx, hb, hr, hts, hown, hlocks, hml, hin⟩ := C0
  have hown : s.vm.findClass RX7 = some m.cls := hown
  have hl : lv_has ls 1 [(0, .int v)] := hl
  have hK : va_K D vwCl [(cI, .int), (cJ, .long), (cZ, .boolean)] s := hK
  refine lv_iload_n hx hb dX7_isVariable_0 rfl (lv_at hl 0 rfl) ?_
  refine lv_if_lt (tgt := 13) hx hb dX7_isVariable_1 (by decide) (fun c1 => ?_) (fun c1 => ?_)
  · skip
    have c1i : (v : Int32).toInt < 0 := Int32.lt_iff_toInt_lt.mp c1
    refine lv_iconst (v := 0) hx hb dX7_isVariable_13 (by decide) ?_
    refine W.widen (k := 0) (n := 0) (by decide) (by decide) ?_
    exact sp_zret (u := ()) hx hb hr hlocks (by decide) hS (by first | exact Or.inl ⟨rfl, by omega⟩ | exact Or.inr ⟨rfl, by omega⟩) (hP.sub [] rfl) (hD.sub [] (by decide) rfl) dX7_isVariable_14
  · skip
    have c1i : ¬ (v : Int32).toInt < 0 := fun h => c1 (Int32.lt_iff_toInt_lt.mpr h)
    refine lv_iload_n hx hb dX7_isVariable_4 rfl (lv_at hl 0 rfl) ?_
    refine lv_iconst (v := 4) hx hb dX7_isVariable_5 (by decide) ?_
    refine lv_icmp_ge (tgt := 13) hx hb dX7_isVariable_6 (by decide) (fun c2 => ?_) (fun c2 => ?_)
    · skip
      have c2i : 4 ≤ (v : Int32).toInt := Int32.le_iff_toInt_le.mp c2
      refine lv_iconst (v := 0) hx hb dX7_isVariable_13 (by decide) ?_
      refine W.widen (k := 0) (n := 0) (by decide) (by decide) ?_
      exact sp_zret (u := ()) hx hb hr hlocks (by decide) hS (by first | exact Or.inl ⟨rfl, by omega⟩ | exact Or.inr ⟨rfl, by omega⟩) (hP.sub [] rfl) (hD.sub [] (by decide) rfl) dX7_isVariable_14
    · skip
      have c2i : ¬ 4 ≤ (v : Int32).toInt := fun h => c2 (Int32.le_iff_toInt_le.mpr h)
      refine lv_iconst (v := 1) hx hb dX7_isVariable_9 (by decide) ?_
      refine lv_goto (tgt := 14) hx hb dX7_isVariable_10 (by decide) ?_
      refine W.widen (k := 0) (n := 0) (by decide) (by decide) ?_
      exact sp_zret (u := ()) hx hb hr hlocks (by decide) hS (by first | exact Or.inl ⟨rfl, by omega⟩ | exact Or.inr ⟨rfl, by omega⟩) (hP.sub [] rfl) (hD.sub [] (by decide) rfl) dX7_isVariable_14
def oX7_isPlace : List Cond := [.constant RX7 173 (-2139095041), .constant RX7 174 (2139095040)]
def wpX7_isPlace : List Cond := .code yX7_isPlace cX7_isPlace 1 (some .boolean) :: (oX7_isPlace ++ ([] : List Cond))
theorem oX7_isPlace_in : ∀ w ∈ oX7_isPlace, w ∈ wpX7_isPlace := fun w h => List.mem_cons_of_mem _ (List.mem_append_left _ h)
theorem gwoX7_isPlace : ∀ w ∈ oX7_isPlace, goodWord w = true := by decide +kernel
theorem gwX7_isPlace : ∀ w ∈ wpX7_isPlace, goodWord w = true := by
  unfold wpX7_isPlace
  exact List.forall_mem_cons.mpr ⟨rfl, List.forall_mem_append.mpr ⟨gwoX7_isPlace, fun _ h => absurd h List.not_mem_nil⟩⟩
set_option maxRecDepth 100000 in
theorem toX7_isPlace : ∀ w ∈ oX7_isPlace, w ∈ lw_tbl := by
  unfold oX7_isPlace
  exact List.forall_mem_cons.mpr ⟨(List.mem_of_getElem? (i := 314) (by decide +kernel)), List.forall_mem_cons.mpr ⟨(List.mem_of_getElem? (i := 315) (by decide +kernel)), fun _ h => absurd h List.not_mem_nil⟩⟩
set_option maxRecDepth 100000 in
theorem tX7_isPlace : ∀ w ∈ wpX7_isPlace, w ∈ lw_tbl := by
  unfold wpX7_isPlace
  exact List.forall_mem_cons.mpr ⟨(List.mem_of_getElem? (i := 313) (by rfl)), List.forall_mem_append.mpr ⟨toX7_isPlace, fun _ h => absurd h List.not_mem_nil⟩⟩
set_option maxHeartbeats 4000000 in
set_option maxRecDepth 100000 in
theorem c_X7_isPlace (l : Launch) (D : va_G) (cI cJ cZ : ClassId) (sz : Nat) (v : Int32) : Met l yX7_isPlace wpX7_isPlace ({ frames := 0, cells := 0, slots := 0, locals := 0 }) (va_Pc [.int v] (sp_pre D vwCl (sp_ty cI cJ cZ) [] sz)) (va_Qi (fun (r : Int32) (_ : Unit) => (r = 1 ∧ (-2139095041 ≤ v.toInt ∧ v.toInt ≤ 2139095040)) ∨ (r = 0 ∧ ¬ (-2139095041 ≤ v.toInt ∧ v.toInt ≤ 2139095040))) (sp_B D vwCl (va_A [] sz) (fun (_ : Unit) => [])) (va_A [] sz)) 0 0 (va_A [] sz) := by
  refine sp_ofW (Qc := fun A => va_Qi (fun (r : Int32) (_ : Unit) => (r = 1 ∧ (-2139095041 ≤ v.toInt ∧ v.toInt ≤ 2139095040)) ∨ (r = 0 ∧ ¬ (-2139095041 ≤ v.toInt ∧ v.toInt ≤ 2139095040))) (sp_B D vwCl A (fun (_ : Unit) => [])) A) (by decide) rfl (Nat.le_of_ble_eq_true rfl) (fun p e s m below meth c A ls H locs C0 hA hS hP hK hD hl => ?_)
  obtain ⟨hx, hb, hr, hts, hown, hlocks, hml, hin⟩ := C0
  have hown : s.vm.findClass RX7 = some m.cls := hown
  have hl : lv_has ls 1 [(0, .int v)] := hl
  have hK : va_K D vwCl [(cI, .int), (cJ, .long), (cZ, .boolean)] s := hK
  refine lv_iload_n hx hb dX7_isPlace_0 rfl (lv_at hl 0 rfl) ?_
  refine lv_ldc (v := (-2139095041)) hx hb hown (hts (.constant RX7 173 (-2139095041)) (oX7_isPlace_in _ (List.mem_of_getElem? (i := 0) rfl))) dX7_isPlace_1 ?_
  refine lv_icmp_lt (tgt := 16) hx hb dX7_isPlace_3 (by decide) (fun c1 => ?_) (fun c1 => ?_)
  · skip
    have c1i : (v : Int32).toInt < (-2139095041) := Int32.lt_iff_toInt_lt.mp c1
    refine lv_iconst (v := 0) hx hb dX7_isPlace_16 (by decide) ?_
    refine W.widen (k := 0) (n := 0) (by decide) (by decide) ?_
    exact sp_zret (u := ()) hx hb hr hlocks (by decide) hS (by first | exact Or.inl ⟨rfl, by omega⟩ | exact Or.inr ⟨rfl, by omega⟩) (hP.sub [] rfl) (hD.sub [] (by decide) rfl) dX7_isPlace_17
  · skip
    have c1i : ¬ (v : Int32).toInt < (-2139095041) := fun h => c1 (Int32.lt_iff_toInt_lt.mpr h)
    refine lv_iload_n hx hb dX7_isPlace_6 rfl (lv_at hl 0 rfl) ?_
    refine lv_ldc (v := 2139095040) hx hb hown (hts (.constant RX7 174 (2139095040)) (oX7_isPlace_in _ (List.mem_of_getElem? (i := 1) rfl))) dX7_isPlace_7 ?_
    refine lv_icmp_gt (tgt := 16) hx hb dX7_isPlace_9 (by decide) (fun c2 => ?_) (fun c2 => ?_)
    · skip
      have c2i : 2139095040 < (v : Int32).toInt := Int32.lt_iff_toInt_lt.mp c2
      refine lv_iconst (v := 0) hx hb dX7_isPlace_16 (by decide) ?_
      refine W.widen (k := 0) (n := 0) (by decide) (by decide) ?_
      exact sp_zret (u := ()) hx hb hr hlocks (by decide) hS (by first | exact Or.inl ⟨rfl, by omega⟩ | exact Or.inr ⟨rfl, by omega⟩) (hP.sub [] rfl) (hD.sub [] (by decide) rfl) dX7_isPlace_17
    · skip
      have c2i : ¬ 2139095040 < (v : Int32).toInt := fun h => c2 (Int32.lt_iff_toInt_lt.mpr h)
      refine lv_iconst (v := 1) hx hb dX7_isPlace_12 (by decide) ?_
      refine lv_goto (tgt := 17) hx hb dX7_isPlace_13 (by decide) ?_
      refine W.widen (k := 0) (n := 0) (by decide) (by decide) ?_
      exact sp_zret (u := ()) hx hb hr hlocks (by decide) hS (by first | exact Or.inl ⟨rfl, by omega⟩ | exact Or.inr ⟨rfl, by omega⟩) (hP.sub [] rfl) (hD.sub [] (by decide) rfl) dX7_isPlace_17
def oX3_looksAtX : List Cond := []
def wpX3_looksAtX : List Cond := .code yX3_looksAtX cX3_looksAtX 1 (some .boolean) :: (oX3_looksAtX ++ ([] : List Cond))
theorem oX3_looksAtX_in : ∀ w ∈ oX3_looksAtX, w ∈ wpX3_looksAtX := fun w h => List.mem_cons_of_mem _ (List.mem_append_left _ h)
theorem gwoX3_looksAtX : ∀ w ∈ oX3_looksAtX, goodWord w = true := by decide +kernel
theorem gwX3_looksAtX : ∀ w ∈ wpX3_looksAtX, goodWord w = true := by
  unfold wpX3_looksAtX
  exact List.forall_mem_cons.mpr ⟨rfl, List.forall_mem_append.mpr ⟨gwoX3_looksAtX, fun _ h => absurd h List.not_mem_nil⟩⟩
set_option maxRecDepth 100000 in
theorem toX3_looksAtX : ∀ w ∈ oX3_looksAtX, w ∈ lw_tbl := by
  unfold oX3_looksAtX
  exact fun _ h => absurd h List.not_mem_nil
set_option maxRecDepth 100000 in
theorem tX3_looksAtX : ∀ w ∈ wpX3_looksAtX, w ∈ lw_tbl := by
  unfold wpX3_looksAtX
  exact List.forall_mem_cons.mpr ⟨(List.mem_of_getElem? (i := 267) (by rfl)), List.forall_mem_append.mpr ⟨toX3_looksAtX, fun _ h => absurd h List.not_mem_nil⟩⟩
set_option maxHeartbeats 4000000 in
set_option maxRecDepth 100000 in
theorem c_X3_looksAtX (l : Launch) (D : va_G) (cI cJ cZ : ClassId) (sz : Nat) (v : Int32) : Met l yX3_looksAtX wpX3_looksAtX ({ frames := 0, cells := 0, slots := 0, locals := 0 }) (va_Pc [.int v] (sp_pre D vwCl (sp_ty cI cJ cZ) [] sz)) (va_Qi (fun (r : Int32) (_ : Unit) => (r = 1 ∧ (2 ≤ v.toInt ∧ v.toInt ≤ 15)) ∨ (r = 0 ∧ ¬ (2 ≤ v.toInt ∧ v.toInt ≤ 15))) (sp_B D vwCl (va_A [] sz) (fun (_ : Unit) => [])) (va_A [] sz)) 0 0 (va_A [] sz) := by
  refine sp_ofW (Qc := fun A => va_Qi (fun (r : Int32) (_ : Unit) => (r = 1 ∧ (2 ≤ v.toInt ∧ v.toInt ≤ 15)) ∨ (r = 0 ∧ ¬ (2 ≤ v.toInt ∧ v.toInt ≤ 15))) (sp_B D vwCl A (fun (_ : Unit) => [])) A) (by decide) rfl (Nat.le_of_ble_eq_true rfl) (fun p e s m below meth c A ls H locs C0 hA hS hP hK hD hl => ?_)
  obtain ⟨hx, hb, hr, hts, hown, hlocks, hml, hin⟩ := C0
  have hown : s.vm.findClass RX3 = some m.cls := hown
  have hl : lv_has ls 1 [(0, .int v)] := hl
  have hK : va_K D vwCl [(cI, .int), (cJ, .long), (cZ, .boolean)] s := hK
  refine lv_iload_n hx hb dX3_looksAtX_0 rfl (lv_at hl 0 rfl) ?_
  refine lv_iconst (v := 2) hx hb dX3_looksAtX_1 (by decide) ?_
  refine lv_icmp_lt (tgt := 15) hx hb dX3_looksAtX_2 (by decide) (fun c1 => ?_) (fun c1 => ?_)
  · skip
    have c1i : (v : Int32).toInt < 2 := Int32.lt_iff_toInt_lt.mp c1
    refine lv_iconst (v := 0) hx hb dX3_looksAtX_15 (by decide) ?_
    refine W.widen (k := 0) (n := 0) (by decide) (by decide) ?_
    exact sp_zret (u := ()) hx hb hr hlocks (by decide) hS (by first | exact Or.inl ⟨rfl, by omega⟩ | exact Or.inr ⟨rfl, by omega⟩) (hP.sub [] rfl) (hD.sub [] (by decide) rfl) dX3_looksAtX_16
  · skip
    have c1i : ¬ (v : Int32).toInt < 2 := fun h => c1 (Int32.lt_iff_toInt_lt.mpr h)
    refine lv_iload_n hx hb dX3_looksAtX_5 rfl (lv_at hl 0 rfl) ?_
    refine lv_bipush (v := 15) hx hb dX3_looksAtX_6 (by decide) ?_
    refine lv_icmp_gt (tgt := 15) hx hb dX3_looksAtX_8 (by decide) (fun c2 => ?_) (fun c2 => ?_)
    · skip
      have c2i : 15 < (v : Int32).toInt := Int32.lt_iff_toInt_lt.mp c2
      refine lv_iconst (v := 0) hx hb dX3_looksAtX_15 (by decide) ?_
      refine W.widen (k := 0) (n := 0) (by decide) (by decide) ?_
      exact sp_zret (u := ()) hx hb hr hlocks (by decide) hS (by first | exact Or.inl ⟨rfl, by omega⟩ | exact Or.inr ⟨rfl, by omega⟩) (hP.sub [] rfl) (hD.sub [] (by decide) rfl) dX3_looksAtX_16
    · skip
      have c2i : ¬ 15 < (v : Int32).toInt := fun h => c2 (Int32.lt_iff_toInt_lt.mpr h)
      refine lv_iconst (v := 1) hx hb dX3_looksAtX_11 (by decide) ?_
      refine lv_goto (tgt := 16) hx hb dX3_looksAtX_12 (by decide) ?_
      refine W.widen (k := 0) (n := 0) (by decide) (by decide) ?_
      exact sp_zret (u := ()) hx hb hr hlocks (by decide) hS (by first | exact Or.inl ⟨rfl, by omega⟩ | exact Or.inr ⟨rfl, by omega⟩) (hP.sub [] rfl) (hD.sub [] (by decide) rfl) dX3_looksAtX_16
def oX3_looksAtY : List Cond := []
def wpX3_looksAtY : List Cond := .code yX3_looksAtY cX3_looksAtY 1 (some .boolean) :: (oX3_looksAtY ++ ([] : List Cond))
theorem oX3_looksAtY_in : ∀ w ∈ oX3_looksAtY, w ∈ wpX3_looksAtY := fun w h => List.mem_cons_of_mem _ (List.mem_append_left _ h)
theorem gwoX3_looksAtY : ∀ w ∈ oX3_looksAtY, goodWord w = true := by decide +kernel
theorem gwX3_looksAtY : ∀ w ∈ wpX3_looksAtY, goodWord w = true := by
  unfold wpX3_looksAtY
  exact List.forall_mem_cons.mpr ⟨rfl, List.forall_mem_append.mpr ⟨gwoX3_looksAtY, fun _ h => absurd h List.not_mem_nil⟩⟩
set_option maxRecDepth 100000 in
theorem toX3_looksAtY : ∀ w ∈ oX3_looksAtY, w ∈ lw_tbl := by
  unfold oX3_looksAtY
  exact fun _ h => absurd h List.not_mem_nil
set_option maxRecDepth 100000 in
theorem tX3_looksAtY : ∀ w ∈ wpX3_looksAtY, w ∈ lw_tbl := by
  unfold wpX3_looksAtY
  exact List.forall_mem_cons.mpr ⟨(List.mem_of_getElem? (i := 274) (by rfl)), List.forall_mem_append.mpr ⟨toX3_looksAtY, fun _ h => absurd h List.not_mem_nil⟩⟩
set_option maxHeartbeats 4000000 in
set_option maxRecDepth 100000 in
theorem c_X3_looksAtY (l : Launch) (D : va_G) (cI cJ cZ : ClassId) (sz : Nat) (v : Int32) (hv : v.toInt < 2) : Met l yX3_looksAtY wpX3_looksAtY ({ frames := 0, cells := 0, slots := 0, locals := 0 }) (va_Pc [.int v] (sp_pre D vwCl (sp_ty cI cJ cZ) [] sz)) (va_Qi (fun (r : Int32) (_ : Unit) => r = 0) (sp_B D vwCl (va_A [] sz) (fun (_ : Unit) => [])) (va_A [] sz)) 0 0 (va_A [] sz) := by
  refine sp_ofW (Qc := fun A => va_Qi (fun (r : Int32) (_ : Unit) => r = 0) (sp_B D vwCl A (fun (_ : Unit) => [])) A) (by decide) rfl (Nat.le_of_ble_eq_true rfl) (fun p e s m below meth c A ls H locs C0 hA hS hP hK hD hl => ?_)
  obtain ⟨hx, hb, hr, hts, hown, hlocks, hml, hin⟩ := C0
  have hown : s.vm.findClass RX3 = some m.cls := hown
  have hl : lv_has ls 1 [(0, .int v)] := hl
  have hK : va_K D vwCl [(cI, .int), (cJ, .long), (cZ, .boolean)] s := hK
  refine lv_iload_n hx hb dX3_looksAtY_0 rfl (lv_at hl 0 rfl) ?_
  refine lv_tableOut (tgt := 70) hx hb dX3_looksAtY_1 (Or.inl hv) (by decide) ?_
  refine lv_iconst (v := 0) hx hb dX3_looksAtY_70 (by decide) ?_
  refine W.widen (k := 0) (n := 0) (by decide) (by decide) ?_
  exact sp_zret (u := ()) hx hb hr hlocks (by decide) hS rfl (hP.sub [] rfl) (hD.sub [] (by decide) rfl) dX3_looksAtY_71
def oX3_has : List Cond := [.fieldLink RX3 31 "FloatSolver$Nodes" "count" "I"]
def wpX3_has : List Cond := .code yX3_has cX3_has 2 (some .boolean) :: (oX3_has ++ (wsX30 ++ ([] : List Cond)))
theorem oX3_has_in : ∀ w ∈ oX3_has, w ∈ wpX3_has := fun w h => List.mem_cons_of_mem _ (List.mem_append_left _ h)
theorem gwoX3_has : ∀ w ∈ oX3_has, goodWord w = true := by decide +kernel
theorem gwX3_has : ∀ w ∈ wpX3_has, goodWord w = true := by
  unfold wpX3_has
  exact List.forall_mem_cons.mpr ⟨rfl, List.forall_mem_append.mpr ⟨gwoX3_has, List.forall_mem_append.mpr ⟨gwX3, fun _ h => absurd h List.not_mem_nil⟩⟩⟩
set_option maxRecDepth 100000 in
theorem toX3_has : ∀ w ∈ oX3_has, w ∈ lw_tbl := by
  unfold oX3_has
  exact List.forall_mem_cons.mpr ⟨(List.mem_of_getElem? (i := 83) (by decide +kernel)), fun _ h => absurd h List.not_mem_nil⟩
set_option maxRecDepth 100000 in
theorem tX3_has : ∀ w ∈ wpX3_has, w ∈ lw_tbl := by
  unfold wpX3_has
  exact List.forall_mem_cons.mpr ⟨(List.mem_of_getElem? (i := 271) (by rfl)), List.forall_mem_append.mpr ⟨toX3_has, List.forall_mem_append.mpr ⟨in_wsX30, fun _ h => absurd h List.not_mem_nil⟩⟩⟩
theorem iX3_has_X3 : ∀ w ∈ wsX30, w ∈ wpX3_has := fun w h => List.mem_cons_of_mem _ (List.mem_append_right _ (List.mem_append_left _ h))
set_option maxHeartbeats 4000000 in
set_option maxRecDepth 100000 in
theorem c_X3_has (l : Launch) (D : va_G) (cI cJ cZ : ClassId) (sz : Nat) (h a0 a1 a2 a3 a4 a5 : Nat) (n i : Int32) : Met l yX3_has wpX3_has ({ frames := 0, cells := 0, slots := 0, locals := 0 }) (va_Pc [.ref h, .int i] (sp_pre D vwCl (sp_ty cI cJ cZ) [(h, .inr (1, [.ref a0, .ref a1, .ref a2, .ref a3, .ref a4, .ref a5, .int n]))] sz)) (va_Qi (fun (r : Int32) (_ : Unit) => (r = 1 ∧ (0 ≤ i.toInt ∧ i.toInt < n.toInt)) ∨ (r = 0 ∧ ¬ (0 ≤ i.toInt ∧ i.toInt < n.toInt))) (sp_B D vwCl (va_A [(h, .inr (1, [.ref a0, .ref a1, .ref a2, .ref a3, .ref a4, .ref a5, .int n]))] sz) (fun (_ : Unit) => [(h, .inr (1, [.ref a0, .ref a1, .ref a2, .ref a3, .ref a4, .ref a5, .int n]))])) (va_A [(h, .inr (1, [.ref a0, .ref a1, .ref a2, .ref a3, .ref a4, .ref a5, .int n]))] sz)) 0 0 (va_A [(h, .inr (1, [.ref a0, .ref a1, .ref a2, .ref a3, .ref a4, .ref a5, .int n]))] sz) := by
  refine sp_ofW (Qc := fun A => va_Qi (fun (r : Int32) (_ : Unit) => (r = 1 ∧ (0 ≤ i.toInt ∧ i.toInt < n.toInt)) ∨ (r = 0 ∧ ¬ (0 ≤ i.toInt ∧ i.toInt < n.toInt))) (sp_B D vwCl A (fun (_ : Unit) => [(h, .inr (1, [.ref a0, .ref a1, .ref a2, .ref a3, .ref a4, .ref a5, .int n]))])) A) (by decide) rfl (Nat.le_of_ble_eq_true rfl) (fun p e s m below meth c A ls H locs C0 hA hS hP hK hD hl => ?_)
  obtain ⟨hx, hb, hr, hts, hown, hlocks, hml, hin⟩ := C0
  have hown : s.vm.findClass RX3 = some m.cls := hown
  have hl : lv_has ls 2 [(0, .ref h), (1, .int i)] := hl
  have hK : va_K D vwCl [(cI, .int), (cJ, .long), (cZ, .boolean)] s := hK
  refine lv_iload_n hx hb dX3_has_0 rfl (lv_at hl 1 rfl) ?_
  refine lv_if_lt (tgt := 16) hx hb dX3_has_1 (by decide) (fun c1 => ?_) (fun c1 => ?_)
  · skip
    have c1i : (i : Int32).toInt < 0 := Int32.lt_iff_toInt_lt.mp c1
    refine lv_iconst (v := 0) hx hb dX3_has_16 (by decide) ?_
    refine W.widen (k := 0) (n := 0) (by decide) (by decide) ?_
    exact sp_zret (u := ()) hx hb hr hlocks (by decide) hS (by first | exact Or.inl ⟨rfl, by omega⟩ | exact Or.inr ⟨rfl, by omega⟩) (hP.sub [0] rfl) (hD.sub [0] (by decide) rfl) dX3_has_17
  · skip
    have c1i : ¬ (i : Int32).toInt < 0 := fun h => c1 (Int32.lt_iff_toInt_lt.mpr h)
    refine lv_iload_n hx hb dX3_has_4 rfl (lv_at hl 1 rfl) ?_
    refine lv_aload_n hx hb dX3_has_5 rfl (lv_at hl 0 rfl) ?_
    refine va_get (D := D) (ci := 1) (v := .int n) (C := RX3) (T := TX3) (N := 7) hx hb hts iX3_has_X3 hown hK hP 0 rfl rfl 6 (by decide) (hts (.fieldLink RX3 31 "FloatSolver$Nodes" "count" "I") (oX3_has_in _ (List.mem_of_getElem? (i := 0) rfl))) (fun _ h9 => h9) rfl dX3_has_6 ?_
    refine lv_icmp_ge (tgt := 16) hx hb dX3_has_9 (by decide) (fun c2 => ?_) (fun c2 => ?_)
    · skip
      have c2i : (n : Int32).toInt ≤ (i : Int32).toInt := Int32.le_iff_toInt_le.mp c2
      refine lv_iconst (v := 0) hx hb dX3_has_16 (by decide) ?_
      refine W.widen (k := 0) (n := 0) (by decide) (by decide) ?_
      exact sp_zret (u := ()) hx hb hr hlocks (by decide) hS (by first | exact Or.inl ⟨rfl, by omega⟩ | exact Or.inr ⟨rfl, by omega⟩) (hP.sub [0] rfl) (hD.sub [0] (by decide) rfl) dX3_has_17
    · skip
      have c2i : ¬ (n : Int32).toInt ≤ (i : Int32).toInt := fun h => c2 (Int32.le_iff_toInt_le.mpr h)
      refine lv_iconst (v := 1) hx hb dX3_has_12 (by decide) ?_
      refine lv_goto (tgt := 17) hx hb dX3_has_13 (by decide) ?_
      refine W.widen (k := 0) (n := 0) (by decide) (by decide) ?_
      exact sp_zret (u := ()) hx hb hr hlocks (by decide) hS (by first | exact Or.inl ⟨rfl, by omega⟩ | exact Or.inr ⟨rfl, by omega⟩) (hP.sub [0] rfl) (hD.sub [0] (by decide) rfl) dX3_has_17
def oX4_has : List Cond := [.fieldLink RX4 21 "FloatSolver$Rules" "count" "I"]
def wpX4_has : List Cond := .code yX4_has cX4_has 2 (some .boolean) :: (oX4_has ++ (wsX40 ++ ([] : List Cond)))
theorem oX4_has_in : ∀ w ∈ oX4_has, w ∈ wpX4_has := fun w h => List.mem_cons_of_mem _ (List.mem_append_left _ h)
theorem gwoX4_has : ∀ w ∈ oX4_has, goodWord w = true := by decide +kernel
theorem gwX4_has : ∀ w ∈ wpX4_has, goodWord w = true := by
  unfold wpX4_has
  exact List.forall_mem_cons.mpr ⟨rfl, List.forall_mem_append.mpr ⟨gwoX4_has, List.forall_mem_append.mpr ⟨gwX4, fun _ h => absurd h List.not_mem_nil⟩⟩⟩
set_option maxRecDepth 100000 in
theorem toX4_has : ∀ w ∈ oX4_has, w ∈ lw_tbl := by
  unfold oX4_has
  exact List.forall_mem_cons.mpr ⟨(List.mem_of_getElem? (i := 112) (by decide +kernel)), fun _ h => absurd h List.not_mem_nil⟩
set_option maxRecDepth 100000 in
theorem tX4_has : ∀ w ∈ wpX4_has, w ∈ lw_tbl := by
  unfold wpX4_has
  exact List.forall_mem_cons.mpr ⟨(List.mem_of_getElem? (i := 437) (by rfl)), List.forall_mem_append.mpr ⟨toX4_has, List.forall_mem_append.mpr ⟨in_wsX40, fun _ h => absurd h List.not_mem_nil⟩⟩⟩
theorem iX4_has_X4 : ∀ w ∈ wsX40, w ∈ wpX4_has := fun w h => List.mem_cons_of_mem _ (List.mem_append_right _ (List.mem_append_left _ h))
set_option maxHeartbeats 4000000 in
set_option maxRecDepth 100000 in
theorem c_X4_has (l : Launch) (D : va_G) (cI cJ cZ : ClassId) (sz : Nat) (h a0 a1 a2 : Nat) (n i : Int32) : Met l yX4_has wpX4_has ({ frames := 0, cells := 0, slots := 0, locals := 0 }) (va_Pc [.ref h, .int i] (sp_pre D vwCl (sp_ty cI cJ cZ) [(h, .inr (2, [.ref a0, .ref a1, .ref a2, .int n]))] sz)) (va_Qi (fun (r : Int32) (_ : Unit) => (r = 1 ∧ (0 ≤ i.toInt ∧ i.toInt < n.toInt)) ∨ (r = 0 ∧ ¬ (0 ≤ i.toInt ∧ i.toInt < n.toInt))) (sp_B D vwCl (va_A [(h, .inr (2, [.ref a0, .ref a1, .ref a2, .int n]))] sz) (fun (_ : Unit) => [(h, .inr (2, [.ref a0, .ref a1, .ref a2, .int n]))])) (va_A [(h, .inr (2, [.ref a0, .ref a1, .ref a2, .int n]))] sz)) 0 0 (va_A [(h, .inr (2, [.ref a0, .ref a1, .ref a2, .int n]))] sz) := by
  refine sp_ofW (Qc := fun A => va_Qi (fun (r : Int32) (_ : Unit) => (r = 1 ∧ (0 ≤ i.toInt ∧ i.toInt < n.toInt)) ∨ (r = 0 ∧ ¬ (0 ≤ i.toInt ∧ i.toInt < n.toInt))) (sp_B D vwCl A (fun (_ : Unit) => [(h, .inr (2, [.ref a0, .ref a1, .ref a2, .int n]))])) A) (by decide) rfl (Nat.le_of_ble_eq_true rfl) (fun p e s m below meth c A ls H locs C0 hA hS hP hK hD hl => ?_)
  obtain ⟨hx, hb, hr, hts, hown, hlocks, hml, hin⟩ := C0
  have hown : s.vm.findClass RX4 = some m.cls := hown
  have hl : lv_has ls 2 [(0, .ref h), (1, .int i)] := hl
  have hK : va_K D vwCl [(cI, .int), (cJ, .long), (cZ, .boolean)] s := hK
  refine lv_iload_n hx hb dX4_has_0 rfl (lv_at hl 1 rfl) ?_
  refine lv_if_lt (tgt := 16) hx hb dX4_has_1 (by decide) (fun c1 => ?_) (fun c1 => ?_)
  · skip
    have c1i : (i : Int32).toInt < 0 := Int32.lt_iff_toInt_lt.mp c1
    refine lv_iconst (v := 0) hx hb dX4_has_16 (by decide) ?_
    refine W.widen (k := 0) (n := 0) (by decide) (by decide) ?_
    exact sp_zret (u := ()) hx hb hr hlocks (by decide) hS (by first | exact Or.inl ⟨rfl, by omega⟩ | exact Or.inr ⟨rfl, by omega⟩) (hP.sub [0] rfl) (hD.sub [0] (by decide) rfl) dX4_has_17
  · skip
    have c1i : ¬ (i : Int32).toInt < 0 := fun h => c1 (Int32.lt_iff_toInt_lt.mpr h)
    refine lv_iload_n hx hb dX4_has_4 rfl (lv_at hl 1 rfl) ?_
    refine lv_aload_n hx hb dX4_has_5 rfl (lv_at hl 0 rfl) ?_
    refine va_get (D := D) (ci := 2) (v := .int n) (C := RX4) (T := TX4) (N := 4) hx hb hts iX4_has_X4 hown hK hP 0 rfl rfl 3 (by decide) (hts (.fieldLink RX4 21 "FloatSolver$Rules" "count" "I") (oX4_has_in _ (List.mem_of_getElem? (i := 0) rfl))) (fun _ h9 => h9) rfl dX4_has_6 ?_
    refine lv_icmp_ge (tgt := 16) hx hb dX4_has_9 (by decide) (fun c2 => ?_) (fun c2 => ?_)
    · skip
      have c2i : (n : Int32).toInt ≤ (i : Int32).toInt := Int32.le_iff_toInt_le.mp c2
      refine lv_iconst (v := 0) hx hb dX4_has_16 (by decide) ?_
      refine W.widen (k := 0) (n := 0) (by decide) (by decide) ?_
      exact sp_zret (u := ()) hx hb hr hlocks (by decide) hS (by first | exact Or.inl ⟨rfl, by omega⟩ | exact Or.inr ⟨rfl, by omega⟩) (hP.sub [0] rfl) (hD.sub [0] (by decide) rfl) dX4_has_17
    · skip
      have c2i : ¬ (n : Int32).toInt ≤ (i : Int32).toInt := fun h => c2 (Int32.le_iff_toInt_le.mpr h)
      refine lv_iconst (v := 1) hx hb dX4_has_12 (by decide) ?_
      refine lv_goto (tgt := 17) hx hb dX4_has_13 (by decide) ?_
      refine W.widen (k := 0) (n := 0) (by decide) (by decide) ?_
      exact sp_zret (u := ()) hx hb hr hlocks (by decide) hS (by first | exact Or.inl ⟨rfl, by omega⟩ | exact Or.inr ⟨rfl, by omega⟩) (hP.sub [0] rfl) (hD.sub [0] (by decide) rfl) dX4_has_17
def oX8_in : List Cond := []
def wpX8_in : List Cond := .code yX8_in cX8_in 6 (some .boolean) :: (oX8_in ++ ([] : List Cond))
theorem oX8_in_in : ∀ w ∈ oX8_in, w ∈ wpX8_in := fun w h => List.mem_cons_of_mem _ (List.mem_append_left _ h)
theorem gwoX8_in : ∀ w ∈ oX8_in, goodWord w = true := by decide +kernel
theorem gwX8_in : ∀ w ∈ wpX8_in, goodWord w = true := by
  unfold wpX8_in
  exact List.forall_mem_cons.mpr ⟨rfl, List.forall_mem_append.mpr ⟨gwoX8_in, fun _ h => absurd h List.not_mem_nil⟩⟩
set_option maxRecDepth 100000 in
theorem toX8_in : ∀ w ∈ oX8_in, w ∈ lw_tbl := by
  unfold oX8_in
  exact fun _ h => absurd h List.not_mem_nil
set_option maxRecDepth 100000 in
theorem tX8_in : ∀ w ∈ wpX8_in, w ∈ lw_tbl := by
  unfold wpX8_in
  exact List.forall_mem_cons.mpr ⟨(List.mem_of_getElem? (i := 773) (by rfl)), List.forall_mem_append.mpr ⟨toX8_in, fun _ h => absurd h List.not_mem_nil⟩⟩
set_option maxHeartbeats 4000000 in
set_option maxRecDepth 100000 in
theorem c_X8_in (l : Launch) (D : va_G) (cI cJ cZ : ClassId) (sz : Nat) (a b c0 : Int64) : Met l yX8_in wpX8_in ({ frames := 0, cells := 0, slots := 0, locals := 0 }) (va_Pc [.long a, .long b, .long c0] (sp_pre D vwCl (sp_ty cI cJ cZ) [] sz)) (va_Qi (fun (r : Int32) (_ : Unit) => (r = 1 ∧ (b.toInt ≤ a.toInt ∧ a.toInt ≤ c0.toInt)) ∨ (r = 0 ∧ ¬ (b.toInt ≤ a.toInt ∧ a.toInt ≤ c0.toInt))) (sp_B D vwCl (va_A [] sz) (fun (_ : Unit) => [])) (va_A [] sz)) 0 0 (va_A [] sz) := by
  refine sp_ofW (Qc := fun A => va_Qi (fun (r : Int32) (_ : Unit) => (r = 1 ∧ (b.toInt ≤ a.toInt ∧ a.toInt ≤ c0.toInt)) ∨ (r = 0 ∧ ¬ (b.toInt ≤ a.toInt ∧ a.toInt ≤ c0.toInt))) (sp_B D vwCl A (fun (_ : Unit) => [])) A) (by decide) rfl (Nat.le_of_ble_eq_true rfl) (fun p e s m below meth c A ls H locs C0 hA hS hP hK hD hl => ?_)
  obtain ⟨hx, hb, hr, hts, hown, hlocks, hml, hin⟩ := C0
  have hown : s.vm.findClass RX8 = some m.cls := hown
  have hl : lv_has ls 6 [(0, .long a), (2, .long b), (4, .long c0)] := hl
  have hK : va_K D vwCl [(cI, .int), (cJ, .long), (cZ, .boolean)] s := hK
  refine lv_lload_n hx hb dX8_in_0 rfl (lv_at hl 0 rfl) ?_
  refine lv_lload_n hx hb dX8_in_1 rfl (lv_at hl 1 rfl) ?_
  refine W.lcmp hx hb dX8_in_2 ?_
  refine lv_if_lt (tgt := 17) hx hb dX8_in_3 (by decide) (fun c1 => ?_) (fun c1 => ?_)
  · skip
    have c1 := (lg_cmp_lt _ _).mp c1
    have c1i : (a : Int64).toInt < (b : Int64).toInt := Int64.lt_iff_toInt_lt.mp c1
    refine lv_iconst (v := 0) hx hb dX8_in_17 (by decide) ?_
    refine W.widen (k := 0) (n := 0) (by decide) (by decide) ?_
    exact sp_zret (u := ()) hx hb hr hlocks (by decide) hS (by first | exact Or.inl ⟨rfl, by omega⟩ | exact Or.inr ⟨rfl, by omega⟩) (hP.sub [] rfl) (hD.sub [] (by decide) rfl) dX8_in_18
  · skip
    have c1 := fun h => c1 ((lg_cmp_lt _ _).mpr h)
    have c1i : ¬ (a : Int64).toInt < (b : Int64).toInt := fun h => c1 (Int64.lt_iff_toInt_lt.mpr h)
    refine lv_lload_n hx hb dX8_in_6 rfl (lv_at hl 0 rfl) ?_
    refine lv_lload hx hb dX8_in_7 (lv_at hl 2 rfl) ?_
    refine W.lcmp hx hb dX8_in_9 ?_
    refine lv_if_gt (tgt := 17) hx hb dX8_in_10 (by decide) (fun c2 => ?_) (fun c2 => ?_)
    · skip
      have c2 := (lg_cmp_gt _ _).mp c2
      have c2i : (c0 : Int64).toInt < (a : Int64).toInt := Int64.lt_iff_toInt_lt.mp c2
      refine lv_iconst (v := 0) hx hb dX8_in_17 (by decide) ?_
      refine W.widen (k := 0) (n := 0) (by decide) (by decide) ?_
      exact sp_zret (u := ()) hx hb hr hlocks (by decide) hS (by first | exact Or.inl ⟨rfl, by omega⟩ | exact Or.inr ⟨rfl, by omega⟩) (hP.sub [] rfl) (hD.sub [] (by decide) rfl) dX8_in_18
    · skip
      have c2 := fun h => c2 ((lg_cmp_gt _ _).mpr h)
      have c2i : ¬ (c0 : Int64).toInt < (a : Int64).toInt := fun h => c2 (Int64.lt_iff_toInt_lt.mpr h)
      refine lv_iconst (v := 1) hx hb dX8_in_13 (by decide) ?_
      refine lv_goto (tgt := 18) hx hb dX8_in_14 (by decide) ?_
      refine W.widen (k := 0) (n := 0) (by decide) (by decide) ?_
      exact sp_zret (u := ()) hx hb hr hlocks (by decide) hS (by first | exact Or.inl ⟨rfl, by omega⟩ | exact Or.inr ⟨rfl, by omega⟩) (hP.sub [] rfl) (hD.sub [] (by decide) rfl) dX8_in_18
