def oX8_thrown : List Cond := [.fieldLink RX8 70 "FloatSolverModel" "thrown" "I"]
def wpX8_thrown : List Cond := .code yX8_thrown cX8_thrown 1 (some .int) :: (oX8_thrown ++ (wsX80 ++ ([] : List Cond)))
theorem oX8_thrown_in : ∀ w ∈ oX8_thrown, w ∈ wpX8_thrown := fun w h => List.mem_cons_of_mem _ (List.mem_append_left _ h)
theorem gwoX8_thrown : ∀ w ∈ oX8_thrown, goodWord w = true := by decide +kernel
theorem gwX8_thrown : ∀ w ∈ wpX8_thrown, goodWord w = true := by
  unfold wpX8_thrown
  exact List.forall_mem_cons.mpr ⟨rfl, List.forall_mem_append.mpr ⟨gwoX8_thrown, List.forall_mem_append.mpr ⟨gwX8, fun _ h => absurd h List.not_mem_nil⟩⟩⟩
set_option maxRecDepth 100000 in
theorem toX8_thrown : ∀ w ∈ oX8_thrown, w ∈ lw_tbl := by
  unfold oX8_thrown
  exact List.forall_mem_cons.mpr ⟨(List.mem_of_getElem? (i := 683) (by decide +kernel)), fun _ h => absurd h List.not_mem_nil⟩
set_option maxRecDepth 100000 in
theorem tX8_thrown : ∀ w ∈ wpX8_thrown, w ∈ lw_tbl := by
  unfold wpX8_thrown
  exact List.forall_mem_cons.mpr ⟨(List.mem_of_getElem? (i := 765) (by rfl)), List.forall_mem_append.mpr ⟨toX8_thrown, List.forall_mem_append.mpr ⟨in_wsX80, fun _ h => absurd h List.not_mem_nil⟩⟩⟩
theorem iX8_thrown_X8 : ∀ w ∈ wsX80, w ∈ wpX8_thrown := fun w h => List.mem_cons_of_mem _ (List.mem_append_right _ (List.mem_append_left _ h))
set_option maxHeartbeats 4000000 in
set_option maxRecDepth 100000 in
theorem c_X8_thrown (l : Launch) (D : va_G) (cI cJ cZ : ClassId) (sz : Nat) (h a0 a1 a2 a3 a4 a5 a6 a7 a8 a9 a10 a11 a12 a13 a14 a15 a16 a17 : Nat) (t : Int32) : Met l yX8_thrown wpX8_thrown ({ frames := 0, cells := 0, slots := 0, locals := 0 }) (va_Pc [.ref h] (sp_pre D vwCl (sp_ty cI cJ cZ) [(h, .inr (6, [.int t, .int 0, .ref a0, .ref a1, .ref a2, .int 0, .ref a3, .ref a4, .ref a5, .ref a6, .ref a7, .ref a8, .int 0, .int 0, .int 0, .int 0, .ref a9, .ref a10, .ref a11, .ref a12, .ref a13, .ref a14, .ref a15, .ref a16, .ref a17, .int 0]))] sz)) (va_Qi (fun (r : Int32) (_ : Unit) => r = t) (sp_B D vwCl (va_A [(h, .inr (6, [.int t, .int 0, .ref a0, .ref a1, .ref a2, .int 0, .ref a3, .ref a4, .ref a5, .ref a6, .ref a7, .ref a8, .int 0, .int 0, .int 0, .int 0, .ref a9, .ref a10, .ref a11, .ref a12, .ref a13, .ref a14, .ref a15, .ref a16, .ref a17, .int 0]))] sz) (fun (_ : Unit) => [])) (va_A [(h, .inr (6, [.int t, .int 0, .ref a0, .ref a1, .ref a2, .int 0, .ref a3, .ref a4, .ref a5, .ref a6, .ref a7, .ref a8, .int 0, .int 0, .int 0, .int 0, .ref a9, .ref a10, .ref a11, .ref a12, .ref a13, .ref a14, .ref a15, .ref a16, .ref a17, .int 0]))] sz)) 0 0 (va_A [(h, .inr (6, [.int t, .int 0, .ref a0, .ref a1, .ref a2, .int 0, .ref a3, .ref a4, .ref a5, .ref a6, .ref a7, .ref a8, .int 0, .int 0, .int 0, .int 0, .ref a9, .ref a10, .ref a11, .ref a12, .ref a13, .ref a14, .ref a15, .ref a16, .ref a17, .int 0]))] sz) := by
  refine sp_ofW (Qc := fun A => va_Qi (fun (r : Int32) (_ : Unit) => r = t) (sp_B D vwCl A (fun (_ : Unit) => [])) A) (by decide) rfl (Nat.le_of_ble_eq_true rfl) (fun p e s m below meth c A ls H locs C0 hA hS hP hK hD hl => ?_)
  obtain ⟨hx, hb, hr, hts, hown, hlocks, hml, hin⟩ := C0
  have hown : s.vm.findClass RX8 = some m.cls := hown
  have hl : lv_has ls 1 [(0, .ref h)] := hl
  have hK : va_K D vwCl [(cI, .int), (cJ, .long), (cZ, .boolean)] s := hK
  refine lv_aload_n hx hb dX8_thrown_0 rfl (lv_at hl 0 rfl) ?_
  refine va_get (D := D) (ci := 6) (v := .int t) (C := RX8) (T := TX8) (N := 26) hx hb hts iX8_thrown_X8 hown hK hP 0 rfl rfl 0 (by decide) (hts (.fieldLink RX8 70 "FloatSolverModel" "thrown" "I") (oX8_thrown_in _ (List.mem_of_getElem? (i := 0) rfl))) (fun _ h9 => h9) rfl dX8_thrown_1 ?_
  refine W.widen (k := 0) (n := 0) (by decide) (by decide) ?_
  exact sp_iret (u := ()) hx hb hr hlocks hS rfl (hP.sub [] rfl) (hD.sub [] (by decide) rfl) dX8_thrown_4
def oX8_isNode : List Cond := [.fieldLink RX8 147 "FloatSolverModel" "nodes" "I"]
def wpX8_isNode : List Cond := .code yX8_isNode cX8_isNode 2 (some .boolean) :: (oX8_isNode ++ (wsX80 ++ ((va_wsS RX8 150 yX8_in wpX8_in) ++ ([] : List Cond))))
theorem oX8_isNode_in : ∀ w ∈ oX8_isNode, w ∈ wpX8_isNode := fun w h => List.mem_cons_of_mem _ (List.mem_append_left _ h)
theorem gwoX8_isNode : ∀ w ∈ oX8_isNode, goodWord w = true := by decide +kernel
theorem gwX8_isNode : ∀ w ∈ wpX8_isNode, goodWord w = true := by
  unfold wpX8_isNode
  exact List.forall_mem_cons.mpr ⟨rfl, List.forall_mem_append.mpr ⟨gwoX8_isNode, List.forall_mem_append.mpr ⟨gwX8, List.forall_mem_append.mpr ⟨(sp_gS gwX8_in), fun _ h => absurd h List.not_mem_nil⟩⟩⟩⟩
set_option maxRecDepth 100000 in
theorem toX8_isNode : ∀ w ∈ oX8_isNode, w ∈ lw_tbl := by
  unfold oX8_isNode
  exact List.forall_mem_cons.mpr ⟨(List.mem_of_getElem? (i := 684) (by decide +kernel)), fun _ h => absurd h List.not_mem_nil⟩
set_option maxRecDepth 100000 in
theorem tX8_isNode : ∀ w ∈ wpX8_isNode, w ∈ lw_tbl := by
  unfold wpX8_isNode
  exact List.forall_mem_cons.mpr ⟨(List.mem_of_getElem? (i := 779) (by rfl)), List.forall_mem_append.mpr ⟨toX8_isNode, List.forall_mem_append.mpr ⟨in_wsX80, List.forall_mem_append.mpr ⟨(sp_tS (List.mem_of_getElem? (i := 771) (by decide +kernel)) (List.mem_of_getElem? (i := 772) (by decide +kernel)) (List.mem_of_getElem? (i := 45) (by decide +kernel)) tX8_in), fun _ h => absurd h List.not_mem_nil⟩⟩⟩⟩
theorem iX8_isNode_X8 : ∀ w ∈ wsX80, w ∈ wpX8_isNode := fun w h => List.mem_cons_of_mem _ (List.mem_append_right _ (List.mem_append_left _ h))
theorem gX8_isNode_X8_in_150 : GoodIn wpX8_isNode (va_wsS RX8 150 yX8_in wpX8_in) := fun w h => ⟨List.mem_cons_of_mem _ (List.mem_append_right _ (List.mem_append_right _ (List.mem_append_left _ h))), good_of_word (sp_gS gwX8_in w h)⟩
set_option maxHeartbeats 4000000 in
set_option maxRecDepth 100000 in
theorem c_X8_isNode (l : Launch) (D : va_G) (cI cJ cZ : ClassId) (sz : Nat) (h a0 a1 a2 a3 a4 a5 a6 a7 a8 a9 a10 a11 a12 a13 a14 a15 a16 a17 : Nat) (n : Int32) : Met l yX8_isNode wpX8_isNode ({ frames := 1, cells := 0, slots := 0, locals := 25 }) (va_Pc [.ref h, .int n] (sp_pre D vwCl (sp_ty cI cJ cZ) [(h, .inr (6, [.int 0, .int 0, .ref a0, .ref a1, .ref a2, .int 0, .ref a3, .ref a4, .ref a5, .ref a6, .ref a7, .ref a8, .int 0, .int 0, .int 0, .int 0, .ref a9, .ref a10, .ref a11, .ref a12, .ref a13, .ref a14, .ref a15, .ref a16, .ref a17, .int 0]))] sz)) (va_Qi (fun (r : Int32) (_ : Unit) => r = 0) (sp_B D vwCl (va_A [(h, .inr (6, [.int 0, .int 0, .ref a0, .ref a1, .ref a2, .int 0, .ref a3, .ref a4, .ref a5, .ref a6, .ref a7, .ref a8, .int 0, .int 0, .int 0, .int 0, .ref a9, .ref a10, .ref a11, .ref a12, .ref a13, .ref a14, .ref a15, .ref a16, .ref a17, .int 0]))] sz) (fun (_ : Unit) => [(h, .inr (6, [.int 0, .int 0, .ref a0, .ref a1, .ref a2, .int 0, .ref a3, .ref a4, .ref a5, .ref a6, .ref a7, .ref a8, .int 0, .int 0, .int 0, .int 0, .ref a9, .ref a10, .ref a11, .ref a12, .ref a13, .ref a14, .ref a15, .ref a16, .ref a17, .int 0]))])) (va_A [(h, .inr (6, [.int 0, .int 0, .ref a0, .ref a1, .ref a2, .int 0, .ref a3, .ref a4, .ref a5, .ref a6, .ref a7, .ref a8, .int 0, .int 0, .int 0, .int 0, .ref a9, .ref a10, .ref a11, .ref a12, .ref a13, .ref a14, .ref a15, .ref a16, .ref a17, .int 0]))] sz)) 0 0 (va_A [(h, .inr (6, [.int 0, .int 0, .ref a0, .ref a1, .ref a2, .int 0, .ref a3, .ref a4, .ref a5, .ref a6, .ref a7, .ref a8, .int 0, .int 0, .int 0, .int 0, .ref a9, .ref a10, .ref a11, .ref a12, .ref a13, .ref a14, .ref a15, .ref a16, .ref a17, .int 0]))] sz) := by
  refine sp_ofW (Qc := fun A => va_Qi (fun (r : Int32) (_ : Unit) => r = 0) (sp_B D vwCl A (fun (_ : Unit) => [(h, .inr (6, [.int 0, .int 0, .ref a0, .ref a1, .ref a2, .int 0, .ref a3, .ref a4, .ref a5, .ref a6, .ref a7, .ref a8, .int 0, .int 0, .int 0, .int 0, .ref a9, .ref a10, .ref a11, .ref a12, .ref a13, .ref a14, .ref a15, .ref a16, .ref a17, .int 0]))])) A) (by decide) rfl (Nat.le_of_ble_eq_true rfl) (fun p e s m below meth c A ls H locs C0 hA hS hP hK hD hl => ?_)
  obtain ⟨hx, hb, hr, hts, hown, hlocks, hml, hin⟩ := C0
  have hown : s.vm.findClass RX8 = some m.cls := hown
  have hl : lv_has ls 2 [(0, .ref h), (1, .int n)] := hl
  have hK : va_K D vwCl [(cI, .int), (cJ, .long), (cZ, .boolean)] s := hK
  refine lv_iload_n hx hb dX8_isNode_0 rfl (lv_at hl 1 rfl) ?_
  refine lv_i2l (v := _) hx hb dX8_isNode_1 rfl ?_
  refine lv_lconst (v := 0) hx hb dX8_isNode_2 (by decide) ?_
  refine lv_aload_n hx hb dX8_isNode_3 rfl (lv_at hl 0 rfl) ?_
  refine va_get (D := D) (ci := 6) (v := .int 0) (C := RX8) (T := TX8) (N := 26) hx hb hts iX8_isNode_X8 hown hK hP 0 rfl rfl 1 (by decide) (hts (.fieldLink RX8 147 "FloatSolverModel" "nodes" "I") (oX8_isNode_in _ (List.mem_of_getElem? (i := 0) rfl))) (fun _ h9 => h9) rfl dX8_isNode_4 ?_
  refine lv_iconst (v := 1) hx hb dX8_isNode_7 (by decide) ?_
  refine lv_isub hx hb dX8_isNode_8 ?_
  refine lv_topi (fun y1 e2 => ?_)
  obtain rfl : y1 = (-1) := e2.trans (by decide)
  refine lv_i2l (v := _) hx hb dX8_isNode_9 rfl ?_
  refine lv_topl (fun y3 e4 => ?_)
  obtain rfl : y3 = (-1) := e4.trans (by decide)
  refine sp_calli (wr := [(h, .inr (6, [.int 0, .int 0, .ref a0, .ref a1, .ref a2, .int 0, .ref a3, .ref a4, .ref a5, .ref a6, .ref a7, .ref a8, .int 0, .int 0, .int 0, .int 0, .ref a9, .ref a10, .ref a11, .ref a12, .ref a13, .ref a14, .ref a15, .ref a16, .ref a17, .int 0]))]) (wc := []) hP hD hS hA [] [0] rfl rfl (by decide) (by decide) (va_runS (As := [.long (n : Int32).toInt64, .long 0, .long (-1)]) (rest := []) ⟨hx, hb, hml, hown, hts⟩ (c_X8_in l D cI cJ cZ H.size ((n : Int32).toInt64) (0) ((-1))) (va_cwS 3 hts gX8_isNode_X8_in_150 rfl rfl rfl (by decide +kernel) ⟨Nat.le_of_ble_eq_true rfl, Nat.le_of_ble_eq_true rfl⟩) (sp_preS [.long (n : Int32).toInt64, .long 0, .long (-1)] hK (hP.sub (ws' := []) [] rfl) (hD.sub (ws' := []) [] (by decide) rfl)) rfl rfl hl.1 rfl (lv_room (Nat.le_of_ble_eq_true rfl)) dX8_isNode_10 ⟨Nat.le_of_ble_eq_true rfl, Nat.le_of_ble_eq_true rfl⟩) (fun r5 u6 H locs hw7 hP hD hS => ?_)
  rcases hw7 with ⟨rfl, h8⟩ | ⟨rfl, h8⟩
  · skip
    have h8 : (0 : Int) ≤ (n : Int32).toInt ∧ (n : Int32).toInt ≤ (-1 : Int) := (by have h9 := h8; simp only [Int32.toInt_toInt64] at h9; exact h9)
    exact absurd h8 (by omega)
  · skip
    have h8 : ¬ ((0 : Int) ≤ (n : Int32).toInt ∧ (n : Int32).toInt ≤ (-1 : Int)) := (by have h9 := h8; simp only [Int32.toInt_toInt64] at h9; exact h9)
    have hP : va_P D vwCl [(h, .inr (6, [.int 0, .int 0, .ref a0, .ref a1, .ref a2, .int 0, .ref a3, .ref a4, .ref a5, .ref a6, .ref a7, .ref a8, .int 0, .int 0, .int 0, .int 0, .ref a9, .ref a10, .ref a11, .ref a12, .ref a13, .ref a14, .ref a15, .ref a16, .ref a17, .int 0]))] H := hP
    have hD : va_D A [(h, .inr (6, [.int 0, .int 0, .ref a0, .ref a1, .ref a2, .int 0, .ref a3, .ref a4, .ref a5, .ref a6, .ref a7, .ref a8, .int 0, .int 0, .int 0, .int 0, .ref a9, .ref a10, .ref a11, .ref a12, .ref a13, .ref a14, .ref a15, .ref a16, .ref a17, .int 0]))] := hD
    refine W.widen (k := 0) (n := 0) (by decide) (by decide) ?_
    exact sp_zret (u := ()) hx hb hr hlocks (by decide) hS rfl (hP.sub [0] rfl) (hD.sub [0] (by decide) rfl) dX8_isNode_13
def oX8_placeOf : List Cond := [.constantLong RX8 74 (-1)]
def wpX8_placeOf : List Cond := .code yX8_placeOf cX8_placeOf 3 (some .long) :: (oX8_placeOf ++ ([] : List Cond))
theorem oX8_placeOf_in : ∀ w ∈ oX8_placeOf, w ∈ wpX8_placeOf := fun w h => List.mem_cons_of_mem _ (List.mem_append_left _ h)
theorem gwoX8_placeOf : ∀ w ∈ oX8_placeOf, goodWord w = true := by decide +kernel
theorem gwX8_placeOf : ∀ w ∈ wpX8_placeOf, goodWord w = true := by
  unfold wpX8_placeOf
  exact List.forall_mem_cons.mpr ⟨rfl, List.forall_mem_append.mpr ⟨gwoX8_placeOf, fun _ h => absurd h List.not_mem_nil⟩⟩
set_option maxRecDepth 100000 in
theorem toX8_placeOf : ∀ w ∈ oX8_placeOf, w ∈ lw_tbl := by
  unfold oX8_placeOf
  exact List.forall_mem_cons.mpr ⟨(List.mem_of_getElem? (i := 812) (by decide +kernel)), fun _ h => absurd h List.not_mem_nil⟩
set_option maxRecDepth 100000 in
theorem tX8_placeOf : ∀ w ∈ wpX8_placeOf, w ∈ lw_tbl := by
  unfold wpX8_placeOf
  exact List.forall_mem_cons.mpr ⟨(List.mem_of_getElem? (i := 811) (by rfl)), List.forall_mem_append.mpr ⟨toX8_placeOf, fun _ h => absurd h List.not_mem_nil⟩⟩
set_option maxHeartbeats 4000000 in
set_option maxRecDepth 100000 in
theorem c_X8_placeOf (l : Launch) (D : va_G) (cI cJ cZ : ClassId) (sz : Nat) (z : Int32) (g : Int64) : Met l yX8_placeOf wpX8_placeOf ({ frames := 0, cells := 0, slots := 0, locals := 0 }) (va_Pc [.int z, .long g] (sp_pre D vwCl (sp_ty cI cJ cZ) [] sz)) (va_Ql (fun (r : Int64) (_ : Unit) => (¬ z.toInt = 0 ∧ r = -1 - g) ∨ (z.toInt = 0 ∧ r = g)) (sp_B D vwCl (va_A [] sz) (fun (_ : Unit) => [])) (va_A [] sz)) 0 0 (va_A [] sz) := by
  refine sp_ofW (Qc := fun A => va_Ql (fun (r : Int64) (_ : Unit) => (¬ z.toInt = 0 ∧ r = -1 - g) ∨ (z.toInt = 0 ∧ r = g)) (sp_B D vwCl A (fun (_ : Unit) => [])) A) (by decide) rfl (Nat.le_of_ble_eq_true rfl) (fun p e s m below meth c A ls H locs C0 hA hS hP hK hD hl => ?_)
  obtain ⟨hx, hb, hr, hts, hown, hlocks, hml, hin⟩ := C0
  have hown : s.vm.findClass RX8 = some m.cls := hown
  have hl : lv_has ls 3 [(0, .int z), (1, .long g)] := hl
  have hK : va_K D vwCl [(cI, .int), (cJ, .long), (cZ, .boolean)] s := hK
  refine lv_iload_n hx hb dX8_placeOf_0 rfl (lv_at hl 0 rfl) ?_
  refine lv_if_eq (tgt := 12) hx hb dX8_placeOf_1 (by decide) (fun c1 => ?_) (fun c1 => ?_)
  · skip
    have c1i : (z : Int32).toInt = 0 := congrArg Int32.toInt c1
    refine lv_lload_n hx hb dX8_placeOf_12 rfl (lv_at hl 1 rfl) ?_
    refine W.widen (k := 0) (n := 0) (by decide) (by decide) ?_
    exact sp_lret (u := ()) hx hb hr hlocks hS (Or.inr ⟨by omega, rfl⟩) (hP.sub [] rfl) (hD.sub [] (by decide) rfl) dX8_placeOf_13
  · skip
    have c1i : ¬ (z : Int32).toInt = 0 := fun h => c1 (Int32.toInt_inj.mp h)
    refine lv_ldc2 (v := (-1)) hx hb hown (hts (.constantLong RX8 74 (-1)) (oX8_placeOf_in _ (List.mem_of_getElem? (i := 0) rfl))) dX8_placeOf_4 ?_
    refine lv_lload_n hx hb dX8_placeOf_7 rfl (lv_at hl 1 rfl) ?_
    refine lv_lsub hx hb dX8_placeOf_8 ?_
    refine lv_goto (tgt := 13) hx hb dX8_placeOf_9 (by decide) ?_
    refine W.widen (k := 0) (n := 0) (by decide) (by decide) ?_
    exact sp_lret (u := ()) hx hb hr hlocks hS (Or.inl ⟨by omega, rfl⟩) (hP.sub [] rfl) (hD.sub [] (by decide) rfl) dX8_placeOf_13
def oX8_fromBits : List Cond := [.constant RX8 144 (2147483647), .constantLong RX8 68 (2139095040), .constantLong RX8 82 (9000000000)]
def wpX8_fromBits : List Cond := .code yX8_fromBits cX8_fromBits 3 (some .long) :: (oX8_fromBits ++ ((va_wsS RX8 84 yX8_placeOf wpX8_placeOf) ++ ([] : List Cond)))
theorem oX8_fromBits_in : ∀ w ∈ oX8_fromBits, w ∈ wpX8_fromBits := fun w h => List.mem_cons_of_mem _ (List.mem_append_left _ h)
theorem gwoX8_fromBits : ∀ w ∈ oX8_fromBits, goodWord w = true := by decide +kernel
theorem gwX8_fromBits : ∀ w ∈ wpX8_fromBits, goodWord w = true := by
  unfold wpX8_fromBits
  exact List.forall_mem_cons.mpr ⟨rfl, List.forall_mem_append.mpr ⟨gwoX8_fromBits, List.forall_mem_append.mpr ⟨(sp_gS gwX8_placeOf), fun _ h => absurd h List.not_mem_nil⟩⟩⟩
set_option maxRecDepth 100000 in
theorem toX8_fromBits : ∀ w ∈ oX8_fromBits, w ∈ lw_tbl := by
  unfold oX8_fromBits
  exact List.forall_mem_cons.mpr ⟨(List.mem_of_getElem? (i := 807) (by decide +kernel)), List.forall_mem_cons.mpr ⟨(List.mem_of_getElem? (i := 682) (by decide +kernel)), List.forall_mem_cons.mpr ⟨(List.mem_of_getElem? (i := 808) (by decide +kernel)), fun _ h => absurd h List.not_mem_nil⟩⟩⟩
set_option maxRecDepth 100000 in
theorem tX8_fromBits : ∀ w ∈ wpX8_fromBits, w ∈ lw_tbl := by
  unfold wpX8_fromBits
  exact List.forall_mem_cons.mpr ⟨(List.mem_of_getElem? (i := 806) (by rfl)), List.forall_mem_append.mpr ⟨toX8_fromBits, List.forall_mem_append.mpr ⟨(sp_tS (List.mem_of_getElem? (i := 809) (by decide +kernel)) (List.mem_of_getElem? (i := 810) (by decide +kernel)) (List.mem_of_getElem? (i := 45) (by decide +kernel)) tX8_placeOf), fun _ h => absurd h List.not_mem_nil⟩⟩⟩
theorem gX8_fromBits_X8_placeOf_84 : GoodIn wpX8_fromBits (va_wsS RX8 84 yX8_placeOf wpX8_placeOf) := fun w h => ⟨List.mem_cons_of_mem _ (List.mem_append_right _ (List.mem_append_left _ h)), good_of_word (sp_gS gwX8_placeOf w h)⟩
set_option maxHeartbeats 4000000 in
set_option maxRecDepth 100000 in
theorem c_X8_fromBits (l : Launch) (D : va_G) (cI cJ cZ : ClassId) (sz : Nat) (b : Int32) : Met l yX8_fromBits wpX8_fromBits ({ frames := 1, cells := 0, slots := 0, locals := 22 }) (va_Pc [.int b] (sp_pre D vwCl (sp_ty cI cJ cZ) [] sz)) (va_Ql (fun (r : Int64) (_ : Unit) => (2139095040 < ((b &&& 2147483647) : Int32).toInt ∧ r = 9000000000) ∨ (¬ 2139095040 < ((b &&& 2147483647) : Int32).toInt ∧ b.toInt < 0 ∧ r = -1 - ((b &&& 2147483647) : Int32).toInt64) ∨ (¬ 2139095040 < ((b &&& 2147483647) : Int32).toInt ∧ ¬ b.toInt < 0 ∧ r = ((b &&& 2147483647) : Int32).toInt64)) (sp_B D vwCl (va_A [] sz) (fun (_ : Unit) => [])) (va_A [] sz)) 0 0 (va_A [] sz) := by
  refine sp_ofW (Qc := fun A => va_Ql (fun (r : Int64) (_ : Unit) => (2139095040 < ((b &&& 2147483647) : Int32).toInt ∧ r = 9000000000) ∨ (¬ 2139095040 < ((b &&& 2147483647) : Int32).toInt ∧ b.toInt < 0 ∧ r = -1 - ((b &&& 2147483647) : Int32).toInt64) ∨ (¬ 2139095040 < ((b &&& 2147483647) : Int32).toInt ∧ ¬ b.toInt < 0 ∧ r = ((b &&& 2147483647) : Int32).toInt64)) (sp_B D vwCl A (fun (_ : Unit) => [])) A) (by decide) rfl (Nat.le_of_ble_eq_true rfl) (fun p e s m below meth c A ls H locs C0 hA hS hP hK hD hl => ?_)
  obtain ⟨hx, hb, hr, hts, hown, hlocks, hml, hin⟩ := C0
  have hown : s.vm.findClass RX8 = some m.cls := hown
  have hl : lv_has ls 3 [(0, .int b)] := hl
  have hK : va_K D vwCl [(cI, .int), (cJ, .long), (cZ, .boolean)] s := hK
  refine lv_iload_n hx hb dX8_fromBits_0 rfl (lv_at hl 0 rfl) ?_
  refine lv_ldc (v := 2147483647) hx hb hown (hts (.constant RX8 144 (2147483647)) (oX8_fromBits_in _ (List.mem_of_getElem? (i := 0) rfl))) dX8_fromBits_1 ?_
  refine lv_iand hx hb dX8_fromBits_3 ?_
  refine lv_i2l (v := _) hx hb dX8_fromBits_4 rfl ?_
  refine lv_lstore_n (lv' := [(1, .long ((b &&& 2147483647) : Int32).toInt64), (0, .int b)]) hx hb dX8_fromBits_5 rfl hl (by decide) rfl (fun ls hl => ?_)
  refine lv_lload_n hx hb dX8_fromBits_6 rfl (lv_at hl 0 rfl) ?_
  refine lv_ldc2 (v := 2139095040) hx hb hown (hts (.constantLong RX8 68 (2139095040)) (oX8_fromBits_in _ (List.mem_of_getElem? (i := 1) rfl))) dX8_fromBits_7 ?_
  refine W.lcmp hx hb dX8_fromBits_10 ?_
  refine lv_if_le (tgt := 20) hx hb dX8_fromBits_11 (by decide) (fun c1 => ?_) (fun c1 => ?_)
  · skip
    have c1 := (lg_cmp_le _ _).mp c1
    have c1i : ((b &&& 2147483647) : Int32).toInt ≤ 2139095040 := by have h : (((b &&& 2147483647) : Int32).toInt64 : Int64).toInt ≤ 2139095040 := Int64.le_iff_toInt_le.mp c1; simpa only [Int32.toInt_toInt64] using h
    refine lv_iload_n hx hb dX8_fromBits_20 rfl (lv_at hl 1 rfl) ?_
    refine lv_if_ge (tgt := 28) hx hb dX8_fromBits_21 (by decide) (fun c2 => ?_) (fun c2 => ?_)
    · skip
      have c2i : 0 ≤ (b : Int32).toInt := Int32.le_iff_toInt_le.mp c2
      refine lv_iconst (v := 0) hx hb dX8_fromBits_28 (by decide) ?_
      refine lv_lload_n hx hb dX8_fromBits_29 rfl (lv_at hl 0 rfl) ?_
      refine sp_callj (wr := []) (wc := []) hP hD hS hA [] [] rfl rfl (by decide) (by decide) (va_runS (As := [.int 0, .long ((b &&& 2147483647) : Int32).toInt64]) (rest := []) ⟨hx, hb, hml, hown, hts⟩ (c_X8_placeOf l D cI cJ cZ H.size (0) (((b &&& 2147483647) : Int32).toInt64)) (va_cwS 2 hts gX8_fromBits_X8_placeOf_84 rfl rfl rfl (by decide +kernel) ⟨Nat.le_of_ble_eq_true rfl, Nat.le_of_ble_eq_true rfl⟩) (sp_preS [.int 0, .long ((b &&& 2147483647) : Int32).toInt64] hK (hP.sub (ws' := []) [] rfl) (hD.sub (ws' := []) [] (by decide) rfl)) rfl rfl hl.1 rfl (lv_room (Nat.le_of_ble_eq_true rfl)) dX8_fromBits_30 ⟨Nat.le_of_ble_eq_true rfl, Nat.le_of_ble_eq_true rfl⟩) (fun r3 u4 H locs hw5 hP hD hS => ?_)
      rcases hw5 with ⟨h6, rfl⟩ | ⟨h6, rfl⟩
      · skip
        have h6 : ¬ (0 : Int) = 0 := h6
        exact absurd rfl h6
      · skip
        have h6 : (0 : Int) = 0 := h6
        have hP : va_P D vwCl [] H := hP
        have hD : va_D A [] := hD
        refine W.widen (k := 0) (n := 0) (by decide) (by decide) ?_
        exact sp_lret (u := ()) hx hb hr hlocks hS (Or.inr (Or.inr ⟨by omega, by omega, rfl⟩)) (hP.sub [] rfl) (hD.sub [] (by decide) rfl) dX8_fromBits_33
    · skip
      have c2i : ¬ 0 ≤ (b : Int32).toInt := fun h => c2 (Int32.le_iff_toInt_le.mpr h)
      refine lv_iconst (v := 1) hx hb dX8_fromBits_24 (by decide) ?_
      refine lv_goto (tgt := 29) hx hb dX8_fromBits_25 (by decide) ?_
      refine lv_lload_n hx hb dX8_fromBits_29 rfl (lv_at hl 0 rfl) ?_
      refine sp_callj (wr := []) (wc := []) hP hD hS hA [] [] rfl rfl (by decide) (by decide) (va_runS (As := [.int 1, .long ((b &&& 2147483647) : Int32).toInt64]) (rest := []) ⟨hx, hb, hml, hown, hts⟩ (c_X8_placeOf l D cI cJ cZ H.size (1) (((b &&& 2147483647) : Int32).toInt64)) (va_cwS 2 hts gX8_fromBits_X8_placeOf_84 rfl rfl rfl (by decide +kernel) ⟨Nat.le_of_ble_eq_true rfl, Nat.le_of_ble_eq_true rfl⟩) (sp_preS [.int 1, .long ((b &&& 2147483647) : Int32).toInt64] hK (hP.sub (ws' := []) [] rfl) (hD.sub (ws' := []) [] (by decide) rfl)) rfl rfl hl.1 rfl (lv_room (Nat.le_of_ble_eq_true rfl)) dX8_fromBits_30 ⟨Nat.le_of_ble_eq_true rfl, Nat.le_of_ble_eq_true rfl⟩) (fun r7 u8 H locs hw9 hP hD hS => ?_)
      rcases hw9 with ⟨h10, rfl⟩ | ⟨h10, rfl⟩
      · skip
        have h10 : ¬ (1 : Int) = 0 := h10
        have hP : va_P D vwCl [] H := hP
        have hD : va_D A [] := hD
        refine W.widen (k := 0) (n := 0) (by decide) (by decide) ?_
        exact sp_lret (u := ()) hx hb hr hlocks hS (Or.inr (Or.inl ⟨by omega, by omega, rfl⟩)) (hP.sub [] rfl) (hD.sub [] (by decide) rfl) dX8_fromBits_33
      · skip
        have h10 : (1 : Int) = 0 := h10
        exact absurd h10 (by decide)
  · skip
    have c1 := fun h => c1 ((lg_cmp_le _ _).mpr h)
    have c1i : ¬ (((b &&& 2147483647) : Int32).toInt ≤ 2139095040) := by have h : ¬ ((((b &&& 2147483647) : Int32).toInt64 : Int64).toInt ≤ 2139095040) := fun h => c1 (Int64.le_iff_toInt_le.mpr h); simpa only [Int32.toInt_toInt64] using h
    refine lv_ldc2 (v := 9000000000) hx hb hown (hts (.constantLong RX8 82 (9000000000)) (oX8_fromBits_in _ (List.mem_of_getElem? (i := 2) rfl))) dX8_fromBits_14 ?_
    refine lv_goto (tgt := 33) hx hb dX8_fromBits_17 (by decide) ?_
    refine W.widen (k := 0) (n := 0) (by decide) (by decide) ?_
    exact sp_lret (u := ()) hx hb hr hlocks hS (Or.inl ⟨by omega, rfl⟩) (hP.sub [] rfl) (hD.sub [] (by decide) rfl) dX8_fromBits_33
def oX8_toBits : List Cond := [.constantLong RX8 82 (9000000000), .constantLong RX8 74 (-1), .constantLong RX8 112 (2147483648)]
def wpX8_toBits : List Cond := .code yX8_toBits cX8_toBits 2 (some .long) :: (oX8_toBits ++ ([] : List Cond))
theorem oX8_toBits_in : ∀ w ∈ oX8_toBits, w ∈ wpX8_toBits := fun w h => List.mem_cons_of_mem _ (List.mem_append_left _ h)
theorem gwoX8_toBits : ∀ w ∈ oX8_toBits, goodWord w = true := by decide +kernel
theorem gwX8_toBits : ∀ w ∈ wpX8_toBits, goodWord w = true := by
  unfold wpX8_toBits
  exact List.forall_mem_cons.mpr ⟨rfl, List.forall_mem_append.mpr ⟨gwoX8_toBits, fun _ h => absurd h List.not_mem_nil⟩⟩
set_option maxRecDepth 100000 in
theorem toX8_toBits : ∀ w ∈ oX8_toBits, w ∈ lw_tbl := by
  unfold oX8_toBits
  exact List.forall_mem_cons.mpr ⟨(List.mem_of_getElem? (i := 808) (by decide +kernel)), List.forall_mem_cons.mpr ⟨(List.mem_of_getElem? (i := 812) (by decide +kernel)), List.forall_mem_cons.mpr ⟨(List.mem_of_getElem? (i := 822) (by decide +kernel)), fun _ h => absurd h List.not_mem_nil⟩⟩⟩
set_option maxRecDepth 100000 in
theorem tX8_toBits : ∀ w ∈ wpX8_toBits, w ∈ lw_tbl := by
  unfold wpX8_toBits
  exact List.forall_mem_cons.mpr ⟨(List.mem_of_getElem? (i := 820) (by rfl)), List.forall_mem_append.mpr ⟨toX8_toBits, fun _ h => absurd h List.not_mem_nil⟩⟩
set_option maxHeartbeats 4000000 in
set_option maxRecDepth 100000 in
theorem c_X8_toBits (l : Launch) (D : va_G) (cI cJ cZ : ClassId) (sz : Nat) (b : Int32) (hb1 : -2139095041 ≤ b.toInt) (hb2 : b.toInt ≤ 2139095040) : Met l yX8_toBits wpX8_toBits ({ frames := 0, cells := 0, slots := 0, locals := 0 }) (va_Pc [.long (b : Int32).toInt64] (sp_pre D vwCl (sp_ty cI cJ cZ) [] sz)) (va_Ql (fun (r : Int64) (_ : Unit) => (b.toInt < 0 ∧ r = -1 - b.toInt64 - 2147483648) ∨ (¬ b.toInt < 0 ∧ r = b.toInt64)) (sp_B D vwCl (va_A [] sz) (fun (_ : Unit) => [])) (va_A [] sz)) 0 0 (va_A [] sz) := by
  refine sp_ofW (Qc := fun A => va_Ql (fun (r : Int64) (_ : Unit) => (b.toInt < 0 ∧ r = -1 - b.toInt64 - 2147483648) ∨ (¬ b.toInt < 0 ∧ r = b.toInt64)) (sp_B D vwCl A (fun (_ : Unit) => [])) A) (by decide) rfl (Nat.le_of_ble_eq_true rfl) (fun p e s m below meth c A ls H locs C0 hA hS hP hK hD hl => ?_)
  obtain ⟨hx, hb, hr, hts, hown, hlocks, hml, hin⟩ := C0
  have hown : s.vm.findClass RX8 = some m.cls := hown
  have hl : lv_has ls 2 [(0, .long (b : Int32).toInt64)] := hl
  have hK : va_K D vwCl [(cI, .int), (cJ, .long), (cZ, .boolean)] s := hK
  refine lv_lload_n hx hb dX8_toBits_0 rfl (lv_at hl 0 rfl) ?_
  refine lv_ldc2 (v := 9000000000) hx hb hown (hts (.constantLong RX8 82 (9000000000)) (oX8_toBits_in _ (List.mem_of_getElem? (i := 0) rfl))) dX8_toBits_1 ?_
  refine W.lcmp hx hb dX8_toBits_4 ?_
  refine lv_if_ne (tgt := 14) hx hb dX8_toBits_5 (by decide) (fun c1 => ?_) (fun c1 => ?_)
  · skip
    have c1 := fun h => c1 ((lg_cmp_eq _ _).mpr h)
    have c1i : ¬ ((b : Int32).toInt = 9000000000) := by have h : ¬ (((b : Int32).toInt64 : Int64).toInt = 9000000000) := fun h => c1 (Int64.toInt_inj.mp h); simpa only [Int32.toInt_toInt64] using h
    refine lv_lload_n hx hb dX8_toBits_14 rfl (lv_at hl 0 rfl) ?_
    refine lv_lconst (v := 0) hx hb dX8_toBits_15 (by decide) ?_
    refine W.lcmp hx hb dX8_toBits_16 ?_
    refine lv_if_lt (tgt := 24) hx hb dX8_toBits_17 (by decide) (fun c2 => ?_) (fun c2 => ?_)
    · skip
      have c2 := (lg_cmp_lt _ _).mp c2
      have c2i : (b : Int32).toInt < 0 := by have h : ((b : Int32).toInt64 : Int64).toInt < 0 := Int64.lt_iff_toInt_lt.mp c2; simpa only [Int32.toInt_toInt64] using h
      refine lv_ldc2 (v := (-1)) hx hb hown (hts (.constantLong RX8 74 (-1)) (oX8_toBits_in _ (List.mem_of_getElem? (i := 1) rfl))) dX8_toBits_24 ?_
      refine lv_lload_n hx hb dX8_toBits_27 rfl (lv_at hl 0 rfl) ?_
      refine lv_lsub hx hb dX8_toBits_28 ?_
      refine lv_ldc2 (v := 2147483648) hx hb hown (hts (.constantLong RX8 112 (2147483648)) (oX8_toBits_in _ (List.mem_of_getElem? (i := 2) rfl))) dX8_toBits_29 ?_
      refine lv_lsub hx hb dX8_toBits_32 ?_
      refine W.widen (k := 0) (n := 0) (by decide) (by decide) ?_
      exact sp_lret (u := ()) hx hb hr hlocks hS (Or.inl ⟨by omega, rfl⟩) (hP.sub [] rfl) (hD.sub [] (by decide) rfl) dX8_toBits_33
    · skip
      have c2 := fun h => c2 ((lg_cmp_lt _ _).mpr h)
      have c2i : ¬ ((b : Int32).toInt < 0) := by have h : ¬ (((b : Int32).toInt64 : Int64).toInt < 0) := fun h => c2 (Int64.lt_iff_toInt_lt.mpr h); simpa only [Int32.toInt_toInt64] using h
      refine lv_lload_n hx hb dX8_toBits_20 rfl (lv_at hl 0 rfl) ?_
      refine lv_goto (tgt := 33) hx hb dX8_toBits_21 (by decide) ?_
      refine W.widen (k := 0) (n := 0) (by decide) (by decide) ?_
      exact sp_lret (u := ()) hx hb hr hlocks hS (Or.inr ⟨by omega, rfl⟩) (hP.sub [] rfl) (hD.sub [] (by decide) rfl) dX8_toBits_33
  · skip
    have c1 := (lg_cmp_eq _ _).mp c1
    have c1i : (b : Int32).toInt = 9000000000 := by have h : ((b : Int32).toInt64 : Int64).toInt = 9000000000 := congrArg Int64.toInt c1; simpa only [Int32.toInt_toInt64] using h
    exact (by omega : False).elim
def oX8_node : List Cond := [.fieldLink RX8 70 "FloatSolverModel" "thrown" "I", .constantLong RX8 90 (2), .constantLong RX8 158 (15), .fieldLink RX8 147 "FloatSolverModel" "nodes" "I", .fieldLink RX8 7 "FloatSolverModel" "kind" "[I", .fieldLink RX8 13 "FloatSolverModel" "opX" "[I", .fieldLink RX8 16 "FloatSolverModel" "opY" "[I", .constantLong RX8 156 (3)]
def wpX8_node : List Cond := .code yX8_node cX8_node 4 (some .int) :: (oX8_node ++ (wsX80 ++ ((va_wsS RX8 150 yX8_in wpX8_in) ++ ((wsV RX8 160 RX8 yX8_isNode wpX8_isNode) ++ ([] : List Cond)))))
theorem oX8_node_in : ∀ w ∈ oX8_node, w ∈ wpX8_node := fun w h => List.mem_cons_of_mem _ (List.mem_append_left _ h)
theorem gwoX8_node : ∀ w ∈ oX8_node, goodWord w = true := by decide +kernel
theorem gwX8_node : ∀ w ∈ wpX8_node, goodWord w = true := by
  unfold wpX8_node
  exact List.forall_mem_cons.mpr ⟨rfl, List.forall_mem_append.mpr ⟨gwoX8_node, List.forall_mem_append.mpr ⟨gwX8, List.forall_mem_append.mpr ⟨(sp_gS gwX8_in), List.forall_mem_append.mpr ⟨(sp_gV gwX8_isNode), fun _ h => absurd h List.not_mem_nil⟩⟩⟩⟩⟩
set_option maxRecDepth 100000 in
theorem toX8_node : ∀ w ∈ oX8_node, w ∈ lw_tbl := by
  unfold oX8_node
  exact List.forall_mem_cons.mpr ⟨(List.mem_of_getElem? (i := 683) (by decide +kernel)), List.forall_mem_cons.mpr ⟨(List.mem_of_getElem? (i := 774) (by decide +kernel)), List.forall_mem_cons.mpr ⟨(List.mem_of_getElem? (i := 775) (by decide +kernel)), List.forall_mem_cons.mpr ⟨(List.mem_of_getElem? (i := 684) (by decide +kernel)), List.forall_mem_cons.mpr ⟨(List.mem_of_getElem? (i := 685) (by decide +kernel)), List.forall_mem_cons.mpr ⟨(List.mem_of_getElem? (i := 686) (by decide +kernel)), List.forall_mem_cons.mpr ⟨(List.mem_of_getElem? (i := 687) (by decide +kernel)), List.forall_mem_cons.mpr ⟨(List.mem_of_getElem? (i := 770) (by decide +kernel)), fun _ h => absurd h List.not_mem_nil⟩⟩⟩⟩⟩⟩⟩⟩
set_option maxRecDepth 100000 in
theorem tX8_node : ∀ w ∈ wpX8_node, w ∈ lw_tbl := by
  unfold wpX8_node
  exact List.forall_mem_cons.mpr ⟨(List.mem_of_getElem? (i := 769) (by rfl)), List.forall_mem_append.mpr ⟨toX8_node, List.forall_mem_append.mpr ⟨in_wsX80, List.forall_mem_append.mpr ⟨(sp_tS (List.mem_of_getElem? (i := 771) (by decide +kernel)) (List.mem_of_getElem? (i := 772) (by decide +kernel)) (List.mem_of_getElem? (i := 45) (by decide +kernel)) tX8_in), List.forall_mem_append.mpr ⟨(sp_tV (List.mem_of_getElem? (i := 776) (by decide +kernel)) (List.mem_of_getElem? (i := 778) (by decide +kernel)) (List.mem_of_getElem? (i := 19) (by decide +kernel)) (List.mem_of_getElem? (i := 45) (by decide +kernel)) tX8_isNode), fun _ h => absurd h List.not_mem_nil⟩⟩⟩⟩⟩
theorem iX8_node_X8 : ∀ w ∈ wsX80, w ∈ wpX8_node := fun w h => List.mem_cons_of_mem _ (List.mem_append_right _ (List.mem_append_left _ h))
theorem gX8_node_X8_in_150 : GoodIn wpX8_node (va_wsS RX8 150 yX8_in wpX8_in) := fun w h => ⟨List.mem_cons_of_mem _ (List.mem_append_right _ (List.mem_append_right _ (List.mem_append_left _ h))), good_of_word (sp_gS gwX8_in w h)⟩
theorem gX8_node_X8_isNode_160 : GoodIn wpX8_node (wsV RX8 160 RX8 yX8_isNode wpX8_isNode) := fun w h => ⟨List.mem_cons_of_mem _ (List.mem_append_right _ (List.mem_append_right _ (List.mem_append_right _ (List.mem_append_left _ h)))), good_of_word (sp_gV gwX8_isNode w h)⟩
set_option maxHeartbeats 4000000 in
set_option maxRecDepth 100000 in
theorem c_X8_node (l : Launch) (D : va_G) (cI cJ cZ : ClassId) (sz : Nat) (h a0 a1 a2 a3 a4 a5 a6 a7 a8 a9 a10 a11 a12 a13 a14 a15 a16 a17 : Nat) (f0 f1 f2 : Nat → Int32) (k x y : Int32) : Met l yX8_node wpX8_node ({ frames := 2, cells := 0, slots := 0, locals := 46 }) (va_Pc [.ref h, .int k, .int x, .int y] (sp_pre D vwCl (sp_ty cI cJ cZ) [(h, .inr (6, [.int 0, .int 0, .ref a0, .ref a1, .ref a2, .int 0, .ref a3, .ref a4, .ref a5, .ref a6, .ref a7, .ref a8, .int 0, .int 0, .int 0, .int 0, .ref a9, .ref a10, .ref a11, .ref a12, .ref a13, .ref a14, .ref a15, .ref a16, .ref a17, .int 0])), (a0, .inl (cI, 40, .inl f0)), (a1, .inl (cI, 40, .inl f1)), (a2, .inl (cI, 40, .inl f2))] sz)) (va_Qi (fun (r : Int32) (_ : Unit) => r = sp_node k x) (sp_B D vwCl (va_A [(h, .inr (6, [.int 0, .int 0, .ref a0, .ref a1, .ref a2, .int 0, .ref a3, .ref a4, .ref a5, .ref a6, .ref a7, .ref a8, .int 0, .int 0, .int 0, .int 0, .ref a9, .ref a10, .ref a11, .ref a12, .ref a13, .ref a14, .ref a15, .ref a16, .ref a17, .int 0])), (a0, .inl (cI, 40, .inl f0)), (a1, .inl (cI, 40, .inl f1)), (a2, .inl (cI, 40, .inl f2))] sz) (fun (_ : Unit) => [])) (va_A [(h, .inr (6, [.int 0, .int 0, .ref a0, .ref a1, .ref a2, .int 0, .ref a3, .ref a4, .ref a5, .ref a6, .ref a7, .ref a8, .int 0, .int 0, .int 0, .int 0, .ref a9, .ref a10, .ref a11, .ref a12, .ref a13, .ref a14, .ref a15, .ref a16, .ref a17, .int 0])), (a0, .inl (cI, 40, .inl f0)), (a1, .inl (cI, 40, .inl f1)), (a2, .inl (cI, 40, .inl f2))] sz)) 0 0 (va_A [(h, .inr (6, [.int 0, .int 0, .ref a0, .ref a1, .ref a2, .int 0, .ref a3, .ref a4, .ref a5, .ref a6, .ref a7, .ref a8, .int 0, .int 0, .int 0, .int 0, .ref a9, .ref a10, .ref a11, .ref a12, .ref a13, .ref a14, .ref a15, .ref a16, .ref a17, .int 0])), (a0, .inl (cI, 40, .inl f0)), (a1, .inl (cI, 40, .inl f1)), (a2, .inl (cI, 40, .inl f2))] sz) := by
  refine sp_ofW (Qc := fun A => va_Qi (fun (r : Int32) (_ : Unit) => r = sp_node k x) (sp_B D vwCl A (fun (_ : Unit) => [])) A) (by decide) rfl (Nat.le_of_ble_eq_true rfl) (fun p e s m below meth c A ls H locs C0 hA hS hP hK hD hl => ?_)
  obtain ⟨hx, hb, hr, hts, hown, hlocks, hml, hin⟩ := C0
  have hown : s.vm.findClass RX8 = some m.cls := hown
  have hl : lv_has ls 4 [(0, .ref h), (1, .int k), (2, .int x), (3, .int y)] := hl
  have hK : va_K D vwCl [(cI, .int), (cJ, .long), (cZ, .boolean)] s := hK
  refine lv_aload_n hx hb dX8_node_0 rfl (lv_at hl 0 rfl) ?_
  refine lv_iconst (v := 0) hx hb dX8_node_1 (by decide) ?_
  refine va_put (D := D) (ci := 6) (v := .int 0) (ty := .int) (C := RX8) (T := TX8) (N := 26) hx hb hts iX8_node_X8 tyX8 tyX8_ok nmX8 hown hK hP hD hS 0 rfl rfl 0 (by decide) (hts (.fieldLink RX8 70 "FloatSolverModel" "thrown" "I") (oX8_node_in _ (List.mem_of_getElem? (i := 0) rfl))) (fun _ h9 => h9) rfl (by decide +kernel) rfl rfl (Nat.le_of_ble_eq_true rfl) dX8_node_2 (fun H locs hP hD hS => ?_)
  have hP : va_P D vwCl [(h, .inr (6, [.int 0, .int 0, .ref a0, .ref a1, .ref a2, .int 0, .ref a3, .ref a4, .ref a5, .ref a6, .ref a7, .ref a8, .int 0, .int 0, .int 0, .int 0, .ref a9, .ref a10, .ref a11, .ref a12, .ref a13, .ref a14, .ref a15, .ref a16, .ref a17, .int 0])), (a0, .inl (cI, 40, .inl f0)), (a1, .inl (cI, 40, .inl f1)), (a2, .inl (cI, 40, .inl f2))] H := hP
  have hD : va_D A [(h, .inr (6, [.int 0, .int 0, .ref a0, .ref a1, .ref a2, .int 0, .ref a3, .ref a4, .ref a5, .ref a6, .ref a7, .ref a8, .int 0, .int 0, .int 0, .int 0, .ref a9, .ref a10, .ref a11, .ref a12, .ref a13, .ref a14, .ref a15, .ref a16, .ref a17, .int 0])), (a0, .inl (cI, 40, .inl f0)), (a1, .inl (cI, 40, .inl f1)), (a2, .inl (cI, 40, .inl f2))] := hD
  refine lv_iload_n hx hb dX8_node_5 rfl (lv_at hl 1 rfl) ?_
  refine lv_iconst (v := 1) hx hb dX8_node_6 (by decide) ?_
  refine lv_icmp_ne (tgt := 25) hx hb dX8_node_7 (by decide) (fun c1 => ?_) (fun c1 => ?_)
  · skip
    have c1i : ¬ (k : Int32).toInt = 1 := fun h => c1 (Int32.toInt_inj.mp h)
    refine lv_iload_n hx hb dX8_node_25 rfl (lv_at hl 1 rfl) ?_
    refine lv_i2l (v := _) hx hb dX8_node_26 rfl ?_
    refine lv_ldc2 (v := 2) hx hb hown (hts (.constantLong RX8 90 (2)) (oX8_node_in _ (List.mem_of_getElem? (i := 1) rfl))) dX8_node_27 ?_
    refine lv_ldc2 (v := 15) hx hb hown (hts (.constantLong RX8 158 (15)) (oX8_node_in _ (List.mem_of_getElem? (i := 2) rfl))) dX8_node_30 ?_
    refine sp_calli (wr := [(h, .inr (6, [.int 0, .int 0, .ref a0, .ref a1, .ref a2, .int 0, .ref a3, .ref a4, .ref a5, .ref a6, .ref a7, .ref a8, .int 0, .int 0, .int 0, .int 0, .ref a9, .ref a10, .ref a11, .ref a12, .ref a13, .ref a14, .ref a15, .ref a16, .ref a17, .int 0])), (a0, .inl (cI, 40, .inl f0)), (a1, .inl (cI, 40, .inl f1)), (a2, .inl (cI, 40, .inl f2))]) (wc := []) hP hD hS hA [] [0, 1, 2, 3] rfl rfl (by decide) (by decide) (va_runS (As := [.long (k : Int32).toInt64, .long 2, .long 15]) (rest := []) ⟨hx, hb, hml, hown, hts⟩ (c_X8_in l D cI cJ cZ H.size ((k : Int32).toInt64) (2) (15)) (va_cwS 3 hts gX8_node_X8_in_150 rfl rfl rfl (by decide +kernel) ⟨Nat.le_of_ble_eq_true rfl, Nat.le_of_ble_eq_true rfl⟩) (sp_preS [.long (k : Int32).toInt64, .long 2, .long 15] hK (hP.sub (ws' := []) [] rfl) (hD.sub (ws' := []) [] (by decide) rfl)) rfl rfl hl.1 rfl (lv_room (Nat.le_of_ble_eq_true rfl)) dX8_node_33 ⟨Nat.le_of_ble_eq_true rfl, Nat.le_of_ble_eq_true rfl⟩) (fun r2 u3 H locs hw4 hP hD hS => ?_)
    rcases hw4 with ⟨rfl, h5⟩ | ⟨rfl, h5⟩
    · skip
      have h5 : (2 : Int) ≤ (k : Int32).toInt ∧ (k : Int32).toInt ≤ (15 : Int) := (by have h9 := h5; simp only [Int32.toInt_toInt64] at h9; exact h9)
      have hP : va_P D vwCl [(h, .inr (6, [.int 0, .int 0, .ref a0, .ref a1, .ref a2, .int 0, .ref a3, .ref a4, .ref a5, .ref a6, .ref a7, .ref a8, .int 0, .int 0, .int 0, .int 0, .ref a9, .ref a10, .ref a11, .ref a12, .ref a13, .ref a14, .ref a15, .ref a16, .ref a17, .int 0])), (a0, .inl (cI, 40, .inl f0)), (a1, .inl (cI, 40, .inl f1)), (a2, .inl (cI, 40, .inl f2))] H := hP
      have hD : va_D A [(h, .inr (6, [.int 0, .int 0, .ref a0, .ref a1, .ref a2, .int 0, .ref a3, .ref a4, .ref a5, .ref a6, .ref a7, .ref a8, .int 0, .int 0, .int 0, .int 0, .ref a9, .ref a10, .ref a11, .ref a12, .ref a13, .ref a14, .ref a15, .ref a16, .ref a17, .int 0])), (a0, .inl (cI, 40, .inl f0)), (a1, .inl (cI, 40, .inl f1)), (a2, .inl (cI, 40, .inl f2))] := hD
      refine lv_if_eq (tgt := 64) hx hb dX8_node_36 (by decide) (fun c6 => absurd c6 (by decide)) (fun _ => ?_)
      refine lv_aload_n hx hb dX8_node_39 rfl (lv_at hl 0 rfl) ?_
      refine lv_iload_n hx hb dX8_node_40 rfl (lv_at hl 2 rfl) ?_
      refine sp_calli (wr := [(a0, .inl (cI, 40, .inl f0)), (a1, .inl (cI, 40, .inl f1)), (a2, .inl (cI, 40, .inl f2))]) (wc := [(h, .inr (6, [.int 0, .int 0, .ref a0, .ref a1, .ref a2, .int 0, .ref a3, .ref a4, .ref a5, .ref a6, .ref a7, .ref a8, .int 0, .int 0, .int 0, .int 0, .ref a9, .ref a10, .ref a11, .ref a12, .ref a13, .ref a14, .ref a15, .ref a16, .ref a17, .int 0]))]) hP hD hS hA [0] [1, 2, 3] rfl rfl (by decide) (by decide) (va_runV (As := [.int x]) (rest := []) ⟨hx, hb, hml, hown, hts⟩ (c_X8_isNode l D cI cJ cZ H.size h a0 a1 a2 a3 a4 a5 a6 a7 a8 a9 a10 a11 a12 a13 a14 a15 a16 a17 (x)) (cwV 1 hts gX8_node_X8_isNode_160 rfl rfl rfl (by decide +kernel) ⟨Nat.le_of_ble_eq_true rfl, Nat.le_of_ble_eq_true rfl⟩) (sp_preV (ci := 6) (q0 := 0) [.int x] hK (hP.sub (ws' := [(h, .inr (6, [.int 0, .int 0, .ref a0, .ref a1, .ref a2, .int 0, .ref a3, .ref a4, .ref a5, .ref a6, .ref a7, .ref a8, .int 0, .int 0, .int 0, .int 0, .ref a9, .ref a10, .ref a11, .ref a12, .ref a13, .ref a14, .ref a15, .ref a16, .ref a17, .int 0]))]) [0] rfl) (hD.sub (ws' := [(h, .inr (6, [.int 0, .int 0, .ref a0, .ref a1, .ref a2, .int 0, .ref a3, .ref a4, .ref a5, .ref a6, .ref a7, .ref a8, .int 0, .int 0, .int 0, .int 0, .ref a9, .ref a10, .ref a11, .ref a12, .ref a13, .ref a14, .ref a15, .ref a16, .ref a17, .int 0]))]) [0] (by decide) rfl) rfl rfl) rfl rfl hl.1 rfl (lv_room (Nat.le_of_ble_eq_true rfl)) dX8_node_41 ⟨Nat.le_of_ble_eq_true rfl, Nat.le_of_ble_eq_true rfl⟩) (fun r7 u8 H locs hw9 hP hD hS => ?_)
      obtain rfl := hw9
      have hP : va_P D vwCl [(a0, .inl (cI, 40, .inl f0)), (a1, .inl (cI, 40, .inl f1)), (a2, .inl (cI, 40, .inl f2)), (h, .inr (6, [.int 0, .int 0, .ref a0, .ref a1, .ref a2, .int 0, .ref a3, .ref a4, .ref a5, .ref a6, .ref a7, .ref a8, .int 0, .int 0, .int 0, .int 0, .ref a9, .ref a10, .ref a11, .ref a12, .ref a13, .ref a14, .ref a15, .ref a16, .ref a17, .int 0]))] H := hP
      have hD : va_D A [(a0, .inl (cI, 40, .inl f0)), (a1, .inl (cI, 40, .inl f1)), (a2, .inl (cI, 40, .inl f2)), (h, .inr (6, [.int 0, .int 0, .ref a0, .ref a1, .ref a2, .int 0, .ref a3, .ref a4, .ref a5, .ref a6, .ref a7, .ref a8, .int 0, .int 0, .int 0, .int 0, .ref a9, .ref a10, .ref a11, .ref a12, .ref a13, .ref a14, .ref a15, .ref a16, .ref a17, .int 0]))] := hD
      refine lv_if_eq (tgt := 62) hx hb dX8_node_44 (by decide) (fun _ => ?_) (fun c10 => absurd (by decide) c10)
      refine lv_iconst (v := (-1)) hx hb dX8_node_62 (by decide) ?_
      refine W.widen (k := 0) (n := 0) (by decide) (by decide) ?_
      exact sp_iret (u := ()) hx hb hr hlocks hS (by unfold sp_node; (repeat' split) <;> first | (exfalso; omega) | rfl) (hP.sub [] rfl) (hD.sub [] (by decide) rfl) dX8_node_63
    · skip
      have h5 : ¬ ((2 : Int) ≤ (k : Int32).toInt ∧ (k : Int32).toInt ≤ (15 : Int)) := (by have h9 := h5; simp only [Int32.toInt_toInt64] at h9; exact h9)
      have hP : va_P D vwCl [(h, .inr (6, [.int 0, .int 0, .ref a0, .ref a1, .ref a2, .int 0, .ref a3, .ref a4, .ref a5, .ref a6, .ref a7, .ref a8, .int 0, .int 0, .int 0, .int 0, .ref a9, .ref a10, .ref a11, .ref a12, .ref a13, .ref a14, .ref a15, .ref a16, .ref a17, .int 0])), (a0, .inl (cI, 40, .inl f0)), (a1, .inl (cI, 40, .inl f1)), (a2, .inl (cI, 40, .inl f2))] H := hP
      have hD : va_D A [(h, .inr (6, [.int 0, .int 0, .ref a0, .ref a1, .ref a2, .int 0, .ref a3, .ref a4, .ref a5, .ref a6, .ref a7, .ref a8, .int 0, .int 0, .int 0, .int 0, .ref a9, .ref a10, .ref a11, .ref a12, .ref a13, .ref a14, .ref a15, .ref a16, .ref a17, .int 0])), (a0, .inl (cI, 40, .inl f0)), (a1, .inl (cI, 40, .inl f1)), (a2, .inl (cI, 40, .inl f2))] := hD
      refine lv_if_eq (tgt := 64) hx hb dX8_node_36 (by decide) (fun _ => ?_) (fun c11 => absurd (by decide) c11)
      refine lv_iload_n hx hb dX8_node_64 rfl (lv_at hl 1 rfl) ?_
      refine lv_i2l (v := _) hx hb dX8_node_65 rfl ?_
      refine lv_lconst (v := 0) hx hb dX8_node_66 (by decide) ?_
      refine lv_ldc2 (v := 15) hx hb hown (hts (.constantLong RX8 158 (15)) (oX8_node_in _ (List.mem_of_getElem? (i := 2) rfl))) dX8_node_67 ?_
      refine sp_calli (wr := [(h, .inr (6, [.int 0, .int 0, .ref a0, .ref a1, .ref a2, .int 0, .ref a3, .ref a4, .ref a5, .ref a6, .ref a7, .ref a8, .int 0, .int 0, .int 0, .int 0, .ref a9, .ref a10, .ref a11, .ref a12, .ref a13, .ref a14, .ref a15, .ref a16, .ref a17, .int 0])), (a0, .inl (cI, 40, .inl f0)), (a1, .inl (cI, 40, .inl f1)), (a2, .inl (cI, 40, .inl f2))]) (wc := []) hP hD hS hA [] [0, 1, 2, 3] rfl rfl (by decide) (by decide) (va_runS (As := [.long (k : Int32).toInt64, .long 0, .long 15]) (rest := []) ⟨hx, hb, hml, hown, hts⟩ (c_X8_in l D cI cJ cZ H.size ((k : Int32).toInt64) (0) (15)) (va_cwS 3 hts gX8_node_X8_in_150 rfl rfl rfl (by decide +kernel) ⟨Nat.le_of_ble_eq_true rfl, Nat.le_of_ble_eq_true rfl⟩) (sp_preS [.long (k : Int32).toInt64, .long 0, .long 15] hK (hP.sub (ws' := []) [] rfl) (hD.sub (ws' := []) [] (by decide) rfl)) rfl rfl hl.1 rfl (lv_room (Nat.le_of_ble_eq_true rfl)) dX8_node_70 ⟨Nat.le_of_ble_eq_true rfl, Nat.le_of_ble_eq_true rfl⟩) (fun r12 u13 H locs hw14 hP hD hS => ?_)
      rcases hw14 with ⟨rfl, h15⟩ | ⟨rfl, h15⟩
      · skip
        have h15 : (0 : Int) ≤ (k : Int32).toInt ∧ (k : Int32).toInt ≤ (15 : Int) := (by have h9 := h15; simp only [Int32.toInt_toInt64] at h9; exact h9)
        have hP : va_P D vwCl [(h, .inr (6, [.int 0, .int 0, .ref a0, .ref a1, .ref a2, .int 0, .ref a3, .ref a4, .ref a5, .ref a6, .ref a7, .ref a8, .int 0, .int 0, .int 0, .int 0, .ref a9, .ref a10, .ref a11, .ref a12, .ref a13, .ref a14, .ref a15, .ref a16, .ref a17, .int 0])), (a0, .inl (cI, 40, .inl f0)), (a1, .inl (cI, 40, .inl f1)), (a2, .inl (cI, 40, .inl f2))] H := hP
        have hD : va_D A [(h, .inr (6, [.int 0, .int 0, .ref a0, .ref a1, .ref a2, .int 0, .ref a3, .ref a4, .ref a5, .ref a6, .ref a7, .ref a8, .int 0, .int 0, .int 0, .int 0, .ref a9, .ref a10, .ref a11, .ref a12, .ref a13, .ref a14, .ref a15, .ref a16, .ref a17, .int 0])), (a0, .inl (cI, 40, .inl f0)), (a1, .inl (cI, 40, .inl f1)), (a2, .inl (cI, 40, .inl f2))] := hD
        refine lv_if_ne (tgt := 79) hx hb dX8_node_73 (by decide) (fun _ => ?_) (fun c16 => absurd c16 (by decide))
        refine lv_aload_n hx hb dX8_node_79 rfl (lv_at hl 0 rfl) ?_
        refine va_get (D := D) (ci := 6) (v := .int 0) (C := RX8) (T := TX8) (N := 26) hx hb hts iX8_node_X8 hown hK hP 0 rfl rfl 1 (by decide) (hts (.fieldLink RX8 147 "FloatSolverModel" "nodes" "I") (oX8_node_in _ (List.mem_of_getElem? (i := 3) rfl))) (fun _ h9 => h9) rfl dX8_node_80 ?_
        refine lv_bipush (v := 40) hx hb dX8_node_83 (by decide) ?_
        refine lv_icmp_ne (tgt := 91) hx hb dX8_node_85 (by decide) (fun _ => ?_) (fun c17 => absurd c17 (by decide))
        refine lv_aload_n hx hb dX8_node_91 rfl (lv_at hl 0 rfl) ?_
        refine va_get (D := D) (ci := 6) (v := .ref a0) (C := RX8) (T := TX8) (N := 26) hx hb hts iX8_node_X8 hown hK hP 0 rfl rfl 2 (by decide) (hts (.fieldLink RX8 7 "FloatSolverModel" "kind" "[I") (oX8_node_in _ (List.mem_of_getElem? (i := 4) rfl))) (fun _ h9 => h9) rfl dX8_node_92 ?_
        refine lv_aload_n hx hb dX8_node_95 rfl (lv_at hl 0 rfl) ?_
        refine va_get (D := D) (ci := 6) (v := .int 0) (C := RX8) (T := TX8) (N := 26) hx hb hts iX8_node_X8 hown hK hP 0 rfl rfl 1 (by decide) (hts (.fieldLink RX8 147 "FloatSolverModel" "nodes" "I") (oX8_node_in _ (List.mem_of_getElem? (i := 3) rfl))) (fun _ h9 => h9) rfl dX8_node_96 ?_
        refine lv_iload_n hx hb dX8_node_99 rfl (lv_at hl 1 rfl) ?_
        refine va_iast hx hb hK hP hD hS 1 0 rfl rfl (by unfold vp_in; decide) dX8_node_100 (fun H locs hP hD hS => ?_)
        obtain ⟨f18, ef19⟩ : ∃ z9 : Nat → Int32, z9 = upd f0 (0 : Int32).toNatClampNeg k := ⟨_, rfl⟩
        rw [← ef19] at hP hD
        have hP : va_P D vwCl [(h, .inr (6, [.int 0, .int 0, .ref a0, .ref a1, .ref a2, .int 0, .ref a3, .ref a4, .ref a5, .ref a6, .ref a7, .ref a8, .int 0, .int 0, .int 0, .int 0, .ref a9, .ref a10, .ref a11, .ref a12, .ref a13, .ref a14, .ref a15, .ref a16, .ref a17, .int 0])), (a0, .inl (cI, 40, .inl f18)), (a1, .inl (cI, 40, .inl f1)), (a2, .inl (cI, 40, .inl f2))] H := hP
        have hD : va_D A [(h, .inr (6, [.int 0, .int 0, .ref a0, .ref a1, .ref a2, .int 0, .ref a3, .ref a4, .ref a5, .ref a6, .ref a7, .ref a8, .int 0, .int 0, .int 0, .int 0, .ref a9, .ref a10, .ref a11, .ref a12, .ref a13, .ref a14, .ref a15, .ref a16, .ref a17, .int 0])), (a0, .inl (cI, 40, .inl f18)), (a1, .inl (cI, 40, .inl f1)), (a2, .inl (cI, 40, .inl f2))] := hD
        refine lv_aload_n hx hb dX8_node_101 rfl (lv_at hl 0 rfl) ?_
        refine va_get (D := D) (ci := 6) (v := .ref a1) (C := RX8) (T := TX8) (N := 26) hx hb hts iX8_node_X8 hown hK hP 0 rfl rfl 3 (by decide) (hts (.fieldLink RX8 13 "FloatSolverModel" "opX" "[I") (oX8_node_in _ (List.mem_of_getElem? (i := 5) rfl))) (fun _ h9 => h9) rfl dX8_node_102 ?_
        refine lv_aload_n hx hb dX8_node_105 rfl (lv_at hl 0 rfl) ?_
        refine va_get (D := D) (ci := 6) (v := .int 0) (C := RX8) (T := TX8) (N := 26) hx hb hts iX8_node_X8 hown hK hP 0 rfl rfl 1 (by decide) (hts (.fieldLink RX8 147 "FloatSolverModel" "nodes" "I") (oX8_node_in _ (List.mem_of_getElem? (i := 3) rfl))) (fun _ h9 => h9) rfl dX8_node_106 ?_
        refine lv_iload_n hx hb dX8_node_109 rfl (lv_at hl 2 rfl) ?_
        refine va_iast hx hb hK hP hD hS 2 0 rfl rfl (by unfold vp_in; decide) dX8_node_110 (fun H locs hP hD hS => ?_)
        obtain ⟨f20, ef21⟩ : ∃ z9 : Nat → Int32, z9 = upd f1 (0 : Int32).toNatClampNeg x := ⟨_, rfl⟩
        rw [← ef21] at hP hD
        have hP : va_P D vwCl [(h, .inr (6, [.int 0, .int 0, .ref a0, .ref a1, .ref a2, .int 0, .ref a3, .ref a4, .ref a5, .ref a6, .ref a7, .ref a8, .int 0, .int 0, .int 0, .int 0, .ref a9, .ref a10, .ref a11, .ref a12, .ref a13, .ref a14, .ref a15, .ref a16, .ref a17, .int 0])), (a0, .inl (cI, 40, .inl f18)), (a1, .inl (cI, 40, .inl f20)), (a2, .inl (cI, 40, .inl f2))] H := hP
        have hD : va_D A [(h, .inr (6, [.int 0, .int 0, .ref a0, .ref a1, .ref a2, .int 0, .ref a3, .ref a4, .ref a5, .ref a6, .ref a7, .ref a8, .int 0, .int 0, .int 0, .int 0, .ref a9, .ref a10, .ref a11, .ref a12, .ref a13, .ref a14, .ref a15, .ref a16, .ref a17, .int 0])), (a0, .inl (cI, 40, .inl f18)), (a1, .inl (cI, 40, .inl f20)), (a2, .inl (cI, 40, .inl f2))] := hD
        refine lv_aload_n hx hb dX8_node_111 rfl (lv_at hl 0 rfl) ?_
        refine va_get (D := D) (ci := 6) (v := .ref a2) (C := RX8) (T := TX8) (N := 26) hx hb hts iX8_node_X8 hown hK hP 0 rfl rfl 4 (by decide) (hts (.fieldLink RX8 16 "FloatSolverModel" "opY" "[I") (oX8_node_in _ (List.mem_of_getElem? (i := 6) rfl))) (fun _ h9 => h9) rfl dX8_node_112 ?_
        refine lv_aload_n hx hb dX8_node_115 rfl (lv_at hl 0 rfl) ?_
        refine va_get (D := D) (ci := 6) (v := .int 0) (C := RX8) (T := TX8) (N := 26) hx hb hts iX8_node_X8 hown hK hP 0 rfl rfl 1 (by decide) (hts (.fieldLink RX8 147 "FloatSolverModel" "nodes" "I") (oX8_node_in _ (List.mem_of_getElem? (i := 3) rfl))) (fun _ h9 => h9) rfl dX8_node_116 ?_
        refine lv_iload_n hx hb dX8_node_119 rfl (lv_at hl 3 rfl) ?_
        refine va_iast hx hb hK hP hD hS 3 0 rfl rfl (by unfold vp_in; decide) dX8_node_120 (fun H locs hP hD hS => ?_)
        obtain ⟨f22, ef23⟩ : ∃ z9 : Nat → Int32, z9 = upd f2 (0 : Int32).toNatClampNeg y := ⟨_, rfl⟩
        rw [← ef23] at hP hD
        have hP : va_P D vwCl [(h, .inr (6, [.int 0, .int 0, .ref a0, .ref a1, .ref a2, .int 0, .ref a3, .ref a4, .ref a5, .ref a6, .ref a7, .ref a8, .int 0, .int 0, .int 0, .int 0, .ref a9, .ref a10, .ref a11, .ref a12, .ref a13, .ref a14, .ref a15, .ref a16, .ref a17, .int 0])), (a0, .inl (cI, 40, .inl f18)), (a1, .inl (cI, 40, .inl f20)), (a2, .inl (cI, 40, .inl f22))] H := hP
        have hD : va_D A [(h, .inr (6, [.int 0, .int 0, .ref a0, .ref a1, .ref a2, .int 0, .ref a3, .ref a4, .ref a5, .ref a6, .ref a7, .ref a8, .int 0, .int 0, .int 0, .int 0, .ref a9, .ref a10, .ref a11, .ref a12, .ref a13, .ref a14, .ref a15, .ref a16, .ref a17, .int 0])), (a0, .inl (cI, 40, .inl f18)), (a1, .inl (cI, 40, .inl f20)), (a2, .inl (cI, 40, .inl f22))] := hD
        refine lv_aload_n hx hb dX8_node_121 rfl (lv_at hl 0 rfl) ?_
        refine lv_dup hx hb dX8_node_122 rfl ?_
        refine va_get (D := D) (ci := 6) (v := .int 0) (C := RX8) (T := TX8) (N := 26) hx hb hts iX8_node_X8 hown hK hP 0 rfl rfl 1 (by decide) (hts (.fieldLink RX8 147 "FloatSolverModel" "nodes" "I") (oX8_node_in _ (List.mem_of_getElem? (i := 3) rfl))) (fun _ h9 => h9) rfl dX8_node_123 ?_
        refine lv_iconst (v := 1) hx hb dX8_node_126 (by decide) ?_
        refine lv_iadd hx hb dX8_node_127 ?_
        refine lv_topi (fun y24 e25 => ?_)
        obtain rfl : y24 = 1 := e25.trans (by decide)
        refine va_put (D := D) (ci := 6) (v := .int 1) (ty := .int) (C := RX8) (T := TX8) (N := 26) hx hb hts iX8_node_X8 tyX8 tyX8_ok nmX8 hown hK hP hD hS 0 rfl rfl 1 (by decide) (hts (.fieldLink RX8 147 "FloatSolverModel" "nodes" "I") (oX8_node_in _ (List.mem_of_getElem? (i := 3) rfl))) (fun _ h9 => h9) rfl (by decide +kernel) rfl rfl (Nat.le_of_ble_eq_true rfl) dX8_node_128 (fun H locs hP hD hS => ?_)
        have hP : va_P D vwCl [(h, .inr (6, [.int 0, .int 1, .ref a0, .ref a1, .ref a2, .int 0, .ref a3, .ref a4, .ref a5, .ref a6, .ref a7, .ref a8, .int 0, .int 0, .int 0, .int 0, .ref a9, .ref a10, .ref a11, .ref a12, .ref a13, .ref a14, .ref a15, .ref a16, .ref a17, .int 0])), (a0, .inl (cI, 40, .inl f18)), (a1, .inl (cI, 40, .inl f20)), (a2, .inl (cI, 40, .inl f22))] H := hP
        have hD : va_D A [(h, .inr (6, [.int 0, .int 1, .ref a0, .ref a1, .ref a2, .int 0, .ref a3, .ref a4, .ref a5, .ref a6, .ref a7, .ref a8, .int 0, .int 0, .int 0, .int 0, .ref a9, .ref a10, .ref a11, .ref a12, .ref a13, .ref a14, .ref a15, .ref a16, .ref a17, .int 0])), (a0, .inl (cI, 40, .inl f18)), (a1, .inl (cI, 40, .inl f20)), (a2, .inl (cI, 40, .inl f22))] := hD
        refine lv_aload_n hx hb dX8_node_131 rfl (lv_at hl 0 rfl) ?_
        refine va_get (D := D) (ci := 6) (v := .int 1) (C := RX8) (T := TX8) (N := 26) hx hb hts iX8_node_X8 hown hK hP 0 rfl rfl 1 (by decide) (hts (.fieldLink RX8 147 "FloatSolverModel" "nodes" "I") (oX8_node_in _ (List.mem_of_getElem? (i := 3) rfl))) (fun _ h9 => h9) rfl dX8_node_132 ?_
        refine lv_iconst (v := 1) hx hb dX8_node_135 (by decide) ?_
        refine lv_isub hx hb dX8_node_136 ?_
        refine lv_topi (fun y26 e27 => ?_)
        obtain rfl : y26 = 0 := e27.trans (by decide)
        refine W.widen (k := 0) (n := 0) (by decide) (by decide) ?_
        exact sp_iret (u := ()) hx hb hr hlocks hS (by unfold sp_node; (repeat' split) <;> first | (exfalso; omega) | rfl) (hP.sub [] rfl) (hD.sub [] (by decide) rfl) dX8_node_137
      · skip
        have h15 : ¬ ((0 : Int) ≤ (k : Int32).toInt ∧ (k : Int32).toInt ≤ (15 : Int)) := (by have h9 := h15; simp only [Int32.toInt_toInt64] at h9; exact h9)
        have hP : va_P D vwCl [(h, .inr (6, [.int 0, .int 0, .ref a0, .ref a1, .ref a2, .int 0, .ref a3, .ref a4, .ref a5, .ref a6, .ref a7, .ref a8, .int 0, .int 0, .int 0, .int 0, .ref a9, .ref a10, .ref a11, .ref a12, .ref a13, .ref a14, .ref a15, .ref a16, .ref a17, .int 0])), (a0, .inl (cI, 40, .inl f0)), (a1, .inl (cI, 40, .inl f1)), (a2, .inl (cI, 40, .inl f2))] H := hP
        have hD : va_D A [(h, .inr (6, [.int 0, .int 0, .ref a0, .ref a1, .ref a2, .int 0, .ref a3, .ref a4, .ref a5, .ref a6, .ref a7, .ref a8, .int 0, .int 0, .int 0, .int 0, .ref a9, .ref a10, .ref a11, .ref a12, .ref a13, .ref a14, .ref a15, .ref a16, .ref a17, .int 0])), (a0, .inl (cI, 40, .inl f0)), (a1, .inl (cI, 40, .inl f1)), (a2, .inl (cI, 40, .inl f2))] := hD
        refine lv_if_ne (tgt := 79) hx hb dX8_node_73 (by decide) (fun c28 => absurd (by decide) c28) (fun _ => ?_)
        refine lv_bipush (v := (-2)) hx hb dX8_node_76 (by decide) ?_
        refine W.widen (k := 0) (n := 0) (by decide) (by decide) ?_
        exact sp_iret (u := ()) hx hb hr hlocks hS (by unfold sp_node; (repeat' split) <;> first | (exfalso; omega) | rfl) (hP.sub [] rfl) (hD.sub [] (by decide) rfl) dX8_node_78
  · skip
    have c1i : (k : Int32).toInt = 1 := congrArg Int32.toInt c1
    refine lv_iload_n hx hb dX8_node_10 rfl (lv_at hl 2 rfl) ?_
    refine lv_i2l (v := _) hx hb dX8_node_11 rfl ?_
    refine lv_lconst (v := 0) hx hb dX8_node_12 (by decide) ?_
    refine lv_ldc2 (v := 3) hx hb hown (hts (.constantLong RX8 156 (3)) (oX8_node_in _ (List.mem_of_getElem? (i := 7) rfl))) dX8_node_13 ?_
    refine sp_calli (wr := [(h, .inr (6, [.int 0, .int 0, .ref a0, .ref a1, .ref a2, .int 0, .ref a3, .ref a4, .ref a5, .ref a6, .ref a7, .ref a8, .int 0, .int 0, .int 0, .int 0, .ref a9, .ref a10, .ref a11, .ref a12, .ref a13, .ref a14, .ref a15, .ref a16, .ref a17, .int 0])), (a0, .inl (cI, 40, .inl f0)), (a1, .inl (cI, 40, .inl f1)), (a2, .inl (cI, 40, .inl f2))]) (wc := []) hP hD hS hA [] [0, 1, 2, 3] rfl rfl (by decide) (by decide) (va_runS (As := [.long (x : Int32).toInt64, .long 0, .long 3]) (rest := []) ⟨hx, hb, hml, hown, hts⟩ (c_X8_in l D cI cJ cZ H.size ((x : Int32).toInt64) (0) (3)) (va_cwS 3 hts gX8_node_X8_in_150 rfl rfl rfl (by decide +kernel) ⟨Nat.le_of_ble_eq_true rfl, Nat.le_of_ble_eq_true rfl⟩) (sp_preS [.long (x : Int32).toInt64, .long 0, .long 3] hK (hP.sub (ws' := []) [] rfl) (hD.sub (ws' := []) [] (by decide) rfl)) rfl rfl hl.1 rfl (lv_room (Nat.le_of_ble_eq_true rfl)) dX8_node_16 ⟨Nat.le_of_ble_eq_true rfl, Nat.le_of_ble_eq_true rfl⟩) (fun r29 u30 H locs hw31 hP hD hS => ?_)
    rcases hw31 with ⟨rfl, h32⟩ | ⟨rfl, h32⟩
    · skip
      have h32 : (0 : Int) ≤ (x : Int32).toInt ∧ (x : Int32).toInt ≤ (3 : Int) := (by have h9 := h32; simp only [Int32.toInt_toInt64] at h9; exact h9)
      have hP : va_P D vwCl [(h, .inr (6, [.int 0, .int 0, .ref a0, .ref a1, .ref a2, .int 0, .ref a3, .ref a4, .ref a5, .ref a6, .ref a7, .ref a8, .int 0, .int 0, .int 0, .int 0, .ref a9, .ref a10, .ref a11, .ref a12, .ref a13, .ref a14, .ref a15, .ref a16, .ref a17, .int 0])), (a0, .inl (cI, 40, .inl f0)), (a1, .inl (cI, 40, .inl f1)), (a2, .inl (cI, 40, .inl f2))] H := hP
      have hD : va_D A [(h, .inr (6, [.int 0, .int 0, .ref a0, .ref a1, .ref a2, .int 0, .ref a3, .ref a4, .ref a5, .ref a6, .ref a7, .ref a8, .int 0, .int 0, .int 0, .int 0, .ref a9, .ref a10, .ref a11, .ref a12, .ref a13, .ref a14, .ref a15, .ref a16, .ref a17, .int 0])), (a0, .inl (cI, 40, .inl f0)), (a1, .inl (cI, 40, .inl f1)), (a2, .inl (cI, 40, .inl f2))] := hD
      refine lv_if_ne (tgt := 64) hx hb dX8_node_19 (by decide) (fun _ => ?_) (fun c33 => absurd c33 (by decide))
      refine lv_iload_n hx hb dX8_node_64 rfl (lv_at hl 1 rfl) ?_
      refine lv_i2l (v := _) hx hb dX8_node_65 rfl ?_
      refine lv_lconst (v := 0) hx hb dX8_node_66 (by decide) ?_
      refine lv_ldc2 (v := 15) hx hb hown (hts (.constantLong RX8 158 (15)) (oX8_node_in _ (List.mem_of_getElem? (i := 2) rfl))) dX8_node_67 ?_
      refine sp_calli (wr := [(h, .inr (6, [.int 0, .int 0, .ref a0, .ref a1, .ref a2, .int 0, .ref a3, .ref a4, .ref a5, .ref a6, .ref a7, .ref a8, .int 0, .int 0, .int 0, .int 0, .ref a9, .ref a10, .ref a11, .ref a12, .ref a13, .ref a14, .ref a15, .ref a16, .ref a17, .int 0])), (a0, .inl (cI, 40, .inl f0)), (a1, .inl (cI, 40, .inl f1)), (a2, .inl (cI, 40, .inl f2))]) (wc := []) hP hD hS hA [] [0, 1, 2, 3] rfl rfl (by decide) (by decide) (va_runS (As := [.long (k : Int32).toInt64, .long 0, .long 15]) (rest := []) ⟨hx, hb, hml, hown, hts⟩ (c_X8_in l D cI cJ cZ H.size ((k : Int32).toInt64) (0) (15)) (va_cwS 3 hts gX8_node_X8_in_150 rfl rfl rfl (by decide +kernel) ⟨Nat.le_of_ble_eq_true rfl, Nat.le_of_ble_eq_true rfl⟩) (sp_preS [.long (k : Int32).toInt64, .long 0, .long 15] hK (hP.sub (ws' := []) [] rfl) (hD.sub (ws' := []) [] (by decide) rfl)) rfl rfl hl.1 rfl (lv_room (Nat.le_of_ble_eq_true rfl)) dX8_node_70 ⟨Nat.le_of_ble_eq_true rfl, Nat.le_of_ble_eq_true rfl⟩) (fun r34 u35 H locs hw36 hP hD hS => ?_)
      rcases hw36 with ⟨rfl, h37⟩ | ⟨rfl, h37⟩
      · skip
        have h37 : (0 : Int) ≤ (k : Int32).toInt ∧ (k : Int32).toInt ≤ (15 : Int) := (by have h9 := h37; simp only [Int32.toInt_toInt64] at h9; exact h9)
        have hP : va_P D vwCl [(h, .inr (6, [.int 0, .int 0, .ref a0, .ref a1, .ref a2, .int 0, .ref a3, .ref a4, .ref a5, .ref a6, .ref a7, .ref a8, .int 0, .int 0, .int 0, .int 0, .ref a9, .ref a10, .ref a11, .ref a12, .ref a13, .ref a14, .ref a15, .ref a16, .ref a17, .int 0])), (a0, .inl (cI, 40, .inl f0)), (a1, .inl (cI, 40, .inl f1)), (a2, .inl (cI, 40, .inl f2))] H := hP
        have hD : va_D A [(h, .inr (6, [.int 0, .int 0, .ref a0, .ref a1, .ref a2, .int 0, .ref a3, .ref a4, .ref a5, .ref a6, .ref a7, .ref a8, .int 0, .int 0, .int 0, .int 0, .ref a9, .ref a10, .ref a11, .ref a12, .ref a13, .ref a14, .ref a15, .ref a16, .ref a17, .int 0])), (a0, .inl (cI, 40, .inl f0)), (a1, .inl (cI, 40, .inl f1)), (a2, .inl (cI, 40, .inl f2))] := hD
        refine lv_if_ne (tgt := 79) hx hb dX8_node_73 (by decide) (fun _ => ?_) (fun c38 => absurd c38 (by decide))
        refine lv_aload_n hx hb dX8_node_79 rfl (lv_at hl 0 rfl) ?_
        refine va_get (D := D) (ci := 6) (v := .int 0) (C := RX8) (T := TX8) (N := 26) hx hb hts iX8_node_X8 hown hK hP 0 rfl rfl 1 (by decide) (hts (.fieldLink RX8 147 "FloatSolverModel" "nodes" "I") (oX8_node_in _ (List.mem_of_getElem? (i := 3) rfl))) (fun _ h9 => h9) rfl dX8_node_80 ?_
        refine lv_bipush (v := 40) hx hb dX8_node_83 (by decide) ?_
        refine lv_icmp_ne (tgt := 91) hx hb dX8_node_85 (by decide) (fun _ => ?_) (fun c39 => absurd c39 (by decide))
        refine lv_aload_n hx hb dX8_node_91 rfl (lv_at hl 0 rfl) ?_
        refine va_get (D := D) (ci := 6) (v := .ref a0) (C := RX8) (T := TX8) (N := 26) hx hb hts iX8_node_X8 hown hK hP 0 rfl rfl 2 (by decide) (hts (.fieldLink RX8 7 "FloatSolverModel" "kind" "[I") (oX8_node_in _ (List.mem_of_getElem? (i := 4) rfl))) (fun _ h9 => h9) rfl dX8_node_92 ?_
        refine lv_aload_n hx hb dX8_node_95 rfl (lv_at hl 0 rfl) ?_
        refine va_get (D := D) (ci := 6) (v := .int 0) (C := RX8) (T := TX8) (N := 26) hx hb hts iX8_node_X8 hown hK hP 0 rfl rfl 1 (by decide) (hts (.fieldLink RX8 147 "FloatSolverModel" "nodes" "I") (oX8_node_in _ (List.mem_of_getElem? (i := 3) rfl))) (fun _ h9 => h9) rfl dX8_node_96 ?_
        refine lv_iload_n hx hb dX8_node_99 rfl (lv_at hl 1 rfl) ?_
        refine va_iast hx hb hK hP hD hS 1 0 rfl rfl (by unfold vp_in; decide) dX8_node_100 (fun H locs hP hD hS => ?_)
        obtain ⟨f40, ef41⟩ : ∃ z9 : Nat → Int32, z9 = upd f0 (0 : Int32).toNatClampNeg k := ⟨_, rfl⟩
        rw [← ef41] at hP hD
        have hP : va_P D vwCl [(h, .inr (6, [.int 0, .int 0, .ref a0, .ref a1, .ref a2, .int 0, .ref a3, .ref a4, .ref a5, .ref a6, .ref a7, .ref a8, .int 0, .int 0, .int 0, .int 0, .ref a9, .ref a10, .ref a11, .ref a12, .ref a13, .ref a14, .ref a15, .ref a16, .ref a17, .int 0])), (a0, .inl (cI, 40, .inl f40)), (a1, .inl (cI, 40, .inl f1)), (a2, .inl (cI, 40, .inl f2))] H := hP
        have hD : va_D A [(h, .inr (6, [.int 0, .int 0, .ref a0, .ref a1, .ref a2, .int 0, .ref a3, .ref a4, .ref a5, .ref a6, .ref a7, .ref a8, .int 0, .int 0, .int 0, .int 0, .ref a9, .ref a10, .ref a11, .ref a12, .ref a13, .ref a14, .ref a15, .ref a16, .ref a17, .int 0])), (a0, .inl (cI, 40, .inl f40)), (a1, .inl (cI, 40, .inl f1)), (a2, .inl (cI, 40, .inl f2))] := hD
        refine lv_aload_n hx hb dX8_node_101 rfl (lv_at hl 0 rfl) ?_
        refine va_get (D := D) (ci := 6) (v := .ref a1) (C := RX8) (T := TX8) (N := 26) hx hb hts iX8_node_X8 hown hK hP 0 rfl rfl 3 (by decide) (hts (.fieldLink RX8 13 "FloatSolverModel" "opX" "[I") (oX8_node_in _ (List.mem_of_getElem? (i := 5) rfl))) (fun _ h9 => h9) rfl dX8_node_102 ?_
        refine lv_aload_n hx hb dX8_node_105 rfl (lv_at hl 0 rfl) ?_
        refine va_get (D := D) (ci := 6) (v := .int 0) (C := RX8) (T := TX8) (N := 26) hx hb hts iX8_node_X8 hown hK hP 0 rfl rfl 1 (by decide) (hts (.fieldLink RX8 147 "FloatSolverModel" "nodes" "I") (oX8_node_in _ (List.mem_of_getElem? (i := 3) rfl))) (fun _ h9 => h9) rfl dX8_node_106 ?_
        refine lv_iload_n hx hb dX8_node_109 rfl (lv_at hl 2 rfl) ?_
        refine va_iast hx hb hK hP hD hS 2 0 rfl rfl (by unfold vp_in; decide) dX8_node_110 (fun H locs hP hD hS => ?_)
        obtain ⟨f42, ef43⟩ : ∃ z9 : Nat → Int32, z9 = upd f1 (0 : Int32).toNatClampNeg x := ⟨_, rfl⟩
        rw [← ef43] at hP hD
        have hP : va_P D vwCl [(h, .inr (6, [.int 0, .int 0, .ref a0, .ref a1, .ref a2, .int 0, .ref a3, .ref a4, .ref a5, .ref a6, .ref a7, .ref a8, .int 0, .int 0, .int 0, .int 0, .ref a9, .ref a10, .ref a11, .ref a12, .ref a13, .ref a14, .ref a15, .ref a16, .ref a17, .int 0])), (a0, .inl (cI, 40, .inl f40)), (a1, .inl (cI, 40, .inl f42)), (a2, .inl (cI, 40, .inl f2))] H := hP
        have hD : va_D A [(h, .inr (6, [.int 0, .int 0, .ref a0, .ref a1, .ref a2, .int 0, .ref a3, .ref a4, .ref a5, .ref a6, .ref a7, .ref a8, .int 0, .int 0, .int 0, .int 0, .ref a9, .ref a10, .ref a11, .ref a12, .ref a13, .ref a14, .ref a15, .ref a16, .ref a17, .int 0])), (a0, .inl (cI, 40, .inl f40)), (a1, .inl (cI, 40, .inl f42)), (a2, .inl (cI, 40, .inl f2))] := hD
        refine lv_aload_n hx hb dX8_node_111 rfl (lv_at hl 0 rfl) ?_
        refine va_get (D := D) (ci := 6) (v := .ref a2) (C := RX8) (T := TX8) (N := 26) hx hb hts iX8_node_X8 hown hK hP 0 rfl rfl 4 (by decide) (hts (.fieldLink RX8 16 "FloatSolverModel" "opY" "[I") (oX8_node_in _ (List.mem_of_getElem? (i := 6) rfl))) (fun _ h9 => h9) rfl dX8_node_112 ?_
        refine lv_aload_n hx hb dX8_node_115 rfl (lv_at hl 0 rfl) ?_
        refine va_get (D := D) (ci := 6) (v := .int 0) (C := RX8) (T := TX8) (N := 26) hx hb hts iX8_node_X8 hown hK hP 0 rfl rfl 1 (by decide) (hts (.fieldLink RX8 147 "FloatSolverModel" "nodes" "I") (oX8_node_in _ (List.mem_of_getElem? (i := 3) rfl))) (fun _ h9 => h9) rfl dX8_node_116 ?_
        refine lv_iload_n hx hb dX8_node_119 rfl (lv_at hl 3 rfl) ?_
        refine va_iast hx hb hK hP hD hS 3 0 rfl rfl (by unfold vp_in; decide) dX8_node_120 (fun H locs hP hD hS => ?_)
        obtain ⟨f44, ef45⟩ : ∃ z9 : Nat → Int32, z9 = upd f2 (0 : Int32).toNatClampNeg y := ⟨_, rfl⟩
        rw [← ef45] at hP hD
        have hP : va_P D vwCl [(h, .inr (6, [.int 0, .int 0, .ref a0, .ref a1, .ref a2, .int 0, .ref a3, .ref a4, .ref a5, .ref a6, .ref a7, .ref a8, .int 0, .int 0, .int 0, .int 0, .ref a9, .ref a10, .ref a11, .ref a12, .ref a13, .ref a14, .ref a15, .ref a16, .ref a17, .int 0])), (a0, .inl (cI, 40, .inl f40)), (a1, .inl (cI, 40, .inl f42)), (a2, .inl (cI, 40, .inl f44))] H := hP
        have hD : va_D A [(h, .inr (6, [.int 0, .int 0, .ref a0, .ref a1, .ref a2, .int 0, .ref a3, .ref a4, .ref a5, .ref a6, .ref a7, .ref a8, .int 0, .int 0, .int 0, .int 0, .ref a9, .ref a10, .ref a11, .ref a12, .ref a13, .ref a14, .ref a15, .ref a16, .ref a17, .int 0])), (a0, .inl (cI, 40, .inl f40)), (a1, .inl (cI, 40, .inl f42)), (a2, .inl (cI, 40, .inl f44))] := hD
        refine lv_aload_n hx hb dX8_node_121 rfl (lv_at hl 0 rfl) ?_
        refine lv_dup hx hb dX8_node_122 rfl ?_
        refine va_get (D := D) (ci := 6) (v := .int 0) (C := RX8) (T := TX8) (N := 26) hx hb hts iX8_node_X8 hown hK hP 0 rfl rfl 1 (by decide) (hts (.fieldLink RX8 147 "FloatSolverModel" "nodes" "I") (oX8_node_in _ (List.mem_of_getElem? (i := 3) rfl))) (fun _ h9 => h9) rfl dX8_node_123 ?_
        refine lv_iconst (v := 1) hx hb dX8_node_126 (by decide) ?_
        refine lv_iadd hx hb dX8_node_127 ?_
        refine lv_topi (fun y46 e47 => ?_)
        obtain rfl : y46 = 1 := e47.trans (by decide)
        refine va_put (D := D) (ci := 6) (v := .int 1) (ty := .int) (C := RX8) (T := TX8) (N := 26) hx hb hts iX8_node_X8 tyX8 tyX8_ok nmX8 hown hK hP hD hS 0 rfl rfl 1 (by decide) (hts (.fieldLink RX8 147 "FloatSolverModel" "nodes" "I") (oX8_node_in _ (List.mem_of_getElem? (i := 3) rfl))) (fun _ h9 => h9) rfl (by decide +kernel) rfl rfl (Nat.le_of_ble_eq_true rfl) dX8_node_128 (fun H locs hP hD hS => ?_)
        have hP : va_P D vwCl [(h, .inr (6, [.int 0, .int 1, .ref a0, .ref a1, .ref a2, .int 0, .ref a3, .ref a4, .ref a5, .ref a6, .ref a7, .ref a8, .int 0, .int 0, .int 0, .int 0, .ref a9, .ref a10, .ref a11, .ref a12, .ref a13, .ref a14, .ref a15, .ref a16, .ref a17, .int 0])), (a0, .inl (cI, 40, .inl f40)), (a1, .inl (cI, 40, .inl f42)), (a2, .inl (cI, 40, .inl f44))] H := hP
        have hD : va_D A [(h, .inr (6, [.int 0, .int 1, .ref a0, .ref a1, .ref a2, .int 0, .ref a3, .ref a4, .ref a5, .ref a6, .ref a7, .ref a8, .int 0, .int 0, .int 0, .int 0, .ref a9, .ref a10, .ref a11, .ref a12, .ref a13, .ref a14, .ref a15, .ref a16, .ref a17, .int 0])), (a0, .inl (cI, 40, .inl f40)), (a1, .inl (cI, 40, .inl f42)), (a2, .inl (cI, 40, .inl f44))] := hD
        refine lv_aload_n hx hb dX8_node_131 rfl (lv_at hl 0 rfl) ?_
        refine va_get (D := D) (ci := 6) (v := .int 1) (C := RX8) (T := TX8) (N := 26) hx hb hts iX8_node_X8 hown hK hP 0 rfl rfl 1 (by decide) (hts (.fieldLink RX8 147 "FloatSolverModel" "nodes" "I") (oX8_node_in _ (List.mem_of_getElem? (i := 3) rfl))) (fun _ h9 => h9) rfl dX8_node_132 ?_
        refine lv_iconst (v := 1) hx hb dX8_node_135 (by decide) ?_
        refine lv_isub hx hb dX8_node_136 ?_
        refine lv_topi (fun y48 e49 => ?_)
        obtain rfl : y48 = 0 := e49.trans (by decide)
        refine W.widen (k := 0) (n := 0) (by decide) (by decide) ?_
        exact sp_iret (u := ()) hx hb hr hlocks hS (by unfold sp_node; (repeat' split) <;> first | (exfalso; omega) | rfl) (hP.sub [] rfl) (hD.sub [] (by decide) rfl) dX8_node_137
      · skip
        have h37 : ¬ ((0 : Int) ≤ (k : Int32).toInt ∧ (k : Int32).toInt ≤ (15 : Int)) := (by have h9 := h37; simp only [Int32.toInt_toInt64] at h9; exact h9)
        have hP : va_P D vwCl [(h, .inr (6, [.int 0, .int 0, .ref a0, .ref a1, .ref a2, .int 0, .ref a3, .ref a4, .ref a5, .ref a6, .ref a7, .ref a8, .int 0, .int 0, .int 0, .int 0, .ref a9, .ref a10, .ref a11, .ref a12, .ref a13, .ref a14, .ref a15, .ref a16, .ref a17, .int 0])), (a0, .inl (cI, 40, .inl f0)), (a1, .inl (cI, 40, .inl f1)), (a2, .inl (cI, 40, .inl f2))] H := hP
        have hD : va_D A [(h, .inr (6, [.int 0, .int 0, .ref a0, .ref a1, .ref a2, .int 0, .ref a3, .ref a4, .ref a5, .ref a6, .ref a7, .ref a8, .int 0, .int 0, .int 0, .int 0, .ref a9, .ref a10, .ref a11, .ref a12, .ref a13, .ref a14, .ref a15, .ref a16, .ref a17, .int 0])), (a0, .inl (cI, 40, .inl f0)), (a1, .inl (cI, 40, .inl f1)), (a2, .inl (cI, 40, .inl f2))] := hD
        refine lv_if_ne (tgt := 79) hx hb dX8_node_73 (by decide) (fun c50 => absurd (by decide) c50) (fun _ => ?_)
        refine lv_bipush (v := (-2)) hx hb dX8_node_76 (by decide) ?_
        refine W.widen (k := 0) (n := 0) (by decide) (by decide) ?_
        exact sp_iret (u := ()) hx hb hr hlocks hS (by unfold sp_node; (repeat' split) <;> first | (exfalso; omega) | rfl) (hP.sub [] rfl) (hD.sub [] (by decide) rfl) dX8_node_78
    · skip
      have h32 : ¬ ((0 : Int) ≤ (x : Int32).toInt ∧ (x : Int32).toInt ≤ (3 : Int)) := (by have h9 := h32; simp only [Int32.toInt_toInt64] at h9; exact h9)
      have hP : va_P D vwCl [(h, .inr (6, [.int 0, .int 0, .ref a0, .ref a1, .ref a2, .int 0, .ref a3, .ref a4, .ref a5, .ref a6, .ref a7, .ref a8, .int 0, .int 0, .int 0, .int 0, .ref a9, .ref a10, .ref a11, .ref a12, .ref a13, .ref a14, .ref a15, .ref a16, .ref a17, .int 0])), (a0, .inl (cI, 40, .inl f0)), (a1, .inl (cI, 40, .inl f1)), (a2, .inl (cI, 40, .inl f2))] H := hP
      have hD : va_D A [(h, .inr (6, [.int 0, .int 0, .ref a0, .ref a1, .ref a2, .int 0, .ref a3, .ref a4, .ref a5, .ref a6, .ref a7, .ref a8, .int 0, .int 0, .int 0, .int 0, .ref a9, .ref a10, .ref a11, .ref a12, .ref a13, .ref a14, .ref a15, .ref a16, .ref a17, .int 0])), (a0, .inl (cI, 40, .inl f0)), (a1, .inl (cI, 40, .inl f1)), (a2, .inl (cI, 40, .inl f2))] := hD
      refine lv_if_ne (tgt := 64) hx hb dX8_node_19 (by decide) (fun c51 => absurd (by decide) c51) (fun _ => ?_)
      refine lv_goto (tgt := 62) hx hb dX8_node_22 (by decide) ?_
      refine lv_iconst (v := (-1)) hx hb dX8_node_62 (by decide) ?_
      refine W.widen (k := 0) (n := 0) (by decide) (by decide) ?_
      exact sp_iret (u := ()) hx hb hr hlocks hS (by unfold sp_node; (repeat' split) <;> first | (exfalso; omega) | rfl) (hP.sub [] rfl) (hD.sub [] (by decide) rfl) dX8_node_63
def oX8_rule : List Cond := [.fieldLink RX8 70 "FloatSolverModel" "thrown" "I"]
def wpX8_rule : List Cond := .code yX8_rule cX8_rule 4 (some .int) :: (oX8_rule ++ (wsX80 ++ ((wsV RX8 160 RX8 yX8_isNode wpX8_isNode) ++ ([] : List Cond))))
theorem oX8_rule_in : ∀ w ∈ oX8_rule, w ∈ wpX8_rule := fun w h => List.mem_cons_of_mem _ (List.mem_append_left _ h)
theorem gwoX8_rule : ∀ w ∈ oX8_rule, goodWord w = true := by decide +kernel
theorem gwX8_rule : ∀ w ∈ wpX8_rule, goodWord w = true := by
  unfold wpX8_rule
  exact List.forall_mem_cons.mpr ⟨rfl, List.forall_mem_append.mpr ⟨gwoX8_rule, List.forall_mem_append.mpr ⟨gwX8, List.forall_mem_append.mpr ⟨(sp_gV gwX8_isNode), fun _ h => absurd h List.not_mem_nil⟩⟩⟩⟩
set_option maxRecDepth 100000 in
theorem toX8_rule : ∀ w ∈ oX8_rule, w ∈ lw_tbl := by
  unfold oX8_rule
  exact List.forall_mem_cons.mpr ⟨(List.mem_of_getElem? (i := 683) (by decide +kernel)), fun _ h => absurd h List.not_mem_nil⟩
set_option maxRecDepth 100000 in
theorem tX8_rule : ∀ w ∈ wpX8_rule, w ∈ lw_tbl := by
  unfold wpX8_rule
  exact List.forall_mem_cons.mpr ⟨(List.mem_of_getElem? (i := 787) (by rfl)), List.forall_mem_append.mpr ⟨toX8_rule, List.forall_mem_append.mpr ⟨in_wsX80, List.forall_mem_append.mpr ⟨(sp_tV (List.mem_of_getElem? (i := 776) (by decide +kernel)) (List.mem_of_getElem? (i := 778) (by decide +kernel)) (List.mem_of_getElem? (i := 19) (by decide +kernel)) (List.mem_of_getElem? (i := 45) (by decide +kernel)) tX8_isNode), fun _ h => absurd h List.not_mem_nil⟩⟩⟩⟩
theorem iX8_rule_X8 : ∀ w ∈ wsX80, w ∈ wpX8_rule := fun w h => List.mem_cons_of_mem _ (List.mem_append_right _ (List.mem_append_left _ h))
theorem gX8_rule_X8_isNode_160 : GoodIn wpX8_rule (wsV RX8 160 RX8 yX8_isNode wpX8_isNode) := fun w h => ⟨List.mem_cons_of_mem _ (List.mem_append_right _ (List.mem_append_right _ (List.mem_append_left _ h))), good_of_word (sp_gV gwX8_isNode w h)⟩
set_option maxHeartbeats 4000000 in
set_option maxRecDepth 100000 in
theorem c_X8_rule (l : Launch) (D : va_G) (cI cJ cZ : ClassId) (sz : Nat) (h a0 a1 a2 a3 a4 a5 a6 a7 a8 a9 a10 a11 a12 a13 a14 a15 a16 a17 : Nat) (k a b : Int32) : Met l yX8_rule wpX8_rule ({ frames := 2, cells := 0, slots := 0, locals := 46 }) (va_Pc [.ref h, .int k, .int a, .int b] (sp_pre D vwCl (sp_ty cI cJ cZ) [(h, .inr (6, [.int 0, .int 0, .ref a0, .ref a1, .ref a2, .int 0, .ref a3, .ref a4, .ref a5, .ref a6, .ref a7, .ref a8, .int 0, .int 0, .int 0, .int 0, .ref a9, .ref a10, .ref a11, .ref a12, .ref a13, .ref a14, .ref a15, .ref a16, .ref a17, .int 0]))] sz)) (va_Qi (fun (r : Int32) (_ : Unit) => r = -1) (sp_B D vwCl (va_A [(h, .inr (6, [.int 0, .int 0, .ref a0, .ref a1, .ref a2, .int 0, .ref a3, .ref a4, .ref a5, .ref a6, .ref a7, .ref a8, .int 0, .int 0, .int 0, .int 0, .ref a9, .ref a10, .ref a11, .ref a12, .ref a13, .ref a14, .ref a15, .ref a16, .ref a17, .int 0]))] sz) (fun (_ : Unit) => [])) (va_A [(h, .inr (6, [.int 0, .int 0, .ref a0, .ref a1, .ref a2, .int 0, .ref a3, .ref a4, .ref a5, .ref a6, .ref a7, .ref a8, .int 0, .int 0, .int 0, .int 0, .ref a9, .ref a10, .ref a11, .ref a12, .ref a13, .ref a14, .ref a15, .ref a16, .ref a17, .int 0]))] sz)) 0 0 (va_A [(h, .inr (6, [.int 0, .int 0, .ref a0, .ref a1, .ref a2, .int 0, .ref a3, .ref a4, .ref a5, .ref a6, .ref a7, .ref a8, .int 0, .int 0, .int 0, .int 0, .ref a9, .ref a10, .ref a11, .ref a12, .ref a13, .ref a14, .ref a15, .ref a16, .ref a17, .int 0]))] sz) := by
  refine sp_ofW (Qc := fun A => va_Qi (fun (r : Int32) (_ : Unit) => r = -1) (sp_B D vwCl A (fun (_ : Unit) => [])) A) (by decide) rfl (Nat.le_of_ble_eq_true rfl) (fun p e s m below meth c A ls H locs C0 hA hS hP hK hD hl => ?_)
  obtain ⟨hx, hb, hr, hts, hown, hlocks, hml, hin⟩ := C0
  have hown : s.vm.findClass RX8 = some m.cls := hown
  have hl : lv_has ls 4 [(0, .ref h), (1, .int k), (2, .int a), (3, .int b)] := hl
  have hK : va_K D vwCl [(cI, .int), (cJ, .long), (cZ, .boolean)] s := hK
  refine lv_aload_n hx hb dX8_rule_0 rfl (lv_at hl 0 rfl) ?_
  refine lv_iconst (v := 0) hx hb dX8_rule_1 (by decide) ?_
  refine va_put (D := D) (ci := 6) (v := .int 0) (ty := .int) (C := RX8) (T := TX8) (N := 26) hx hb hts iX8_rule_X8 tyX8 tyX8_ok nmX8 hown hK hP hD hS 0 rfl rfl 0 (by decide) (hts (.fieldLink RX8 70 "FloatSolverModel" "thrown" "I") (oX8_rule_in _ (List.mem_of_getElem? (i := 0) rfl))) (fun _ h9 => h9) rfl (by decide +kernel) rfl rfl (Nat.le_of_ble_eq_true rfl) dX8_rule_2 (fun H locs hP hD hS => ?_)
  have hP : va_P D vwCl [(h, .inr (6, [.int 0, .int 0, .ref a0, .ref a1, .ref a2, .int 0, .ref a3, .ref a4, .ref a5, .ref a6, .ref a7, .ref a8, .int 0, .int 0, .int 0, .int 0, .ref a9, .ref a10, .ref a11, .ref a12, .ref a13, .ref a14, .ref a15, .ref a16, .ref a17, .int 0]))] H := hP
  have hD : va_D A [(h, .inr (6, [.int 0, .int 0, .ref a0, .ref a1, .ref a2, .int 0, .ref a3, .ref a4, .ref a5, .ref a6, .ref a7, .ref a8, .int 0, .int 0, .int 0, .int 0, .ref a9, .ref a10, .ref a11, .ref a12, .ref a13, .ref a14, .ref a15, .ref a16, .ref a17, .int 0]))] := hD
  refine lv_aload_n hx hb dX8_rule_5 rfl (lv_at hl 0 rfl) ?_
  refine lv_iload_n hx hb dX8_rule_6 rfl (lv_at hl 2 rfl) ?_
  refine sp_calli (wr := []) (wc := [(h, .inr (6, [.int 0, .int 0, .ref a0, .ref a1, .ref a2, .int 0, .ref a3, .ref a4, .ref a5, .ref a6, .ref a7, .ref a8, .int 0, .int 0, .int 0, .int 0, .ref a9, .ref a10, .ref a11, .ref a12, .ref a13, .ref a14, .ref a15, .ref a16, .ref a17, .int 0]))]) hP hD hS hA [0] [] rfl rfl (by decide) (by decide) (va_runV (As := [.int a]) (rest := []) ⟨hx, hb, hml, hown, hts⟩ (c_X8_isNode l D cI cJ cZ H.size h a0 a1 a2 a3 a4 a5 a6 a7 a8 a9 a10 a11 a12 a13 a14 a15 a16 a17 (a)) (cwV 1 hts gX8_rule_X8_isNode_160 rfl rfl rfl (by decide +kernel) ⟨Nat.le_of_ble_eq_true rfl, Nat.le_of_ble_eq_true rfl⟩) (sp_preV (ci := 6) (q0 := 0) [.int a] hK (hP.sub (ws' := [(h, .inr (6, [.int 0, .int 0, .ref a0, .ref a1, .ref a2, .int 0, .ref a3, .ref a4, .ref a5, .ref a6, .ref a7, .ref a8, .int 0, .int 0, .int 0, .int 0, .ref a9, .ref a10, .ref a11, .ref a12, .ref a13, .ref a14, .ref a15, .ref a16, .ref a17, .int 0]))]) [0] rfl) (hD.sub (ws' := [(h, .inr (6, [.int 0, .int 0, .ref a0, .ref a1, .ref a2, .int 0, .ref a3, .ref a4, .ref a5, .ref a6, .ref a7, .ref a8, .int 0, .int 0, .int 0, .int 0, .ref a9, .ref a10, .ref a11, .ref a12, .ref a13, .ref a14, .ref a15, .ref a16, .ref a17, .int 0]))]) [0] (by decide) rfl) rfl rfl) rfl rfl hl.1 rfl (lv_room (Nat.le_of_ble_eq_true rfl)) dX8_rule_7 ⟨Nat.le_of_ble_eq_true rfl, Nat.le_of_ble_eq_true rfl⟩) (fun r1 u2 H locs hw3 hP hD hS => ?_)
  obtain rfl := hw3
  have hP : va_P D vwCl [(h, .inr (6, [.int 0, .int 0, .ref a0, .ref a1, .ref a2, .int 0, .ref a3, .ref a4, .ref a5, .ref a6, .ref a7, .ref a8, .int 0, .int 0, .int 0, .int 0, .ref a9, .ref a10, .ref a11, .ref a12, .ref a13, .ref a14, .ref a15, .ref a16, .ref a17, .int 0]))] H := hP
  have hD : va_D A [(h, .inr (6, [.int 0, .int 0, .ref a0, .ref a1, .ref a2, .int 0, .ref a3, .ref a4, .ref a5, .ref a6, .ref a7, .ref a8, .int 0, .int 0, .int 0, .int 0, .ref a9, .ref a10, .ref a11, .ref a12, .ref a13, .ref a14, .ref a15, .ref a16, .ref a17, .int 0]))] := hD
  refine lv_if_eq (tgt := 26) hx hb dX8_rule_10 (by decide) (fun _ => ?_) (fun c4 => absurd (by decide) c4)
  refine lv_iconst (v := (-1)) hx hb dX8_rule_26 (by decide) ?_
  refine W.widen (k := 0) (n := 0) (by decide) (by decide) ?_
  exact sp_iret (u := ()) hx hb hr hlocks hS rfl (hP.sub [] rfl) (hD.sub [] (by decide) rfl) dX8_rule_27
def oX8_noRules : List Cond := [.fieldLink RX8 70 "FloatSolverModel" "thrown" "I", .fieldLink RX8 167 "FloatSolverModel" "rules" "I"]
def wpX8_noRules : List Cond := .code yX8_noRules cX8_noRules 2 (some .int) :: (oX8_noRules ++ (wsX80 ++ ([] : List Cond)))
theorem oX8_noRules_in : ∀ w ∈ oX8_noRules, w ∈ wpX8_noRules := fun w h => List.mem_cons_of_mem _ (List.mem_append_left _ h)
theorem gwoX8_noRules : ∀ w ∈ oX8_noRules, goodWord w = true := by decide +kernel
theorem gwX8_noRules : ∀ w ∈ wpX8_noRules, goodWord w = true := by
  unfold wpX8_noRules
  exact List.forall_mem_cons.mpr ⟨rfl, List.forall_mem_append.mpr ⟨gwoX8_noRules, List.forall_mem_append.mpr ⟨gwX8, fun _ h => absurd h List.not_mem_nil⟩⟩⟩
set_option maxRecDepth 100000 in
theorem toX8_noRules : ∀ w ∈ oX8_noRules, w ∈ lw_tbl := by
  unfold oX8_noRules
  exact List.forall_mem_cons.mpr ⟨(List.mem_of_getElem? (i := 683) (by decide +kernel)), List.forall_mem_cons.mpr ⟨(List.mem_of_getElem? (i := 688) (by decide +kernel)), fun _ h => absurd h List.not_mem_nil⟩⟩
set_option maxRecDepth 100000 in
theorem tX8_noRules : ∀ w ∈ wpX8_noRules, w ∈ lw_tbl := by
  unfold wpX8_noRules
  exact List.forall_mem_cons.mpr ⟨(List.mem_of_getElem? (i := 791) (by rfl)), List.forall_mem_append.mpr ⟨toX8_noRules, List.forall_mem_append.mpr ⟨in_wsX80, fun _ h => absurd h List.not_mem_nil⟩⟩⟩
theorem iX8_noRules_X8 : ∀ w ∈ wsX80, w ∈ wpX8_noRules := fun w h => List.mem_cons_of_mem _ (List.mem_append_right _ (List.mem_append_left _ h))
set_option maxHeartbeats 4000000 in
set_option maxRecDepth 100000 in
theorem c_X8_noRules (l : Launch) (D : va_G) (cI cJ cZ : ClassId) (sz : Nat) (h a0 a1 a2 a3 a4 a5 a6 a7 a8 a9 a10 a11 a12 a13 a14 a15 a16 a17 : Nat) : Met l yX8_noRules wpX8_noRules ({ frames := 0, cells := 0, slots := 0, locals := 0 }) (va_Pc [.ref h] (sp_pre D vwCl (sp_ty cI cJ cZ) [(h, .inr (6, [.int 0, .int 0, .ref a0, .ref a1, .ref a2, .int 0, .ref a3, .ref a4, .ref a5, .ref a6, .ref a7, .ref a8, .int 0, .int 0, .int 0, .int 0, .ref a9, .ref a10, .ref a11, .ref a12, .ref a13, .ref a14, .ref a15, .ref a16, .ref a17, .int 0]))] sz)) (va_Qi (fun (r : Int32) (_ : Unit) => r = 0) (sp_B D vwCl (va_A [(h, .inr (6, [.int 0, .int 0, .ref a0, .ref a1, .ref a2, .int 0, .ref a3, .ref a4, .ref a5, .ref a6, .ref a7, .ref a8, .int 0, .int 0, .int 0, .int 0, .ref a9, .ref a10, .ref a11, .ref a12, .ref a13, .ref a14, .ref a15, .ref a16, .ref a17, .int 0]))] sz) (fun (_ : Unit) => [])) (va_A [(h, .inr (6, [.int 0, .int 0, .ref a0, .ref a1, .ref a2, .int 0, .ref a3, .ref a4, .ref a5, .ref a6, .ref a7, .ref a8, .int 0, .int 0, .int 0, .int 0, .ref a9, .ref a10, .ref a11, .ref a12, .ref a13, .ref a14, .ref a15, .ref a16, .ref a17, .int 0]))] sz)) 0 0 (va_A [(h, .inr (6, [.int 0, .int 0, .ref a0, .ref a1, .ref a2, .int 0, .ref a3, .ref a4, .ref a5, .ref a6, .ref a7, .ref a8, .int 0, .int 0, .int 0, .int 0, .ref a9, .ref a10, .ref a11, .ref a12, .ref a13, .ref a14, .ref a15, .ref a16, .ref a17, .int 0]))] sz) := by
  refine sp_ofW (Qc := fun A => va_Qi (fun (r : Int32) (_ : Unit) => r = 0) (sp_B D vwCl A (fun (_ : Unit) => [])) A) (by decide) rfl (Nat.le_of_ble_eq_true rfl) (fun p e s m below meth c A ls H locs C0 hA hS hP hK hD hl => ?_)
  obtain ⟨hx, hb, hr, hts, hown, hlocks, hml, hin⟩ := C0
  have hown : s.vm.findClass RX8 = some m.cls := hown
  have hl : lv_has ls 2 [(0, .ref h)] := hl
  have hK : va_K D vwCl [(cI, .int), (cJ, .long), (cZ, .boolean)] s := hK
  refine lv_aload_n hx hb dX8_noRules_0 rfl (lv_at hl 0 rfl) ?_
  refine lv_iconst (v := 0) hx hb dX8_noRules_1 (by decide) ?_
  refine va_put (D := D) (ci := 6) (v := .int 0) (ty := .int) (C := RX8) (T := TX8) (N := 26) hx hb hts iX8_noRules_X8 tyX8 tyX8_ok nmX8 hown hK hP hD hS 0 rfl rfl 0 (by decide) (hts (.fieldLink RX8 70 "FloatSolverModel" "thrown" "I") (oX8_noRules_in _ (List.mem_of_getElem? (i := 0) rfl))) (fun _ h9 => h9) rfl (by decide +kernel) rfl rfl (Nat.le_of_ble_eq_true rfl) dX8_noRules_2 (fun H locs hP hD hS => ?_)
  have hP : va_P D vwCl [(h, .inr (6, [.int 0, .int 0, .ref a0, .ref a1, .ref a2, .int 0, .ref a3, .ref a4, .ref a5, .ref a6, .ref a7, .ref a8, .int 0, .int 0, .int 0, .int 0, .ref a9, .ref a10, .ref a11, .ref a12, .ref a13, .ref a14, .ref a15, .ref a16, .ref a17, .int 0]))] H := hP
  have hD : va_D A [(h, .inr (6, [.int 0, .int 0, .ref a0, .ref a1, .ref a2, .int 0, .ref a3, .ref a4, .ref a5, .ref a6, .ref a7, .ref a8, .int 0, .int 0, .int 0, .int 0, .ref a9, .ref a10, .ref a11, .ref a12, .ref a13, .ref a14, .ref a15, .ref a16, .ref a17, .int 0]))] := hD
  refine lv_aload_n hx hb dX8_noRules_5 rfl (lv_at hl 0 rfl) ?_
  refine va_get (D := D) (ci := 6) (v := .int 0) (C := RX8) (T := TX8) (N := 26) hx hb hts iX8_noRules_X8 hown hK hP 0 rfl rfl 5 (by decide) (hts (.fieldLink RX8 167 "FloatSolverModel" "rules" "I") (oX8_noRules_in _ (List.mem_of_getElem? (i := 1) rfl))) (fun _ h9 => h9) rfl dX8_noRules_6 ?_
  refine lv_istore_n (lv' := [(1, .int 0), (0, .ref h)]) hx hb dX8_noRules_9 rfl hl (by decide) rfl (fun ls hl => ?_)
  refine lv_aload_n hx hb dX8_noRules_10 rfl (lv_at hl 1 rfl) ?_
  refine lv_iconst (v := 0) hx hb dX8_noRules_11 (by decide) ?_
  refine va_put (D := D) (ci := 6) (v := .int 0) (ty := .int) (C := RX8) (T := TX8) (N := 26) hx hb hts iX8_noRules_X8 tyX8 tyX8_ok nmX8 hown hK hP hD hS 0 rfl rfl 5 (by decide) (hts (.fieldLink RX8 167 "FloatSolverModel" "rules" "I") (oX8_noRules_in _ (List.mem_of_getElem? (i := 1) rfl))) (fun _ h9 => h9) rfl (by decide +kernel) rfl rfl (Nat.le_of_ble_eq_true rfl) dX8_noRules_12 (fun H locs hP hD hS => ?_)
  have hP : va_P D vwCl [(h, .inr (6, [.int 0, .int 0, .ref a0, .ref a1, .ref a2, .int 0, .ref a3, .ref a4, .ref a5, .ref a6, .ref a7, .ref a8, .int 0, .int 0, .int 0, .int 0, .ref a9, .ref a10, .ref a11, .ref a12, .ref a13, .ref a14, .ref a15, .ref a16, .ref a17, .int 0]))] H := hP
  have hD : va_D A [(h, .inr (6, [.int 0, .int 0, .ref a0, .ref a1, .ref a2, .int 0, .ref a3, .ref a4, .ref a5, .ref a6, .ref a7, .ref a8, .int 0, .int 0, .int 0, .int 0, .ref a9, .ref a10, .ref a11, .ref a12, .ref a13, .ref a14, .ref a15, .ref a16, .ref a17, .int 0]))] := hD
  refine lv_iload_n hx hb dX8_noRules_15 rfl (lv_at hl 0 rfl) ?_
  refine W.widen (k := 0) (n := 0) (by decide) (by decide) ?_
  exact sp_iret (u := ()) hx hb hr hlocks hS rfl (hP.sub [] rfl) (hD.sub [] (by decide) rfl) dX8_noRules_16
def oX8_range : List Cond := [.fieldLink RX8 70 "FloatSolverModel" "thrown" "I", .constantLong RX8 156 (3), .constantLong RX8 66 (-2139095041), .constantLong RX8 68 (2139095040), .fieldLink RX8 28 "FloatSolverModel" "low" "[J", .fieldLink RX8 32 "FloatSolverModel" "high" "[J"]
def wpX8_range : List Cond := .code yX8_range cX8_range 4 (some .int) :: (oX8_range ++ (wsX80 ++ ((va_wsS RX8 150 yX8_in wpX8_in) ++ ([] : List Cond))))
theorem oX8_range_in : ∀ w ∈ oX8_range, w ∈ wpX8_range := fun w h => List.mem_cons_of_mem _ (List.mem_append_left _ h)
theorem gwoX8_range : ∀ w ∈ oX8_range, goodWord w = true := by decide +kernel
theorem gwX8_range : ∀ w ∈ wpX8_range, goodWord w = true := by
  unfold wpX8_range
  exact List.forall_mem_cons.mpr ⟨rfl, List.forall_mem_append.mpr ⟨gwoX8_range, List.forall_mem_append.mpr ⟨gwX8, List.forall_mem_append.mpr ⟨(sp_gS gwX8_in), fun _ h => absurd h List.not_mem_nil⟩⟩⟩⟩
set_option maxRecDepth 100000 in
theorem toX8_range : ∀ w ∈ oX8_range, w ∈ lw_tbl := by
  unfold oX8_range
  exact List.forall_mem_cons.mpr ⟨(List.mem_of_getElem? (i := 683) (by decide +kernel)), List.forall_mem_cons.mpr ⟨(List.mem_of_getElem? (i := 770) (by decide +kernel)), List.forall_mem_cons.mpr ⟨(List.mem_of_getElem? (i := 681) (by decide +kernel)), List.forall_mem_cons.mpr ⟨(List.mem_of_getElem? (i := 682) (by decide +kernel)), List.forall_mem_cons.mpr ⟨(List.mem_of_getElem? (i := 692) (by decide +kernel)), List.forall_mem_cons.mpr ⟨(List.mem_of_getElem? (i := 693) (by decide +kernel)), fun _ h => absurd h List.not_mem_nil⟩⟩⟩⟩⟩⟩
set_option maxRecDepth 100000 in
theorem tX8_range : ∀ w ∈ wpX8_range, w ∈ lw_tbl := by
  unfold wpX8_range
  exact List.forall_mem_cons.mpr ⟨(List.mem_of_getElem? (i := 795) (by rfl)), List.forall_mem_append.mpr ⟨toX8_range, List.forall_mem_append.mpr ⟨in_wsX80, List.forall_mem_append.mpr ⟨(sp_tS (List.mem_of_getElem? (i := 771) (by decide +kernel)) (List.mem_of_getElem? (i := 772) (by decide +kernel)) (List.mem_of_getElem? (i := 45) (by decide +kernel)) tX8_in), fun _ h => absurd h List.not_mem_nil⟩⟩⟩⟩
theorem iX8_range_X8 : ∀ w ∈ wsX80, w ∈ wpX8_range := fun w h => List.mem_cons_of_mem _ (List.mem_append_right _ (List.mem_append_left _ h))
theorem gX8_range_X8_in_150 : GoodIn wpX8_range (va_wsS RX8 150 yX8_in wpX8_in) := fun w h => ⟨List.mem_cons_of_mem _ (List.mem_append_right _ (List.mem_append_right _ (List.mem_append_left _ h))), good_of_word (sp_gS gwX8_in w h)⟩
set_option maxHeartbeats 4000000 in
set_option maxRecDepth 100000 in
theorem c_X8_range (l : Launch) (D : va_G) (cI cJ cZ : ClassId) (sz : Nat) (h a0 a1 a2 a3 a4 a5 a6 a7 a8 a9 a10 a11 a12 a13 a14 a15 a16 a17 : Nat) (f g : Nat → Int64) (v a b : Int32) : Met l yX8_range wpX8_range ({ frames := 1, cells := 0, slots := 0, locals := 25 }) (va_Pc [.ref h, .int v, .int a, .int b] (sp_pre D vwCl (sp_ty cI cJ cZ) [(h, .inr (6, [.int 0, .int 0, .ref a0, .ref a1, .ref a2, .int 0, .ref a3, .ref a4, .ref a5, .ref a6, .ref a7, .ref a8, .int 0, .int 0, .int 0, .int 0, .ref a9, .ref a10, .ref a11, .ref a12, .ref a13, .ref a14, .ref a15, .ref a16, .ref a17, .int 0])), (a6, .inl (cJ, 4, .inr (.inl f))), (a7, .inl (cJ, 4, .inr (.inl g)))] sz)) (va_Qi (fun (r : Int32) (_ : Unit) => r = sp_range v a b) (sp_B D vwCl (va_A [(h, .inr (6, [.int 0, .int 0, .ref a0, .ref a1, .ref a2, .int 0, .ref a3, .ref a4, .ref a5, .ref a6, .ref a7, .ref a8, .int 0, .int 0, .int 0, .int 0, .ref a9, .ref a10, .ref a11, .ref a12, .ref a13, .ref a14, .ref a15, .ref a16, .ref a17, .int 0])), (a6, .inl (cJ, 4, .inr (.inl f))), (a7, .inl (cJ, 4, .inr (.inl g)))] sz) (fun (_ : Unit) => [])) (va_A [(h, .inr (6, [.int 0, .int 0, .ref a0, .ref a1, .ref a2, .int 0, .ref a3, .ref a4, .ref a5, .ref a6, .ref a7, .ref a8, .int 0, .int 0, .int 0, .int 0, .ref a9, .ref a10, .ref a11, .ref a12, .ref a13, .ref a14, .ref a15, .ref a16, .ref a17, .int 0])), (a6, .inl (cJ, 4, .inr (.inl f))), (a7, .inl (cJ, 4, .inr (.inl g)))] sz)) 0 0 (va_A [(h, .inr (6, [.int 0, .int 0, .ref a0, .ref a1, .ref a2, .int 0, .ref a3, .ref a4, .ref a5, .ref a6, .ref a7, .ref a8, .int 0, .int 0, .int 0, .int 0, .ref a9, .ref a10, .ref a11, .ref a12, .ref a13, .ref a14, .ref a15, .ref a16, .ref a17, .int 0])), (a6, .inl (cJ, 4, .inr (.inl f))), (a7, .inl (cJ, 4, .inr (.inl g)))] sz) := by
  refine sp_ofW (Qc := fun A => va_Qi (fun (r : Int32) (_ : Unit) => r = sp_range v a b) (sp_B D vwCl A (fun (_ : Unit) => [])) A) (by decide) rfl (Nat.le_of_ble_eq_true rfl) (fun p e s m below meth c A ls H locs C0 hA hS hP hK hD hl => ?_)
  obtain ⟨hx, hb, hr, hts, hown, hlocks, hml, hin⟩ := C0
  have hown : s.vm.findClass RX8 = some m.cls := hown
  have hl : lv_has ls 4 [(0, .ref h), (1, .int v), (2, .int a), (3, .int b)] := hl
  have hK : va_K D vwCl [(cI, .int), (cJ, .long), (cZ, .boolean)] s := hK
  refine lv_aload_n hx hb dX8_range_0 rfl (lv_at hl 0 rfl) ?_
  refine lv_iconst (v := 0) hx hb dX8_range_1 (by decide) ?_
  refine va_put (D := D) (ci := 6) (v := .int 0) (ty := .int) (C := RX8) (T := TX8) (N := 26) hx hb hts iX8_range_X8 tyX8 tyX8_ok nmX8 hown hK hP hD hS 0 rfl rfl 0 (by decide) (hts (.fieldLink RX8 70 "FloatSolverModel" "thrown" "I") (oX8_range_in _ (List.mem_of_getElem? (i := 0) rfl))) (fun _ h9 => h9) rfl (by decide +kernel) rfl rfl (Nat.le_of_ble_eq_true rfl) dX8_range_2 (fun H locs hP hD hS => ?_)
  have hP : va_P D vwCl [(h, .inr (6, [.int 0, .int 0, .ref a0, .ref a1, .ref a2, .int 0, .ref a3, .ref a4, .ref a5, .ref a6, .ref a7, .ref a8, .int 0, .int 0, .int 0, .int 0, .ref a9, .ref a10, .ref a11, .ref a12, .ref a13, .ref a14, .ref a15, .ref a16, .ref a17, .int 0])), (a6, .inl (cJ, 4, .inr (.inl f))), (a7, .inl (cJ, 4, .inr (.inl g)))] H := hP
  have hD : va_D A [(h, .inr (6, [.int 0, .int 0, .ref a0, .ref a1, .ref a2, .int 0, .ref a3, .ref a4, .ref a5, .ref a6, .ref a7, .ref a8, .int 0, .int 0, .int 0, .int 0, .ref a9, .ref a10, .ref a11, .ref a12, .ref a13, .ref a14, .ref a15, .ref a16, .ref a17, .int 0])), (a6, .inl (cJ, 4, .inr (.inl f))), (a7, .inl (cJ, 4, .inr (.inl g)))] := hD
  refine lv_iload_n hx hb dX8_range_5 rfl (lv_at hl 1 rfl) ?_
  refine lv_i2l (v := _) hx hb dX8_range_6 rfl ?_
  refine lv_lconst (v := 0) hx hb dX8_range_7 (by decide) ?_
  refine lv_ldc2 (v := 3) hx hb hown (hts (.constantLong RX8 156 (3)) (oX8_range_in _ (List.mem_of_getElem? (i := 1) rfl))) dX8_range_8 ?_
  refine sp_calli (wr := [(h, .inr (6, [.int 0, .int 0, .ref a0, .ref a1, .ref a2, .int 0, .ref a3, .ref a4, .ref a5, .ref a6, .ref a7, .ref a8, .int 0, .int 0, .int 0, .int 0, .ref a9, .ref a10, .ref a11, .ref a12, .ref a13, .ref a14, .ref a15, .ref a16, .ref a17, .int 0])), (a6, .inl (cJ, 4, .inr (.inl f))), (a7, .inl (cJ, 4, .inr (.inl g)))]) (wc := []) hP hD hS hA [] [0, 1, 2] rfl rfl (by decide) (by decide) (va_runS (As := [.long (v : Int32).toInt64, .long 0, .long 3]) (rest := []) ⟨hx, hb, hml, hown, hts⟩ (c_X8_in l D cI cJ cZ H.size ((v : Int32).toInt64) (0) (3)) (va_cwS 3 hts gX8_range_X8_in_150 rfl rfl rfl (by decide +kernel) ⟨Nat.le_of_ble_eq_true rfl, Nat.le_of_ble_eq_true rfl⟩) (sp_preS [.long (v : Int32).toInt64, .long 0, .long 3] hK (hP.sub (ws' := []) [] rfl) (hD.sub (ws' := []) [] (by decide) rfl)) rfl rfl hl.1 rfl (lv_room (Nat.le_of_ble_eq_true rfl)) dX8_range_11 ⟨Nat.le_of_ble_eq_true rfl, Nat.le_of_ble_eq_true rfl⟩) (fun r1 u2 H locs hw3 hP hD hS => ?_)
  rcases hw3 with ⟨rfl, h4⟩ | ⟨rfl, h4⟩
  · skip
    have h4 : (0 : Int) ≤ (v : Int32).toInt ∧ (v : Int32).toInt ≤ (3 : Int) := (by have h9 := h4; simp only [Int32.toInt_toInt64] at h9; exact h9)
    have hP : va_P D vwCl [(h, .inr (6, [.int 0, .int 0, .ref a0, .ref a1, .ref a2, .int 0, .ref a3, .ref a4, .ref a5, .ref a6, .ref a7, .ref a8, .int 0, .int 0, .int 0, .int 0, .ref a9, .ref a10, .ref a11, .ref a12, .ref a13, .ref a14, .ref a15, .ref a16, .ref a17, .int 0])), (a6, .inl (cJ, 4, .inr (.inl f))), (a7, .inl (cJ, 4, .inr (.inl g)))] H := hP
    have hD : va_D A [(h, .inr (6, [.int 0, .int 0, .ref a0, .ref a1, .ref a2, .int 0, .ref a3, .ref a4, .ref a5, .ref a6, .ref a7, .ref a8, .int 0, .int 0, .int 0, .int 0, .ref a9, .ref a10, .ref a11, .ref a12, .ref a13, .ref a14, .ref a15, .ref a16, .ref a17, .int 0])), (a6, .inl (cJ, 4, .inr (.inl f))), (a7, .inl (cJ, 4, .inr (.inl g)))] := hD
    refine lv_if_ne (tgt := 19) hx hb dX8_range_14 (by decide) (fun _ => ?_) (fun c5 => absurd c5 (by decide))
    refine lv_iload_n hx hb dX8_range_19 rfl (lv_at hl 2 rfl) ?_
    refine lv_i2l (v := _) hx hb dX8_range_20 rfl ?_
    refine lv_ldc2 (v := (-2139095041)) hx hb hown (hts (.constantLong RX8 66 (-2139095041)) (oX8_range_in _ (List.mem_of_getElem? (i := 2) rfl))) dX8_range_21 ?_
    refine lv_ldc2 (v := 2139095040) hx hb hown (hts (.constantLong RX8 68 (2139095040)) (oX8_range_in _ (List.mem_of_getElem? (i := 3) rfl))) dX8_range_24 ?_
    refine sp_calli (wr := [(h, .inr (6, [.int 0, .int 0, .ref a0, .ref a1, .ref a2, .int 0, .ref a3, .ref a4, .ref a5, .ref a6, .ref a7, .ref a8, .int 0, .int 0, .int 0, .int 0, .ref a9, .ref a10, .ref a11, .ref a12, .ref a13, .ref a14, .ref a15, .ref a16, .ref a17, .int 0])), (a6, .inl (cJ, 4, .inr (.inl f))), (a7, .inl (cJ, 4, .inr (.inl g)))]) (wc := []) hP hD hS hA [] [0, 1, 2] rfl rfl (by decide) (by decide) (va_runS (As := [.long (a : Int32).toInt64, .long (-2139095041), .long 2139095040]) (rest := []) ⟨hx, hb, hml, hown, hts⟩ (c_X8_in l D cI cJ cZ H.size ((a : Int32).toInt64) ((-2139095041)) (2139095040)) (va_cwS 3 hts gX8_range_X8_in_150 rfl rfl rfl (by decide +kernel) ⟨Nat.le_of_ble_eq_true rfl, Nat.le_of_ble_eq_true rfl⟩) (sp_preS [.long (a : Int32).toInt64, .long (-2139095041), .long 2139095040] hK (hP.sub (ws' := []) [] rfl) (hD.sub (ws' := []) [] (by decide) rfl)) rfl rfl hl.1 rfl (lv_room (Nat.le_of_ble_eq_true rfl)) dX8_range_27 ⟨Nat.le_of_ble_eq_true rfl, Nat.le_of_ble_eq_true rfl⟩) (fun r6 u7 H locs hw8 hP hD hS => ?_)
    rcases hw8 with ⟨rfl, h9⟩ | ⟨rfl, h9⟩
    · skip
      have h9 : (-2139095041 : Int) ≤ (a : Int32).toInt ∧ (a : Int32).toInt ≤ (2139095040 : Int) := (by have h9 := h9; simp only [Int32.toInt_toInt64] at h9; exact h9)
      have hP : va_P D vwCl [(h, .inr (6, [.int 0, .int 0, .ref a0, .ref a1, .ref a2, .int 0, .ref a3, .ref a4, .ref a5, .ref a6, .ref a7, .ref a8, .int 0, .int 0, .int 0, .int 0, .ref a9, .ref a10, .ref a11, .ref a12, .ref a13, .ref a14, .ref a15, .ref a16, .ref a17, .int 0])), (a6, .inl (cJ, 4, .inr (.inl f))), (a7, .inl (cJ, 4, .inr (.inl g)))] H := hP
      have hD : va_D A [(h, .inr (6, [.int 0, .int 0, .ref a0, .ref a1, .ref a2, .int 0, .ref a3, .ref a4, .ref a5, .ref a6, .ref a7, .ref a8, .int 0, .int 0, .int 0, .int 0, .ref a9, .ref a10, .ref a11, .ref a12, .ref a13, .ref a14, .ref a15, .ref a16, .ref a17, .int 0])), (a6, .inl (cJ, 4, .inr (.inl f))), (a7, .inl (cJ, 4, .inr (.inl g)))] := hD
      refine lv_if_eq (tgt := 52) hx hb dX8_range_30 (by decide) (fun c10 => absurd c10 (by decide)) (fun _ => ?_)
      refine lv_iload_n hx hb dX8_range_33 rfl (lv_at hl 3 rfl) ?_
      refine lv_i2l (v := _) hx hb dX8_range_34 rfl ?_
      refine lv_ldc2 (v := (-2139095041)) hx hb hown (hts (.constantLong RX8 66 (-2139095041)) (oX8_range_in _ (List.mem_of_getElem? (i := 2) rfl))) dX8_range_35 ?_
      refine lv_ldc2 (v := 2139095040) hx hb hown (hts (.constantLong RX8 68 (2139095040)) (oX8_range_in _ (List.mem_of_getElem? (i := 3) rfl))) dX8_range_38 ?_
      refine sp_calli (wr := [(h, .inr (6, [.int 0, .int 0, .ref a0, .ref a1, .ref a2, .int 0, .ref a3, .ref a4, .ref a5, .ref a6, .ref a7, .ref a8, .int 0, .int 0, .int 0, .int 0, .ref a9, .ref a10, .ref a11, .ref a12, .ref a13, .ref a14, .ref a15, .ref a16, .ref a17, .int 0])), (a6, .inl (cJ, 4, .inr (.inl f))), (a7, .inl (cJ, 4, .inr (.inl g)))]) (wc := []) hP hD hS hA [] [0, 1, 2] rfl rfl (by decide) (by decide) (va_runS (As := [.long (b : Int32).toInt64, .long (-2139095041), .long 2139095040]) (rest := []) ⟨hx, hb, hml, hown, hts⟩ (c_X8_in l D cI cJ cZ H.size ((b : Int32).toInt64) ((-2139095041)) (2139095040)) (va_cwS 3 hts gX8_range_X8_in_150 rfl rfl rfl (by decide +kernel) ⟨Nat.le_of_ble_eq_true rfl, Nat.le_of_ble_eq_true rfl⟩) (sp_preS [.long (b : Int32).toInt64, .long (-2139095041), .long 2139095040] hK (hP.sub (ws' := []) [] rfl) (hD.sub (ws' := []) [] (by decide) rfl)) rfl rfl hl.1 rfl (lv_room (Nat.le_of_ble_eq_true rfl)) dX8_range_41 ⟨Nat.le_of_ble_eq_true rfl, Nat.le_of_ble_eq_true rfl⟩) (fun r11 u12 H locs hw13 hP hD hS => ?_)
      rcases hw13 with ⟨rfl, h14⟩ | ⟨rfl, h14⟩
      · skip
        have h14 : (-2139095041 : Int) ≤ (b : Int32).toInt ∧ (b : Int32).toInt ≤ (2139095040 : Int) := (by have h9 := h14; simp only [Int32.toInt_toInt64] at h9; exact h9)
        have hP : va_P D vwCl [(h, .inr (6, [.int 0, .int 0, .ref a0, .ref a1, .ref a2, .int 0, .ref a3, .ref a4, .ref a5, .ref a6, .ref a7, .ref a8, .int 0, .int 0, .int 0, .int 0, .ref a9, .ref a10, .ref a11, .ref a12, .ref a13, .ref a14, .ref a15, .ref a16, .ref a17, .int 0])), (a6, .inl (cJ, 4, .inr (.inl f))), (a7, .inl (cJ, 4, .inr (.inl g)))] H := hP
        have hD : va_D A [(h, .inr (6, [.int 0, .int 0, .ref a0, .ref a1, .ref a2, .int 0, .ref a3, .ref a4, .ref a5, .ref a6, .ref a7, .ref a8, .int 0, .int 0, .int 0, .int 0, .ref a9, .ref a10, .ref a11, .ref a12, .ref a13, .ref a14, .ref a15, .ref a16, .ref a17, .int 0])), (a6, .inl (cJ, 4, .inr (.inl f))), (a7, .inl (cJ, 4, .inr (.inl g)))] := hD
        refine lv_if_eq (tgt := 52) hx hb dX8_range_44 (by decide) (fun c15 => absurd c15 (by decide)) (fun _ => ?_)
        refine lv_iload_n hx hb dX8_range_47 rfl (lv_at hl 2 rfl) ?_
        refine lv_iload_n hx hb dX8_range_48 rfl (lv_at hl 3 rfl) ?_
        refine lv_icmp_le (tgt := 55) hx hb dX8_range_49 (by decide) (fun c16 => ?_) (fun c16 => ?_)
        · skip
          have c16i : (a : Int32).toInt ≤ (b : Int32).toInt := Int32.le_iff_toInt_le.mp c16
          refine lv_aload_n hx hb dX8_range_55 rfl (lv_at hl 0 rfl) ?_
          refine va_get (D := D) (ci := 6) (v := .ref a6) (C := RX8) (T := TX8) (N := 26) hx hb hts iX8_range_X8 hown hK hP 0 rfl rfl 9 (by decide) (hts (.fieldLink RX8 28 "FloatSolverModel" "low" "[J") (oX8_range_in _ (List.mem_of_getElem? (i := 4) rfl))) (fun _ h9 => h9) rfl dX8_range_56 ?_
          refine lv_iload_n hx hb dX8_range_59 rfl (lv_at hl 1 rfl) ?_
          refine lv_iload_n hx hb dX8_range_60 rfl (lv_at hl 2 rfl) ?_
          refine lv_i2l (v := _) hx hb dX8_range_61 rfl ?_
          refine va_last hx hb hK hP hD hS 1 1 rfl rfl (vp_in_iff.mpr ⟨by omega, by omega⟩) dX8_range_62 (fun H locs hP hD hS => ?_)
          obtain ⟨f17, ef18⟩ : ∃ z9 : Nat → Int64, z9 = vp_updL f (v : Int32).toNatClampNeg (a : Int32).toInt64 := ⟨_, rfl⟩
          rw [← ef18] at hP hD
          have hP : va_P D vwCl [(h, .inr (6, [.int 0, .int 0, .ref a0, .ref a1, .ref a2, .int 0, .ref a3, .ref a4, .ref a5, .ref a6, .ref a7, .ref a8, .int 0, .int 0, .int 0, .int 0, .ref a9, .ref a10, .ref a11, .ref a12, .ref a13, .ref a14, .ref a15, .ref a16, .ref a17, .int 0])), (a6, .inl (cJ, 4, .inr (.inl f17))), (a7, .inl (cJ, 4, .inr (.inl g)))] H := hP
          have hD : va_D A [(h, .inr (6, [.int 0, .int 0, .ref a0, .ref a1, .ref a2, .int 0, .ref a3, .ref a4, .ref a5, .ref a6, .ref a7, .ref a8, .int 0, .int 0, .int 0, .int 0, .ref a9, .ref a10, .ref a11, .ref a12, .ref a13, .ref a14, .ref a15, .ref a16, .ref a17, .int 0])), (a6, .inl (cJ, 4, .inr (.inl f17))), (a7, .inl (cJ, 4, .inr (.inl g)))] := hD
          refine lv_aload_n hx hb dX8_range_63 rfl (lv_at hl 0 rfl) ?_
          refine va_get (D := D) (ci := 6) (v := .ref a7) (C := RX8) (T := TX8) (N := 26) hx hb hts iX8_range_X8 hown hK hP 0 rfl rfl 10 (by decide) (hts (.fieldLink RX8 32 "FloatSolverModel" "high" "[J") (oX8_range_in _ (List.mem_of_getElem? (i := 5) rfl))) (fun _ h9 => h9) rfl dX8_range_64 ?_
          refine lv_iload_n hx hb dX8_range_67 rfl (lv_at hl 1 rfl) ?_
          refine lv_iload_n hx hb dX8_range_68 rfl (lv_at hl 3 rfl) ?_
          refine lv_i2l (v := _) hx hb dX8_range_69 rfl ?_
          refine va_last hx hb hK hP hD hS 2 1 rfl rfl (vp_in_iff.mpr ⟨by omega, by omega⟩) dX8_range_70 (fun H locs hP hD hS => ?_)
          obtain ⟨f19, ef20⟩ : ∃ z9 : Nat → Int64, z9 = vp_updL g (v : Int32).toNatClampNeg (b : Int32).toInt64 := ⟨_, rfl⟩
          rw [← ef20] at hP hD
          have hP : va_P D vwCl [(h, .inr (6, [.int 0, .int 0, .ref a0, .ref a1, .ref a2, .int 0, .ref a3, .ref a4, .ref a5, .ref a6, .ref a7, .ref a8, .int 0, .int 0, .int 0, .int 0, .ref a9, .ref a10, .ref a11, .ref a12, .ref a13, .ref a14, .ref a15, .ref a16, .ref a17, .int 0])), (a6, .inl (cJ, 4, .inr (.inl f17))), (a7, .inl (cJ, 4, .inr (.inl f19)))] H := hP
          have hD : va_D A [(h, .inr (6, [.int 0, .int 0, .ref a0, .ref a1, .ref a2, .int 0, .ref a3, .ref a4, .ref a5, .ref a6, .ref a7, .ref a8, .int 0, .int 0, .int 0, .int 0, .ref a9, .ref a10, .ref a11, .ref a12, .ref a13, .ref a14, .ref a15, .ref a16, .ref a17, .int 0])), (a6, .inl (cJ, 4, .inr (.inl f17))), (a7, .inl (cJ, 4, .inr (.inl f19)))] := hD
          refine lv_iconst (v := 1) hx hb dX8_range_71 (by decide) ?_
          refine W.widen (k := 0) (n := 0) (by decide) (by decide) ?_
          exact sp_iret (u := ()) hx hb hr hlocks hS (by unfold sp_range; (repeat' split) <;> first | (exfalso; omega) | rfl) (hP.sub [] rfl) (hD.sub [] (by decide) rfl) dX8_range_72
        · skip
          have c16i : ¬ (a : Int32).toInt ≤ (b : Int32).toInt := fun h => c16 (Int32.le_iff_toInt_le.mpr h)
          refine lv_bipush (v := (-2)) hx hb dX8_range_52 (by decide) ?_
          refine W.widen (k := 0) (n := 0) (by decide) (by decide) ?_
          exact sp_iret (u := ()) hx hb hr hlocks hS (by unfold sp_range; (repeat' split) <;> first | (exfalso; omega) | rfl) (hP.sub [] rfl) (hD.sub [] (by decide) rfl) dX8_range_54
      · skip
        have h14 : ¬ ((-2139095041 : Int) ≤ (b : Int32).toInt ∧ (b : Int32).toInt ≤ (2139095040 : Int)) := (by have h9 := h14; simp only [Int32.toInt_toInt64] at h9; exact h9)
        have hP : va_P D vwCl [(h, .inr (6, [.int 0, .int 0, .ref a0, .ref a1, .ref a2, .int 0, .ref a3, .ref a4, .ref a5, .ref a6, .ref a7, .ref a8, .int 0, .int 0, .int 0, .int 0, .ref a9, .ref a10, .ref a11, .ref a12, .ref a13, .ref a14, .ref a15, .ref a16, .ref a17, .int 0])), (a6, .inl (cJ, 4, .inr (.inl f))), (a7, .inl (cJ, 4, .inr (.inl g)))] H := hP
        have hD : va_D A [(h, .inr (6, [.int 0, .int 0, .ref a0, .ref a1, .ref a2, .int 0, .ref a3, .ref a4, .ref a5, .ref a6, .ref a7, .ref a8, .int 0, .int 0, .int 0, .int 0, .ref a9, .ref a10, .ref a11, .ref a12, .ref a13, .ref a14, .ref a15, .ref a16, .ref a17, .int 0])), (a6, .inl (cJ, 4, .inr (.inl f))), (a7, .inl (cJ, 4, .inr (.inl g)))] := hD
        refine lv_if_eq (tgt := 52) hx hb dX8_range_44 (by decide) (fun _ => ?_) (fun c21 => absurd (by decide) c21)
        refine lv_bipush (v := (-2)) hx hb dX8_range_52 (by decide) ?_
        refine W.widen (k := 0) (n := 0) (by decide) (by decide) ?_
        exact sp_iret (u := ()) hx hb hr hlocks hS (by unfold sp_range; (repeat' split) <;> first | (exfalso; omega) | rfl) (hP.sub [] rfl) (hD.sub [] (by decide) rfl) dX8_range_54
    · skip
      have h9 : ¬ ((-2139095041 : Int) ≤ (a : Int32).toInt ∧ (a : Int32).toInt ≤ (2139095040 : Int)) := (by have h9 := h9; simp only [Int32.toInt_toInt64] at h9; exact h9)
      have hP : va_P D vwCl [(h, .inr (6, [.int 0, .int 0, .ref a0, .ref a1, .ref a2, .int 0, .ref a3, .ref a4, .ref a5, .ref a6, .ref a7, .ref a8, .int 0, .int 0, .int 0, .int 0, .ref a9, .ref a10, .ref a11, .ref a12, .ref a13, .ref a14, .ref a15, .ref a16, .ref a17, .int 0])), (a6, .inl (cJ, 4, .inr (.inl f))), (a7, .inl (cJ, 4, .inr (.inl g)))] H := hP
      have hD : va_D A [(h, .inr (6, [.int 0, .int 0, .ref a0, .ref a1, .ref a2, .int 0, .ref a3, .ref a4, .ref a5, .ref a6, .ref a7, .ref a8, .int 0, .int 0, .int 0, .int 0, .ref a9, .ref a10, .ref a11, .ref a12, .ref a13, .ref a14, .ref a15, .ref a16, .ref a17, .int 0])), (a6, .inl (cJ, 4, .inr (.inl f))), (a7, .inl (cJ, 4, .inr (.inl g)))] := hD
      refine lv_if_eq (tgt := 52) hx hb dX8_range_30 (by decide) (fun _ => ?_) (fun c22 => absurd (by decide) c22)
      refine lv_bipush (v := (-2)) hx hb dX8_range_52 (by decide) ?_
      refine W.widen (k := 0) (n := 0) (by decide) (by decide) ?_
      exact sp_iret (u := ()) hx hb hr hlocks hS (by unfold sp_range; (repeat' split) <;> first | (exfalso; omega) | rfl) (hP.sub [] rfl) (hD.sub [] (by decide) rfl) dX8_range_54
  · skip
    have h4 : ¬ ((0 : Int) ≤ (v : Int32).toInt ∧ (v : Int32).toInt ≤ (3 : Int)) := (by have h9 := h4; simp only [Int32.toInt_toInt64] at h9; exact h9)
    have hP : va_P D vwCl [(h, .inr (6, [.int 0, .int 0, .ref a0, .ref a1, .ref a2, .int 0, .ref a3, .ref a4, .ref a5, .ref a6, .ref a7, .ref a8, .int 0, .int 0, .int 0, .int 0, .ref a9, .ref a10, .ref a11, .ref a12, .ref a13, .ref a14, .ref a15, .ref a16, .ref a17, .int 0])), (a6, .inl (cJ, 4, .inr (.inl f))), (a7, .inl (cJ, 4, .inr (.inl g)))] H := hP
    have hD : va_D A [(h, .inr (6, [.int 0, .int 0, .ref a0, .ref a1, .ref a2, .int 0, .ref a3, .ref a4, .ref a5, .ref a6, .ref a7, .ref a8, .int 0, .int 0, .int 0, .int 0, .ref a9, .ref a10, .ref a11, .ref a12, .ref a13, .ref a14, .ref a15, .ref a16, .ref a17, .int 0])), (a6, .inl (cJ, 4, .inr (.inl f))), (a7, .inl (cJ, 4, .inr (.inl g)))] := hD
    refine lv_if_ne (tgt := 19) hx hb dX8_range_14 (by decide) (fun c23 => absurd (by decide) c23) (fun _ => ?_)
    refine lv_iconst (v := (-1)) hx hb dX8_range_17 (by decide) ?_
    refine W.widen (k := 0) (n := 0) (by decide) (by decide) ?_
    exact sp_iret (u := ()) hx hb hr hlocks hS (by unfold sp_range; (repeat' split) <;> first | (exfalso; omega) | rfl) (hP.sub [] rfl) (hD.sub [] (by decide) rfl) dX8_range_18
def oX8_set : List Cond := [.fieldLink RX8 70 "FloatSolverModel" "thrown" "I", .constantLong RX8 156 (3), .constantLong RX8 66 (-2139095041), .constantLong RX8 68 (2139095040), .fieldLink RX8 35 "FloatSolverModel" "var" "[J"]
def wpX8_set : List Cond := .code yX8_set cX8_set 3 (some .int) :: (oX8_set ++ (wsX80 ++ ((va_wsS RX8 150 yX8_in wpX8_in) ++ ([] : List Cond))))
theorem oX8_set_in : ∀ w ∈ oX8_set, w ∈ wpX8_set := fun w h => List.mem_cons_of_mem _ (List.mem_append_left _ h)
theorem gwoX8_set : ∀ w ∈ oX8_set, goodWord w = true := by decide +kernel
theorem gwX8_set : ∀ w ∈ wpX8_set, goodWord w = true := by
  unfold wpX8_set
  exact List.forall_mem_cons.mpr ⟨rfl, List.forall_mem_append.mpr ⟨gwoX8_set, List.forall_mem_append.mpr ⟨gwX8, List.forall_mem_append.mpr ⟨(sp_gS gwX8_in), fun _ h => absurd h List.not_mem_nil⟩⟩⟩⟩
set_option maxRecDepth 100000 in
theorem toX8_set : ∀ w ∈ oX8_set, w ∈ lw_tbl := by
  unfold oX8_set
  exact List.forall_mem_cons.mpr ⟨(List.mem_of_getElem? (i := 683) (by decide +kernel)), List.forall_mem_cons.mpr ⟨(List.mem_of_getElem? (i := 770) (by decide +kernel)), List.forall_mem_cons.mpr ⟨(List.mem_of_getElem? (i := 681) (by decide +kernel)), List.forall_mem_cons.mpr ⟨(List.mem_of_getElem? (i := 682) (by decide +kernel)), List.forall_mem_cons.mpr ⟨(List.mem_of_getElem? (i := 694) (by decide +kernel)), fun _ h => absurd h List.not_mem_nil⟩⟩⟩⟩⟩
set_option maxRecDepth 100000 in
theorem tX8_set : ∀ w ∈ wpX8_set, w ∈ lw_tbl := by
  unfold wpX8_set
  exact List.forall_mem_cons.mpr ⟨(List.mem_of_getElem? (i := 799) (by rfl)), List.forall_mem_append.mpr ⟨toX8_set, List.forall_mem_append.mpr ⟨in_wsX80, List.forall_mem_append.mpr ⟨(sp_tS (List.mem_of_getElem? (i := 771) (by decide +kernel)) (List.mem_of_getElem? (i := 772) (by decide +kernel)) (List.mem_of_getElem? (i := 45) (by decide +kernel)) tX8_in), fun _ h => absurd h List.not_mem_nil⟩⟩⟩⟩
theorem iX8_set_X8 : ∀ w ∈ wsX80, w ∈ wpX8_set := fun w h => List.mem_cons_of_mem _ (List.mem_append_right _ (List.mem_append_left _ h))
theorem gX8_set_X8_in_150 : GoodIn wpX8_set (va_wsS RX8 150 yX8_in wpX8_in) := fun w h => ⟨List.mem_cons_of_mem _ (List.mem_append_right _ (List.mem_append_right _ (List.mem_append_left _ h))), good_of_word (sp_gS gwX8_in w h)⟩
set_option maxHeartbeats 4000000 in
set_option maxRecDepth 100000 in
theorem c_X8_set (l : Launch) (D : va_G) (cI cJ cZ : ClassId) (sz : Nat) (h a0 a1 a2 a3 a4 a5 a6 a7 a8 a9 a10 a11 a12 a13 a14 a15 a16 a17 : Nat) (f : Nat → Int64) (v a : Int32) : Met l yX8_set wpX8_set ({ frames := 1, cells := 0, slots := 0, locals := 25 }) (va_Pc [.ref h, .int v, .int a] (sp_pre D vwCl (sp_ty cI cJ cZ) [(h, .inr (6, [.int 0, .int 0, .ref a0, .ref a1, .ref a2, .int 0, .ref a3, .ref a4, .ref a5, .ref a6, .ref a7, .ref a8, .int 0, .int 0, .int 0, .int 0, .ref a9, .ref a10, .ref a11, .ref a12, .ref a13, .ref a14, .ref a15, .ref a16, .ref a17, .int 0])), (a8, .inl (cJ, 4, .inr (.inl f)))] sz)) (va_Qi (fun (r : Int32) (_ : Unit) => r = sp_set v a) (sp_B D vwCl (va_A [(h, .inr (6, [.int 0, .int 0, .ref a0, .ref a1, .ref a2, .int 0, .ref a3, .ref a4, .ref a5, .ref a6, .ref a7, .ref a8, .int 0, .int 0, .int 0, .int 0, .ref a9, .ref a10, .ref a11, .ref a12, .ref a13, .ref a14, .ref a15, .ref a16, .ref a17, .int 0])), (a8, .inl (cJ, 4, .inr (.inl f)))] sz) (fun (_ : Unit) => [])) (va_A [(h, .inr (6, [.int 0, .int 0, .ref a0, .ref a1, .ref a2, .int 0, .ref a3, .ref a4, .ref a5, .ref a6, .ref a7, .ref a8, .int 0, .int 0, .int 0, .int 0, .ref a9, .ref a10, .ref a11, .ref a12, .ref a13, .ref a14, .ref a15, .ref a16, .ref a17, .int 0])), (a8, .inl (cJ, 4, .inr (.inl f)))] sz)) 0 0 (va_A [(h, .inr (6, [.int 0, .int 0, .ref a0, .ref a1, .ref a2, .int 0, .ref a3, .ref a4, .ref a5, .ref a6, .ref a7, .ref a8, .int 0, .int 0, .int 0, .int 0, .ref a9, .ref a10, .ref a11, .ref a12, .ref a13, .ref a14, .ref a15, .ref a16, .ref a17, .int 0])), (a8, .inl (cJ, 4, .inr (.inl f)))] sz) := by
  refine sp_ofW (Qc := fun A => va_Qi (fun (r : Int32) (_ : Unit) => r = sp_set v a) (sp_B D vwCl A (fun (_ : Unit) => [])) A) (by decide) rfl (Nat.le_of_ble_eq_true rfl) (fun p e s m below meth c A ls H locs C0 hA hS hP hK hD hl => ?_)
  obtain ⟨hx, hb, hr, hts, hown, hlocks, hml, hin⟩ := C0
  have hown : s.vm.findClass RX8 = some m.cls := hown
  have hl : lv_has ls 3 [(0, .ref h), (1, .int v), (2, .int a)] := hl
  have hK : va_K D vwCl [(cI, .int), (cJ, .long), (cZ, .boolean)] s := hK
  refine lv_aload_n hx hb dX8_set_0 rfl (lv_at hl 0 rfl) ?_
  refine lv_iconst (v := 0) hx hb dX8_set_1 (by decide) ?_
  refine va_put (D := D) (ci := 6) (v := .int 0) (ty := .int) (C := RX8) (T := TX8) (N := 26) hx hb hts iX8_set_X8 tyX8 tyX8_ok nmX8 hown hK hP hD hS 0 rfl rfl 0 (by decide) (hts (.fieldLink RX8 70 "FloatSolverModel" "thrown" "I") (oX8_set_in _ (List.mem_of_getElem? (i := 0) rfl))) (fun _ h9 => h9) rfl (by decide +kernel) rfl rfl (Nat.le_of_ble_eq_true rfl) dX8_set_2 (fun H locs hP hD hS => ?_)
  have hP : va_P D vwCl [(h, .inr (6, [.int 0, .int 0, .ref a0, .ref a1, .ref a2, .int 0, .ref a3, .ref a4, .ref a5, .ref a6, .ref a7, .ref a8, .int 0, .int 0, .int 0, .int 0, .ref a9, .ref a10, .ref a11, .ref a12, .ref a13, .ref a14, .ref a15, .ref a16, .ref a17, .int 0])), (a8, .inl (cJ, 4, .inr (.inl f)))] H := hP
  have hD : va_D A [(h, .inr (6, [.int 0, .int 0, .ref a0, .ref a1, .ref a2, .int 0, .ref a3, .ref a4, .ref a5, .ref a6, .ref a7, .ref a8, .int 0, .int 0, .int 0, .int 0, .ref a9, .ref a10, .ref a11, .ref a12, .ref a13, .ref a14, .ref a15, .ref a16, .ref a17, .int 0])), (a8, .inl (cJ, 4, .inr (.inl f)))] := hD
  refine lv_iload_n hx hb dX8_set_5 rfl (lv_at hl 1 rfl) ?_
  refine lv_i2l (v := _) hx hb dX8_set_6 rfl ?_
  refine lv_lconst (v := 0) hx hb dX8_set_7 (by decide) ?_
  refine lv_ldc2 (v := 3) hx hb hown (hts (.constantLong RX8 156 (3)) (oX8_set_in _ (List.mem_of_getElem? (i := 1) rfl))) dX8_set_8 ?_
  refine sp_calli (wr := [(h, .inr (6, [.int 0, .int 0, .ref a0, .ref a1, .ref a2, .int 0, .ref a3, .ref a4, .ref a5, .ref a6, .ref a7, .ref a8, .int 0, .int 0, .int 0, .int 0, .ref a9, .ref a10, .ref a11, .ref a12, .ref a13, .ref a14, .ref a15, .ref a16, .ref a17, .int 0])), (a8, .inl (cJ, 4, .inr (.inl f)))]) (wc := []) hP hD hS hA [] [0, 1] rfl rfl (by decide) (by decide) (va_runS (As := [.long (v : Int32).toInt64, .long 0, .long 3]) (rest := []) ⟨hx, hb, hml, hown, hts⟩ (c_X8_in l D cI cJ cZ H.size ((v : Int32).toInt64) (0) (3)) (va_cwS 3 hts gX8_set_X8_in_150 rfl rfl rfl (by decide +kernel) ⟨Nat.le_of_ble_eq_true rfl, Nat.le_of_ble_eq_true rfl⟩) (sp_preS [.long (v : Int32).toInt64, .long 0, .long 3] hK (hP.sub (ws' := []) [] rfl) (hD.sub (ws' := []) [] (by decide) rfl)) rfl rfl hl.1 rfl (lv_room (Nat.le_of_ble_eq_true rfl)) dX8_set_11 ⟨Nat.le_of_ble_eq_true rfl, Nat.le_of_ble_eq_true rfl⟩) (fun r1 u2 H locs hw3 hP hD hS => ?_)
  rcases hw3 with ⟨rfl, h4⟩ | ⟨rfl, h4⟩
  · skip
    have h4 : (0 : Int) ≤ (v : Int32).toInt ∧ (v : Int32).toInt ≤ (3 : Int) := (by have h9 := h4; simp only [Int32.toInt_toInt64] at h9; exact h9)
    have hP : va_P D vwCl [(h, .inr (6, [.int 0, .int 0, .ref a0, .ref a1, .ref a2, .int 0, .ref a3, .ref a4, .ref a5, .ref a6, .ref a7, .ref a8, .int 0, .int 0, .int 0, .int 0, .ref a9, .ref a10, .ref a11, .ref a12, .ref a13, .ref a14, .ref a15, .ref a16, .ref a17, .int 0])), (a8, .inl (cJ, 4, .inr (.inl f)))] H := hP
    have hD : va_D A [(h, .inr (6, [.int 0, .int 0, .ref a0, .ref a1, .ref a2, .int 0, .ref a3, .ref a4, .ref a5, .ref a6, .ref a7, .ref a8, .int 0, .int 0, .int 0, .int 0, .ref a9, .ref a10, .ref a11, .ref a12, .ref a13, .ref a14, .ref a15, .ref a16, .ref a17, .int 0])), (a8, .inl (cJ, 4, .inr (.inl f)))] := hD
    refine lv_if_ne (tgt := 19) hx hb dX8_set_14 (by decide) (fun _ => ?_) (fun c5 => absurd c5 (by decide))
    refine lv_iload_n hx hb dX8_set_19 rfl (lv_at hl 2 rfl) ?_
    refine lv_i2l (v := _) hx hb dX8_set_20 rfl ?_
    refine lv_ldc2 (v := (-2139095041)) hx hb hown (hts (.constantLong RX8 66 (-2139095041)) (oX8_set_in _ (List.mem_of_getElem? (i := 2) rfl))) dX8_set_21 ?_
    refine lv_ldc2 (v := 2139095040) hx hb hown (hts (.constantLong RX8 68 (2139095040)) (oX8_set_in _ (List.mem_of_getElem? (i := 3) rfl))) dX8_set_24 ?_
    refine sp_calli (wr := [(h, .inr (6, [.int 0, .int 0, .ref a0, .ref a1, .ref a2, .int 0, .ref a3, .ref a4, .ref a5, .ref a6, .ref a7, .ref a8, .int 0, .int 0, .int 0, .int 0, .ref a9, .ref a10, .ref a11, .ref a12, .ref a13, .ref a14, .ref a15, .ref a16, .ref a17, .int 0])), (a8, .inl (cJ, 4, .inr (.inl f)))]) (wc := []) hP hD hS hA [] [0, 1] rfl rfl (by decide) (by decide) (va_runS (As := [.long (a : Int32).toInt64, .long (-2139095041), .long 2139095040]) (rest := []) ⟨hx, hb, hml, hown, hts⟩ (c_X8_in l D cI cJ cZ H.size ((a : Int32).toInt64) ((-2139095041)) (2139095040)) (va_cwS 3 hts gX8_set_X8_in_150 rfl rfl rfl (by decide +kernel) ⟨Nat.le_of_ble_eq_true rfl, Nat.le_of_ble_eq_true rfl⟩) (sp_preS [.long (a : Int32).toInt64, .long (-2139095041), .long 2139095040] hK (hP.sub (ws' := []) [] rfl) (hD.sub (ws' := []) [] (by decide) rfl)) rfl rfl hl.1 rfl (lv_room (Nat.le_of_ble_eq_true rfl)) dX8_set_27 ⟨Nat.le_of_ble_eq_true rfl, Nat.le_of_ble_eq_true rfl⟩) (fun r6 u7 H locs hw8 hP hD hS => ?_)
    rcases hw8 with ⟨rfl, h9⟩ | ⟨rfl, h9⟩
    · skip
      have h9 : (-2139095041 : Int) ≤ (a : Int32).toInt ∧ (a : Int32).toInt ≤ (2139095040 : Int) := (by have h9 := h9; simp only [Int32.toInt_toInt64] at h9; exact h9)
      have hP : va_P D vwCl [(h, .inr (6, [.int 0, .int 0, .ref a0, .ref a1, .ref a2, .int 0, .ref a3, .ref a4, .ref a5, .ref a6, .ref a7, .ref a8, .int 0, .int 0, .int 0, .int 0, .ref a9, .ref a10, .ref a11, .ref a12, .ref a13, .ref a14, .ref a15, .ref a16, .ref a17, .int 0])), (a8, .inl (cJ, 4, .inr (.inl f)))] H := hP
      have hD : va_D A [(h, .inr (6, [.int 0, .int 0, .ref a0, .ref a1, .ref a2, .int 0, .ref a3, .ref a4, .ref a5, .ref a6, .ref a7, .ref a8, .int 0, .int 0, .int 0, .int 0, .ref a9, .ref a10, .ref a11, .ref a12, .ref a13, .ref a14, .ref a15, .ref a16, .ref a17, .int 0])), (a8, .inl (cJ, 4, .inr (.inl f)))] := hD
      refine lv_if_ne (tgt := 36) hx hb dX8_set_30 (by decide) (fun _ => ?_) (fun c10 => absurd c10 (by decide))
      refine lv_aload_n hx hb dX8_set_36 rfl (lv_at hl 0 rfl) ?_
      refine va_get (D := D) (ci := 6) (v := .ref a8) (C := RX8) (T := TX8) (N := 26) hx hb hts iX8_set_X8 hown hK hP 0 rfl rfl 11 (by decide) (hts (.fieldLink RX8 35 "FloatSolverModel" "var" "[J") (oX8_set_in _ (List.mem_of_getElem? (i := 4) rfl))) (fun _ h9 => h9) rfl dX8_set_37 ?_
      refine lv_iload_n hx hb dX8_set_40 rfl (lv_at hl 1 rfl) ?_
      refine lv_iload_n hx hb dX8_set_41 rfl (lv_at hl 2 rfl) ?_
      refine lv_i2l (v := _) hx hb dX8_set_42 rfl ?_
      refine va_last hx hb hK hP hD hS 1 1 rfl rfl (vp_in_iff.mpr ⟨by omega, by omega⟩) dX8_set_43 (fun H locs hP hD hS => ?_)
      obtain ⟨f11, ef12⟩ : ∃ z9 : Nat → Int64, z9 = vp_updL f (v : Int32).toNatClampNeg (a : Int32).toInt64 := ⟨_, rfl⟩
      rw [← ef12] at hP hD
      have hP : va_P D vwCl [(h, .inr (6, [.int 0, .int 0, .ref a0, .ref a1, .ref a2, .int 0, .ref a3, .ref a4, .ref a5, .ref a6, .ref a7, .ref a8, .int 0, .int 0, .int 0, .int 0, .ref a9, .ref a10, .ref a11, .ref a12, .ref a13, .ref a14, .ref a15, .ref a16, .ref a17, .int 0])), (a8, .inl (cJ, 4, .inr (.inl f11)))] H := hP
      have hD : va_D A [(h, .inr (6, [.int 0, .int 0, .ref a0, .ref a1, .ref a2, .int 0, .ref a3, .ref a4, .ref a5, .ref a6, .ref a7, .ref a8, .int 0, .int 0, .int 0, .int 0, .ref a9, .ref a10, .ref a11, .ref a12, .ref a13, .ref a14, .ref a15, .ref a16, .ref a17, .int 0])), (a8, .inl (cJ, 4, .inr (.inl f11)))] := hD
      refine lv_iconst (v := 1) hx hb dX8_set_44 (by decide) ?_
      refine W.widen (k := 0) (n := 0) (by decide) (by decide) ?_
      exact sp_iret (u := ()) hx hb hr hlocks hS (by unfold sp_set; (repeat' split) <;> first | (exfalso; omega) | rfl) (hP.sub [] rfl) (hD.sub [] (by decide) rfl) dX8_set_45
    · skip
      have h9 : ¬ ((-2139095041 : Int) ≤ (a : Int32).toInt ∧ (a : Int32).toInt ≤ (2139095040 : Int)) := (by have h9 := h9; simp only [Int32.toInt_toInt64] at h9; exact h9)
      have hP : va_P D vwCl [(h, .inr (6, [.int 0, .int 0, .ref a0, .ref a1, .ref a2, .int 0, .ref a3, .ref a4, .ref a5, .ref a6, .ref a7, .ref a8, .int 0, .int 0, .int 0, .int 0, .ref a9, .ref a10, .ref a11, .ref a12, .ref a13, .ref a14, .ref a15, .ref a16, .ref a17, .int 0])), (a8, .inl (cJ, 4, .inr (.inl f)))] H := hP
      have hD : va_D A [(h, .inr (6, [.int 0, .int 0, .ref a0, .ref a1, .ref a2, .int 0, .ref a3, .ref a4, .ref a5, .ref a6, .ref a7, .ref a8, .int 0, .int 0, .int 0, .int 0, .ref a9, .ref a10, .ref a11, .ref a12, .ref a13, .ref a14, .ref a15, .ref a16, .ref a17, .int 0])), (a8, .inl (cJ, 4, .inr (.inl f)))] := hD
      refine lv_if_ne (tgt := 36) hx hb dX8_set_30 (by decide) (fun c13 => absurd (by decide) c13) (fun _ => ?_)
      refine lv_bipush (v := (-2)) hx hb dX8_set_33 (by decide) ?_
      refine W.widen (k := 0) (n := 0) (by decide) (by decide) ?_
      exact sp_iret (u := ()) hx hb hr hlocks hS (by unfold sp_set; (repeat' split) <;> first | (exfalso; omega) | rfl) (hP.sub [] rfl) (hD.sub [] (by decide) rfl) dX8_set_35
  · skip
    have h4 : ¬ ((0 : Int) ≤ (v : Int32).toInt ∧ (v : Int32).toInt ≤ (3 : Int)) := (by have h9 := h4; simp only [Int32.toInt_toInt64] at h9; exact h9)
    have hP : va_P D vwCl [(h, .inr (6, [.int 0, .int 0, .ref a0, .ref a1, .ref a2, .int 0, .ref a3, .ref a4, .ref a5, .ref a6, .ref a7, .ref a8, .int 0, .int 0, .int 0, .int 0, .ref a9, .ref a10, .ref a11, .ref a12, .ref a13, .ref a14, .ref a15, .ref a16, .ref a17, .int 0])), (a8, .inl (cJ, 4, .inr (.inl f)))] H := hP
    have hD : va_D A [(h, .inr (6, [.int 0, .int 0, .ref a0, .ref a1, .ref a2, .int 0, .ref a3, .ref a4, .ref a5, .ref a6, .ref a7, .ref a8, .int 0, .int 0, .int 0, .int 0, .ref a9, .ref a10, .ref a11, .ref a12, .ref a13, .ref a14, .ref a15, .ref a16, .ref a17, .int 0])), (a8, .inl (cJ, 4, .inr (.inl f)))] := hD
    refine lv_if_ne (tgt := 19) hx hb dX8_set_14 (by decide) (fun c14 => absurd (by decide) c14) (fun _ => ?_)
    refine lv_iconst (v := (-1)) hx hb dX8_set_17 (by decide) ?_
    refine W.widen (k := 0) (n := 0) (by decide) (by decide) ?_
    exact sp_iret (u := ()) hx hb hr hlocks hS (by unfold sp_set; (repeat' split) <;> first | (exfalso; omega) | rfl) (hP.sub [] rfl) (hD.sub [] (by decide) rfl) dX8_set_18
def oX8_place : List Cond := [.fieldLink RX8 70 "FloatSolverModel" "thrown" "I", .constantLong RX8 82 (9000000000), .constantLong RX8 174 (-9223372036854775808)]
def wpX8_place : List Cond := .code yX8_place cX8_place 4 (some .long) :: (oX8_place ++ (wsX80 ++ ((va_wsS RX8 170 yX8_fromBits wpX8_fromBits) ++ ([] : List Cond))))
theorem oX8_place_in : ∀ w ∈ oX8_place, w ∈ wpX8_place := fun w h => List.mem_cons_of_mem _ (List.mem_append_left _ h)
theorem gwoX8_place : ∀ w ∈ oX8_place, goodWord w = true := by decide +kernel
theorem gwX8_place : ∀ w ∈ wpX8_place, goodWord w = true := by
  unfold wpX8_place
  exact List.forall_mem_cons.mpr ⟨rfl, List.forall_mem_append.mpr ⟨gwoX8_place, List.forall_mem_append.mpr ⟨gwX8, List.forall_mem_append.mpr ⟨(sp_gS gwX8_fromBits), fun _ h => absurd h List.not_mem_nil⟩⟩⟩⟩
set_option maxRecDepth 100000 in
theorem toX8_place : ∀ w ∈ oX8_place, w ∈ lw_tbl := by
  unfold oX8_place
  exact List.forall_mem_cons.mpr ⟨(List.mem_of_getElem? (i := 683) (by decide +kernel)), List.forall_mem_cons.mpr ⟨(List.mem_of_getElem? (i := 808) (by decide +kernel)), List.forall_mem_cons.mpr ⟨(List.mem_of_getElem? (i := 813) (by decide +kernel)), fun _ h => absurd h List.not_mem_nil⟩⟩⟩
set_option maxRecDepth 100000 in
theorem tX8_place : ∀ w ∈ wpX8_place, w ∈ lw_tbl := by
  unfold wpX8_place
  exact List.forall_mem_cons.mpr ⟨(List.mem_of_getElem? (i := 803) (by rfl)), List.forall_mem_append.mpr ⟨toX8_place, List.forall_mem_append.mpr ⟨in_wsX80, List.forall_mem_append.mpr ⟨(sp_tS (List.mem_of_getElem? (i := 804) (by decide +kernel)) (List.mem_of_getElem? (i := 805) (by decide +kernel)) (List.mem_of_getElem? (i := 45) (by decide +kernel)) tX8_fromBits), fun _ h => absurd h List.not_mem_nil⟩⟩⟩⟩
theorem iX8_place_X8 : ∀ w ∈ wsX80, w ∈ wpX8_place := fun w h => List.mem_cons_of_mem _ (List.mem_append_right _ (List.mem_append_left _ h))
theorem gX8_place_X8_fromBits_170 : GoodIn wpX8_place (va_wsS RX8 170 yX8_fromBits wpX8_fromBits) := fun w h => ⟨List.mem_cons_of_mem _ (List.mem_append_right _ (List.mem_append_right _ (List.mem_append_left _ h))), good_of_word (sp_gS gwX8_fromBits w h)⟩
set_option maxHeartbeats 4000000 in
set_option maxRecDepth 100000 in
theorem c_X8_place (l : Launch) (D : va_G) (cI cJ cZ : ClassId) (sz : Nat) (h a0 a1 a2 a3 a4 a5 a6 a7 a8 a9 a10 a11 a12 a13 a14 a15 a16 a17 : Nat) (b : Int32) : Met l yX8_place wpX8_place ({ frames := 2, cells := 0, slots := 0, locals := 44 }) (va_Pc [.ref h, .int b] (sp_pre D vwCl (sp_ty cI cJ cZ) [(h, .inr (6, [.int 0, .int 0, .ref a0, .ref a1, .ref a2, .int 0, .ref a3, .ref a4, .ref a5, .ref a6, .ref a7, .ref a8, .int 0, .int 0, .int 0, .int 0, .ref a9, .ref a10, .ref a11, .ref a12, .ref a13, .ref a14, .ref a15, .ref a16, .ref a17, .int 0]))] sz)) (va_Ql (fun (r : Int64) (_ : Unit) => r = sp_place b) (sp_B D vwCl (va_A [(h, .inr (6, [.int 0, .int 0, .ref a0, .ref a1, .ref a2, .int 0, .ref a3, .ref a4, .ref a5, .ref a6, .ref a7, .ref a8, .int 0, .int 0, .int 0, .int 0, .ref a9, .ref a10, .ref a11, .ref a12, .ref a13, .ref a14, .ref a15, .ref a16, .ref a17, .int 0]))] sz) (fun (_ : Unit) => [])) (va_A [(h, .inr (6, [.int 0, .int 0, .ref a0, .ref a1, .ref a2, .int 0, .ref a3, .ref a4, .ref a5, .ref a6, .ref a7, .ref a8, .int 0, .int 0, .int 0, .int 0, .ref a9, .ref a10, .ref a11, .ref a12, .ref a13, .ref a14, .ref a15, .ref a16, .ref a17, .int 0]))] sz)) 0 0 (va_A [(h, .inr (6, [.int 0, .int 0, .ref a0, .ref a1, .ref a2, .int 0, .ref a3, .ref a4, .ref a5, .ref a6, .ref a7, .ref a8, .int 0, .int 0, .int 0, .int 0, .ref a9, .ref a10, .ref a11, .ref a12, .ref a13, .ref a14, .ref a15, .ref a16, .ref a17, .int 0]))] sz) := by
  refine sp_ofW (Qc := fun A => va_Ql (fun (r : Int64) (_ : Unit) => r = sp_place b) (sp_B D vwCl A (fun (_ : Unit) => [])) A) (by decide) rfl (Nat.le_of_ble_eq_true rfl) (fun p e s m below meth c A ls H locs C0 hA hS hP hK hD hl => ?_)
  obtain ⟨hx, hb, hr, hts, hown, hlocks, hml, hin⟩ := C0
  have hown : s.vm.findClass RX8 = some m.cls := hown
  have hl : lv_has ls 4 [(0, .ref h), (1, .int b)] := hl
  have hK : va_K D vwCl [(cI, .int), (cJ, .long), (cZ, .boolean)] s := hK
  refine lv_aload_n hx hb dX8_place_0 rfl (lv_at hl 0 rfl) ?_
  refine lv_iconst (v := 0) hx hb dX8_place_1 (by decide) ?_
  refine va_put (D := D) (ci := 6) (v := .int 0) (ty := .int) (C := RX8) (T := TX8) (N := 26) hx hb hts iX8_place_X8 tyX8 tyX8_ok nmX8 hown hK hP hD hS 0 rfl rfl 0 (by decide) (hts (.fieldLink RX8 70 "FloatSolverModel" "thrown" "I") (oX8_place_in _ (List.mem_of_getElem? (i := 0) rfl))) (fun _ h9 => h9) rfl (by decide +kernel) rfl rfl (Nat.le_of_ble_eq_true rfl) dX8_place_2 (fun H locs hP hD hS => ?_)
  have hP : va_P D vwCl [(h, .inr (6, [.int 0, .int 0, .ref a0, .ref a1, .ref a2, .int 0, .ref a3, .ref a4, .ref a5, .ref a6, .ref a7, .ref a8, .int 0, .int 0, .int 0, .int 0, .ref a9, .ref a10, .ref a11, .ref a12, .ref a13, .ref a14, .ref a15, .ref a16, .ref a17, .int 0]))] H := hP
  have hD : va_D A [(h, .inr (6, [.int 0, .int 0, .ref a0, .ref a1, .ref a2, .int 0, .ref a3, .ref a4, .ref a5, .ref a6, .ref a7, .ref a8, .int 0, .int 0, .int 0, .int 0, .ref a9, .ref a10, .ref a11, .ref a12, .ref a13, .ref a14, .ref a15, .ref a16, .ref a17, .int 0]))] := hD
  refine lv_iload_n hx hb dX8_place_5 rfl (lv_at hl 1 rfl) ?_
  refine sp_callj (wr := [(h, .inr (6, [.int 0, .int 0, .ref a0, .ref a1, .ref a2, .int 0, .ref a3, .ref a4, .ref a5, .ref a6, .ref a7, .ref a8, .int 0, .int 0, .int 0, .int 0, .ref a9, .ref a10, .ref a11, .ref a12, .ref a13, .ref a14, .ref a15, .ref a16, .ref a17, .int 0]))]) (wc := []) hP hD hS hA [] [0] rfl rfl (by decide) (by decide) (va_runS (As := [.int b]) (rest := []) ⟨hx, hb, hml, hown, hts⟩ (c_X8_fromBits l D cI cJ cZ H.size (b)) (va_cwS 1 hts gX8_place_X8_fromBits_170 rfl rfl rfl (by decide +kernel) ⟨Nat.le_of_ble_eq_true rfl, Nat.le_of_ble_eq_true rfl⟩) (sp_preS [.int b] hK (hP.sub (ws' := []) [] rfl) (hD.sub (ws' := []) [] (by decide) rfl)) rfl rfl hl.1 rfl (lv_room (Nat.le_of_ble_eq_true rfl)) dX8_place_6 ⟨Nat.le_of_ble_eq_true rfl, Nat.le_of_ble_eq_true rfl⟩) (fun r1 u2 H locs hw3 hP hD hS => ?_)
  rcases hw3 with ⟨h4, rfl⟩ | ⟨h4, h5, rfl⟩ | ⟨h4, h5, rfl⟩
  · skip
    have hP : va_P D vwCl [(h, .inr (6, [.int 0, .int 0, .ref a0, .ref a1, .ref a2, .int 0, .ref a3, .ref a4, .ref a5, .ref a6, .ref a7, .ref a8, .int 0, .int 0, .int 0, .int 0, .ref a9, .ref a10, .ref a11, .ref a12, .ref a13, .ref a14, .ref a15, .ref a16, .ref a17, .int 0]))] H := hP
    have hD : va_D A [(h, .inr (6, [.int 0, .int 0, .ref a0, .ref a1, .ref a2, .int 0, .ref a3, .ref a4, .ref a5, .ref a6, .ref a7, .ref a8, .int 0, .int 0, .int 0, .int 0, .ref a9, .ref a10, .ref a11, .ref a12, .ref a13, .ref a14, .ref a15, .ref a16, .ref a17, .int 0]))] := hD
    refine lv_lstore_n (lv' := [(2, .long 9000000000), (0, .ref h), (1, .int b)]) hx hb dX8_place_9 rfl hl (by decide) rfl (fun ls hl => ?_)
    refine lv_lload_n hx hb dX8_place_10 rfl (lv_at hl 0 rfl) ?_
    refine lv_ldc2 (v := 9000000000) hx hb hown (hts (.constantLong RX8 82 (9000000000)) (oX8_place_in _ (List.mem_of_getElem? (i := 1) rfl))) dX8_place_11 ?_
    refine W.lcmp hx hb dX8_place_14 ?_
    refine lv_if_ne (tgt := 24) hx hb dX8_place_15 (by decide) (fun c6 => absurd (by decide) c6) (fun _ => ?_)
    refine lv_ldc2 (v := (-9223372036854775808)) hx hb hown (hts (.constantLong RX8 174 (-9223372036854775808)) (oX8_place_in _ (List.mem_of_getElem? (i := 2) rfl))) dX8_place_18 ?_
    refine lv_goto (tgt := 25) hx hb dX8_place_21 (by decide) ?_
    refine W.widen (k := 0) (n := 0) (by decide) (by decide) ?_
    exact sp_lret (u := ()) hx hb hr hlocks hS (by unfold sp_place; (repeat' split) <;> first | (exfalso; omega) | rfl) (hP.sub [] rfl) (hD.sub [] (by decide) rfl) dX8_place_25
  · skip
    have hP : va_P D vwCl [(h, .inr (6, [.int 0, .int 0, .ref a0, .ref a1, .ref a2, .int 0, .ref a3, .ref a4, .ref a5, .ref a6, .ref a7, .ref a8, .int 0, .int 0, .int 0, .int 0, .ref a9, .ref a10, .ref a11, .ref a12, .ref a13, .ref a14, .ref a15, .ref a16, .ref a17, .int 0]))] H := hP
    have hD : va_D A [(h, .inr (6, [.int 0, .int 0, .ref a0, .ref a1, .ref a2, .int 0, .ref a3, .ref a4, .ref a5, .ref a6, .ref a7, .ref a8, .int 0, .int 0, .int 0, .int 0, .ref a9, .ref a10, .ref a11, .ref a12, .ref a13, .ref a14, .ref a15, .ref a16, .ref a17, .int 0]))] := hD
    refine lv_lstore_n (lv' := [(2, .long (-1 - ((b &&& 2147483647) : Int32).toInt64)), (0, .ref h), (1, .int b)]) hx hb dX8_place_9 rfl hl (by decide) rfl (fun ls hl => ?_)
    refine lv_lload_n hx hb dX8_place_10 rfl (lv_at hl 0 rfl) ?_
    refine lv_ldc2 (v := 9000000000) hx hb hown (hts (.constantLong RX8 82 (9000000000)) (oX8_place_in _ (List.mem_of_getElem? (i := 1) rfl))) dX8_place_11 ?_
    refine W.lcmp hx hb dX8_place_14 ?_
    refine lv_if_ne (tgt := 24) hx hb dX8_place_15 (by decide) (fun c7 => ?_) (fun c7 => ?_)
    · skip
      have c7 := fun h => c7 ((lg_cmp_eq _ _).mpr h)
      have c7i : ¬ ((-1 - ((b &&& 2147483647) : Int32).toInt64) : Int64).toInt = 9000000000 := fun h => c7 (Int64.toInt_inj.mp h)
      refine lv_lload_n hx hb dX8_place_24 rfl (lv_at hl 0 rfl) ?_
      refine W.widen (k := 0) (n := 0) (by decide) (by decide) ?_
      exact sp_lret (u := ()) hx hb hr hlocks hS (by unfold sp_place; (repeat' split) <;> first | (exfalso; omega) | exact (px_xorL (by omega)).symm) (hP.sub [] rfl) (hD.sub [] (by decide) rfl) dX8_place_25
    · skip
      have c7 := (lg_cmp_eq _ _).mp c7
      have c7i : ((-1 - ((b &&& 2147483647) : Int32).toInt64) : Int64).toInt = 9000000000 := congrArg Int64.toInt c7
      exact (px_neq1 b c7i).elim
  · skip
    have hP : va_P D vwCl [(h, .inr (6, [.int 0, .int 0, .ref a0, .ref a1, .ref a2, .int 0, .ref a3, .ref a4, .ref a5, .ref a6, .ref a7, .ref a8, .int 0, .int 0, .int 0, .int 0, .ref a9, .ref a10, .ref a11, .ref a12, .ref a13, .ref a14, .ref a15, .ref a16, .ref a17, .int 0]))] H := hP
    have hD : va_D A [(h, .inr (6, [.int 0, .int 0, .ref a0, .ref a1, .ref a2, .int 0, .ref a3, .ref a4, .ref a5, .ref a6, .ref a7, .ref a8, .int 0, .int 0, .int 0, .int 0, .ref a9, .ref a10, .ref a11, .ref a12, .ref a13, .ref a14, .ref a15, .ref a16, .ref a17, .int 0]))] := hD
    refine lv_lstore_n (lv' := [(2, .long ((b &&& 2147483647) : Int32).toInt64), (0, .ref h), (1, .int b)]) hx hb dX8_place_9 rfl hl (by decide) rfl (fun ls hl => ?_)
    refine lv_lload_n hx hb dX8_place_10 rfl (lv_at hl 0 rfl) ?_
    refine lv_ldc2 (v := 9000000000) hx hb hown (hts (.constantLong RX8 82 (9000000000)) (oX8_place_in _ (List.mem_of_getElem? (i := 1) rfl))) dX8_place_11 ?_
    refine W.lcmp hx hb dX8_place_14 ?_
    refine lv_if_ne (tgt := 24) hx hb dX8_place_15 (by decide) (fun c8 => ?_) (fun c8 => ?_)
    · skip
      have c8 := fun h => c8 ((lg_cmp_eq _ _).mpr h)
      have c8i : ¬ (((b &&& 2147483647) : Int32).toInt64 : Int64).toInt = 9000000000 := fun h => c8 (Int64.toInt_inj.mp h)
      refine lv_lload_n hx hb dX8_place_24 rfl (lv_at hl 0 rfl) ?_
      refine W.widen (k := 0) (n := 0) (by decide) (by decide) ?_
      exact sp_lret (u := ()) hx hb hr hlocks hS (by unfold sp_place; (repeat' split) <;> first | (exfalso; omega) | exact (px_andL (by omega)).symm) (hP.sub [] rfl) (hD.sub [] (by decide) rfl) dX8_place_25
    · skip
      have c8 := (lg_cmp_eq _ _).mp c8
      have c8i : (((b &&& 2147483647) : Int32).toInt64 : Int64).toInt = 9000000000 := congrArg Int64.toInt c8
      exact (px_neq2 b c8i).elim
def oX8_bits : List Cond := [.fieldLink RX8 70 "FloatSolverModel" "thrown" "I", .constantLong RX8 66 (-2139095041), .constantLong RX8 68 (2139095040), .constantLong RX8 174 (-9223372036854775808)]
def wpX8_bits : List Cond := .code yX8_bits cX8_bits 2 (some .long) :: (oX8_bits ++ (wsX80 ++ ((va_wsS RX8 150 yX8_in wpX8_in) ++ ((va_wsS RX8 176 yX8_toBits wpX8_toBits) ++ ([] : List Cond)))))
theorem oX8_bits_in : ∀ w ∈ oX8_bits, w ∈ wpX8_bits := fun w h => List.mem_cons_of_mem _ (List.mem_append_left _ h)
theorem gwoX8_bits : ∀ w ∈ oX8_bits, goodWord w = true := by decide +kernel
theorem gwX8_bits : ∀ w ∈ wpX8_bits, goodWord w = true := by
  unfold wpX8_bits
  exact List.forall_mem_cons.mpr ⟨rfl, List.forall_mem_append.mpr ⟨gwoX8_bits, List.forall_mem_append.mpr ⟨gwX8, List.forall_mem_append.mpr ⟨(sp_gS gwX8_in), List.forall_mem_append.mpr ⟨(sp_gS gwX8_toBits), fun _ h => absurd h List.not_mem_nil⟩⟩⟩⟩⟩
set_option maxRecDepth 100000 in
theorem toX8_bits : ∀ w ∈ oX8_bits, w ∈ lw_tbl := by
  unfold oX8_bits
  exact List.forall_mem_cons.mpr ⟨(List.mem_of_getElem? (i := 683) (by decide +kernel)), List.forall_mem_cons.mpr ⟨(List.mem_of_getElem? (i := 681) (by decide +kernel)), List.forall_mem_cons.mpr ⟨(List.mem_of_getElem? (i := 682) (by decide +kernel)), List.forall_mem_cons.mpr ⟨(List.mem_of_getElem? (i := 813) (by decide +kernel)), fun _ h => absurd h List.not_mem_nil⟩⟩⟩⟩
set_option maxRecDepth 100000 in
theorem tX8_bits : ∀ w ∈ wpX8_bits, w ∈ lw_tbl := by
  unfold wpX8_bits
  exact List.forall_mem_cons.mpr ⟨(List.mem_of_getElem? (i := 817) (by rfl)), List.forall_mem_append.mpr ⟨toX8_bits, List.forall_mem_append.mpr ⟨in_wsX80, List.forall_mem_append.mpr ⟨(sp_tS (List.mem_of_getElem? (i := 771) (by decide +kernel)) (List.mem_of_getElem? (i := 772) (by decide +kernel)) (List.mem_of_getElem? (i := 45) (by decide +kernel)) tX8_in), List.forall_mem_append.mpr ⟨(sp_tS (List.mem_of_getElem? (i := 818) (by decide +kernel)) (List.mem_of_getElem? (i := 819) (by decide +kernel)) (List.mem_of_getElem? (i := 45) (by decide +kernel)) tX8_toBits), fun _ h => absurd h List.not_mem_nil⟩⟩⟩⟩⟩
theorem iX8_bits_X8 : ∀ w ∈ wsX80, w ∈ wpX8_bits := fun w h => List.mem_cons_of_mem _ (List.mem_append_right _ (List.mem_append_left _ h))
theorem gX8_bits_X8_in_150 : GoodIn wpX8_bits (va_wsS RX8 150 yX8_in wpX8_in) := fun w h => ⟨List.mem_cons_of_mem _ (List.mem_append_right _ (List.mem_append_right _ (List.mem_append_left _ h))), good_of_word (sp_gS gwX8_in w h)⟩
theorem gX8_bits_X8_toBits_176 : GoodIn wpX8_bits (va_wsS RX8 176 yX8_toBits wpX8_toBits) := fun w h => ⟨List.mem_cons_of_mem _ (List.mem_append_right _ (List.mem_append_right _ (List.mem_append_right _ (List.mem_append_left _ h)))), good_of_word (sp_gS gwX8_toBits w h)⟩
set_option maxHeartbeats 4000000 in
set_option maxRecDepth 100000 in
theorem c_X8_bits (l : Launch) (D : va_G) (cI cJ cZ : ClassId) (sz : Nat) (h a0 a1 a2 a3 a4 a5 a6 a7 a8 a9 a10 a11 a12 a13 a14 a15 a16 a17 : Nat) (b : Int32) : Met l yX8_bits wpX8_bits ({ frames := 1, cells := 0, slots := 0, locals := 25 }) (va_Pc [.ref h, .int b] (sp_pre D vwCl (sp_ty cI cJ cZ) [(h, .inr (6, [.int 0, .int 0, .ref a0, .ref a1, .ref a2, .int 0, .ref a3, .ref a4, .ref a5, .ref a6, .ref a7, .ref a8, .int 0, .int 0, .int 0, .int 0, .ref a9, .ref a10, .ref a11, .ref a12, .ref a13, .ref a14, .ref a15, .ref a16, .ref a17, .int 0]))] sz)) (va_Ql (fun (r : Int64) (_ : Unit) => r = sp_bits b) (sp_B D vwCl (va_A [(h, .inr (6, [.int 0, .int 0, .ref a0, .ref a1, .ref a2, .int 0, .ref a3, .ref a4, .ref a5, .ref a6, .ref a7, .ref a8, .int 0, .int 0, .int 0, .int 0, .ref a9, .ref a10, .ref a11, .ref a12, .ref a13, .ref a14, .ref a15, .ref a16, .ref a17, .int 0]))] sz) (fun (_ : Unit) => [])) (va_A [(h, .inr (6, [.int 0, .int 0, .ref a0, .ref a1, .ref a2, .int 0, .ref a3, .ref a4, .ref a5, .ref a6, .ref a7, .ref a8, .int 0, .int 0, .int 0, .int 0, .ref a9, .ref a10, .ref a11, .ref a12, .ref a13, .ref a14, .ref a15, .ref a16, .ref a17, .int 0]))] sz)) 0 0 (va_A [(h, .inr (6, [.int 0, .int 0, .ref a0, .ref a1, .ref a2, .int 0, .ref a3, .ref a4, .ref a5, .ref a6, .ref a7, .ref a8, .int 0, .int 0, .int 0, .int 0, .ref a9, .ref a10, .ref a11, .ref a12, .ref a13, .ref a14, .ref a15, .ref a16, .ref a17, .int 0]))] sz) := by
  refine sp_ofW (Qc := fun A => va_Ql (fun (r : Int64) (_ : Unit) => r = sp_bits b) (sp_B D vwCl A (fun (_ : Unit) => [])) A) (by decide) rfl (Nat.le_of_ble_eq_true rfl) (fun p e s m below meth c A ls H locs C0 hA hS hP hK hD hl => ?_)
  obtain ⟨hx, hb, hr, hts, hown, hlocks, hml, hin⟩ := C0
  have hown : s.vm.findClass RX8 = some m.cls := hown
  have hl : lv_has ls 2 [(0, .ref h), (1, .int b)] := hl
  have hK : va_K D vwCl [(cI, .int), (cJ, .long), (cZ, .boolean)] s := hK
  refine lv_aload_n hx hb dX8_bits_0 rfl (lv_at hl 0 rfl) ?_
  refine lv_iconst (v := 0) hx hb dX8_bits_1 (by decide) ?_
  refine va_put (D := D) (ci := 6) (v := .int 0) (ty := .int) (C := RX8) (T := TX8) (N := 26) hx hb hts iX8_bits_X8 tyX8 tyX8_ok nmX8 hown hK hP hD hS 0 rfl rfl 0 (by decide) (hts (.fieldLink RX8 70 "FloatSolverModel" "thrown" "I") (oX8_bits_in _ (List.mem_of_getElem? (i := 0) rfl))) (fun _ h9 => h9) rfl (by decide +kernel) rfl rfl (Nat.le_of_ble_eq_true rfl) dX8_bits_2 (fun H locs hP hD hS => ?_)
  have hP : va_P D vwCl [(h, .inr (6, [.int 0, .int 0, .ref a0, .ref a1, .ref a2, .int 0, .ref a3, .ref a4, .ref a5, .ref a6, .ref a7, .ref a8, .int 0, .int 0, .int 0, .int 0, .ref a9, .ref a10, .ref a11, .ref a12, .ref a13, .ref a14, .ref a15, .ref a16, .ref a17, .int 0]))] H := hP
  have hD : va_D A [(h, .inr (6, [.int 0, .int 0, .ref a0, .ref a1, .ref a2, .int 0, .ref a3, .ref a4, .ref a5, .ref a6, .ref a7, .ref a8, .int 0, .int 0, .int 0, .int 0, .ref a9, .ref a10, .ref a11, .ref a12, .ref a13, .ref a14, .ref a15, .ref a16, .ref a17, .int 0]))] := hD
  refine lv_iload_n hx hb dX8_bits_5 rfl (lv_at hl 1 rfl) ?_
  refine lv_i2l (v := _) hx hb dX8_bits_6 rfl ?_
  refine lv_ldc2 (v := (-2139095041)) hx hb hown (hts (.constantLong RX8 66 (-2139095041)) (oX8_bits_in _ (List.mem_of_getElem? (i := 1) rfl))) dX8_bits_7 ?_
  refine lv_ldc2 (v := 2139095040) hx hb hown (hts (.constantLong RX8 68 (2139095040)) (oX8_bits_in _ (List.mem_of_getElem? (i := 2) rfl))) dX8_bits_10 ?_
  refine sp_calli (wr := [(h, .inr (6, [.int 0, .int 0, .ref a0, .ref a1, .ref a2, .int 0, .ref a3, .ref a4, .ref a5, .ref a6, .ref a7, .ref a8, .int 0, .int 0, .int 0, .int 0, .ref a9, .ref a10, .ref a11, .ref a12, .ref a13, .ref a14, .ref a15, .ref a16, .ref a17, .int 0]))]) (wc := []) hP hD hS hA [] [0] rfl rfl (by decide) (by decide) (va_runS (As := [.long (b : Int32).toInt64, .long (-2139095041), .long 2139095040]) (rest := []) ⟨hx, hb, hml, hown, hts⟩ (c_X8_in l D cI cJ cZ H.size ((b : Int32).toInt64) ((-2139095041)) (2139095040)) (va_cwS 3 hts gX8_bits_X8_in_150 rfl rfl rfl (by decide +kernel) ⟨Nat.le_of_ble_eq_true rfl, Nat.le_of_ble_eq_true rfl⟩) (sp_preS [.long (b : Int32).toInt64, .long (-2139095041), .long 2139095040] hK (hP.sub (ws' := []) [] rfl) (hD.sub (ws' := []) [] (by decide) rfl)) rfl rfl hl.1 rfl (lv_room (Nat.le_of_ble_eq_true rfl)) dX8_bits_13 ⟨Nat.le_of_ble_eq_true rfl, Nat.le_of_ble_eq_true rfl⟩) (fun r1 u2 H locs hw3 hP hD hS => ?_)
  rcases hw3 with ⟨rfl, h4⟩ | ⟨rfl, h4⟩
  · skip
    have h4 : (-2139095041 : Int) ≤ (b : Int32).toInt ∧ (b : Int32).toInt ≤ (2139095040 : Int) := (by have h9 := h4; simp only [Int32.toInt_toInt64] at h9; exact h9)
    have hP : va_P D vwCl [(h, .inr (6, [.int 0, .int 0, .ref a0, .ref a1, .ref a2, .int 0, .ref a3, .ref a4, .ref a5, .ref a6, .ref a7, .ref a8, .int 0, .int 0, .int 0, .int 0, .ref a9, .ref a10, .ref a11, .ref a12, .ref a13, .ref a14, .ref a15, .ref a16, .ref a17, .int 0]))] H := hP
    have hD : va_D A [(h, .inr (6, [.int 0, .int 0, .ref a0, .ref a1, .ref a2, .int 0, .ref a3, .ref a4, .ref a5, .ref a6, .ref a7, .ref a8, .int 0, .int 0, .int 0, .int 0, .ref a9, .ref a10, .ref a11, .ref a12, .ref a13, .ref a14, .ref a15, .ref a16, .ref a17, .int 0]))] := hD
    refine lv_if_eq (tgt := 27) hx hb dX8_bits_16 (by decide) (fun c5 => absurd c5 (by decide)) (fun _ => ?_)
    refine lv_iload_n hx hb dX8_bits_19 rfl (lv_at hl 1 rfl) ?_
    refine lv_i2l (v := _) hx hb dX8_bits_20 rfl ?_
    refine sp_callj (wr := [(h, .inr (6, [.int 0, .int 0, .ref a0, .ref a1, .ref a2, .int 0, .ref a3, .ref a4, .ref a5, .ref a6, .ref a7, .ref a8, .int 0, .int 0, .int 0, .int 0, .ref a9, .ref a10, .ref a11, .ref a12, .ref a13, .ref a14, .ref a15, .ref a16, .ref a17, .int 0]))]) (wc := []) hP hD hS hA [] [0] rfl rfl (by decide) (by decide) (va_runS (As := [.long (b : Int32).toInt64]) (rest := []) ⟨hx, hb, hml, hown, hts⟩ (c_X8_toBits l D cI cJ cZ H.size (b) (by omega) (by omega)) (va_cwS 1 hts gX8_bits_X8_toBits_176 rfl rfl rfl (by decide +kernel) ⟨Nat.le_of_ble_eq_true rfl, Nat.le_of_ble_eq_true rfl⟩) (sp_preS [.long (b : Int32).toInt64] hK (hP.sub (ws' := []) [] rfl) (hD.sub (ws' := []) [] (by decide) rfl)) rfl rfl hl.1 rfl (lv_room (Nat.le_of_ble_eq_true rfl)) dX8_bits_21 ⟨Nat.le_of_ble_eq_true rfl, Nat.le_of_ble_eq_true rfl⟩) (fun r6 u7 H locs hw8 hP hD hS => ?_)
    rcases hw8 with ⟨h9, rfl⟩ | ⟨h9, rfl⟩
    · skip
      have hP : va_P D vwCl [(h, .inr (6, [.int 0, .int 0, .ref a0, .ref a1, .ref a2, .int 0, .ref a3, .ref a4, .ref a5, .ref a6, .ref a7, .ref a8, .int 0, .int 0, .int 0, .int 0, .ref a9, .ref a10, .ref a11, .ref a12, .ref a13, .ref a14, .ref a15, .ref a16, .ref a17, .int 0]))] H := hP
      have hD : va_D A [(h, .inr (6, [.int 0, .int 0, .ref a0, .ref a1, .ref a2, .int 0, .ref a3, .ref a4, .ref a5, .ref a6, .ref a7, .ref a8, .int 0, .int 0, .int 0, .int 0, .ref a9, .ref a10, .ref a11, .ref a12, .ref a13, .ref a14, .ref a15, .ref a16, .ref a17, .int 0]))] := hD
      refine lv_goto (tgt := 30) hx hb dX8_bits_24 (by decide) ?_
      refine W.widen (k := 0) (n := 0) (by decide) (by decide) ?_
      exact sp_lret (u := ()) hx hb hr hlocks hS (by unfold sp_bits; (repeat' split) <;> first | (exfalso; omega) | exact (px_bitsL (by omega)).symm) (hP.sub [] rfl) (hD.sub [] (by decide) rfl) dX8_bits_30
    · skip
      have hP : va_P D vwCl [(h, .inr (6, [.int 0, .int 0, .ref a0, .ref a1, .ref a2, .int 0, .ref a3, .ref a4, .ref a5, .ref a6, .ref a7, .ref a8, .int 0, .int 0, .int 0, .int 0, .ref a9, .ref a10, .ref a11, .ref a12, .ref a13, .ref a14, .ref a15, .ref a16, .ref a17, .int 0]))] H := hP
      have hD : va_D A [(h, .inr (6, [.int 0, .int 0, .ref a0, .ref a1, .ref a2, .int 0, .ref a3, .ref a4, .ref a5, .ref a6, .ref a7, .ref a8, .int 0, .int 0, .int 0, .int 0, .ref a9, .ref a10, .ref a11, .ref a12, .ref a13, .ref a14, .ref a15, .ref a16, .ref a17, .int 0]))] := hD
      refine lv_goto (tgt := 30) hx hb dX8_bits_24 (by decide) ?_
      refine W.widen (k := 0) (n := 0) (by decide) (by decide) ?_
      exact sp_lret (u := ()) hx hb hr hlocks hS (by unfold sp_bits; (repeat' split) <;> first | (exfalso; omega) | rfl) (hP.sub [] rfl) (hD.sub [] (by decide) rfl) dX8_bits_30
  · skip
    have h4 : ¬ ((-2139095041 : Int) ≤ (b : Int32).toInt ∧ (b : Int32).toInt ≤ (2139095040 : Int)) := (by have h9 := h4; simp only [Int32.toInt_toInt64] at h9; exact h9)
    have hP : va_P D vwCl [(h, .inr (6, [.int 0, .int 0, .ref a0, .ref a1, .ref a2, .int 0, .ref a3, .ref a4, .ref a5, .ref a6, .ref a7, .ref a8, .int 0, .int 0, .int 0, .int 0, .ref a9, .ref a10, .ref a11, .ref a12, .ref a13, .ref a14, .ref a15, .ref a16, .ref a17, .int 0]))] H := hP
    have hD : va_D A [(h, .inr (6, [.int 0, .int 0, .ref a0, .ref a1, .ref a2, .int 0, .ref a3, .ref a4, .ref a5, .ref a6, .ref a7, .ref a8, .int 0, .int 0, .int 0, .int 0, .ref a9, .ref a10, .ref a11, .ref a12, .ref a13, .ref a14, .ref a15, .ref a16, .ref a17, .int 0]))] := hD
    refine lv_if_eq (tgt := 27) hx hb dX8_bits_16 (by decide) (fun _ => ?_) (fun c10 => absurd (by decide) c10)
    refine lv_ldc2 (v := (-9223372036854775808)) hx hb hown (hts (.constantLong RX8 174 (-9223372036854775808)) (oX8_bits_in _ (List.mem_of_getElem? (i := 3) rfl))) dX8_bits_27 ?_
    refine W.widen (k := 0) (n := 0) (by decide) (by decide) ?_
    exact sp_lret (u := ()) hx hb hr hlocks hS (by unfold sp_bits; (repeat' split) <;> first | (exfalso; omega) | rfl) (hP.sub [] rfl) (hD.sub [] (by decide) rfl) dX8_bits_30
def oX8_value : List Cond := [.fieldLink RX8 70 "FloatSolverModel" "thrown" "I", .constantLong RX8 174 (-9223372036854775808)]
def wpX8_value : List Cond := .code yX8_value cX8_value 2 (some .long) :: (oX8_value ++ (wsX80 ++ ((wsV RX8 160 RX8 yX8_isNode wpX8_isNode) ++ ([] : List Cond))))
theorem oX8_value_in : ∀ w ∈ oX8_value, w ∈ wpX8_value := fun w h => List.mem_cons_of_mem _ (List.mem_append_left _ h)
theorem gwoX8_value : ∀ w ∈ oX8_value, goodWord w = true := by decide +kernel
theorem gwX8_value : ∀ w ∈ wpX8_value, goodWord w = true := by
  unfold wpX8_value
  exact List.forall_mem_cons.mpr ⟨rfl, List.forall_mem_append.mpr ⟨gwoX8_value, List.forall_mem_append.mpr ⟨gwX8, List.forall_mem_append.mpr ⟨(sp_gV gwX8_isNode), fun _ h => absurd h List.not_mem_nil⟩⟩⟩⟩
set_option maxRecDepth 100000 in
theorem toX8_value : ∀ w ∈ oX8_value, w ∈ lw_tbl := by
  unfold oX8_value
  exact List.forall_mem_cons.mpr ⟨(List.mem_of_getElem? (i := 683) (by decide +kernel)), List.forall_mem_cons.mpr ⟨(List.mem_of_getElem? (i := 813) (by decide +kernel)), fun _ h => absurd h List.not_mem_nil⟩⟩
set_option maxRecDepth 100000 in
theorem tX8_value : ∀ w ∈ wpX8_value, w ∈ lw_tbl := by
  unfold wpX8_value
  exact List.forall_mem_cons.mpr ⟨(List.mem_of_getElem? (i := 826) (by rfl)), List.forall_mem_append.mpr ⟨toX8_value, List.forall_mem_append.mpr ⟨in_wsX80, List.forall_mem_append.mpr ⟨(sp_tV (List.mem_of_getElem? (i := 776) (by decide +kernel)) (List.mem_of_getElem? (i := 778) (by decide +kernel)) (List.mem_of_getElem? (i := 19) (by decide +kernel)) (List.mem_of_getElem? (i := 45) (by decide +kernel)) tX8_isNode), fun _ h => absurd h List.not_mem_nil⟩⟩⟩⟩
theorem iX8_value_X8 : ∀ w ∈ wsX80, w ∈ wpX8_value := fun w h => List.mem_cons_of_mem _ (List.mem_append_right _ (List.mem_append_left _ h))
theorem gX8_value_X8_isNode_160 : GoodIn wpX8_value (wsV RX8 160 RX8 yX8_isNode wpX8_isNode) := fun w h => ⟨List.mem_cons_of_mem _ (List.mem_append_right _ (List.mem_append_right _ (List.mem_append_left _ h))), good_of_word (sp_gV gwX8_isNode w h)⟩
set_option maxHeartbeats 4000000 in
set_option maxRecDepth 100000 in
theorem c_X8_value (l : Launch) (D : va_G) (cI cJ cZ : ClassId) (sz : Nat) (h a0 a1 a2 a3 a4 a5 a6 a7 a8 a9 a10 a11 a12 a13 a14 a15 a16 a17 : Nat) (p0 : Int32) : Met l yX8_value wpX8_value ({ frames := 2, cells := 0, slots := 0, locals := 46 }) (va_Pc [.ref h, .int p0] (sp_pre D vwCl (sp_ty cI cJ cZ) [(h, .inr (6, [.int 0, .int 0, .ref a0, .ref a1, .ref a2, .int 0, .ref a3, .ref a4, .ref a5, .ref a6, .ref a7, .ref a8, .int 0, .int 0, .int 0, .int 0, .ref a9, .ref a10, .ref a11, .ref a12, .ref a13, .ref a14, .ref a15, .ref a16, .ref a17, .int 0]))] sz)) (va_Ql (fun (r : Int64) (_ : Unit) => r = (-9223372036854775808)) (sp_B D vwCl (va_A [(h, .inr (6, [.int 0, .int 0, .ref a0, .ref a1, .ref a2, .int 0, .ref a3, .ref a4, .ref a5, .ref a6, .ref a7, .ref a8, .int 0, .int 0, .int 0, .int 0, .ref a9, .ref a10, .ref a11, .ref a12, .ref a13, .ref a14, .ref a15, .ref a16, .ref a17, .int 0]))] sz) (fun (_ : Unit) => [])) (va_A [(h, .inr (6, [.int 0, .int 0, .ref a0, .ref a1, .ref a2, .int 0, .ref a3, .ref a4, .ref a5, .ref a6, .ref a7, .ref a8, .int 0, .int 0, .int 0, .int 0, .ref a9, .ref a10, .ref a11, .ref a12, .ref a13, .ref a14, .ref a15, .ref a16, .ref a17, .int 0]))] sz)) 0 0 (va_A [(h, .inr (6, [.int 0, .int 0, .ref a0, .ref a1, .ref a2, .int 0, .ref a3, .ref a4, .ref a5, .ref a6, .ref a7, .ref a8, .int 0, .int 0, .int 0, .int 0, .ref a9, .ref a10, .ref a11, .ref a12, .ref a13, .ref a14, .ref a15, .ref a16, .ref a17, .int 0]))] sz) := by
  refine sp_ofW (Qc := fun A => va_Ql (fun (r : Int64) (_ : Unit) => r = (-9223372036854775808)) (sp_B D vwCl A (fun (_ : Unit) => [])) A) (by decide) rfl (Nat.le_of_ble_eq_true rfl) (fun p e s m below meth c A ls H locs C0 hA hS hP hK hD hl => ?_)
  obtain ⟨hx, hb, hr, hts, hown, hlocks, hml, hin⟩ := C0
  have hown : s.vm.findClass RX8 = some m.cls := hown
  have hl : lv_has ls 2 [(0, .ref h), (1, .int p0)] := hl
  have hK : va_K D vwCl [(cI, .int), (cJ, .long), (cZ, .boolean)] s := hK
  refine lv_aload_n hx hb dX8_value_0 rfl (lv_at hl 0 rfl) ?_
  refine lv_iconst (v := 0) hx hb dX8_value_1 (by decide) ?_
  refine va_put (D := D) (ci := 6) (v := .int 0) (ty := .int) (C := RX8) (T := TX8) (N := 26) hx hb hts iX8_value_X8 tyX8 tyX8_ok nmX8 hown hK hP hD hS 0 rfl rfl 0 (by decide) (hts (.fieldLink RX8 70 "FloatSolverModel" "thrown" "I") (oX8_value_in _ (List.mem_of_getElem? (i := 0) rfl))) (fun _ h9 => h9) rfl (by decide +kernel) rfl rfl (Nat.le_of_ble_eq_true rfl) dX8_value_2 (fun H locs hP hD hS => ?_)
  have hP : va_P D vwCl [(h, .inr (6, [.int 0, .int 0, .ref a0, .ref a1, .ref a2, .int 0, .ref a3, .ref a4, .ref a5, .ref a6, .ref a7, .ref a8, .int 0, .int 0, .int 0, .int 0, .ref a9, .ref a10, .ref a11, .ref a12, .ref a13, .ref a14, .ref a15, .ref a16, .ref a17, .int 0]))] H := hP
  have hD : va_D A [(h, .inr (6, [.int 0, .int 0, .ref a0, .ref a1, .ref a2, .int 0, .ref a3, .ref a4, .ref a5, .ref a6, .ref a7, .ref a8, .int 0, .int 0, .int 0, .int 0, .ref a9, .ref a10, .ref a11, .ref a12, .ref a13, .ref a14, .ref a15, .ref a16, .ref a17, .int 0]))] := hD
  refine lv_aload_n hx hb dX8_value_5 rfl (lv_at hl 0 rfl) ?_
  refine lv_iload_n hx hb dX8_value_6 rfl (lv_at hl 1 rfl) ?_
  refine sp_calli (wr := []) (wc := [(h, .inr (6, [.int 0, .int 0, .ref a0, .ref a1, .ref a2, .int 0, .ref a3, .ref a4, .ref a5, .ref a6, .ref a7, .ref a8, .int 0, .int 0, .int 0, .int 0, .ref a9, .ref a10, .ref a11, .ref a12, .ref a13, .ref a14, .ref a15, .ref a16, .ref a17, .int 0]))]) hP hD hS hA [0] [] rfl rfl (by decide) (by decide) (va_runV (As := [.int p0]) (rest := []) ⟨hx, hb, hml, hown, hts⟩ (c_X8_isNode l D cI cJ cZ H.size h a0 a1 a2 a3 a4 a5 a6 a7 a8 a9 a10 a11 a12 a13 a14 a15 a16 a17 (p0)) (cwV 1 hts gX8_value_X8_isNode_160 rfl rfl rfl (by decide +kernel) ⟨Nat.le_of_ble_eq_true rfl, Nat.le_of_ble_eq_true rfl⟩) (sp_preV (ci := 6) (q0 := 0) [.int p0] hK (hP.sub (ws' := [(h, .inr (6, [.int 0, .int 0, .ref a0, .ref a1, .ref a2, .int 0, .ref a3, .ref a4, .ref a5, .ref a6, .ref a7, .ref a8, .int 0, .int 0, .int 0, .int 0, .ref a9, .ref a10, .ref a11, .ref a12, .ref a13, .ref a14, .ref a15, .ref a16, .ref a17, .int 0]))]) [0] rfl) (hD.sub (ws' := [(h, .inr (6, [.int 0, .int 0, .ref a0, .ref a1, .ref a2, .int 0, .ref a3, .ref a4, .ref a5, .ref a6, .ref a7, .ref a8, .int 0, .int 0, .int 0, .int 0, .ref a9, .ref a10, .ref a11, .ref a12, .ref a13, .ref a14, .ref a15, .ref a16, .ref a17, .int 0]))]) [0] (by decide) rfl) rfl rfl) rfl rfl hl.1 rfl (lv_room (Nat.le_of_ble_eq_true rfl)) dX8_value_7 ⟨Nat.le_of_ble_eq_true rfl, Nat.le_of_ble_eq_true rfl⟩) (fun r1 u2 H locs hw3 hP hD hS => ?_)
  obtain rfl := hw3
  have hP : va_P D vwCl [(h, .inr (6, [.int 0, .int 0, .ref a0, .ref a1, .ref a2, .int 0, .ref a3, .ref a4, .ref a5, .ref a6, .ref a7, .ref a8, .int 0, .int 0, .int 0, .int 0, .ref a9, .ref a10, .ref a11, .ref a12, .ref a13, .ref a14, .ref a15, .ref a16, .ref a17, .int 0]))] H := hP
  have hD : va_D A [(h, .inr (6, [.int 0, .int 0, .ref a0, .ref a1, .ref a2, .int 0, .ref a3, .ref a4, .ref a5, .ref a6, .ref a7, .ref a8, .int 0, .int 0, .int 0, .int 0, .ref a9, .ref a10, .ref a11, .ref a12, .ref a13, .ref a14, .ref a15, .ref a16, .ref a17, .int 0]))] := hD
  refine lv_if_ne (tgt := 17) hx hb dX8_value_10 (by decide) (fun c4 => absurd (by decide) c4) (fun _ => ?_)
  refine lv_ldc2 (v := (-9223372036854775808)) hx hb hown (hts (.constantLong RX8 174 (-9223372036854775808)) (oX8_value_in _ (List.mem_of_getElem? (i := 1) rfl))) dX8_value_13 ?_
  refine W.widen (k := 0) (n := 0) (by decide) (by decide) ?_
  exact sp_lret (u := ()) hx hb hr hlocks hS rfl (hP.sub [] rfl) (hD.sub [] (by decide) rfl) dX8_value_16
def oX8_span : List Cond := [.fieldLink RX8 70 "FloatSolverModel" "thrown" "I", .constantLong RX8 174 (-9223372036854775808)]
def wpX8_span : List Cond := .code yX8_span cX8_span 3 (some .long) :: (oX8_span ++ (wsX80 ++ ((wsV RX8 160 RX8 yX8_isNode wpX8_isNode) ++ ([] : List Cond))))
theorem oX8_span_in : ∀ w ∈ oX8_span, w ∈ wpX8_span := fun w h => List.mem_cons_of_mem _ (List.mem_append_left _ h)
theorem gwoX8_span : ∀ w ∈ oX8_span, goodWord w = true := by decide +kernel
theorem gwX8_span : ∀ w ∈ wpX8_span, goodWord w = true := by
  unfold wpX8_span
  exact List.forall_mem_cons.mpr ⟨rfl, List.forall_mem_append.mpr ⟨gwoX8_span, List.forall_mem_append.mpr ⟨gwX8, List.forall_mem_append.mpr ⟨(sp_gV gwX8_isNode), fun _ h => absurd h List.not_mem_nil⟩⟩⟩⟩
set_option maxRecDepth 100000 in
theorem toX8_span : ∀ w ∈ oX8_span, w ∈ lw_tbl := by
  unfold oX8_span
  exact List.forall_mem_cons.mpr ⟨(List.mem_of_getElem? (i := 683) (by decide +kernel)), List.forall_mem_cons.mpr ⟨(List.mem_of_getElem? (i := 813) (by decide +kernel)), fun _ h => absurd h List.not_mem_nil⟩⟩
set_option maxRecDepth 100000 in
theorem tX8_span : ∀ w ∈ wpX8_span, w ∈ lw_tbl := by
  unfold wpX8_span
  exact List.forall_mem_cons.mpr ⟨(List.mem_of_getElem? (i := 896) (by rfl)), List.forall_mem_append.mpr ⟨toX8_span, List.forall_mem_append.mpr ⟨in_wsX80, List.forall_mem_append.mpr ⟨(sp_tV (List.mem_of_getElem? (i := 776) (by decide +kernel)) (List.mem_of_getElem? (i := 778) (by decide +kernel)) (List.mem_of_getElem? (i := 19) (by decide +kernel)) (List.mem_of_getElem? (i := 45) (by decide +kernel)) tX8_isNode), fun _ h => absurd h List.not_mem_nil⟩⟩⟩⟩
theorem iX8_span_X8 : ∀ w ∈ wsX80, w ∈ wpX8_span := fun w h => List.mem_cons_of_mem _ (List.mem_append_right _ (List.mem_append_left _ h))
theorem gX8_span_X8_isNode_160 : GoodIn wpX8_span (wsV RX8 160 RX8 yX8_isNode wpX8_isNode) := fun w h => ⟨List.mem_cons_of_mem _ (List.mem_append_right _ (List.mem_append_right _ (List.mem_append_left _ h))), good_of_word (sp_gV gwX8_isNode w h)⟩
set_option maxHeartbeats 4000000 in
set_option maxRecDepth 100000 in
theorem c_X8_span (l : Launch) (D : va_G) (cI cJ cZ : ClassId) (sz : Nat) (h a0 a1 a2 a3 a4 a5 a6 a7 a8 a9 a10 a11 a12 a13 a14 a15 a16 a17 : Nat) (p0 p1 : Int32) : Met l yX8_span wpX8_span ({ frames := 2, cells := 0, slots := 0, locals := 46 }) (va_Pc [.ref h, .int p0, .int p1] (sp_pre D vwCl (sp_ty cI cJ cZ) [(h, .inr (6, [.int 0, .int 0, .ref a0, .ref a1, .ref a2, .int 0, .ref a3, .ref a4, .ref a5, .ref a6, .ref a7, .ref a8, .int 0, .int 0, .int 0, .int 0, .ref a9, .ref a10, .ref a11, .ref a12, .ref a13, .ref a14, .ref a15, .ref a16, .ref a17, .int 0]))] sz)) (va_Ql (fun (r : Int64) (_ : Unit) => r = (-9223372036854775808)) (sp_B D vwCl (va_A [(h, .inr (6, [.int 0, .int 0, .ref a0, .ref a1, .ref a2, .int 0, .ref a3, .ref a4, .ref a5, .ref a6, .ref a7, .ref a8, .int 0, .int 0, .int 0, .int 0, .ref a9, .ref a10, .ref a11, .ref a12, .ref a13, .ref a14, .ref a15, .ref a16, .ref a17, .int 0]))] sz) (fun (_ : Unit) => [])) (va_A [(h, .inr (6, [.int 0, .int 0, .ref a0, .ref a1, .ref a2, .int 0, .ref a3, .ref a4, .ref a5, .ref a6, .ref a7, .ref a8, .int 0, .int 0, .int 0, .int 0, .ref a9, .ref a10, .ref a11, .ref a12, .ref a13, .ref a14, .ref a15, .ref a16, .ref a17, .int 0]))] sz)) 0 0 (va_A [(h, .inr (6, [.int 0, .int 0, .ref a0, .ref a1, .ref a2, .int 0, .ref a3, .ref a4, .ref a5, .ref a6, .ref a7, .ref a8, .int 0, .int 0, .int 0, .int 0, .ref a9, .ref a10, .ref a11, .ref a12, .ref a13, .ref a14, .ref a15, .ref a16, .ref a17, .int 0]))] sz) := by
  refine sp_ofW (Qc := fun A => va_Ql (fun (r : Int64) (_ : Unit) => r = (-9223372036854775808)) (sp_B D vwCl A (fun (_ : Unit) => [])) A) (by decide) rfl (Nat.le_of_ble_eq_true rfl) (fun p e s m below meth c A ls H locs C0 hA hS hP hK hD hl => ?_)
  obtain ⟨hx, hb, hr, hts, hown, hlocks, hml, hin⟩ := C0
  have hown : s.vm.findClass RX8 = some m.cls := hown
  have hl : lv_has ls 3 [(0, .ref h), (1, .int p0), (2, .int p1)] := hl
  have hK : va_K D vwCl [(cI, .int), (cJ, .long), (cZ, .boolean)] s := hK
  refine lv_aload_n hx hb dX8_span_0 rfl (lv_at hl 0 rfl) ?_
  refine lv_iconst (v := 0) hx hb dX8_span_1 (by decide) ?_
  refine va_put (D := D) (ci := 6) (v := .int 0) (ty := .int) (C := RX8) (T := TX8) (N := 26) hx hb hts iX8_span_X8 tyX8 tyX8_ok nmX8 hown hK hP hD hS 0 rfl rfl 0 (by decide) (hts (.fieldLink RX8 70 "FloatSolverModel" "thrown" "I") (oX8_span_in _ (List.mem_of_getElem? (i := 0) rfl))) (fun _ h9 => h9) rfl (by decide +kernel) rfl rfl (Nat.le_of_ble_eq_true rfl) dX8_span_2 (fun H locs hP hD hS => ?_)
  have hP : va_P D vwCl [(h, .inr (6, [.int 0, .int 0, .ref a0, .ref a1, .ref a2, .int 0, .ref a3, .ref a4, .ref a5, .ref a6, .ref a7, .ref a8, .int 0, .int 0, .int 0, .int 0, .ref a9, .ref a10, .ref a11, .ref a12, .ref a13, .ref a14, .ref a15, .ref a16, .ref a17, .int 0]))] H := hP
  have hD : va_D A [(h, .inr (6, [.int 0, .int 0, .ref a0, .ref a1, .ref a2, .int 0, .ref a3, .ref a4, .ref a5, .ref a6, .ref a7, .ref a8, .int 0, .int 0, .int 0, .int 0, .ref a9, .ref a10, .ref a11, .ref a12, .ref a13, .ref a14, .ref a15, .ref a16, .ref a17, .int 0]))] := hD
  refine lv_aload_n hx hb dX8_span_5 rfl (lv_at hl 0 rfl) ?_
  refine lv_iload_n hx hb dX8_span_6 rfl (lv_at hl 1 rfl) ?_
  refine sp_calli (wr := []) (wc := [(h, .inr (6, [.int 0, .int 0, .ref a0, .ref a1, .ref a2, .int 0, .ref a3, .ref a4, .ref a5, .ref a6, .ref a7, .ref a8, .int 0, .int 0, .int 0, .int 0, .ref a9, .ref a10, .ref a11, .ref a12, .ref a13, .ref a14, .ref a15, .ref a16, .ref a17, .int 0]))]) hP hD hS hA [0] [] rfl rfl (by decide) (by decide) (va_runV (As := [.int p0]) (rest := []) ⟨hx, hb, hml, hown, hts⟩ (c_X8_isNode l D cI cJ cZ H.size h a0 a1 a2 a3 a4 a5 a6 a7 a8 a9 a10 a11 a12 a13 a14 a15 a16 a17 (p0)) (cwV 1 hts gX8_span_X8_isNode_160 rfl rfl rfl (by decide +kernel) ⟨Nat.le_of_ble_eq_true rfl, Nat.le_of_ble_eq_true rfl⟩) (sp_preV (ci := 6) (q0 := 0) [.int p0] hK (hP.sub (ws' := [(h, .inr (6, [.int 0, .int 0, .ref a0, .ref a1, .ref a2, .int 0, .ref a3, .ref a4, .ref a5, .ref a6, .ref a7, .ref a8, .int 0, .int 0, .int 0, .int 0, .ref a9, .ref a10, .ref a11, .ref a12, .ref a13, .ref a14, .ref a15, .ref a16, .ref a17, .int 0]))]) [0] rfl) (hD.sub (ws' := [(h, .inr (6, [.int 0, .int 0, .ref a0, .ref a1, .ref a2, .int 0, .ref a3, .ref a4, .ref a5, .ref a6, .ref a7, .ref a8, .int 0, .int 0, .int 0, .int 0, .ref a9, .ref a10, .ref a11, .ref a12, .ref a13, .ref a14, .ref a15, .ref a16, .ref a17, .int 0]))]) [0] (by decide) rfl) rfl rfl) rfl rfl hl.1 rfl (lv_room (Nat.le_of_ble_eq_true rfl)) dX8_span_7 ⟨Nat.le_of_ble_eq_true rfl, Nat.le_of_ble_eq_true rfl⟩) (fun r1 u2 H locs hw3 hP hD hS => ?_)
  obtain rfl := hw3
  have hP : va_P D vwCl [(h, .inr (6, [.int 0, .int 0, .ref a0, .ref a1, .ref a2, .int 0, .ref a3, .ref a4, .ref a5, .ref a6, .ref a7, .ref a8, .int 0, .int 0, .int 0, .int 0, .ref a9, .ref a10, .ref a11, .ref a12, .ref a13, .ref a14, .ref a15, .ref a16, .ref a17, .int 0]))] H := hP
  have hD : va_D A [(h, .inr (6, [.int 0, .int 0, .ref a0, .ref a1, .ref a2, .int 0, .ref a3, .ref a4, .ref a5, .ref a6, .ref a7, .ref a8, .int 0, .int 0, .int 0, .int 0, .ref a9, .ref a10, .ref a11, .ref a12, .ref a13, .ref a14, .ref a15, .ref a16, .ref a17, .int 0]))] := hD
  refine lv_if_eq (tgt := 25) hx hb dX8_span_10 (by decide) (fun _ => ?_) (fun c4 => absurd (by decide) c4)
  refine lv_ldc2 (v := (-9223372036854775808)) hx hb hown (hts (.constantLong RX8 174 (-9223372036854775808)) (oX8_span_in _ (List.mem_of_getElem? (i := 1) rfl))) dX8_span_25 ?_
  refine W.widen (k := 0) (n := 0) (by decide) (by decide) ?_
  exact sp_lret (u := ()) hx hb hr hlocks hS rfl (hP.sub [] rfl) (hD.sub [] (by decide) rfl) dX8_span_28
def oX8_holds : List Cond := [.fieldLink RX8 70 "FloatSolverModel" "thrown" "I", .fieldLink RX8 167 "FloatSolverModel" "rules" "I"]
def wpX8_holds : List Cond := .code yX8_holds cX8_holds 2 (some .int) :: (oX8_holds ++ (wsX80 ++ ((va_wsS RX8 150 yX8_in wpX8_in) ++ ([] : List Cond))))
theorem oX8_holds_in : ∀ w ∈ oX8_holds, w ∈ wpX8_holds := fun w h => List.mem_cons_of_mem _ (List.mem_append_left _ h)
theorem gwoX8_holds : ∀ w ∈ oX8_holds, goodWord w = true := by decide +kernel
theorem gwX8_holds : ∀ w ∈ wpX8_holds, goodWord w = true := by
  unfold wpX8_holds
  exact List.forall_mem_cons.mpr ⟨rfl, List.forall_mem_append.mpr ⟨gwoX8_holds, List.forall_mem_append.mpr ⟨gwX8, List.forall_mem_append.mpr ⟨(sp_gS gwX8_in), fun _ h => absurd h List.not_mem_nil⟩⟩⟩⟩
set_option maxRecDepth 100000 in
theorem toX8_holds : ∀ w ∈ oX8_holds, w ∈ lw_tbl := by
  unfold oX8_holds
  exact List.forall_mem_cons.mpr ⟨(List.mem_of_getElem? (i := 683) (by decide +kernel)), List.forall_mem_cons.mpr ⟨(List.mem_of_getElem? (i := 688) (by decide +kernel)), fun _ h => absurd h List.not_mem_nil⟩⟩
set_option maxRecDepth 100000 in
theorem tX8_holds : ∀ w ∈ wpX8_holds, w ∈ lw_tbl := by
  unfold wpX8_holds
  exact List.forall_mem_cons.mpr ⟨(List.mem_of_getElem? (i := 885) (by rfl)), List.forall_mem_append.mpr ⟨toX8_holds, List.forall_mem_append.mpr ⟨in_wsX80, List.forall_mem_append.mpr ⟨(sp_tS (List.mem_of_getElem? (i := 771) (by decide +kernel)) (List.mem_of_getElem? (i := 772) (by decide +kernel)) (List.mem_of_getElem? (i := 45) (by decide +kernel)) tX8_in), fun _ h => absurd h List.not_mem_nil⟩⟩⟩⟩
theorem iX8_holds_X8 : ∀ w ∈ wsX80, w ∈ wpX8_holds := fun w h => List.mem_cons_of_mem _ (List.mem_append_right _ (List.mem_append_left _ h))
theorem gX8_holds_X8_in_150 : GoodIn wpX8_holds (va_wsS RX8 150 yX8_in wpX8_in) := fun w h => ⟨List.mem_cons_of_mem _ (List.mem_append_right _ (List.mem_append_right _ (List.mem_append_left _ h))), good_of_word (sp_gS gwX8_in w h)⟩
set_option maxHeartbeats 4000000 in
set_option maxRecDepth 100000 in
theorem c_X8_holds (l : Launch) (D : va_G) (cI cJ cZ : ClassId) (sz : Nat) (h a0 a1 a2 a3 a4 a5 a6 a7 a8 a9 a10 a11 a12 a13 a14 a15 a16 a17 : Nat) (p0 : Int32) : Met l yX8_holds wpX8_holds ({ frames := 1, cells := 0, slots := 0, locals := 25 }) (va_Pc [.ref h, .int p0] (sp_pre D vwCl (sp_ty cI cJ cZ) [(h, .inr (6, [.int 0, .int 0, .ref a0, .ref a1, .ref a2, .int 0, .ref a3, .ref a4, .ref a5, .ref a6, .ref a7, .ref a8, .int 0, .int 0, .int 0, .int 0, .ref a9, .ref a10, .ref a11, .ref a12, .ref a13, .ref a14, .ref a15, .ref a16, .ref a17, .int 0]))] sz)) (va_Qi (fun (r : Int32) (_ : Unit) => r = (-1)) (sp_B D vwCl (va_A [(h, .inr (6, [.int 0, .int 0, .ref a0, .ref a1, .ref a2, .int 0, .ref a3, .ref a4, .ref a5, .ref a6, .ref a7, .ref a8, .int 0, .int 0, .int 0, .int 0, .ref a9, .ref a10, .ref a11, .ref a12, .ref a13, .ref a14, .ref a15, .ref a16, .ref a17, .int 0]))] sz) (fun (_ : Unit) => [])) (va_A [(h, .inr (6, [.int 0, .int 0, .ref a0, .ref a1, .ref a2, .int 0, .ref a3, .ref a4, .ref a5, .ref a6, .ref a7, .ref a8, .int 0, .int 0, .int 0, .int 0, .ref a9, .ref a10, .ref a11, .ref a12, .ref a13, .ref a14, .ref a15, .ref a16, .ref a17, .int 0]))] sz)) 0 0 (va_A [(h, .inr (6, [.int 0, .int 0, .ref a0, .ref a1, .ref a2, .int 0, .ref a3, .ref a4, .ref a5, .ref a6, .ref a7, .ref a8, .int 0, .int 0, .int 0, .int 0, .ref a9, .ref a10, .ref a11, .ref a12, .ref a13, .ref a14, .ref a15, .ref a16, .ref a17, .int 0]))] sz) := by
  refine sp_ofW (Qc := fun A => va_Qi (fun (r : Int32) (_ : Unit) => r = (-1)) (sp_B D vwCl A (fun (_ : Unit) => [])) A) (by decide) rfl (Nat.le_of_ble_eq_true rfl) (fun p e s m below meth c A ls H locs C0 hA hS hP hK hD hl => ?_)
  obtain ⟨hx, hb, hr, hts, hown, hlocks, hml, hin⟩ := C0
  have hown : s.vm.findClass RX8 = some m.cls := hown
  have hl : lv_has ls 2 [(0, .ref h), (1, .int p0)] := hl
  have hK : va_K D vwCl [(cI, .int), (cJ, .long), (cZ, .boolean)] s := hK
  refine lv_aload_n hx hb dX8_holds_0 rfl (lv_at hl 0 rfl) ?_
  refine lv_iconst (v := 0) hx hb dX8_holds_1 (by decide) ?_
  refine va_put (D := D) (ci := 6) (v := .int 0) (ty := .int) (C := RX8) (T := TX8) (N := 26) hx hb hts iX8_holds_X8 tyX8 tyX8_ok nmX8 hown hK hP hD hS 0 rfl rfl 0 (by decide) (hts (.fieldLink RX8 70 "FloatSolverModel" "thrown" "I") (oX8_holds_in _ (List.mem_of_getElem? (i := 0) rfl))) (fun _ h9 => h9) rfl (by decide +kernel) rfl rfl (Nat.le_of_ble_eq_true rfl) dX8_holds_2 (fun H locs hP hD hS => ?_)
  have hP : va_P D vwCl [(h, .inr (6, [.int 0, .int 0, .ref a0, .ref a1, .ref a2, .int 0, .ref a3, .ref a4, .ref a5, .ref a6, .ref a7, .ref a8, .int 0, .int 0, .int 0, .int 0, .ref a9, .ref a10, .ref a11, .ref a12, .ref a13, .ref a14, .ref a15, .ref a16, .ref a17, .int 0]))] H := hP
  have hD : va_D A [(h, .inr (6, [.int 0, .int 0, .ref a0, .ref a1, .ref a2, .int 0, .ref a3, .ref a4, .ref a5, .ref a6, .ref a7, .ref a8, .int 0, .int 0, .int 0, .int 0, .ref a9, .ref a10, .ref a11, .ref a12, .ref a13, .ref a14, .ref a15, .ref a16, .ref a17, .int 0]))] := hD
  refine lv_iload_n hx hb dX8_holds_5 rfl (lv_at hl 1 rfl) ?_
  refine lv_i2l (v := _) hx hb dX8_holds_6 rfl ?_
  refine lv_lconst (v := 0) hx hb dX8_holds_7 (by decide) ?_
  refine lv_aload_n hx hb dX8_holds_8 rfl (lv_at hl 0 rfl) ?_
  refine va_get (D := D) (ci := 6) (v := .int 0) (C := RX8) (T := TX8) (N := 26) hx hb hts iX8_holds_X8 hown hK hP 0 rfl rfl 5 (by decide) (hts (.fieldLink RX8 167 "FloatSolverModel" "rules" "I") (oX8_holds_in _ (List.mem_of_getElem? (i := 1) rfl))) (fun _ h9 => h9) rfl dX8_holds_9 ?_
  refine lv_iconst (v := 1) hx hb dX8_holds_12 (by decide) ?_
  refine lv_isub hx hb dX8_holds_13 ?_
  refine lv_topi (fun y1 e2 => ?_)
  obtain rfl : y1 = (-1) := e2.trans (by decide)
  refine lv_i2l (v := _) hx hb dX8_holds_14 rfl ?_
  refine lv_topl (fun y3 e4 => ?_)
  obtain rfl : y3 = (-1) := e4.trans (by decide)
  refine sp_calli (wr := [(h, .inr (6, [.int 0, .int 0, .ref a0, .ref a1, .ref a2, .int 0, .ref a3, .ref a4, .ref a5, .ref a6, .ref a7, .ref a8, .int 0, .int 0, .int 0, .int 0, .ref a9, .ref a10, .ref a11, .ref a12, .ref a13, .ref a14, .ref a15, .ref a16, .ref a17, .int 0]))]) (wc := []) hP hD hS hA [] [0] rfl rfl (by decide) (by decide) (va_runS (As := [.long (p0 : Int32).toInt64, .long 0, .long (-1)]) (rest := []) ⟨hx, hb, hml, hown, hts⟩ (c_X8_in l D cI cJ cZ H.size ((p0 : Int32).toInt64) (0) ((-1))) (va_cwS 3 hts gX8_holds_X8_in_150 rfl rfl rfl (by decide +kernel) ⟨Nat.le_of_ble_eq_true rfl, Nat.le_of_ble_eq_true rfl⟩) (sp_preS [.long (p0 : Int32).toInt64, .long 0, .long (-1)] hK (hP.sub (ws' := []) [] rfl) (hD.sub (ws' := []) [] (by decide) rfl)) rfl rfl hl.1 rfl (lv_room (Nat.le_of_ble_eq_true rfl)) dX8_holds_15 ⟨Nat.le_of_ble_eq_true rfl, Nat.le_of_ble_eq_true rfl⟩) (fun r5 u6 H locs hw7 hP hD hS => ?_)
  rcases hw7 with ⟨rfl, h8⟩ | ⟨rfl, h8⟩
  · skip
    have h8 : (0 : Int) ≤ (p0 : Int32).toInt ∧ (p0 : Int32).toInt ≤ (-1 : Int) := (by have h9 := h8; simp only [Int32.toInt_toInt64] at h9; exact h9)
    exact absurd h8 (by omega)
  · skip
    have h8 : ¬ ((0 : Int) ≤ (p0 : Int32).toInt ∧ (p0 : Int32).toInt ≤ (-1 : Int)) := (by have h9 := h8; simp only [Int32.toInt_toInt64] at h9; exact h9)
    have hP : va_P D vwCl [(h, .inr (6, [.int 0, .int 0, .ref a0, .ref a1, .ref a2, .int 0, .ref a3, .ref a4, .ref a5, .ref a6, .ref a7, .ref a8, .int 0, .int 0, .int 0, .int 0, .ref a9, .ref a10, .ref a11, .ref a12, .ref a13, .ref a14, .ref a15, .ref a16, .ref a17, .int 0]))] H := hP
    have hD : va_D A [(h, .inr (6, [.int 0, .int 0, .ref a0, .ref a1, .ref a2, .int 0, .ref a3, .ref a4, .ref a5, .ref a6, .ref a7, .ref a8, .int 0, .int 0, .int 0, .int 0, .ref a9, .ref a10, .ref a11, .ref a12, .ref a13, .ref a14, .ref a15, .ref a16, .ref a17, .int 0]))] := hD
    refine lv_if_ne (tgt := 23) hx hb dX8_holds_18 (by decide) (fun c9 => absurd (by decide) c9) (fun _ => ?_)
    refine lv_iconst (v := (-1)) hx hb dX8_holds_21 (by decide) ?_
    refine W.widen (k := 0) (n := 0) (by decide) (by decide) ?_
    exact sp_iret (u := ()) hx hb hr hlocks hS rfl (hP.sub [] rfl) (hD.sub [] (by decide) rfl) dX8_holds_22
def oX8_judge : List Cond := [.fieldLink RX8 70 "FloatSolverModel" "thrown" "I", .fieldLink RX8 167 "FloatSolverModel" "rules" "I"]
def wpX8_judge : List Cond := .code yX8_judge cX8_judge 2 (some .int) :: (oX8_judge ++ (wsX80 ++ ((va_wsS RX8 150 yX8_in wpX8_in) ++ ([] : List Cond))))
theorem oX8_judge_in : ∀ w ∈ oX8_judge, w ∈ wpX8_judge := fun w h => List.mem_cons_of_mem _ (List.mem_append_left _ h)
theorem gwoX8_judge : ∀ w ∈ oX8_judge, goodWord w = true := by decide +kernel
theorem gwX8_judge : ∀ w ∈ wpX8_judge, goodWord w = true := by
  unfold wpX8_judge
  exact List.forall_mem_cons.mpr ⟨rfl, List.forall_mem_append.mpr ⟨gwoX8_judge, List.forall_mem_append.mpr ⟨gwX8, List.forall_mem_append.mpr ⟨(sp_gS gwX8_in), fun _ h => absurd h List.not_mem_nil⟩⟩⟩⟩
set_option maxRecDepth 100000 in
theorem toX8_judge : ∀ w ∈ oX8_judge, w ∈ lw_tbl := by
  unfold oX8_judge
  exact List.forall_mem_cons.mpr ⟨(List.mem_of_getElem? (i := 683) (by decide +kernel)), List.forall_mem_cons.mpr ⟨(List.mem_of_getElem? (i := 688) (by decide +kernel)), fun _ h => absurd h List.not_mem_nil⟩⟩
set_option maxRecDepth 100000 in
theorem tX8_judge : ∀ w ∈ wpX8_judge, w ∈ lw_tbl := by
  unfold wpX8_judge
  exact List.forall_mem_cons.mpr ⟨(List.mem_of_getElem? (i := 932) (by rfl)), List.forall_mem_append.mpr ⟨toX8_judge, List.forall_mem_append.mpr ⟨in_wsX80, List.forall_mem_append.mpr ⟨(sp_tS (List.mem_of_getElem? (i := 771) (by decide +kernel)) (List.mem_of_getElem? (i := 772) (by decide +kernel)) (List.mem_of_getElem? (i := 45) (by decide +kernel)) tX8_in), fun _ h => absurd h List.not_mem_nil⟩⟩⟩⟩
theorem iX8_judge_X8 : ∀ w ∈ wsX80, w ∈ wpX8_judge := fun w h => List.mem_cons_of_mem _ (List.mem_append_right _ (List.mem_append_left _ h))
theorem gX8_judge_X8_in_150 : GoodIn wpX8_judge (va_wsS RX8 150 yX8_in wpX8_in) := fun w h => ⟨List.mem_cons_of_mem _ (List.mem_append_right _ (List.mem_append_right _ (List.mem_append_left _ h))), good_of_word (sp_gS gwX8_in w h)⟩
set_option maxHeartbeats 4000000 in
set_option maxRecDepth 100000 in
theorem c_X8_judge (l : Launch) (D : va_G) (cI cJ cZ : ClassId) (sz : Nat) (h a0 a1 a2 a3 a4 a5 a6 a7 a8 a9 a10 a11 a12 a13 a14 a15 a16 a17 : Nat) (p0 : Int32) : Met l yX8_judge wpX8_judge ({ frames := 1, cells := 0, slots := 0, locals := 25 }) (va_Pc [.ref h, .int p0] (sp_pre D vwCl (sp_ty cI cJ cZ) [(h, .inr (6, [.int 0, .int 0, .ref a0, .ref a1, .ref a2, .int 0, .ref a3, .ref a4, .ref a5, .ref a6, .ref a7, .ref a8, .int 0, .int 0, .int 0, .int 0, .ref a9, .ref a10, .ref a11, .ref a12, .ref a13, .ref a14, .ref a15, .ref a16, .ref a17, .int 0]))] sz)) (va_Qi (fun (r : Int32) (_ : Unit) => r = (-1)) (sp_B D vwCl (va_A [(h, .inr (6, [.int 0, .int 0, .ref a0, .ref a1, .ref a2, .int 0, .ref a3, .ref a4, .ref a5, .ref a6, .ref a7, .ref a8, .int 0, .int 0, .int 0, .int 0, .ref a9, .ref a10, .ref a11, .ref a12, .ref a13, .ref a14, .ref a15, .ref a16, .ref a17, .int 0]))] sz) (fun (_ : Unit) => [])) (va_A [(h, .inr (6, [.int 0, .int 0, .ref a0, .ref a1, .ref a2, .int 0, .ref a3, .ref a4, .ref a5, .ref a6, .ref a7, .ref a8, .int 0, .int 0, .int 0, .int 0, .ref a9, .ref a10, .ref a11, .ref a12, .ref a13, .ref a14, .ref a15, .ref a16, .ref a17, .int 0]))] sz)) 0 0 (va_A [(h, .inr (6, [.int 0, .int 0, .ref a0, .ref a1, .ref a2, .int 0, .ref a3, .ref a4, .ref a5, .ref a6, .ref a7, .ref a8, .int 0, .int 0, .int 0, .int 0, .ref a9, .ref a10, .ref a11, .ref a12, .ref a13, .ref a14, .ref a15, .ref a16, .ref a17, .int 0]))] sz) := by
  refine sp_ofW (Qc := fun A => va_Qi (fun (r : Int32) (_ : Unit) => r = (-1)) (sp_B D vwCl A (fun (_ : Unit) => [])) A) (by decide) rfl (Nat.le_of_ble_eq_true rfl) (fun p e s m below meth c A ls H locs C0 hA hS hP hK hD hl => ?_)
  obtain ⟨hx, hb, hr, hts, hown, hlocks, hml, hin⟩ := C0
  have hown : s.vm.findClass RX8 = some m.cls := hown
  have hl : lv_has ls 2 [(0, .ref h), (1, .int p0)] := hl
  have hK : va_K D vwCl [(cI, .int), (cJ, .long), (cZ, .boolean)] s := hK
  refine lv_aload_n hx hb dX8_judge_0 rfl (lv_at hl 0 rfl) ?_
  refine lv_iconst (v := 0) hx hb dX8_judge_1 (by decide) ?_
  refine va_put (D := D) (ci := 6) (v := .int 0) (ty := .int) (C := RX8) (T := TX8) (N := 26) hx hb hts iX8_judge_X8 tyX8 tyX8_ok nmX8 hown hK hP hD hS 0 rfl rfl 0 (by decide) (hts (.fieldLink RX8 70 "FloatSolverModel" "thrown" "I") (oX8_judge_in _ (List.mem_of_getElem? (i := 0) rfl))) (fun _ h9 => h9) rfl (by decide +kernel) rfl rfl (Nat.le_of_ble_eq_true rfl) dX8_judge_2 (fun H locs hP hD hS => ?_)
  have hP : va_P D vwCl [(h, .inr (6, [.int 0, .int 0, .ref a0, .ref a1, .ref a2, .int 0, .ref a3, .ref a4, .ref a5, .ref a6, .ref a7, .ref a8, .int 0, .int 0, .int 0, .int 0, .ref a9, .ref a10, .ref a11, .ref a12, .ref a13, .ref a14, .ref a15, .ref a16, .ref a17, .int 0]))] H := hP
  have hD : va_D A [(h, .inr (6, [.int 0, .int 0, .ref a0, .ref a1, .ref a2, .int 0, .ref a3, .ref a4, .ref a5, .ref a6, .ref a7, .ref a8, .int 0, .int 0, .int 0, .int 0, .ref a9, .ref a10, .ref a11, .ref a12, .ref a13, .ref a14, .ref a15, .ref a16, .ref a17, .int 0]))] := hD
  refine lv_iload_n hx hb dX8_judge_5 rfl (lv_at hl 1 rfl) ?_
  refine lv_i2l (v := _) hx hb dX8_judge_6 rfl ?_
  refine lv_lconst (v := 0) hx hb dX8_judge_7 (by decide) ?_
  refine lv_aload_n hx hb dX8_judge_8 rfl (lv_at hl 0 rfl) ?_
  refine va_get (D := D) (ci := 6) (v := .int 0) (C := RX8) (T := TX8) (N := 26) hx hb hts iX8_judge_X8 hown hK hP 0 rfl rfl 5 (by decide) (hts (.fieldLink RX8 167 "FloatSolverModel" "rules" "I") (oX8_judge_in _ (List.mem_of_getElem? (i := 1) rfl))) (fun _ h9 => h9) rfl dX8_judge_9 ?_
  refine lv_iconst (v := 1) hx hb dX8_judge_12 (by decide) ?_
  refine lv_isub hx hb dX8_judge_13 ?_
  refine lv_topi (fun y1 e2 => ?_)
  obtain rfl : y1 = (-1) := e2.trans (by decide)
  refine lv_i2l (v := _) hx hb dX8_judge_14 rfl ?_
  refine lv_topl (fun y3 e4 => ?_)
  obtain rfl : y3 = (-1) := e4.trans (by decide)
  refine sp_calli (wr := [(h, .inr (6, [.int 0, .int 0, .ref a0, .ref a1, .ref a2, .int 0, .ref a3, .ref a4, .ref a5, .ref a6, .ref a7, .ref a8, .int 0, .int 0, .int 0, .int 0, .ref a9, .ref a10, .ref a11, .ref a12, .ref a13, .ref a14, .ref a15, .ref a16, .ref a17, .int 0]))]) (wc := []) hP hD hS hA [] [0] rfl rfl (by decide) (by decide) (va_runS (As := [.long (p0 : Int32).toInt64, .long 0, .long (-1)]) (rest := []) ⟨hx, hb, hml, hown, hts⟩ (c_X8_in l D cI cJ cZ H.size ((p0 : Int32).toInt64) (0) ((-1))) (va_cwS 3 hts gX8_judge_X8_in_150 rfl rfl rfl (by decide +kernel) ⟨Nat.le_of_ble_eq_true rfl, Nat.le_of_ble_eq_true rfl⟩) (sp_preS [.long (p0 : Int32).toInt64, .long 0, .long (-1)] hK (hP.sub (ws' := []) [] rfl) (hD.sub (ws' := []) [] (by decide) rfl)) rfl rfl hl.1 rfl (lv_room (Nat.le_of_ble_eq_true rfl)) dX8_judge_15 ⟨Nat.le_of_ble_eq_true rfl, Nat.le_of_ble_eq_true rfl⟩) (fun r5 u6 H locs hw7 hP hD hS => ?_)
  rcases hw7 with ⟨rfl, h8⟩ | ⟨rfl, h8⟩
  · skip
    have h8 : (0 : Int) ≤ (p0 : Int32).toInt ∧ (p0 : Int32).toInt ≤ (-1 : Int) := (by have h9 := h8; simp only [Int32.toInt_toInt64] at h9; exact h9)
    exact absurd h8 (by omega)
  · skip
    have h8 : ¬ ((0 : Int) ≤ (p0 : Int32).toInt ∧ (p0 : Int32).toInt ≤ (-1 : Int)) := (by have h9 := h8; simp only [Int32.toInt_toInt64] at h9; exact h9)
    have hP : va_P D vwCl [(h, .inr (6, [.int 0, .int 0, .ref a0, .ref a1, .ref a2, .int 0, .ref a3, .ref a4, .ref a5, .ref a6, .ref a7, .ref a8, .int 0, .int 0, .int 0, .int 0, .ref a9, .ref a10, .ref a11, .ref a12, .ref a13, .ref a14, .ref a15, .ref a16, .ref a17, .int 0]))] H := hP
    have hD : va_D A [(h, .inr (6, [.int 0, .int 0, .ref a0, .ref a1, .ref a2, .int 0, .ref a3, .ref a4, .ref a5, .ref a6, .ref a7, .ref a8, .int 0, .int 0, .int 0, .int 0, .ref a9, .ref a10, .ref a11, .ref a12, .ref a13, .ref a14, .ref a15, .ref a16, .ref a17, .int 0]))] := hD
    refine lv_if_ne (tgt := 23) hx hb dX8_judge_18 (by decide) (fun c9 => absurd (by decide) c9) (fun _ => ?_)
    refine lv_iconst (v := (-1)) hx hb dX8_judge_21 (by decide) ?_
    refine W.widen (k := 0) (n := 0) (by decide) (by decide) ?_
    exact sp_iret (u := ()) hx hb hr hlocks hS rfl (hP.sub [] rfl) (hD.sub [] (by decide) rfl) dX8_judge_22
def oX8_solved : List Cond := [.fieldLink RX8 70 "FloatSolverModel" "thrown" "I", .fieldLink RX8 236 "FloatSolverModel" "isSolved" "Z", .constantLong RX8 174 (-9223372036854775808)]
def wpX8_solved : List Cond := .code yX8_solved cX8_solved 2 (some .long) :: (oX8_solved ++ (wsX80 ++ ([] : List Cond)))
theorem oX8_solved_in : ∀ w ∈ oX8_solved, w ∈ wpX8_solved := fun w h => List.mem_cons_of_mem _ (List.mem_append_left _ h)
theorem gwoX8_solved : ∀ w ∈ oX8_solved, goodWord w = true := by decide +kernel
theorem gwX8_solved : ∀ w ∈ wpX8_solved, goodWord w = true := by
  unfold wpX8_solved
  exact List.forall_mem_cons.mpr ⟨rfl, List.forall_mem_append.mpr ⟨gwoX8_solved, List.forall_mem_append.mpr ⟨gwX8, fun _ h => absurd h List.not_mem_nil⟩⟩⟩
set_option maxRecDepth 100000 in
theorem toX8_solved : ∀ w ∈ oX8_solved, w ∈ lw_tbl := by
  unfold oX8_solved
  exact List.forall_mem_cons.mpr ⟨(List.mem_of_getElem? (i := 683) (by decide +kernel)), List.forall_mem_cons.mpr ⟨(List.mem_of_getElem? (i := 695) (by decide +kernel)), List.forall_mem_cons.mpr ⟨(List.mem_of_getElem? (i := 813) (by decide +kernel)), fun _ h => absurd h List.not_mem_nil⟩⟩⟩
set_option maxRecDepth 100000 in
theorem tX8_solved : ∀ w ∈ wpX8_solved, w ∈ lw_tbl := by
  unfold wpX8_solved
  exact List.forall_mem_cons.mpr ⟨(List.mem_of_getElem? (i := 965) (by rfl)), List.forall_mem_append.mpr ⟨toX8_solved, List.forall_mem_append.mpr ⟨in_wsX80, fun _ h => absurd h List.not_mem_nil⟩⟩⟩
theorem iX8_solved_X8 : ∀ w ∈ wsX80, w ∈ wpX8_solved := fun w h => List.mem_cons_of_mem _ (List.mem_append_right _ (List.mem_append_left _ h))
set_option maxHeartbeats 4000000 in
set_option maxRecDepth 100000 in
theorem c_X8_solved (l : Launch) (D : va_G) (cI cJ cZ : ClassId) (sz : Nat) (h a0 a1 a2 a3 a4 a5 a6 a7 a8 a9 a10 a11 a12 a13 a14 a15 a16 a17 : Nat) (p0 : Int32) : Met l yX8_solved wpX8_solved ({ frames := 1, cells := 0, slots := 0, locals := 25 }) (va_Pc [.ref h, .int p0] (sp_pre D vwCl (sp_ty cI cJ cZ) [(h, .inr (6, [.int 0, .int 0, .ref a0, .ref a1, .ref a2, .int 0, .ref a3, .ref a4, .ref a5, .ref a6, .ref a7, .ref a8, .int 0, .int 0, .int 0, .int 0, .ref a9, .ref a10, .ref a11, .ref a12, .ref a13, .ref a14, .ref a15, .ref a16, .ref a17, .int 0]))] sz)) (va_Ql (fun (r : Int64) (_ : Unit) => r = (-9223372036854775808)) (sp_B D vwCl (va_A [(h, .inr (6, [.int 0, .int 0, .ref a0, .ref a1, .ref a2, .int 0, .ref a3, .ref a4, .ref a5, .ref a6, .ref a7, .ref a8, .int 0, .int 0, .int 0, .int 0, .ref a9, .ref a10, .ref a11, .ref a12, .ref a13, .ref a14, .ref a15, .ref a16, .ref a17, .int 0]))] sz) (fun (_ : Unit) => [])) (va_A [(h, .inr (6, [.int 0, .int 0, .ref a0, .ref a1, .ref a2, .int 0, .ref a3, .ref a4, .ref a5, .ref a6, .ref a7, .ref a8, .int 0, .int 0, .int 0, .int 0, .ref a9, .ref a10, .ref a11, .ref a12, .ref a13, .ref a14, .ref a15, .ref a16, .ref a17, .int 0]))] sz)) 0 0 (va_A [(h, .inr (6, [.int 0, .int 0, .ref a0, .ref a1, .ref a2, .int 0, .ref a3, .ref a4, .ref a5, .ref a6, .ref a7, .ref a8, .int 0, .int 0, .int 0, .int 0, .ref a9, .ref a10, .ref a11, .ref a12, .ref a13, .ref a14, .ref a15, .ref a16, .ref a17, .int 0]))] sz) := by
  refine sp_ofW (Qc := fun A => va_Ql (fun (r : Int64) (_ : Unit) => r = (-9223372036854775808)) (sp_B D vwCl A (fun (_ : Unit) => [])) A) (by decide) rfl (Nat.le_of_ble_eq_true rfl) (fun p e s m below meth c A ls H locs C0 hA hS hP hK hD hl => ?_)
  obtain ⟨hx, hb, hr, hts, hown, hlocks, hml, hin⟩ := C0
  have hown : s.vm.findClass RX8 = some m.cls := hown
  have hl : lv_has ls 2 [(0, .ref h), (1, .int p0)] := hl
  have hK : va_K D vwCl [(cI, .int), (cJ, .long), (cZ, .boolean)] s := hK
  refine lv_aload_n hx hb dX8_solved_0 rfl (lv_at hl 0 rfl) ?_
  refine lv_iconst (v := 0) hx hb dX8_solved_1 (by decide) ?_
  refine va_put (D := D) (ci := 6) (v := .int 0) (ty := .int) (C := RX8) (T := TX8) (N := 26) hx hb hts iX8_solved_X8 tyX8 tyX8_ok nmX8 hown hK hP hD hS 0 rfl rfl 0 (by decide) (hts (.fieldLink RX8 70 "FloatSolverModel" "thrown" "I") (oX8_solved_in _ (List.mem_of_getElem? (i := 0) rfl))) (fun _ h9 => h9) rfl (by decide +kernel) rfl rfl (Nat.le_of_ble_eq_true rfl) dX8_solved_2 (fun H locs hP hD hS => ?_)
  have hP : va_P D vwCl [(h, .inr (6, [.int 0, .int 0, .ref a0, .ref a1, .ref a2, .int 0, .ref a3, .ref a4, .ref a5, .ref a6, .ref a7, .ref a8, .int 0, .int 0, .int 0, .int 0, .ref a9, .ref a10, .ref a11, .ref a12, .ref a13, .ref a14, .ref a15, .ref a16, .ref a17, .int 0]))] H := hP
  have hD : va_D A [(h, .inr (6, [.int 0, .int 0, .ref a0, .ref a1, .ref a2, .int 0, .ref a3, .ref a4, .ref a5, .ref a6, .ref a7, .ref a8, .int 0, .int 0, .int 0, .int 0, .ref a9, .ref a10, .ref a11, .ref a12, .ref a13, .ref a14, .ref a15, .ref a16, .ref a17, .int 0]))] := hD
  refine lv_aload_n hx hb dX8_solved_5 rfl (lv_at hl 0 rfl) ?_
  refine va_get (D := D) (ci := 6) (v := .int 0) (C := RX8) (T := TX8) (N := 26) hx hb hts iX8_solved_X8 hown hK hP 0 rfl rfl 12 (by decide) (hts (.fieldLink RX8 236 "FloatSolverModel" "isSolved" "Z") (oX8_solved_in _ (List.mem_of_getElem? (i := 1) rfl))) (fun _ h9 => h9) rfl dX8_solved_6 ?_
  refine lv_if_eq (tgt := 37) hx hb dX8_solved_9 (by decide) (fun _ => ?_) (fun c1 => absurd (by decide) c1)
  refine lv_ldc2 (v := (-9223372036854775808)) hx hb hown (hts (.constantLong RX8 174 (-9223372036854775808)) (oX8_solved_in _ (List.mem_of_getElem? (i := 2) rfl))) dX8_solved_37 ?_
  refine W.widen (k := 0) (n := 0) (by decide) (by decide) ?_
  exact sp_lret (u := ()) hx hb hr hlocks hS rfl (hP.sub [] rfl) (hD.sub [] (by decide) rfl) dX8_solved_40
def oX8_lay : List Cond := [.fieldLink RX8 63 "FloatSolverModel" "stack" "[J", .fieldLink RX8 228 "FloatSolverModel" "stacked" "I", .fieldLink RX8 44 "FloatSolverModel" "boxLow" "[J", .fieldLink RX8 47 "FloatSolverModel" "boxHigh" "[J"]
def wpX8_lay : List Cond := .code yX8_lay cX8_lay 2 none :: (oX8_lay ++ (wsX80 ++ ([] : List Cond)))
theorem oX8_lay_in : ∀ w ∈ oX8_lay, w ∈ wpX8_lay := fun w h => List.mem_cons_of_mem _ (List.mem_append_left _ h)
theorem gwoX8_lay : ∀ w ∈ oX8_lay, goodWord w = true := by decide +kernel
theorem gwX8_lay : ∀ w ∈ wpX8_lay, goodWord w = true := by
  unfold wpX8_lay
  exact List.forall_mem_cons.mpr ⟨rfl, List.forall_mem_append.mpr ⟨gwoX8_lay, List.forall_mem_append.mpr ⟨gwX8, fun _ h => absurd h List.not_mem_nil⟩⟩⟩
set_option maxRecDepth 100000 in
theorem toX8_lay : ∀ w ∈ oX8_lay, w ∈ lw_tbl := by
  unfold oX8_lay
  exact List.forall_mem_cons.mpr ⟨(List.mem_of_getElem? (i := 707) (by decide +kernel)), List.forall_mem_cons.mpr ⟨(List.mem_of_getElem? (i := 708) (by decide +kernel)), List.forall_mem_cons.mpr ⟨(List.mem_of_getElem? (i := 701) (by decide +kernel)), List.forall_mem_cons.mpr ⟨(List.mem_of_getElem? (i := 702) (by decide +kernel)), fun _ h => absurd h List.not_mem_nil⟩⟩⟩⟩
set_option maxRecDepth 100000 in
theorem tX8_lay : ∀ w ∈ wpX8_lay, w ∈ lw_tbl := by
  unfold wpX8_lay
  exact List.forall_mem_cons.mpr ⟨(List.mem_of_getElem? (i := 949) (by rfl)), List.forall_mem_append.mpr ⟨toX8_lay, List.forall_mem_append.mpr ⟨in_wsX80, fun _ h => absurd h List.not_mem_nil⟩⟩⟩
theorem iX8_lay_X8 : ∀ w ∈ wsX80, w ∈ wpX8_lay := fun w h => List.mem_cons_of_mem _ (List.mem_append_right _ (List.mem_append_left _ h))
set_option maxHeartbeats 4000000 in
set_option maxRecDepth 100000 in
theorem c_X8_lay (l : Launch) (D : va_G) (cI cJ cZ : ClassId) (sz : Nat) (h a0 a1 a2 a3 a4 a5 a6 a7 a8 a9 a10 a11 a12 a13 a14 a15 a16 a17 : Nat) (f0 f1 f2 : Nat → Int64) : Met l yX8_lay wpX8_lay ({ frames := 0, cells := 0, slots := 0, locals := 0 }) (va_Pc [.ref h] (sp_pre D vwCl (sp_ty cI cJ cZ) [(h, .inr (6, [.int 0, .int 0, .ref a0, .ref a1, .ref a2, .int 0, .ref a3, .ref a4, .ref a5, .ref a6, .ref a7, .ref a8, .int 1, .int (-1), .int 0, .int 0, .ref a9, .ref a10, .ref a11, .ref a12, .ref a13, .ref a14, .ref a15, .ref a16, .ref a17, .int 0])), (a17, .inl (cJ, 1200, .inr (.inl f0))), (a11, .inl (cJ, 4, .inr (.inl f1))), (a12, .inl (cJ, 4, .inr (.inl f2)))] sz)) (va_Qv (fun (u : (Nat → Int64)) => match u with | f => True) (sp_B D vwCl (va_A [(h, .inr (6, [.int 0, .int 0, .ref a0, .ref a1, .ref a2, .int 0, .ref a3, .ref a4, .ref a5, .ref a6, .ref a7, .ref a8, .int 1, .int (-1), .int 0, .int 0, .ref a9, .ref a10, .ref a11, .ref a12, .ref a13, .ref a14, .ref a15, .ref a16, .ref a17, .int 0])), (a17, .inl (cJ, 1200, .inr (.inl f0))), (a11, .inl (cJ, 4, .inr (.inl f1))), (a12, .inl (cJ, 4, .inr (.inl f2)))] sz) (fun (u : (Nat → Int64)) => match u with | f => [(h, .inr (6, [.int 0, .int 0, .ref a0, .ref a1, .ref a2, .int 0, .ref a3, .ref a4, .ref a5, .ref a6, .ref a7, .ref a8, .int 1, .int (-1), .int 0, .int 0, .ref a9, .ref a10, .ref a11, .ref a12, .ref a13, .ref a14, .ref a15, .ref a16, .ref a17, .int 1])), (a17, .inl (cJ, 1200, .inr (.inl f))), (a11, .inl (cJ, 4, .inr (.inl f1))), (a12, .inl (cJ, 4, .inr (.inl f2)))])) (va_A [(h, .inr (6, [.int 0, .int 0, .ref a0, .ref a1, .ref a2, .int 0, .ref a3, .ref a4, .ref a5, .ref a6, .ref a7, .ref a8, .int 1, .int (-1), .int 0, .int 0, .ref a9, .ref a10, .ref a11, .ref a12, .ref a13, .ref a14, .ref a15, .ref a16, .ref a17, .int 0])), (a17, .inl (cJ, 1200, .inr (.inl f0))), (a11, .inl (cJ, 4, .inr (.inl f1))), (a12, .inl (cJ, 4, .inr (.inl f2)))] sz)) 0 0 (va_A [(h, .inr (6, [.int 0, .int 0, .ref a0, .ref a1, .ref a2, .int 0, .ref a3, .ref a4, .ref a5, .ref a6, .ref a7, .ref a8, .int 1, .int (-1), .int 0, .int 0, .ref a9, .ref a10, .ref a11, .ref a12, .ref a13, .ref a14, .ref a15, .ref a16, .ref a17, .int 0])), (a17, .inl (cJ, 1200, .inr (.inl f0))), (a11, .inl (cJ, 4, .inr (.inl f1))), (a12, .inl (cJ, 4, .inr (.inl f2)))] sz) := by
  refine sp_ofW (Qc := fun A => va_Qv (fun (u : (Nat → Int64)) => match u with | f => True) (sp_B D vwCl A (fun (u : (Nat → Int64)) => match u with | f => [(h, .inr (6, [.int 0, .int 0, .ref a0, .ref a1, .ref a2, .int 0, .ref a3, .ref a4, .ref a5, .ref a6, .ref a7, .ref a8, .int 1, .int (-1), .int 0, .int 0, .ref a9, .ref a10, .ref a11, .ref a12, .ref a13, .ref a14, .ref a15, .ref a16, .ref a17, .int 1])), (a17, .inl (cJ, 1200, .inr (.inl f))), (a11, .inl (cJ, 4, .inr (.inl f1))), (a12, .inl (cJ, 4, .inr (.inl f2)))])) A) (by decide) rfl (Nat.le_of_ble_eq_true rfl) (fun p e s m below meth c A ls H locs C0 hA hS hP hK hD hl => ?_)
  obtain ⟨hx, hb, hr, hts, hown, hlocks, hml, hin⟩ := C0
  have hown : s.vm.findClass RX8 = some m.cls := hown
  have hl : lv_has ls 2 [(0, .ref h)] := hl
  have hK : va_K D vwCl [(cI, .int), (cJ, .long), (cZ, .boolean)] s := hK
  refine lv_iconst (v := 0) hx hb dX8_lay_0 (by decide) ?_
  refine lv_istore_n (lv' := [(1, .int 0), (0, .ref h)]) hx hb dX8_lay_1 rfl hl (by decide) rfl (fun ls hl => ?_)
  refine lv_iload_n hx hb dX8_lay_2 rfl (lv_at hl 0 rfl) ?_
  refine lv_iconst (v := 4) hx hb dX8_lay_3 (by decide) ?_
  refine lv_icmp_ge (tgt := 55) hx hb dX8_lay_4 (by decide) (fun c1 => absurd c1 (by decide)) (fun _ => ?_)
  refine lv_aload_n hx hb dX8_lay_7 rfl (lv_at hl 1 rfl) ?_
  refine va_get (D := D) (ci := 6) (v := .ref a17) (C := RX8) (T := TX8) (N := 26) hx hb hts iX8_lay_X8 hown hK hP 0 rfl rfl 24 (by decide) (hts (.fieldLink RX8 63 "FloatSolverModel" "stack" "[J") (oX8_lay_in _ (List.mem_of_getElem? (i := 0) rfl))) (fun _ h9 => h9) rfl dX8_lay_8 ?_
  refine lv_bipush (v := 8) hx hb dX8_lay_11 (by decide) ?_
  refine lv_aload_n hx hb dX8_lay_13 rfl (lv_at hl 1 rfl) ?_
  refine va_get (D := D) (ci := 6) (v := .int 0) (C := RX8) (T := TX8) (N := 26) hx hb hts iX8_lay_X8 hown hK hP 0 rfl rfl 25 (by decide) (hts (.fieldLink RX8 228 "FloatSolverModel" "stacked" "I") (oX8_lay_in _ (List.mem_of_getElem? (i := 1) rfl))) (fun _ h9 => h9) rfl dX8_lay_14 ?_
  refine lv_imul hx hb dX8_lay_17 ?_
  refine lv_topi (fun y2 e3 => ?_)
  obtain rfl : y2 = 0 := e3.trans (by decide)
  refine lv_iload_n hx hb dX8_lay_18 rfl (lv_at hl 0 rfl) ?_
  refine lv_iadd hx hb dX8_lay_19 ?_
  refine lv_topi (fun y4 e5 => ?_)
  obtain rfl : y4 = 0 := e5.trans (by decide)
  refine lv_aload_n hx hb dX8_lay_20 rfl (lv_at hl 1 rfl) ?_
  refine va_get (D := D) (ci := 6) (v := .ref a11) (C := RX8) (T := TX8) (N := 26) hx hb hts iX8_lay_X8 hown hK hP 0 rfl rfl 18 (by decide) (hts (.fieldLink RX8 44 "FloatSolverModel" "boxLow" "[J") (oX8_lay_in _ (List.mem_of_getElem? (i := 2) rfl))) (fun _ h9 => h9) rfl dX8_lay_21 ?_
  refine lv_iload_n hx hb dX8_lay_24 rfl (lv_at hl 0 rfl) ?_
  refine va_lald hx hb hK hP 2 1 rfl rfl (by unfold vp_in; decide) dX8_lay_25 ?_
  refine lv_topl (fun y6 e7 => ?_)
  obtain rfl : y6 = f1 0 := e7
  refine va_last hx hb hK hP hD hS 1 1 rfl rfl (by unfold vp_in; decide) dX8_lay_26 (fun H locs hP hD hS => ?_)
  obtain ⟨f8, ef9⟩ : ∃ z9 : Nat → Int64, z9 = vp_updL f0 (0 : Int32).toNatClampNeg (f1 0) := ⟨_, rfl⟩
  rw [← ef9] at hP hD
  have hP : va_P D vwCl [(h, .inr (6, [.int 0, .int 0, .ref a0, .ref a1, .ref a2, .int 0, .ref a3, .ref a4, .ref a5, .ref a6, .ref a7, .ref a8, .int 1, .int (-1), .int 0, .int 0, .ref a9, .ref a10, .ref a11, .ref a12, .ref a13, .ref a14, .ref a15, .ref a16, .ref a17, .int 0])), (a17, .inl (cJ, 1200, .inr (.inl f8))), (a11, .inl (cJ, 4, .inr (.inl f1))), (a12, .inl (cJ, 4, .inr (.inl f2)))] H := hP
  have hD : va_D A [(h, .inr (6, [.int 0, .int 0, .ref a0, .ref a1, .ref a2, .int 0, .ref a3, .ref a4, .ref a5, .ref a6, .ref a7, .ref a8, .int 1, .int (-1), .int 0, .int 0, .ref a9, .ref a10, .ref a11, .ref a12, .ref a13, .ref a14, .ref a15, .ref a16, .ref a17, .int 0])), (a17, .inl (cJ, 1200, .inr (.inl f8))), (a11, .inl (cJ, 4, .inr (.inl f1))), (a12, .inl (cJ, 4, .inr (.inl f2)))] := hD
  refine lv_aload_n hx hb dX8_lay_27 rfl (lv_at hl 1 rfl) ?_
  refine va_get (D := D) (ci := 6) (v := .ref a17) (C := RX8) (T := TX8) (N := 26) hx hb hts iX8_lay_X8 hown hK hP 0 rfl rfl 24 (by decide) (hts (.fieldLink RX8 63 "FloatSolverModel" "stack" "[J") (oX8_lay_in _ (List.mem_of_getElem? (i := 0) rfl))) (fun _ h9 => h9) rfl dX8_lay_28 ?_
  refine lv_bipush (v := 8) hx hb dX8_lay_31 (by decide) ?_
  refine lv_aload_n hx hb dX8_lay_33 rfl (lv_at hl 1 rfl) ?_
  refine va_get (D := D) (ci := 6) (v := .int 0) (C := RX8) (T := TX8) (N := 26) hx hb hts iX8_lay_X8 hown hK hP 0 rfl rfl 25 (by decide) (hts (.fieldLink RX8 228 "FloatSolverModel" "stacked" "I") (oX8_lay_in _ (List.mem_of_getElem? (i := 1) rfl))) (fun _ h9 => h9) rfl dX8_lay_34 ?_
  refine lv_imul hx hb dX8_lay_37 ?_
  refine lv_topi (fun y10 e11 => ?_)
  obtain rfl : y10 = 0 := e11.trans (by decide)
  refine lv_iconst (v := 4) hx hb dX8_lay_38 (by decide) ?_
  refine lv_iadd hx hb dX8_lay_39 ?_
  refine lv_topi (fun y12 e13 => ?_)
  obtain rfl : y12 = 4 := e13.trans (by decide)
  refine lv_iload_n hx hb dX8_lay_40 rfl (lv_at hl 0 rfl) ?_
  refine lv_iadd hx hb dX8_lay_41 ?_
  refine lv_topi (fun y14 e15 => ?_)
  obtain rfl : y14 = 4 := e15.trans (by decide)
  refine lv_aload_n hx hb dX8_lay_42 rfl (lv_at hl 1 rfl) ?_
  refine va_get (D := D) (ci := 6) (v := .ref a12) (C := RX8) (T := TX8) (N := 26) hx hb hts iX8_lay_X8 hown hK hP 0 rfl rfl 19 (by decide) (hts (.fieldLink RX8 47 "FloatSolverModel" "boxHigh" "[J") (oX8_lay_in _ (List.mem_of_getElem? (i := 3) rfl))) (fun _ h9 => h9) rfl dX8_lay_43 ?_
  refine lv_iload_n hx hb dX8_lay_46 rfl (lv_at hl 0 rfl) ?_
  refine va_lald hx hb hK hP 3 1 rfl rfl (by unfold vp_in; decide) dX8_lay_47 ?_
  refine lv_topl (fun y16 e17 => ?_)
  obtain rfl : y16 = f2 0 := e17
  refine va_last hx hb hK hP hD hS 1 1 rfl rfl (by unfold vp_in; decide) dX8_lay_48 (fun H locs hP hD hS => ?_)
  obtain ⟨f18, ef19⟩ : ∃ z9 : Nat → Int64, z9 = vp_updL f8 (4 : Int32).toNatClampNeg (f2 0) := ⟨_, rfl⟩
  rw [← ef19] at hP hD
  have hP : va_P D vwCl [(h, .inr (6, [.int 0, .int 0, .ref a0, .ref a1, .ref a2, .int 0, .ref a3, .ref a4, .ref a5, .ref a6, .ref a7, .ref a8, .int 1, .int (-1), .int 0, .int 0, .ref a9, .ref a10, .ref a11, .ref a12, .ref a13, .ref a14, .ref a15, .ref a16, .ref a17, .int 0])), (a17, .inl (cJ, 1200, .inr (.inl f18))), (a11, .inl (cJ, 4, .inr (.inl f1))), (a12, .inl (cJ, 4, .inr (.inl f2)))] H := hP
  have hD : va_D A [(h, .inr (6, [.int 0, .int 0, .ref a0, .ref a1, .ref a2, .int 0, .ref a3, .ref a4, .ref a5, .ref a6, .ref a7, .ref a8, .int 1, .int (-1), .int 0, .int 0, .ref a9, .ref a10, .ref a11, .ref a12, .ref a13, .ref a14, .ref a15, .ref a16, .ref a17, .int 0])), (a17, .inl (cJ, 1200, .inr (.inl f18))), (a11, .inl (cJ, 4, .inr (.inl f1))), (a12, .inl (cJ, 4, .inr (.inl f2)))] := hD
  refine lv_iinc (v := 1) (lv' := [(1, .int 1), (0, .ref h)]) hx hb dX8_lay_49 hl (k := 0) rfl (by decide) (by decide) rfl (fun ls hl => ?_)
  refine lv_goto (tgt := 2) hx hb dX8_lay_52 (by decide) ?_
  refine lv_iload_n hx hb dX8_lay_2 rfl (lv_at hl 0 rfl) ?_
  refine lv_iconst (v := 4) hx hb dX8_lay_3 (by decide) ?_
  refine lv_icmp_ge (tgt := 55) hx hb dX8_lay_4 (by decide) (fun c20 => absurd c20 (by decide)) (fun _ => ?_)
  refine lv_aload_n hx hb dX8_lay_7 rfl (lv_at hl 1 rfl) ?_
  refine va_get (D := D) (ci := 6) (v := .ref a17) (C := RX8) (T := TX8) (N := 26) hx hb hts iX8_lay_X8 hown hK hP 0 rfl rfl 24 (by decide) (hts (.fieldLink RX8 63 "FloatSolverModel" "stack" "[J") (oX8_lay_in _ (List.mem_of_getElem? (i := 0) rfl))) (fun _ h9 => h9) rfl dX8_lay_8 ?_
  refine lv_bipush (v := 8) hx hb dX8_lay_11 (by decide) ?_
  refine lv_aload_n hx hb dX8_lay_13 rfl (lv_at hl 1 rfl) ?_
  refine va_get (D := D) (ci := 6) (v := .int 0) (C := RX8) (T := TX8) (N := 26) hx hb hts iX8_lay_X8 hown hK hP 0 rfl rfl 25 (by decide) (hts (.fieldLink RX8 228 "FloatSolverModel" "stacked" "I") (oX8_lay_in _ (List.mem_of_getElem? (i := 1) rfl))) (fun _ h9 => h9) rfl dX8_lay_14 ?_
  refine lv_imul hx hb dX8_lay_17 ?_
  refine lv_topi (fun y21 e22 => ?_)
  obtain rfl : y21 = 0 := e22.trans (by decide)
  refine lv_iload_n hx hb dX8_lay_18 rfl (lv_at hl 0 rfl) ?_
  refine lv_iadd hx hb dX8_lay_19 ?_
  refine lv_topi (fun y23 e24 => ?_)
  obtain rfl : y23 = 1 := e24.trans (by decide)
  refine lv_aload_n hx hb dX8_lay_20 rfl (lv_at hl 1 rfl) ?_
  refine va_get (D := D) (ci := 6) (v := .ref a11) (C := RX8) (T := TX8) (N := 26) hx hb hts iX8_lay_X8 hown hK hP 0 rfl rfl 18 (by decide) (hts (.fieldLink RX8 44 "FloatSolverModel" "boxLow" "[J") (oX8_lay_in _ (List.mem_of_getElem? (i := 2) rfl))) (fun _ h9 => h9) rfl dX8_lay_21 ?_
  refine lv_iload_n hx hb dX8_lay_24 rfl (lv_at hl 0 rfl) ?_
  refine va_lald hx hb hK hP 2 1 rfl rfl (by unfold vp_in; decide) dX8_lay_25 ?_
  refine lv_topl (fun y25 e26 => ?_)
  obtain rfl : y25 = f1 1 := e26
  refine va_last hx hb hK hP hD hS 1 1 rfl rfl (by unfold vp_in; decide) dX8_lay_26 (fun H locs hP hD hS => ?_)
  obtain ⟨f27, ef28⟩ : ∃ z9 : Nat → Int64, z9 = vp_updL f18 (1 : Int32).toNatClampNeg (f1 1) := ⟨_, rfl⟩
  rw [← ef28] at hP hD
  have hP : va_P D vwCl [(h, .inr (6, [.int 0, .int 0, .ref a0, .ref a1, .ref a2, .int 0, .ref a3, .ref a4, .ref a5, .ref a6, .ref a7, .ref a8, .int 1, .int (-1), .int 0, .int 0, .ref a9, .ref a10, .ref a11, .ref a12, .ref a13, .ref a14, .ref a15, .ref a16, .ref a17, .int 0])), (a17, .inl (cJ, 1200, .inr (.inl f27))), (a11, .inl (cJ, 4, .inr (.inl f1))), (a12, .inl (cJ, 4, .inr (.inl f2)))] H := hP
  have hD : va_D A [(h, .inr (6, [.int 0, .int 0, .ref a0, .ref a1, .ref a2, .int 0, .ref a3, .ref a4, .ref a5, .ref a6, .ref a7, .ref a8, .int 1, .int (-1), .int 0, .int 0, .ref a9, .ref a10, .ref a11, .ref a12, .ref a13, .ref a14, .ref a15, .ref a16, .ref a17, .int 0])), (a17, .inl (cJ, 1200, .inr (.inl f27))), (a11, .inl (cJ, 4, .inr (.inl f1))), (a12, .inl (cJ, 4, .inr (.inl f2)))] := hD
  refine lv_aload_n hx hb dX8_lay_27 rfl (lv_at hl 1 rfl) ?_
  refine va_get (D := D) (ci := 6) (v := .ref a17) (C := RX8) (T := TX8) (N := 26) hx hb hts iX8_lay_X8 hown hK hP 0 rfl rfl 24 (by decide) (hts (.fieldLink RX8 63 "FloatSolverModel" "stack" "[J") (oX8_lay_in _ (List.mem_of_getElem? (i := 0) rfl))) (fun _ h9 => h9) rfl dX8_lay_28 ?_
  refine lv_bipush (v := 8) hx hb dX8_lay_31 (by decide) ?_
  refine lv_aload_n hx hb dX8_lay_33 rfl (lv_at hl 1 rfl) ?_
  refine va_get (D := D) (ci := 6) (v := .int 0) (C := RX8) (T := TX8) (N := 26) hx hb hts iX8_lay_X8 hown hK hP 0 rfl rfl 25 (by decide) (hts (.fieldLink RX8 228 "FloatSolverModel" "stacked" "I") (oX8_lay_in _ (List.mem_of_getElem? (i := 1) rfl))) (fun _ h9 => h9) rfl dX8_lay_34 ?_
  refine lv_imul hx hb dX8_lay_37 ?_
  refine lv_topi (fun y29 e30 => ?_)
  obtain rfl : y29 = 0 := e30.trans (by decide)
  refine lv_iconst (v := 4) hx hb dX8_lay_38 (by decide) ?_
  refine lv_iadd hx hb dX8_lay_39 ?_
  refine lv_topi (fun y31 e32 => ?_)
  obtain rfl : y31 = 4 := e32.trans (by decide)
  refine lv_iload_n hx hb dX8_lay_40 rfl (lv_at hl 0 rfl) ?_
  refine lv_iadd hx hb dX8_lay_41 ?_
  refine lv_topi (fun y33 e34 => ?_)
  obtain rfl : y33 = 5 := e34.trans (by decide)
  refine lv_aload_n hx hb dX8_lay_42 rfl (lv_at hl 1 rfl) ?_
  refine va_get (D := D) (ci := 6) (v := .ref a12) (C := RX8) (T := TX8) (N := 26) hx hb hts iX8_lay_X8 hown hK hP 0 rfl rfl 19 (by decide) (hts (.fieldLink RX8 47 "FloatSolverModel" "boxHigh" "[J") (oX8_lay_in _ (List.mem_of_getElem? (i := 3) rfl))) (fun _ h9 => h9) rfl dX8_lay_43 ?_
  refine lv_iload_n hx hb dX8_lay_46 rfl (lv_at hl 0 rfl) ?_
  refine va_lald hx hb hK hP 3 1 rfl rfl (by unfold vp_in; decide) dX8_lay_47 ?_
  refine lv_topl (fun y35 e36 => ?_)
  obtain rfl : y35 = f2 1 := e36
  refine va_last hx hb hK hP hD hS 1 1 rfl rfl (by unfold vp_in; decide) dX8_lay_48 (fun H locs hP hD hS => ?_)
  obtain ⟨f37, ef38⟩ : ∃ z9 : Nat → Int64, z9 = vp_updL f27 (5 : Int32).toNatClampNeg (f2 1) := ⟨_, rfl⟩
  rw [← ef38] at hP hD
  have hP : va_P D vwCl [(h, .inr (6, [.int 0, .int 0, .ref a0, .ref a1, .ref a2, .int 0, .ref a3, .ref a4, .ref a5, .ref a6, .ref a7, .ref a8, .int 1, .int (-1), .int 0, .int 0, .ref a9, .ref a10, .ref a11, .ref a12, .ref a13, .ref a14, .ref a15, .ref a16, .ref a17, .int 0])), (a17, .inl (cJ, 1200, .inr (.inl f37))), (a11, .inl (cJ, 4, .inr (.inl f1))), (a12, .inl (cJ, 4, .inr (.inl f2)))] H := hP
  have hD : va_D A [(h, .inr (6, [.int 0, .int 0, .ref a0, .ref a1, .ref a2, .int 0, .ref a3, .ref a4, .ref a5, .ref a6, .ref a7, .ref a8, .int 1, .int (-1), .int 0, .int 0, .ref a9, .ref a10, .ref a11, .ref a12, .ref a13, .ref a14, .ref a15, .ref a16, .ref a17, .int 0])), (a17, .inl (cJ, 1200, .inr (.inl f37))), (a11, .inl (cJ, 4, .inr (.inl f1))), (a12, .inl (cJ, 4, .inr (.inl f2)))] := hD
  refine lv_iinc (v := 2) (lv' := [(1, .int 2), (0, .ref h)]) hx hb dX8_lay_49 hl (k := 0) rfl (by decide) (by decide) rfl (fun ls hl => ?_)
  refine lv_goto (tgt := 2) hx hb dX8_lay_52 (by decide) ?_
  refine lv_iload_n hx hb dX8_lay_2 rfl (lv_at hl 0 rfl) ?_
  refine lv_iconst (v := 4) hx hb dX8_lay_3 (by decide) ?_
  refine lv_icmp_ge (tgt := 55) hx hb dX8_lay_4 (by decide) (fun c39 => absurd c39 (by decide)) (fun _ => ?_)
  refine lv_aload_n hx hb dX8_lay_7 rfl (lv_at hl 1 rfl) ?_
  refine va_get (D := D) (ci := 6) (v := .ref a17) (C := RX8) (T := TX8) (N := 26) hx hb hts iX8_lay_X8 hown hK hP 0 rfl rfl 24 (by decide) (hts (.fieldLink RX8 63 "FloatSolverModel" "stack" "[J") (oX8_lay_in _ (List.mem_of_getElem? (i := 0) rfl))) (fun _ h9 => h9) rfl dX8_lay_8 ?_
  refine lv_bipush (v := 8) hx hb dX8_lay_11 (by decide) ?_
  refine lv_aload_n hx hb dX8_lay_13 rfl (lv_at hl 1 rfl) ?_
  refine va_get (D := D) (ci := 6) (v := .int 0) (C := RX8) (T := TX8) (N := 26) hx hb hts iX8_lay_X8 hown hK hP 0 rfl rfl 25 (by decide) (hts (.fieldLink RX8 228 "FloatSolverModel" "stacked" "I") (oX8_lay_in _ (List.mem_of_getElem? (i := 1) rfl))) (fun _ h9 => h9) rfl dX8_lay_14 ?_
  refine lv_imul hx hb dX8_lay_17 ?_
  refine lv_topi (fun y40 e41 => ?_)
  obtain rfl : y40 = 0 := e41.trans (by decide)
  refine lv_iload_n hx hb dX8_lay_18 rfl (lv_at hl 0 rfl) ?_
  refine lv_iadd hx hb dX8_lay_19 ?_
  refine lv_topi (fun y42 e43 => ?_)
  obtain rfl : y42 = 2 := e43.trans (by decide)
  refine lv_aload_n hx hb dX8_lay_20 rfl (lv_at hl 1 rfl) ?_
  refine va_get (D := D) (ci := 6) (v := .ref a11) (C := RX8) (T := TX8) (N := 26) hx hb hts iX8_lay_X8 hown hK hP 0 rfl rfl 18 (by decide) (hts (.fieldLink RX8 44 "FloatSolverModel" "boxLow" "[J") (oX8_lay_in _ (List.mem_of_getElem? (i := 2) rfl))) (fun _ h9 => h9) rfl dX8_lay_21 ?_
  refine lv_iload_n hx hb dX8_lay_24 rfl (lv_at hl 0 rfl) ?_
  refine va_lald hx hb hK hP 2 1 rfl rfl (by unfold vp_in; decide) dX8_lay_25 ?_
  refine lv_topl (fun y44 e45 => ?_)
  obtain rfl : y44 = f1 2 := e45
  refine va_last hx hb hK hP hD hS 1 1 rfl rfl (by unfold vp_in; decide) dX8_lay_26 (fun H locs hP hD hS => ?_)
  obtain ⟨f46, ef47⟩ : ∃ z9 : Nat → Int64, z9 = vp_updL f37 (2 : Int32).toNatClampNeg (f1 2) := ⟨_, rfl⟩
  rw [← ef47] at hP hD
  have hP : va_P D vwCl [(h, .inr (6, [.int 0, .int 0, .ref a0, .ref a1, .ref a2, .int 0, .ref a3, .ref a4, .ref a5, .ref a6, .ref a7, .ref a8, .int 1, .int (-1), .int 0, .int 0, .ref a9, .ref a10, .ref a11, .ref a12, .ref a13, .ref a14, .ref a15, .ref a16, .ref a17, .int 0])), (a17, .inl (cJ, 1200, .inr (.inl f46))), (a11, .inl (cJ, 4, .inr (.inl f1))), (a12, .inl (cJ, 4, .inr (.inl f2)))] H := hP
  have hD : va_D A [(h, .inr (6, [.int 0, .int 0, .ref a0, .ref a1, .ref a2, .int 0, .ref a3, .ref a4, .ref a5, .ref a6, .ref a7, .ref a8, .int 1, .int (-1), .int 0, .int 0, .ref a9, .ref a10, .ref a11, .ref a12, .ref a13, .ref a14, .ref a15, .ref a16, .ref a17, .int 0])), (a17, .inl (cJ, 1200, .inr (.inl f46))), (a11, .inl (cJ, 4, .inr (.inl f1))), (a12, .inl (cJ, 4, .inr (.inl f2)))] := hD
  refine lv_aload_n hx hb dX8_lay_27 rfl (lv_at hl 1 rfl) ?_
  refine va_get (D := D) (ci := 6) (v := .ref a17) (C := RX8) (T := TX8) (N := 26) hx hb hts iX8_lay_X8 hown hK hP 0 rfl rfl 24 (by decide) (hts (.fieldLink RX8 63 "FloatSolverModel" "stack" "[J") (oX8_lay_in _ (List.mem_of_getElem? (i := 0) rfl))) (fun _ h9 => h9) rfl dX8_lay_28 ?_
  refine lv_bipush (v := 8) hx hb dX8_lay_31 (by decide) ?_
  refine lv_aload_n hx hb dX8_lay_33 rfl (lv_at hl 1 rfl) ?_
  refine va_get (D := D) (ci := 6) (v := .int 0) (C := RX8) (T := TX8) (N := 26) hx hb hts iX8_lay_X8 hown hK hP 0 rfl rfl 25 (by decide) (hts (.fieldLink RX8 228 "FloatSolverModel" "stacked" "I") (oX8_lay_in _ (List.mem_of_getElem? (i := 1) rfl))) (fun _ h9 => h9) rfl dX8_lay_34 ?_
  refine lv_imul hx hb dX8_lay_37 ?_
  refine lv_topi (fun y48 e49 => ?_)
  obtain rfl : y48 = 0 := e49.trans (by decide)
  refine lv_iconst (v := 4) hx hb dX8_lay_38 (by decide) ?_
  refine lv_iadd hx hb dX8_lay_39 ?_
  refine lv_topi (fun y50 e51 => ?_)
  obtain rfl : y50 = 4 := e51.trans (by decide)
  refine lv_iload_n hx hb dX8_lay_40 rfl (lv_at hl 0 rfl) ?_
  refine lv_iadd hx hb dX8_lay_41 ?_
  refine lv_topi (fun y52 e53 => ?_)
  obtain rfl : y52 = 6 := e53.trans (by decide)
  refine lv_aload_n hx hb dX8_lay_42 rfl (lv_at hl 1 rfl) ?_
  refine va_get (D := D) (ci := 6) (v := .ref a12) (C := RX8) (T := TX8) (N := 26) hx hb hts iX8_lay_X8 hown hK hP 0 rfl rfl 19 (by decide) (hts (.fieldLink RX8 47 "FloatSolverModel" "boxHigh" "[J") (oX8_lay_in _ (List.mem_of_getElem? (i := 3) rfl))) (fun _ h9 => h9) rfl dX8_lay_43 ?_
  refine lv_iload_n hx hb dX8_lay_46 rfl (lv_at hl 0 rfl) ?_
  refine va_lald hx hb hK hP 3 1 rfl rfl (by unfold vp_in; decide) dX8_lay_47 ?_
  refine lv_topl (fun y54 e55 => ?_)
  obtain rfl : y54 = f2 2 := e55
  refine va_last hx hb hK hP hD hS 1 1 rfl rfl (by unfold vp_in; decide) dX8_lay_48 (fun H locs hP hD hS => ?_)
  obtain ⟨f56, ef57⟩ : ∃ z9 : Nat → Int64, z9 = vp_updL f46 (6 : Int32).toNatClampNeg (f2 2) := ⟨_, rfl⟩
  rw [← ef57] at hP hD
  have hP : va_P D vwCl [(h, .inr (6, [.int 0, .int 0, .ref a0, .ref a1, .ref a2, .int 0, .ref a3, .ref a4, .ref a5, .ref a6, .ref a7, .ref a8, .int 1, .int (-1), .int 0, .int 0, .ref a9, .ref a10, .ref a11, .ref a12, .ref a13, .ref a14, .ref a15, .ref a16, .ref a17, .int 0])), (a17, .inl (cJ, 1200, .inr (.inl f56))), (a11, .inl (cJ, 4, .inr (.inl f1))), (a12, .inl (cJ, 4, .inr (.inl f2)))] H := hP
  have hD : va_D A [(h, .inr (6, [.int 0, .int 0, .ref a0, .ref a1, .ref a2, .int 0, .ref a3, .ref a4, .ref a5, .ref a6, .ref a7, .ref a8, .int 1, .int (-1), .int 0, .int 0, .ref a9, .ref a10, .ref a11, .ref a12, .ref a13, .ref a14, .ref a15, .ref a16, .ref a17, .int 0])), (a17, .inl (cJ, 1200, .inr (.inl f56))), (a11, .inl (cJ, 4, .inr (.inl f1))), (a12, .inl (cJ, 4, .inr (.inl f2)))] := hD
  refine lv_iinc (v := 3) (lv' := [(1, .int 3), (0, .ref h)]) hx hb dX8_lay_49 hl (k := 0) rfl (by decide) (by decide) rfl (fun ls hl => ?_)
  refine lv_goto (tgt := 2) hx hb dX8_lay_52 (by decide) ?_
  refine lv_iload_n hx hb dX8_lay_2 rfl (lv_at hl 0 rfl) ?_
  refine lv_iconst (v := 4) hx hb dX8_lay_3 (by decide) ?_
  refine lv_icmp_ge (tgt := 55) hx hb dX8_lay_4 (by decide) (fun c58 => absurd c58 (by decide)) (fun _ => ?_)
  refine lv_aload_n hx hb dX8_lay_7 rfl (lv_at hl 1 rfl) ?_
  refine va_get (D := D) (ci := 6) (v := .ref a17) (C := RX8) (T := TX8) (N := 26) hx hb hts iX8_lay_X8 hown hK hP 0 rfl rfl 24 (by decide) (hts (.fieldLink RX8 63 "FloatSolverModel" "stack" "[J") (oX8_lay_in _ (List.mem_of_getElem? (i := 0) rfl))) (fun _ h9 => h9) rfl dX8_lay_8 ?_
  refine lv_bipush (v := 8) hx hb dX8_lay_11 (by decide) ?_
  refine lv_aload_n hx hb dX8_lay_13 rfl (lv_at hl 1 rfl) ?_
  refine va_get (D := D) (ci := 6) (v := .int 0) (C := RX8) (T := TX8) (N := 26) hx hb hts iX8_lay_X8 hown hK hP 0 rfl rfl 25 (by decide) (hts (.fieldLink RX8 228 "FloatSolverModel" "stacked" "I") (oX8_lay_in _ (List.mem_of_getElem? (i := 1) rfl))) (fun _ h9 => h9) rfl dX8_lay_14 ?_
  refine lv_imul hx hb dX8_lay_17 ?_
  refine lv_topi (fun y59 e60 => ?_)
  obtain rfl : y59 = 0 := e60.trans (by decide)
  refine lv_iload_n hx hb dX8_lay_18 rfl (lv_at hl 0 rfl) ?_
  refine lv_iadd hx hb dX8_lay_19 ?_
  refine lv_topi (fun y61 e62 => ?_)
  obtain rfl : y61 = 3 := e62.trans (by decide)
  refine lv_aload_n hx hb dX8_lay_20 rfl (lv_at hl 1 rfl) ?_
  refine va_get (D := D) (ci := 6) (v := .ref a11) (C := RX8) (T := TX8) (N := 26) hx hb hts iX8_lay_X8 hown hK hP 0 rfl rfl 18 (by decide) (hts (.fieldLink RX8 44 "FloatSolverModel" "boxLow" "[J") (oX8_lay_in _ (List.mem_of_getElem? (i := 2) rfl))) (fun _ h9 => h9) rfl dX8_lay_21 ?_
  refine lv_iload_n hx hb dX8_lay_24 rfl (lv_at hl 0 rfl) ?_
  refine va_lald hx hb hK hP 2 1 rfl rfl (by unfold vp_in; decide) dX8_lay_25 ?_
  refine lv_topl (fun y63 e64 => ?_)
  obtain rfl : y63 = f1 3 := e64
  refine va_last hx hb hK hP hD hS 1 1 rfl rfl (by unfold vp_in; decide) dX8_lay_26 (fun H locs hP hD hS => ?_)
  obtain ⟨f65, ef66⟩ : ∃ z9 : Nat → Int64, z9 = vp_updL f56 (3 : Int32).toNatClampNeg (f1 3) := ⟨_, rfl⟩
  rw [← ef66] at hP hD
  have hP : va_P D vwCl [(h, .inr (6, [.int 0, .int 0, .ref a0, .ref a1, .ref a2, .int 0, .ref a3, .ref a4, .ref a5, .ref a6, .ref a7, .ref a8, .int 1, .int (-1), .int 0, .int 0, .ref a9, .ref a10, .ref a11, .ref a12, .ref a13, .ref a14, .ref a15, .ref a16, .ref a17, .int 0])), (a17, .inl (cJ, 1200, .inr (.inl f65))), (a11, .inl (cJ, 4, .inr (.inl f1))), (a12, .inl (cJ, 4, .inr (.inl f2)))] H := hP
  have hD : va_D A [(h, .inr (6, [.int 0, .int 0, .ref a0, .ref a1, .ref a2, .int 0, .ref a3, .ref a4, .ref a5, .ref a6, .ref a7, .ref a8, .int 1, .int (-1), .int 0, .int 0, .ref a9, .ref a10, .ref a11, .ref a12, .ref a13, .ref a14, .ref a15, .ref a16, .ref a17, .int 0])), (a17, .inl (cJ, 1200, .inr (.inl f65))), (a11, .inl (cJ, 4, .inr (.inl f1))), (a12, .inl (cJ, 4, .inr (.inl f2)))] := hD
  refine lv_aload_n hx hb dX8_lay_27 rfl (lv_at hl 1 rfl) ?_
  refine va_get (D := D) (ci := 6) (v := .ref a17) (C := RX8) (T := TX8) (N := 26) hx hb hts iX8_lay_X8 hown hK hP 0 rfl rfl 24 (by decide) (hts (.fieldLink RX8 63 "FloatSolverModel" "stack" "[J") (oX8_lay_in _ (List.mem_of_getElem? (i := 0) rfl))) (fun _ h9 => h9) rfl dX8_lay_28 ?_
  refine lv_bipush (v := 8) hx hb dX8_lay_31 (by decide) ?_
  refine lv_aload_n hx hb dX8_lay_33 rfl (lv_at hl 1 rfl) ?_
  refine va_get (D := D) (ci := 6) (v := .int 0) (C := RX8) (T := TX8) (N := 26) hx hb hts iX8_lay_X8 hown hK hP 0 rfl rfl 25 (by decide) (hts (.fieldLink RX8 228 "FloatSolverModel" "stacked" "I") (oX8_lay_in _ (List.mem_of_getElem? (i := 1) rfl))) (fun _ h9 => h9) rfl dX8_lay_34 ?_
  refine lv_imul hx hb dX8_lay_37 ?_
  refine lv_topi (fun y67 e68 => ?_)
  obtain rfl : y67 = 0 := e68.trans (by decide)
  refine lv_iconst (v := 4) hx hb dX8_lay_38 (by decide) ?_
  refine lv_iadd hx hb dX8_lay_39 ?_
  refine lv_topi (fun y69 e70 => ?_)
  obtain rfl : y69 = 4 := e70.trans (by decide)
  refine lv_iload_n hx hb dX8_lay_40 rfl (lv_at hl 0 rfl) ?_
  refine lv_iadd hx hb dX8_lay_41 ?_
  refine lv_topi (fun y71 e72 => ?_)
  obtain rfl : y71 = 7 := e72.trans (by decide)
  refine lv_aload_n hx hb dX8_lay_42 rfl (lv_at hl 1 rfl) ?_
  refine va_get (D := D) (ci := 6) (v := .ref a12) (C := RX8) (T := TX8) (N := 26) hx hb hts iX8_lay_X8 hown hK hP 0 rfl rfl 19 (by decide) (hts (.fieldLink RX8 47 "FloatSolverModel" "boxHigh" "[J") (oX8_lay_in _ (List.mem_of_getElem? (i := 3) rfl))) (fun _ h9 => h9) rfl dX8_lay_43 ?_
  refine lv_iload_n hx hb dX8_lay_46 rfl (lv_at hl 0 rfl) ?_
  refine va_lald hx hb hK hP 3 1 rfl rfl (by unfold vp_in; decide) dX8_lay_47 ?_
  refine lv_topl (fun y73 e74 => ?_)
  obtain rfl : y73 = f2 3 := e74
  refine va_last hx hb hK hP hD hS 1 1 rfl rfl (by unfold vp_in; decide) dX8_lay_48 (fun H locs hP hD hS => ?_)
  obtain ⟨f75, ef76⟩ : ∃ z9 : Nat → Int64, z9 = vp_updL f65 (7 : Int32).toNatClampNeg (f2 3) := ⟨_, rfl⟩
  rw [← ef76] at hP hD
  have hP : va_P D vwCl [(h, .inr (6, [.int 0, .int 0, .ref a0, .ref a1, .ref a2, .int 0, .ref a3, .ref a4, .ref a5, .ref a6, .ref a7, .ref a8, .int 1, .int (-1), .int 0, .int 0, .ref a9, .ref a10, .ref a11, .ref a12, .ref a13, .ref a14, .ref a15, .ref a16, .ref a17, .int 0])), (a17, .inl (cJ, 1200, .inr (.inl f75))), (a11, .inl (cJ, 4, .inr (.inl f1))), (a12, .inl (cJ, 4, .inr (.inl f2)))] H := hP
  have hD : va_D A [(h, .inr (6, [.int 0, .int 0, .ref a0, .ref a1, .ref a2, .int 0, .ref a3, .ref a4, .ref a5, .ref a6, .ref a7, .ref a8, .int 1, .int (-1), .int 0, .int 0, .ref a9, .ref a10, .ref a11, .ref a12, .ref a13, .ref a14, .ref a15, .ref a16, .ref a17, .int 0])), (a17, .inl (cJ, 1200, .inr (.inl f75))), (a11, .inl (cJ, 4, .inr (.inl f1))), (a12, .inl (cJ, 4, .inr (.inl f2)))] := hD
  refine lv_iinc (v := 4) (lv' := [(1, .int 4), (0, .ref h)]) hx hb dX8_lay_49 hl (k := 0) rfl (by decide) (by decide) rfl (fun ls hl => ?_)
  refine lv_goto (tgt := 2) hx hb dX8_lay_52 (by decide) ?_
  refine lv_iload_n hx hb dX8_lay_2 rfl (lv_at hl 0 rfl) ?_
  refine lv_iconst (v := 4) hx hb dX8_lay_3 (by decide) ?_
  refine lv_icmp_ge (tgt := 55) hx hb dX8_lay_4 (by decide) (fun _ => ?_) (fun c77 => absurd (by decide) c77)
  refine lv_aload_n hx hb dX8_lay_55 rfl (lv_at hl 1 rfl) ?_
  refine lv_dup hx hb dX8_lay_56 rfl ?_
  refine va_get (D := D) (ci := 6) (v := .int 0) (C := RX8) (T := TX8) (N := 26) hx hb hts iX8_lay_X8 hown hK hP 0 rfl rfl 25 (by decide) (hts (.fieldLink RX8 228 "FloatSolverModel" "stacked" "I") (oX8_lay_in _ (List.mem_of_getElem? (i := 1) rfl))) (fun _ h9 => h9) rfl dX8_lay_57 ?_
  refine lv_iconst (v := 1) hx hb dX8_lay_60 (by decide) ?_
  refine lv_iadd hx hb dX8_lay_61 ?_
  refine lv_topi (fun y78 e79 => ?_)
  obtain rfl : y78 = 1 := e79.trans (by decide)
  refine va_put (D := D) (ci := 6) (v := .int 1) (ty := .int) (C := RX8) (T := TX8) (N := 26) hx hb hts iX8_lay_X8 tyX8 tyX8_ok nmX8 hown hK hP hD hS 0 rfl rfl 25 (by decide) (hts (.fieldLink RX8 228 "FloatSolverModel" "stacked" "I") (oX8_lay_in _ (List.mem_of_getElem? (i := 1) rfl))) (fun _ h9 => h9) rfl (by decide +kernel) rfl rfl (Nat.le_of_ble_eq_true rfl) dX8_lay_62 (fun H locs hP hD hS => ?_)
  have hP : va_P D vwCl [(h, .inr (6, [.int 0, .int 0, .ref a0, .ref a1, .ref a2, .int 0, .ref a3, .ref a4, .ref a5, .ref a6, .ref a7, .ref a8, .int 1, .int (-1), .int 0, .int 0, .ref a9, .ref a10, .ref a11, .ref a12, .ref a13, .ref a14, .ref a15, .ref a16, .ref a17, .int 1])), (a17, .inl (cJ, 1200, .inr (.inl f75))), (a11, .inl (cJ, 4, .inr (.inl f1))), (a12, .inl (cJ, 4, .inr (.inl f2)))] H := hP
  have hD : va_D A [(h, .inr (6, [.int 0, .int 0, .ref a0, .ref a1, .ref a2, .int 0, .ref a3, .ref a4, .ref a5, .ref a6, .ref a7, .ref a8, .int 1, .int (-1), .int 0, .int 0, .ref a9, .ref a10, .ref a11, .ref a12, .ref a13, .ref a14, .ref a15, .ref a16, .ref a17, .int 1])), (a17, .inl (cJ, 1200, .inr (.inl f75))), (a11, .inl (cJ, 4, .inr (.inl f1))), (a12, .inl (cJ, 4, .inr (.inl f2)))] := hD
  refine W.widen (k := 0) (n := 0) (by decide) (by decide) ?_
  exact sp_vret (u := f75) hx hb hr hlocks hS trivial (hP.sub [0, 1, 2, 3] rfl) (hD.sub [0, 1, 2, 3] (by decide) rfl) dX8_lay_65
def oX8_lift : List Cond := [.fieldLink RX8 228 "FloatSolverModel" "stacked" "I", .fieldLink RX8 44 "FloatSolverModel" "boxLow" "[J", .fieldLink RX8 63 "FloatSolverModel" "stack" "[J", .fieldLink RX8 47 "FloatSolverModel" "boxHigh" "[J"]
def wpX8_lift : List Cond := .code yX8_lift cX8_lift 2 none :: (oX8_lift ++ (wsX80 ++ ([] : List Cond)))
theorem oX8_lift_in : ∀ w ∈ oX8_lift, w ∈ wpX8_lift := fun w h => List.mem_cons_of_mem _ (List.mem_append_left _ h)
theorem gwoX8_lift : ∀ w ∈ oX8_lift, goodWord w = true := by decide +kernel
theorem gwX8_lift : ∀ w ∈ wpX8_lift, goodWord w = true := by
  unfold wpX8_lift
  exact List.forall_mem_cons.mpr ⟨rfl, List.forall_mem_append.mpr ⟨gwoX8_lift, List.forall_mem_append.mpr ⟨gwX8, fun _ h => absurd h List.not_mem_nil⟩⟩⟩
set_option maxRecDepth 100000 in
theorem toX8_lift : ∀ w ∈ oX8_lift, w ∈ lw_tbl := by
  unfold oX8_lift
  exact List.forall_mem_cons.mpr ⟨(List.mem_of_getElem? (i := 708) (by decide +kernel)), List.forall_mem_cons.mpr ⟨(List.mem_of_getElem? (i := 701) (by decide +kernel)), List.forall_mem_cons.mpr ⟨(List.mem_of_getElem? (i := 707) (by decide +kernel)), List.forall_mem_cons.mpr ⟨(List.mem_of_getElem? (i := 702) (by decide +kernel)), fun _ h => absurd h List.not_mem_nil⟩⟩⟩⟩
set_option maxRecDepth 100000 in
theorem tX8_lift : ∀ w ∈ wpX8_lift, w ∈ lw_tbl := by
  unfold wpX8_lift
  exact List.forall_mem_cons.mpr ⟨(List.mem_of_getElem? (i := 953) (by rfl)), List.forall_mem_append.mpr ⟨toX8_lift, List.forall_mem_append.mpr ⟨in_wsX80, fun _ h => absurd h List.not_mem_nil⟩⟩⟩
theorem iX8_lift_X8 : ∀ w ∈ wsX80, w ∈ wpX8_lift := fun w h => List.mem_cons_of_mem _ (List.mem_append_right _ (List.mem_append_left _ h))
set_option maxHeartbeats 4000000 in
set_option maxRecDepth 100000 in
theorem c_X8_lift (l : Launch) (D : va_G) (cI cJ cZ : ClassId) (sz : Nat) (h a0 a1 a2 a3 a4 a5 a6 a7 a8 a9 a10 a11 a12 a13 a14 a15 a16 a17 : Nat) (f0 f1 f2 : Nat → Int64) : Met l yX8_lift wpX8_lift ({ frames := 0, cells := 0, slots := 0, locals := 0 }) (va_Pc [.ref h] (sp_pre D vwCl (sp_ty cI cJ cZ) [(h, .inr (6, [.int 0, .int 0, .ref a0, .ref a1, .ref a2, .int 0, .ref a3, .ref a4, .ref a5, .ref a6, .ref a7, .ref a8, .int 1, .int (-1), .int 0, .int 0, .ref a9, .ref a10, .ref a11, .ref a12, .ref a13, .ref a14, .ref a15, .ref a16, .ref a17, .int 1])), (a17, .inl (cJ, 1200, .inr (.inl f0))), (a11, .inl (cJ, 4, .inr (.inl f1))), (a12, .inl (cJ, 4, .inr (.inl f2)))] sz)) (va_Qv (fun (u : (Nat → Int64) × (Nat → Int64)) => match u with | (f, g) => True) (sp_B D vwCl (va_A [(h, .inr (6, [.int 0, .int 0, .ref a0, .ref a1, .ref a2, .int 0, .ref a3, .ref a4, .ref a5, .ref a6, .ref a7, .ref a8, .int 1, .int (-1), .int 0, .int 0, .ref a9, .ref a10, .ref a11, .ref a12, .ref a13, .ref a14, .ref a15, .ref a16, .ref a17, .int 1])), (a17, .inl (cJ, 1200, .inr (.inl f0))), (a11, .inl (cJ, 4, .inr (.inl f1))), (a12, .inl (cJ, 4, .inr (.inl f2)))] sz) (fun (u : (Nat → Int64) × (Nat → Int64)) => match u with | (f, g) => [(h, .inr (6, [.int 0, .int 0, .ref a0, .ref a1, .ref a2, .int 0, .ref a3, .ref a4, .ref a5, .ref a6, .ref a7, .ref a8, .int 1, .int (-1), .int 0, .int 0, .ref a9, .ref a10, .ref a11, .ref a12, .ref a13, .ref a14, .ref a15, .ref a16, .ref a17, .int 0])), (a17, .inl (cJ, 1200, .inr (.inl f0))), (a11, .inl (cJ, 4, .inr (.inl f))), (a12, .inl (cJ, 4, .inr (.inl g)))])) (va_A [(h, .inr (6, [.int 0, .int 0, .ref a0, .ref a1, .ref a2, .int 0, .ref a3, .ref a4, .ref a5, .ref a6, .ref a7, .ref a8, .int 1, .int (-1), .int 0, .int 0, .ref a9, .ref a10, .ref a11, .ref a12, .ref a13, .ref a14, .ref a15, .ref a16, .ref a17, .int 1])), (a17, .inl (cJ, 1200, .inr (.inl f0))), (a11, .inl (cJ, 4, .inr (.inl f1))), (a12, .inl (cJ, 4, .inr (.inl f2)))] sz)) 0 0 (va_A [(h, .inr (6, [.int 0, .int 0, .ref a0, .ref a1, .ref a2, .int 0, .ref a3, .ref a4, .ref a5, .ref a6, .ref a7, .ref a8, .int 1, .int (-1), .int 0, .int 0, .ref a9, .ref a10, .ref a11, .ref a12, .ref a13, .ref a14, .ref a15, .ref a16, .ref a17, .int 1])), (a17, .inl (cJ, 1200, .inr (.inl f0))), (a11, .inl (cJ, 4, .inr (.inl f1))), (a12, .inl (cJ, 4, .inr (.inl f2)))] sz) := by
  refine sp_ofW (Qc := fun A => va_Qv (fun (u : (Nat → Int64) × (Nat → Int64)) => match u with | (f, g) => True) (sp_B D vwCl A (fun (u : (Nat → Int64) × (Nat → Int64)) => match u with | (f, g) => [(h, .inr (6, [.int 0, .int 0, .ref a0, .ref a1, .ref a2, .int 0, .ref a3, .ref a4, .ref a5, .ref a6, .ref a7, .ref a8, .int 1, .int (-1), .int 0, .int 0, .ref a9, .ref a10, .ref a11, .ref a12, .ref a13, .ref a14, .ref a15, .ref a16, .ref a17, .int 0])), (a17, .inl (cJ, 1200, .inr (.inl f0))), (a11, .inl (cJ, 4, .inr (.inl f))), (a12, .inl (cJ, 4, .inr (.inl g)))])) A) (by decide) rfl (Nat.le_of_ble_eq_true rfl) (fun p e s m below meth c A ls H locs C0 hA hS hP hK hD hl => ?_)
  obtain ⟨hx, hb, hr, hts, hown, hlocks, hml, hin⟩ := C0
  have hown : s.vm.findClass RX8 = some m.cls := hown
  have hl : lv_has ls 2 [(0, .ref h)] := hl
  have hK : va_K D vwCl [(cI, .int), (cJ, .long), (cZ, .boolean)] s := hK
  refine lv_aload_n hx hb dX8_lift_0 rfl (lv_at hl 0 rfl) ?_
  refine lv_dup hx hb dX8_lift_1 rfl ?_
  refine va_get (D := D) (ci := 6) (v := .int 1) (C := RX8) (T := TX8) (N := 26) hx hb hts iX8_lift_X8 hown hK hP 0 rfl rfl 25 (by decide) (hts (.fieldLink RX8 228 "FloatSolverModel" "stacked" "I") (oX8_lift_in _ (List.mem_of_getElem? (i := 0) rfl))) (fun _ h9 => h9) rfl dX8_lift_2 ?_
  refine lv_iconst (v := 1) hx hb dX8_lift_5 (by decide) ?_
  refine lv_isub hx hb dX8_lift_6 ?_
  refine lv_topi (fun y1 e2 => ?_)
  obtain rfl : y1 = 0 := e2.trans (by decide)
  refine va_put (D := D) (ci := 6) (v := .int 0) (ty := .int) (C := RX8) (T := TX8) (N := 26) hx hb hts iX8_lift_X8 tyX8 tyX8_ok nmX8 hown hK hP hD hS 0 rfl rfl 25 (by decide) (hts (.fieldLink RX8 228 "FloatSolverModel" "stacked" "I") (oX8_lift_in _ (List.mem_of_getElem? (i := 0) rfl))) (fun _ h9 => h9) rfl (by decide +kernel) rfl rfl (Nat.le_of_ble_eq_true rfl) dX8_lift_7 (fun H locs hP hD hS => ?_)
  have hP : va_P D vwCl [(h, .inr (6, [.int 0, .int 0, .ref a0, .ref a1, .ref a2, .int 0, .ref a3, .ref a4, .ref a5, .ref a6, .ref a7, .ref a8, .int 1, .int (-1), .int 0, .int 0, .ref a9, .ref a10, .ref a11, .ref a12, .ref a13, .ref a14, .ref a15, .ref a16, .ref a17, .int 0])), (a17, .inl (cJ, 1200, .inr (.inl f0))), (a11, .inl (cJ, 4, .inr (.inl f1))), (a12, .inl (cJ, 4, .inr (.inl f2)))] H := hP
  have hD : va_D A [(h, .inr (6, [.int 0, .int 0, .ref a0, .ref a1, .ref a2, .int 0, .ref a3, .ref a4, .ref a5, .ref a6, .ref a7, .ref a8, .int 1, .int (-1), .int 0, .int 0, .ref a9, .ref a10, .ref a11, .ref a12, .ref a13, .ref a14, .ref a15, .ref a16, .ref a17, .int 0])), (a17, .inl (cJ, 1200, .inr (.inl f0))), (a11, .inl (cJ, 4, .inr (.inl f1))), (a12, .inl (cJ, 4, .inr (.inl f2)))] := hD
  refine lv_iconst (v := 0) hx hb dX8_lift_10 (by decide) ?_
  refine lv_istore_n (lv' := [(1, .int 0), (0, .ref h)]) hx hb dX8_lift_11 rfl hl (by decide) rfl (fun ls hl => ?_)
  refine lv_iload_n hx hb dX8_lift_12 rfl (lv_at hl 0 rfl) ?_
  refine lv_iconst (v := 4) hx hb dX8_lift_13 (by decide) ?_
  refine lv_icmp_ge (tgt := 65) hx hb dX8_lift_14 (by decide) (fun c3 => absurd c3 (by decide)) (fun _ => ?_)
  refine lv_aload_n hx hb dX8_lift_17 rfl (lv_at hl 1 rfl) ?_
  refine va_get (D := D) (ci := 6) (v := .ref a11) (C := RX8) (T := TX8) (N := 26) hx hb hts iX8_lift_X8 hown hK hP 0 rfl rfl 18 (by decide) (hts (.fieldLink RX8 44 "FloatSolverModel" "boxLow" "[J") (oX8_lift_in _ (List.mem_of_getElem? (i := 1) rfl))) (fun _ h9 => h9) rfl dX8_lift_18 ?_
  refine lv_iload_n hx hb dX8_lift_21 rfl (lv_at hl 0 rfl) ?_
  refine lv_aload_n hx hb dX8_lift_22 rfl (lv_at hl 1 rfl) ?_
  refine va_get (D := D) (ci := 6) (v := .ref a17) (C := RX8) (T := TX8) (N := 26) hx hb hts iX8_lift_X8 hown hK hP 0 rfl rfl 24 (by decide) (hts (.fieldLink RX8 63 "FloatSolverModel" "stack" "[J") (oX8_lift_in _ (List.mem_of_getElem? (i := 2) rfl))) (fun _ h9 => h9) rfl dX8_lift_23 ?_
  refine lv_bipush (v := 8) hx hb dX8_lift_26 (by decide) ?_
  refine lv_aload_n hx hb dX8_lift_28 rfl (lv_at hl 1 rfl) ?_
  refine va_get (D := D) (ci := 6) (v := .int 0) (C := RX8) (T := TX8) (N := 26) hx hb hts iX8_lift_X8 hown hK hP 0 rfl rfl 25 (by decide) (hts (.fieldLink RX8 228 "FloatSolverModel" "stacked" "I") (oX8_lift_in _ (List.mem_of_getElem? (i := 0) rfl))) (fun _ h9 => h9) rfl dX8_lift_29 ?_
  refine lv_imul hx hb dX8_lift_32 ?_
  refine lv_topi (fun y4 e5 => ?_)
  obtain rfl : y4 = 0 := e5.trans (by decide)
  refine lv_iload_n hx hb dX8_lift_33 rfl (lv_at hl 0 rfl) ?_
  refine lv_iadd hx hb dX8_lift_34 ?_
  refine lv_topi (fun y6 e7 => ?_)
  obtain rfl : y6 = 0 := e7.trans (by decide)
  refine va_lald hx hb hK hP 1 1 rfl rfl (by unfold vp_in; decide) dX8_lift_35 ?_
  refine lv_topl (fun y8 e9 => ?_)
  obtain rfl : y8 = f0 0 := e9
  refine va_last hx hb hK hP hD hS 2 1 rfl rfl (by unfold vp_in; decide) dX8_lift_36 (fun H locs hP hD hS => ?_)
  obtain ⟨f10, ef11⟩ : ∃ z9 : Nat → Int64, z9 = vp_updL f1 (0 : Int32).toNatClampNeg (f0 0) := ⟨_, rfl⟩
  rw [← ef11] at hP hD
  have hP : va_P D vwCl [(h, .inr (6, [.int 0, .int 0, .ref a0, .ref a1, .ref a2, .int 0, .ref a3, .ref a4, .ref a5, .ref a6, .ref a7, .ref a8, .int 1, .int (-1), .int 0, .int 0, .ref a9, .ref a10, .ref a11, .ref a12, .ref a13, .ref a14, .ref a15, .ref a16, .ref a17, .int 0])), (a17, .inl (cJ, 1200, .inr (.inl f0))), (a11, .inl (cJ, 4, .inr (.inl f10))), (a12, .inl (cJ, 4, .inr (.inl f2)))] H := hP
  have hD : va_D A [(h, .inr (6, [.int 0, .int 0, .ref a0, .ref a1, .ref a2, .int 0, .ref a3, .ref a4, .ref a5, .ref a6, .ref a7, .ref a8, .int 1, .int (-1), .int 0, .int 0, .ref a9, .ref a10, .ref a11, .ref a12, .ref a13, .ref a14, .ref a15, .ref a16, .ref a17, .int 0])), (a17, .inl (cJ, 1200, .inr (.inl f0))), (a11, .inl (cJ, 4, .inr (.inl f10))), (a12, .inl (cJ, 4, .inr (.inl f2)))] := hD
  refine lv_aload_n hx hb dX8_lift_37 rfl (lv_at hl 1 rfl) ?_
  refine va_get (D := D) (ci := 6) (v := .ref a12) (C := RX8) (T := TX8) (N := 26) hx hb hts iX8_lift_X8 hown hK hP 0 rfl rfl 19 (by decide) (hts (.fieldLink RX8 47 "FloatSolverModel" "boxHigh" "[J") (oX8_lift_in _ (List.mem_of_getElem? (i := 3) rfl))) (fun _ h9 => h9) rfl dX8_lift_38 ?_
  refine lv_iload_n hx hb dX8_lift_41 rfl (lv_at hl 0 rfl) ?_
  refine lv_aload_n hx hb dX8_lift_42 rfl (lv_at hl 1 rfl) ?_
  refine va_get (D := D) (ci := 6) (v := .ref a17) (C := RX8) (T := TX8) (N := 26) hx hb hts iX8_lift_X8 hown hK hP 0 rfl rfl 24 (by decide) (hts (.fieldLink RX8 63 "FloatSolverModel" "stack" "[J") (oX8_lift_in _ (List.mem_of_getElem? (i := 2) rfl))) (fun _ h9 => h9) rfl dX8_lift_43 ?_
  refine lv_bipush (v := 8) hx hb dX8_lift_46 (by decide) ?_
  refine lv_aload_n hx hb dX8_lift_48 rfl (lv_at hl 1 rfl) ?_
  refine va_get (D := D) (ci := 6) (v := .int 0) (C := RX8) (T := TX8) (N := 26) hx hb hts iX8_lift_X8 hown hK hP 0 rfl rfl 25 (by decide) (hts (.fieldLink RX8 228 "FloatSolverModel" "stacked" "I") (oX8_lift_in _ (List.mem_of_getElem? (i := 0) rfl))) (fun _ h9 => h9) rfl dX8_lift_49 ?_
  refine lv_imul hx hb dX8_lift_52 ?_
  refine lv_topi (fun y12 e13 => ?_)
  obtain rfl : y12 = 0 := e13.trans (by decide)
  refine lv_iconst (v := 4) hx hb dX8_lift_53 (by decide) ?_
  refine lv_iadd hx hb dX8_lift_54 ?_
  refine lv_topi (fun y14 e15 => ?_)
  obtain rfl : y14 = 4 := e15.trans (by decide)
  refine lv_iload_n hx hb dX8_lift_55 rfl (lv_at hl 0 rfl) ?_
  refine lv_iadd hx hb dX8_lift_56 ?_
  refine lv_topi (fun y16 e17 => ?_)
  obtain rfl : y16 = 4 := e17.trans (by decide)
  refine va_lald hx hb hK hP 1 1 rfl rfl (by unfold vp_in; decide) dX8_lift_57 ?_
  refine lv_topl (fun y18 e19 => ?_)
  obtain rfl : y18 = f0 4 := e19
  refine va_last hx hb hK hP hD hS 3 1 rfl rfl (by unfold vp_in; decide) dX8_lift_58 (fun H locs hP hD hS => ?_)
  obtain ⟨f20, ef21⟩ : ∃ z9 : Nat → Int64, z9 = vp_updL f2 (0 : Int32).toNatClampNeg (f0 4) := ⟨_, rfl⟩
  rw [← ef21] at hP hD
  have hP : va_P D vwCl [(h, .inr (6, [.int 0, .int 0, .ref a0, .ref a1, .ref a2, .int 0, .ref a3, .ref a4, .ref a5, .ref a6, .ref a7, .ref a8, .int 1, .int (-1), .int 0, .int 0, .ref a9, .ref a10, .ref a11, .ref a12, .ref a13, .ref a14, .ref a15, .ref a16, .ref a17, .int 0])), (a17, .inl (cJ, 1200, .inr (.inl f0))), (a11, .inl (cJ, 4, .inr (.inl f10))), (a12, .inl (cJ, 4, .inr (.inl f20)))] H := hP
  have hD : va_D A [(h, .inr (6, [.int 0, .int 0, .ref a0, .ref a1, .ref a2, .int 0, .ref a3, .ref a4, .ref a5, .ref a6, .ref a7, .ref a8, .int 1, .int (-1), .int 0, .int 0, .ref a9, .ref a10, .ref a11, .ref a12, .ref a13, .ref a14, .ref a15, .ref a16, .ref a17, .int 0])), (a17, .inl (cJ, 1200, .inr (.inl f0))), (a11, .inl (cJ, 4, .inr (.inl f10))), (a12, .inl (cJ, 4, .inr (.inl f20)))] := hD
  refine lv_iinc (v := 1) (lv' := [(1, .int 1), (0, .ref h)]) hx hb dX8_lift_59 hl (k := 0) rfl (by decide) (by decide) rfl (fun ls hl => ?_)
  refine lv_goto (tgt := 12) hx hb dX8_lift_62 (by decide) ?_
  refine lv_iload_n hx hb dX8_lift_12 rfl (lv_at hl 0 rfl) ?_
  refine lv_iconst (v := 4) hx hb dX8_lift_13 (by decide) ?_
  refine lv_icmp_ge (tgt := 65) hx hb dX8_lift_14 (by decide) (fun c22 => absurd c22 (by decide)) (fun _ => ?_)
  refine lv_aload_n hx hb dX8_lift_17 rfl (lv_at hl 1 rfl) ?_
  refine va_get (D := D) (ci := 6) (v := .ref a11) (C := RX8) (T := TX8) (N := 26) hx hb hts iX8_lift_X8 hown hK hP 0 rfl rfl 18 (by decide) (hts (.fieldLink RX8 44 "FloatSolverModel" "boxLow" "[J") (oX8_lift_in _ (List.mem_of_getElem? (i := 1) rfl))) (fun _ h9 => h9) rfl dX8_lift_18 ?_
  refine lv_iload_n hx hb dX8_lift_21 rfl (lv_at hl 0 rfl) ?_
  refine lv_aload_n hx hb dX8_lift_22 rfl (lv_at hl 1 rfl) ?_
  refine va_get (D := D) (ci := 6) (v := .ref a17) (C := RX8) (T := TX8) (N := 26) hx hb hts iX8_lift_X8 hown hK hP 0 rfl rfl 24 (by decide) (hts (.fieldLink RX8 63 "FloatSolverModel" "stack" "[J") (oX8_lift_in _ (List.mem_of_getElem? (i := 2) rfl))) (fun _ h9 => h9) rfl dX8_lift_23 ?_
  refine lv_bipush (v := 8) hx hb dX8_lift_26 (by decide) ?_
  refine lv_aload_n hx hb dX8_lift_28 rfl (lv_at hl 1 rfl) ?_
  refine va_get (D := D) (ci := 6) (v := .int 0) (C := RX8) (T := TX8) (N := 26) hx hb hts iX8_lift_X8 hown hK hP 0 rfl rfl 25 (by decide) (hts (.fieldLink RX8 228 "FloatSolverModel" "stacked" "I") (oX8_lift_in _ (List.mem_of_getElem? (i := 0) rfl))) (fun _ h9 => h9) rfl dX8_lift_29 ?_
  refine lv_imul hx hb dX8_lift_32 ?_
  refine lv_topi (fun y23 e24 => ?_)
  obtain rfl : y23 = 0 := e24.trans (by decide)
  refine lv_iload_n hx hb dX8_lift_33 rfl (lv_at hl 0 rfl) ?_
  refine lv_iadd hx hb dX8_lift_34 ?_
  refine lv_topi (fun y25 e26 => ?_)
  obtain rfl : y25 = 1 := e26.trans (by decide)
  refine va_lald hx hb hK hP 1 1 rfl rfl (by unfold vp_in; decide) dX8_lift_35 ?_
  refine lv_topl (fun y27 e28 => ?_)
  obtain rfl : y27 = f0 1 := e28
  refine va_last hx hb hK hP hD hS 2 1 rfl rfl (by unfold vp_in; decide) dX8_lift_36 (fun H locs hP hD hS => ?_)
  obtain ⟨f29, ef30⟩ : ∃ z9 : Nat → Int64, z9 = vp_updL f10 (1 : Int32).toNatClampNeg (f0 1) := ⟨_, rfl⟩
  rw [← ef30] at hP hD
  have hP : va_P D vwCl [(h, .inr (6, [.int 0, .int 0, .ref a0, .ref a1, .ref a2, .int 0, .ref a3, .ref a4, .ref a5, .ref a6, .ref a7, .ref a8, .int 1, .int (-1), .int 0, .int 0, .ref a9, .ref a10, .ref a11, .ref a12, .ref a13, .ref a14, .ref a15, .ref a16, .ref a17, .int 0])), (a17, .inl (cJ, 1200, .inr (.inl f0))), (a11, .inl (cJ, 4, .inr (.inl f29))), (a12, .inl (cJ, 4, .inr (.inl f20)))] H := hP
  have hD : va_D A [(h, .inr (6, [.int 0, .int 0, .ref a0, .ref a1, .ref a2, .int 0, .ref a3, .ref a4, .ref a5, .ref a6, .ref a7, .ref a8, .int 1, .int (-1), .int 0, .int 0, .ref a9, .ref a10, .ref a11, .ref a12, .ref a13, .ref a14, .ref a15, .ref a16, .ref a17, .int 0])), (a17, .inl (cJ, 1200, .inr (.inl f0))), (a11, .inl (cJ, 4, .inr (.inl f29))), (a12, .inl (cJ, 4, .inr (.inl f20)))] := hD
  refine lv_aload_n hx hb dX8_lift_37 rfl (lv_at hl 1 rfl) ?_
  refine va_get (D := D) (ci := 6) (v := .ref a12) (C := RX8) (T := TX8) (N := 26) hx hb hts iX8_lift_X8 hown hK hP 0 rfl rfl 19 (by decide) (hts (.fieldLink RX8 47 "FloatSolverModel" "boxHigh" "[J") (oX8_lift_in _ (List.mem_of_getElem? (i := 3) rfl))) (fun _ h9 => h9) rfl dX8_lift_38 ?_
  refine lv_iload_n hx hb dX8_lift_41 rfl (lv_at hl 0 rfl) ?_
  refine lv_aload_n hx hb dX8_lift_42 rfl (lv_at hl 1 rfl) ?_
  refine va_get (D := D) (ci := 6) (v := .ref a17) (C := RX8) (T := TX8) (N := 26) hx hb hts iX8_lift_X8 hown hK hP 0 rfl rfl 24 (by decide) (hts (.fieldLink RX8 63 "FloatSolverModel" "stack" "[J") (oX8_lift_in _ (List.mem_of_getElem? (i := 2) rfl))) (fun _ h9 => h9) rfl dX8_lift_43 ?_
  refine lv_bipush (v := 8) hx hb dX8_lift_46 (by decide) ?_
  refine lv_aload_n hx hb dX8_lift_48 rfl (lv_at hl 1 rfl) ?_
  refine va_get (D := D) (ci := 6) (v := .int 0) (C := RX8) (T := TX8) (N := 26) hx hb hts iX8_lift_X8 hown hK hP 0 rfl rfl 25 (by decide) (hts (.fieldLink RX8 228 "FloatSolverModel" "stacked" "I") (oX8_lift_in _ (List.mem_of_getElem? (i := 0) rfl))) (fun _ h9 => h9) rfl dX8_lift_49 ?_
  refine lv_imul hx hb dX8_lift_52 ?_
  refine lv_topi (fun y31 e32 => ?_)
  obtain rfl : y31 = 0 := e32.trans (by decide)
  refine lv_iconst (v := 4) hx hb dX8_lift_53 (by decide) ?_
  refine lv_iadd hx hb dX8_lift_54 ?_
  refine lv_topi (fun y33 e34 => ?_)
  obtain rfl : y33 = 4 := e34.trans (by decide)
  refine lv_iload_n hx hb dX8_lift_55 rfl (lv_at hl 0 rfl) ?_
  refine lv_iadd hx hb dX8_lift_56 ?_
  refine lv_topi (fun y35 e36 => ?_)
  obtain rfl : y35 = 5 := e36.trans (by decide)
  refine va_lald hx hb hK hP 1 1 rfl rfl (by unfold vp_in; decide) dX8_lift_57 ?_
  refine lv_topl (fun y37 e38 => ?_)
  obtain rfl : y37 = f0 5 := e38
  refine va_last hx hb hK hP hD hS 3 1 rfl rfl (by unfold vp_in; decide) dX8_lift_58 (fun H locs hP hD hS => ?_)
  obtain ⟨f39, ef40⟩ : ∃ z9 : Nat → Int64, z9 = vp_updL f20 (1 : Int32).toNatClampNeg (f0 5) := ⟨_, rfl⟩
  rw [← ef40] at hP hD
  have hP : va_P D vwCl [(h, .inr (6, [.int 0, .int 0, .ref a0, .ref a1, .ref a2, .int 0, .ref a3, .ref a4, .ref a5, .ref a6, .ref a7, .ref a8, .int 1, .int (-1), .int 0, .int 0, .ref a9, .ref a10, .ref a11, .ref a12, .ref a13, .ref a14, .ref a15, .ref a16, .ref a17, .int 0])), (a17, .inl (cJ, 1200, .inr (.inl f0))), (a11, .inl (cJ, 4, .inr (.inl f29))), (a12, .inl (cJ, 4, .inr (.inl f39)))] H := hP
  have hD : va_D A [(h, .inr (6, [.int 0, .int 0, .ref a0, .ref a1, .ref a2, .int 0, .ref a3, .ref a4, .ref a5, .ref a6, .ref a7, .ref a8, .int 1, .int (-1), .int 0, .int 0, .ref a9, .ref a10, .ref a11, .ref a12, .ref a13, .ref a14, .ref a15, .ref a16, .ref a17, .int 0])), (a17, .inl (cJ, 1200, .inr (.inl f0))), (a11, .inl (cJ, 4, .inr (.inl f29))), (a12, .inl (cJ, 4, .inr (.inl f39)))] := hD
  refine lv_iinc (v := 2) (lv' := [(1, .int 2), (0, .ref h)]) hx hb dX8_lift_59 hl (k := 0) rfl (by decide) (by decide) rfl (fun ls hl => ?_)
  refine lv_goto (tgt := 12) hx hb dX8_lift_62 (by decide) ?_
  refine lv_iload_n hx hb dX8_lift_12 rfl (lv_at hl 0 rfl) ?_
  refine lv_iconst (v := 4) hx hb dX8_lift_13 (by decide) ?_
  refine lv_icmp_ge (tgt := 65) hx hb dX8_lift_14 (by decide) (fun c41 => absurd c41 (by decide)) (fun _ => ?_)
  refine lv_aload_n hx hb dX8_lift_17 rfl (lv_at hl 1 rfl) ?_
  refine va_get (D := D) (ci := 6) (v := .ref a11) (C := RX8) (T := TX8) (N := 26) hx hb hts iX8_lift_X8 hown hK hP 0 rfl rfl 18 (by decide) (hts (.fieldLink RX8 44 "FloatSolverModel" "boxLow" "[J") (oX8_lift_in _ (List.mem_of_getElem? (i := 1) rfl))) (fun _ h9 => h9) rfl dX8_lift_18 ?_
  refine lv_iload_n hx hb dX8_lift_21 rfl (lv_at hl 0 rfl) ?_
  refine lv_aload_n hx hb dX8_lift_22 rfl (lv_at hl 1 rfl) ?_
  refine va_get (D := D) (ci := 6) (v := .ref a17) (C := RX8) (T := TX8) (N := 26) hx hb hts iX8_lift_X8 hown hK hP 0 rfl rfl 24 (by decide) (hts (.fieldLink RX8 63 "FloatSolverModel" "stack" "[J") (oX8_lift_in _ (List.mem_of_getElem? (i := 2) rfl))) (fun _ h9 => h9) rfl dX8_lift_23 ?_
  refine lv_bipush (v := 8) hx hb dX8_lift_26 (by decide) ?_
  refine lv_aload_n hx hb dX8_lift_28 rfl (lv_at hl 1 rfl) ?_
  refine va_get (D := D) (ci := 6) (v := .int 0) (C := RX8) (T := TX8) (N := 26) hx hb hts iX8_lift_X8 hown hK hP 0 rfl rfl 25 (by decide) (hts (.fieldLink RX8 228 "FloatSolverModel" "stacked" "I") (oX8_lift_in _ (List.mem_of_getElem? (i := 0) rfl))) (fun _ h9 => h9) rfl dX8_lift_29 ?_
  refine lv_imul hx hb dX8_lift_32 ?_
  refine lv_topi (fun y42 e43 => ?_)
  obtain rfl : y42 = 0 := e43.trans (by decide)
  refine lv_iload_n hx hb dX8_lift_33 rfl (lv_at hl 0 rfl) ?_
  refine lv_iadd hx hb dX8_lift_34 ?_
  refine lv_topi (fun y44 e45 => ?_)
  obtain rfl : y44 = 2 := e45.trans (by decide)
  refine va_lald hx hb hK hP 1 1 rfl rfl (by unfold vp_in; decide) dX8_lift_35 ?_
  refine lv_topl (fun y46 e47 => ?_)
  obtain rfl : y46 = f0 2 := e47
  refine va_last hx hb hK hP hD hS 2 1 rfl rfl (by unfold vp_in; decide) dX8_lift_36 (fun H locs hP hD hS => ?_)
  obtain ⟨f48, ef49⟩ : ∃ z9 : Nat → Int64, z9 = vp_updL f29 (2 : Int32).toNatClampNeg (f0 2) := ⟨_, rfl⟩
  rw [← ef49] at hP hD
  have hP : va_P D vwCl [(h, .inr (6, [.int 0, .int 0, .ref a0, .ref a1, .ref a2, .int 0, .ref a3, .ref a4, .ref a5, .ref a6, .ref a7, .ref a8, .int 1, .int (-1), .int 0, .int 0, .ref a9, .ref a10, .ref a11, .ref a12, .ref a13, .ref a14, .ref a15, .ref a16, .ref a17, .int 0])), (a17, .inl (cJ, 1200, .inr (.inl f0))), (a11, .inl (cJ, 4, .inr (.inl f48))), (a12, .inl (cJ, 4, .inr (.inl f39)))] H := hP
  have hD : va_D A [(h, .inr (6, [.int 0, .int 0, .ref a0, .ref a1, .ref a2, .int 0, .ref a3, .ref a4, .ref a5, .ref a6, .ref a7, .ref a8, .int 1, .int (-1), .int 0, .int 0, .ref a9, .ref a10, .ref a11, .ref a12, .ref a13, .ref a14, .ref a15, .ref a16, .ref a17, .int 0])), (a17, .inl (cJ, 1200, .inr (.inl f0))), (a11, .inl (cJ, 4, .inr (.inl f48))), (a12, .inl (cJ, 4, .inr (.inl f39)))] := hD
  refine lv_aload_n hx hb dX8_lift_37 rfl (lv_at hl 1 rfl) ?_
  refine va_get (D := D) (ci := 6) (v := .ref a12) (C := RX8) (T := TX8) (N := 26) hx hb hts iX8_lift_X8 hown hK hP 0 rfl rfl 19 (by decide) (hts (.fieldLink RX8 47 "FloatSolverModel" "boxHigh" "[J") (oX8_lift_in _ (List.mem_of_getElem? (i := 3) rfl))) (fun _ h9 => h9) rfl dX8_lift_38 ?_
  refine lv_iload_n hx hb dX8_lift_41 rfl (lv_at hl 0 rfl) ?_
  refine lv_aload_n hx hb dX8_lift_42 rfl (lv_at hl 1 rfl) ?_
  refine va_get (D := D) (ci := 6) (v := .ref a17) (C := RX8) (T := TX8) (N := 26) hx hb hts iX8_lift_X8 hown hK hP 0 rfl rfl 24 (by decide) (hts (.fieldLink RX8 63 "FloatSolverModel" "stack" "[J") (oX8_lift_in _ (List.mem_of_getElem? (i := 2) rfl))) (fun _ h9 => h9) rfl dX8_lift_43 ?_
  refine lv_bipush (v := 8) hx hb dX8_lift_46 (by decide) ?_
  refine lv_aload_n hx hb dX8_lift_48 rfl (lv_at hl 1 rfl) ?_
  refine va_get (D := D) (ci := 6) (v := .int 0) (C := RX8) (T := TX8) (N := 26) hx hb hts iX8_lift_X8 hown hK hP 0 rfl rfl 25 (by decide) (hts (.fieldLink RX8 228 "FloatSolverModel" "stacked" "I") (oX8_lift_in _ (List.mem_of_getElem? (i := 0) rfl))) (fun _ h9 => h9) rfl dX8_lift_49 ?_
  refine lv_imul hx hb dX8_lift_52 ?_
  refine lv_topi (fun y50 e51 => ?_)
  obtain rfl : y50 = 0 := e51.trans (by decide)
  refine lv_iconst (v := 4) hx hb dX8_lift_53 (by decide) ?_
  refine lv_iadd hx hb dX8_lift_54 ?_
  refine lv_topi (fun y52 e53 => ?_)
  obtain rfl : y52 = 4 := e53.trans (by decide)
  refine lv_iload_n hx hb dX8_lift_55 rfl (lv_at hl 0 rfl) ?_
  refine lv_iadd hx hb dX8_lift_56 ?_
  refine lv_topi (fun y54 e55 => ?_)
  obtain rfl : y54 = 6 := e55.trans (by decide)
  refine va_lald hx hb hK hP 1 1 rfl rfl (by unfold vp_in; decide) dX8_lift_57 ?_
  refine lv_topl (fun y56 e57 => ?_)
  obtain rfl : y56 = f0 6 := e57
  refine va_last hx hb hK hP hD hS 3 1 rfl rfl (by unfold vp_in; decide) dX8_lift_58 (fun H locs hP hD hS => ?_)
  obtain ⟨f58, ef59⟩ : ∃ z9 : Nat → Int64, z9 = vp_updL f39 (2 : Int32).toNatClampNeg (f0 6) := ⟨_, rfl⟩
  rw [← ef59] at hP hD
  have hP : va_P D vwCl [(h, .inr (6, [.int 0, .int 0, .ref a0, .ref a1, .ref a2, .int 0, .ref a3, .ref a4, .ref a5, .ref a6, .ref a7, .ref a8, .int 1, .int (-1), .int 0, .int 0, .ref a9, .ref a10, .ref a11, .ref a12, .ref a13, .ref a14, .ref a15, .ref a16, .ref a17, .int 0])), (a17, .inl (cJ, 1200, .inr (.inl f0))), (a11, .inl (cJ, 4, .inr (.inl f48))), (a12, .inl (cJ, 4, .inr (.inl f58)))] H := hP
  have hD : va_D A [(h, .inr (6, [.int 0, .int 0, .ref a0, .ref a1, .ref a2, .int 0, .ref a3, .ref a4, .ref a5, .ref a6, .ref a7, .ref a8, .int 1, .int (-1), .int 0, .int 0, .ref a9, .ref a10, .ref a11, .ref a12, .ref a13, .ref a14, .ref a15, .ref a16, .ref a17, .int 0])), (a17, .inl (cJ, 1200, .inr (.inl f0))), (a11, .inl (cJ, 4, .inr (.inl f48))), (a12, .inl (cJ, 4, .inr (.inl f58)))] := hD
  refine lv_iinc (v := 3) (lv' := [(1, .int 3), (0, .ref h)]) hx hb dX8_lift_59 hl (k := 0) rfl (by decide) (by decide) rfl (fun ls hl => ?_)
  refine lv_goto (tgt := 12) hx hb dX8_lift_62 (by decide) ?_
  refine lv_iload_n hx hb dX8_lift_12 rfl (lv_at hl 0 rfl) ?_
  refine lv_iconst (v := 4) hx hb dX8_lift_13 (by decide) ?_
  refine lv_icmp_ge (tgt := 65) hx hb dX8_lift_14 (by decide) (fun c60 => absurd c60 (by decide)) (fun _ => ?_)
  refine lv_aload_n hx hb dX8_lift_17 rfl (lv_at hl 1 rfl) ?_
  refine va_get (D := D) (ci := 6) (v := .ref a11) (C := RX8) (T := TX8) (N := 26) hx hb hts iX8_lift_X8 hown hK hP 0 rfl rfl 18 (by decide) (hts (.fieldLink RX8 44 "FloatSolverModel" "boxLow" "[J") (oX8_lift_in _ (List.mem_of_getElem? (i := 1) rfl))) (fun _ h9 => h9) rfl dX8_lift_18 ?_
  refine lv_iload_n hx hb dX8_lift_21 rfl (lv_at hl 0 rfl) ?_
  refine lv_aload_n hx hb dX8_lift_22 rfl (lv_at hl 1 rfl) ?_
  refine va_get (D := D) (ci := 6) (v := .ref a17) (C := RX8) (T := TX8) (N := 26) hx hb hts iX8_lift_X8 hown hK hP 0 rfl rfl 24 (by decide) (hts (.fieldLink RX8 63 "FloatSolverModel" "stack" "[J") (oX8_lift_in _ (List.mem_of_getElem? (i := 2) rfl))) (fun _ h9 => h9) rfl dX8_lift_23 ?_
  refine lv_bipush (v := 8) hx hb dX8_lift_26 (by decide) ?_
  refine lv_aload_n hx hb dX8_lift_28 rfl (lv_at hl 1 rfl) ?_
  refine va_get (D := D) (ci := 6) (v := .int 0) (C := RX8) (T := TX8) (N := 26) hx hb hts iX8_lift_X8 hown hK hP 0 rfl rfl 25 (by decide) (hts (.fieldLink RX8 228 "FloatSolverModel" "stacked" "I") (oX8_lift_in _ (List.mem_of_getElem? (i := 0) rfl))) (fun _ h9 => h9) rfl dX8_lift_29 ?_
  refine lv_imul hx hb dX8_lift_32 ?_
  refine lv_topi (fun y61 e62 => ?_)
  obtain rfl : y61 = 0 := e62.trans (by decide)
  refine lv_iload_n hx hb dX8_lift_33 rfl (lv_at hl 0 rfl) ?_
  refine lv_iadd hx hb dX8_lift_34 ?_
  refine lv_topi (fun y63 e64 => ?_)
  obtain rfl : y63 = 3 := e64.trans (by decide)
  refine va_lald hx hb hK hP 1 1 rfl rfl (by unfold vp_in; decide) dX8_lift_35 ?_
  refine lv_topl (fun y65 e66 => ?_)
  obtain rfl : y65 = f0 3 := e66
  refine va_last hx hb hK hP hD hS 2 1 rfl rfl (by unfold vp_in; decide) dX8_lift_36 (fun H locs hP hD hS => ?_)
  obtain ⟨f67, ef68⟩ : ∃ z9 : Nat → Int64, z9 = vp_updL f48 (3 : Int32).toNatClampNeg (f0 3) := ⟨_, rfl⟩
  rw [← ef68] at hP hD
  have hP : va_P D vwCl [(h, .inr (6, [.int 0, .int 0, .ref a0, .ref a1, .ref a2, .int 0, .ref a3, .ref a4, .ref a5, .ref a6, .ref a7, .ref a8, .int 1, .int (-1), .int 0, .int 0, .ref a9, .ref a10, .ref a11, .ref a12, .ref a13, .ref a14, .ref a15, .ref a16, .ref a17, .int 0])), (a17, .inl (cJ, 1200, .inr (.inl f0))), (a11, .inl (cJ, 4, .inr (.inl f67))), (a12, .inl (cJ, 4, .inr (.inl f58)))] H := hP
  have hD : va_D A [(h, .inr (6, [.int 0, .int 0, .ref a0, .ref a1, .ref a2, .int 0, .ref a3, .ref a4, .ref a5, .ref a6, .ref a7, .ref a8, .int 1, .int (-1), .int 0, .int 0, .ref a9, .ref a10, .ref a11, .ref a12, .ref a13, .ref a14, .ref a15, .ref a16, .ref a17, .int 0])), (a17, .inl (cJ, 1200, .inr (.inl f0))), (a11, .inl (cJ, 4, .inr (.inl f67))), (a12, .inl (cJ, 4, .inr (.inl f58)))] := hD
  refine lv_aload_n hx hb dX8_lift_37 rfl (lv_at hl 1 rfl) ?_
  refine va_get (D := D) (ci := 6) (v := .ref a12) (C := RX8) (T := TX8) (N := 26) hx hb hts iX8_lift_X8 hown hK hP 0 rfl rfl 19 (by decide) (hts (.fieldLink RX8 47 "FloatSolverModel" "boxHigh" "[J") (oX8_lift_in _ (List.mem_of_getElem? (i := 3) rfl))) (fun _ h9 => h9) rfl dX8_lift_38 ?_
  refine lv_iload_n hx hb dX8_lift_41 rfl (lv_at hl 0 rfl) ?_
  refine lv_aload_n hx hb dX8_lift_42 rfl (lv_at hl 1 rfl) ?_
  refine va_get (D := D) (ci := 6) (v := .ref a17) (C := RX8) (T := TX8) (N := 26) hx hb hts iX8_lift_X8 hown hK hP 0 rfl rfl 24 (by decide) (hts (.fieldLink RX8 63 "FloatSolverModel" "stack" "[J") (oX8_lift_in _ (List.mem_of_getElem? (i := 2) rfl))) (fun _ h9 => h9) rfl dX8_lift_43 ?_
  refine lv_bipush (v := 8) hx hb dX8_lift_46 (by decide) ?_
  refine lv_aload_n hx hb dX8_lift_48 rfl (lv_at hl 1 rfl) ?_
  refine va_get (D := D) (ci := 6) (v := .int 0) (C := RX8) (T := TX8) (N := 26) hx hb hts iX8_lift_X8 hown hK hP 0 rfl rfl 25 (by decide) (hts (.fieldLink RX8 228 "FloatSolverModel" "stacked" "I") (oX8_lift_in _ (List.mem_of_getElem? (i := 0) rfl))) (fun _ h9 => h9) rfl dX8_lift_49 ?_
  refine lv_imul hx hb dX8_lift_52 ?_
  refine lv_topi (fun y69 e70 => ?_)
  obtain rfl : y69 = 0 := e70.trans (by decide)
  refine lv_iconst (v := 4) hx hb dX8_lift_53 (by decide) ?_
  refine lv_iadd hx hb dX8_lift_54 ?_
  refine lv_topi (fun y71 e72 => ?_)
  obtain rfl : y71 = 4 := e72.trans (by decide)
  refine lv_iload_n hx hb dX8_lift_55 rfl (lv_at hl 0 rfl) ?_
  refine lv_iadd hx hb dX8_lift_56 ?_
  refine lv_topi (fun y73 e74 => ?_)
  obtain rfl : y73 = 7 := e74.trans (by decide)
  refine va_lald hx hb hK hP 1 1 rfl rfl (by unfold vp_in; decide) dX8_lift_57 ?_
  refine lv_topl (fun y75 e76 => ?_)
  obtain rfl : y75 = f0 7 := e76
  refine va_last hx hb hK hP hD hS 3 1 rfl rfl (by unfold vp_in; decide) dX8_lift_58 (fun H locs hP hD hS => ?_)
  obtain ⟨f77, ef78⟩ : ∃ z9 : Nat → Int64, z9 = vp_updL f58 (3 : Int32).toNatClampNeg (f0 7) := ⟨_, rfl⟩
  rw [← ef78] at hP hD
  have hP : va_P D vwCl [(h, .inr (6, [.int 0, .int 0, .ref a0, .ref a1, .ref a2, .int 0, .ref a3, .ref a4, .ref a5, .ref a6, .ref a7, .ref a8, .int 1, .int (-1), .int 0, .int 0, .ref a9, .ref a10, .ref a11, .ref a12, .ref a13, .ref a14, .ref a15, .ref a16, .ref a17, .int 0])), (a17, .inl (cJ, 1200, .inr (.inl f0))), (a11, .inl (cJ, 4, .inr (.inl f67))), (a12, .inl (cJ, 4, .inr (.inl f77)))] H := hP
  have hD : va_D A [(h, .inr (6, [.int 0, .int 0, .ref a0, .ref a1, .ref a2, .int 0, .ref a3, .ref a4, .ref a5, .ref a6, .ref a7, .ref a8, .int 1, .int (-1), .int 0, .int 0, .ref a9, .ref a10, .ref a11, .ref a12, .ref a13, .ref a14, .ref a15, .ref a16, .ref a17, .int 0])), (a17, .inl (cJ, 1200, .inr (.inl f0))), (a11, .inl (cJ, 4, .inr (.inl f67))), (a12, .inl (cJ, 4, .inr (.inl f77)))] := hD
  refine lv_iinc (v := 4) (lv' := [(1, .int 4), (0, .ref h)]) hx hb dX8_lift_59 hl (k := 0) rfl (by decide) (by decide) rfl (fun ls hl => ?_)
  refine lv_goto (tgt := 12) hx hb dX8_lift_62 (by decide) ?_
  refine lv_iload_n hx hb dX8_lift_12 rfl (lv_at hl 0 rfl) ?_
  refine lv_iconst (v := 4) hx hb dX8_lift_13 (by decide) ?_
  refine lv_icmp_ge (tgt := 65) hx hb dX8_lift_14 (by decide) (fun _ => ?_) (fun c79 => absurd (by decide) c79)
  refine W.widen (k := 0) (n := 0) (by decide) (by decide) ?_
  exact sp_vret (u := (f67, f77)) hx hb hr hlocks hS trivial (hP.sub [0, 1, 2, 3] rfl) (hD.sub [0, 1, 2, 3] (by decide) rfl) dX8_lift_65
def oX8_spans : List Cond := [.fieldLink RX8 147 "FloatSolverModel" "nodes" "I"]
def wpX8_spans : List Cond := .code yX8_spans cX8_spans 2 none :: (oX8_spans ++ (wsX80 ++ ([] : List Cond)))
theorem oX8_spans_in : ∀ w ∈ oX8_spans, w ∈ wpX8_spans := fun w h => List.mem_cons_of_mem _ (List.mem_append_left _ h)
theorem gwoX8_spans : ∀ w ∈ oX8_spans, goodWord w = true := by decide +kernel
theorem gwX8_spans : ∀ w ∈ wpX8_spans, goodWord w = true := by
  unfold wpX8_spans
  exact List.forall_mem_cons.mpr ⟨rfl, List.forall_mem_append.mpr ⟨gwoX8_spans, List.forall_mem_append.mpr ⟨gwX8, fun _ h => absurd h List.not_mem_nil⟩⟩⟩
set_option maxRecDepth 100000 in
theorem toX8_spans : ∀ w ∈ oX8_spans, w ∈ lw_tbl := by
  unfold oX8_spans
  exact List.forall_mem_cons.mpr ⟨(List.mem_of_getElem? (i := 684) (by decide +kernel)), fun _ h => absurd h List.not_mem_nil⟩
set_option maxRecDepth 100000 in
theorem tX8_spans : ∀ w ∈ wpX8_spans, w ∈ lw_tbl := by
  unfold wpX8_spans
  exact List.forall_mem_cons.mpr ⟨(List.mem_of_getElem? (i := 904) (by rfl)), List.forall_mem_append.mpr ⟨toX8_spans, List.forall_mem_append.mpr ⟨in_wsX80, fun _ h => absurd h List.not_mem_nil⟩⟩⟩
theorem iX8_spans_X8 : ∀ w ∈ wsX80, w ∈ wpX8_spans := fun w h => List.mem_cons_of_mem _ (List.mem_append_right _ (List.mem_append_left _ h))
set_option maxHeartbeats 4000000 in
set_option maxRecDepth 100000 in
theorem c_X8_spans (l : Launch) (D : va_G) (cI cJ cZ : ClassId) (sz : Nat) (h a0 a1 a2 a3 a4 a5 a6 a7 a8 a9 a10 a11 a12 a13 a14 a15 a16 a17 : Nat) : Met l yX8_spans wpX8_spans ({ frames := 0, cells := 0, slots := 0, locals := 0 }) (va_Pc [.ref h] (sp_pre D vwCl (sp_ty cI cJ cZ) [(h, .inr (6, [.int 0, .int 0, .ref a0, .ref a1, .ref a2, .int 0, .ref a3, .ref a4, .ref a5, .ref a6, .ref a7, .ref a8, .int 1, .int (-1), .int 1, .int 0, .ref a9, .ref a10, .ref a11, .ref a12, .ref a13, .ref a14, .ref a15, .ref a16, .ref a17, .int 0]))] sz)) (va_Qv (fun (_ : Unit) => True) (sp_B D vwCl (va_A [(h, .inr (6, [.int 0, .int 0, .ref a0, .ref a1, .ref a2, .int 0, .ref a3, .ref a4, .ref a5, .ref a6, .ref a7, .ref a8, .int 1, .int (-1), .int 1, .int 0, .ref a9, .ref a10, .ref a11, .ref a12, .ref a13, .ref a14, .ref a15, .ref a16, .ref a17, .int 0]))] sz) (fun (_ : Unit) => [(h, .inr (6, [.int 0, .int 0, .ref a0, .ref a1, .ref a2, .int 0, .ref a3, .ref a4, .ref a5, .ref a6, .ref a7, .ref a8, .int 1, .int (-1), .int 1, .int 0, .ref a9, .ref a10, .ref a11, .ref a12, .ref a13, .ref a14, .ref a15, .ref a16, .ref a17, .int 0]))])) (va_A [(h, .inr (6, [.int 0, .int 0, .ref a0, .ref a1, .ref a2, .int 0, .ref a3, .ref a4, .ref a5, .ref a6, .ref a7, .ref a8, .int 1, .int (-1), .int 1, .int 0, .ref a9, .ref a10, .ref a11, .ref a12, .ref a13, .ref a14, .ref a15, .ref a16, .ref a17, .int 0]))] sz)) 0 0 (va_A [(h, .inr (6, [.int 0, .int 0, .ref a0, .ref a1, .ref a2, .int 0, .ref a3, .ref a4, .ref a5, .ref a6, .ref a7, .ref a8, .int 1, .int (-1), .int 1, .int 0, .ref a9, .ref a10, .ref a11, .ref a12, .ref a13, .ref a14, .ref a15, .ref a16, .ref a17, .int 0]))] sz) := by
  refine sp_ofW (Qc := fun A => va_Qv (fun (_ : Unit) => True) (sp_B D vwCl A (fun (_ : Unit) => [(h, .inr (6, [.int 0, .int 0, .ref a0, .ref a1, .ref a2, .int 0, .ref a3, .ref a4, .ref a5, .ref a6, .ref a7, .ref a8, .int 1, .int (-1), .int 1, .int 0, .ref a9, .ref a10, .ref a11, .ref a12, .ref a13, .ref a14, .ref a15, .ref a16, .ref a17, .int 0]))])) A) (by decide) rfl (Nat.le_of_ble_eq_true rfl) (fun p e s m below meth c A ls H locs C0 hA hS hP hK hD hl => ?_)
  obtain ⟨hx, hb, hr, hts, hown, hlocks, hml, hin⟩ := C0
  have hown : s.vm.findClass RX8 = some m.cls := hown
  have hl : lv_has ls 2 [(0, .ref h)] := hl
  have hK : va_K D vwCl [(cI, .int), (cJ, .long), (cZ, .boolean)] s := hK
  refine lv_iconst (v := 0) hx hb dX8_spans_0 (by decide) ?_
  refine lv_istore_n (lv' := [(1, .int 0), (0, .ref h)]) hx hb dX8_spans_1 rfl hl (by decide) rfl (fun ls hl => ?_)
  refine lv_iload_n hx hb dX8_spans_2 rfl (lv_at hl 0 rfl) ?_
  refine lv_aload_n hx hb dX8_spans_3 rfl (lv_at hl 1 rfl) ?_
  refine va_get (D := D) (ci := 6) (v := .int 0) (C := RX8) (T := TX8) (N := 26) hx hb hts iX8_spans_X8 hown hK hP 0 rfl rfl 1 (by decide) (hts (.fieldLink RX8 147 "FloatSolverModel" "nodes" "I") (oX8_spans_in _ (List.mem_of_getElem? (i := 0) rfl))) (fun _ h9 => h9) rfl dX8_spans_4 ?_
  refine lv_icmp_ge (tgt := 21) hx hb dX8_spans_7 (by decide) (fun _ => ?_) (fun c1 => absurd (by decide) c1)
  refine W.widen (k := 0) (n := 0) (by decide) (by decide) ?_
  exact sp_vret (u := ()) hx hb hr hlocks hS trivial (hP.sub [0] rfl) (hD.sub [0] (by decide) rfl) dX8_spans_21
def oX8_solves : List Cond := [.fieldLink RX8 231 "FloatSolverModel" "answer" "I", .fieldLink RX8 38 "FloatSolverModel" "found" "[J", .fieldLink RX8 44 "FloatSolverModel" "boxLow" "[J"]
def wpX8_solves : List Cond := .code yX8_solves cX8_solves 2 none :: (oX8_solves ++ (wsX80 ++ ([] : List Cond)))
theorem oX8_solves_in : ∀ w ∈ oX8_solves, w ∈ wpX8_solves := fun w h => List.mem_cons_of_mem _ (List.mem_append_left _ h)
theorem gwoX8_solves : ∀ w ∈ oX8_solves, goodWord w = true := by decide +kernel
theorem gwX8_solves : ∀ w ∈ wpX8_solves, goodWord w = true := by
  unfold wpX8_solves
  exact List.forall_mem_cons.mpr ⟨rfl, List.forall_mem_append.mpr ⟨gwoX8_solves, List.forall_mem_append.mpr ⟨gwX8, fun _ h => absurd h List.not_mem_nil⟩⟩⟩
set_option maxRecDepth 100000 in
theorem toX8_solves : ∀ w ∈ oX8_solves, w ∈ lw_tbl := by
  unfold oX8_solves
  exact List.forall_mem_cons.mpr ⟨(List.mem_of_getElem? (i := 696) (by decide +kernel)), List.forall_mem_cons.mpr ⟨(List.mem_of_getElem? (i := 699) (by decide +kernel)), List.forall_mem_cons.mpr ⟨(List.mem_of_getElem? (i := 701) (by decide +kernel)), fun _ h => absurd h List.not_mem_nil⟩⟩⟩
set_option maxRecDepth 100000 in
theorem tX8_solves : ∀ w ∈ wpX8_solves, w ∈ lw_tbl := by
  unfold wpX8_solves
  exact List.forall_mem_cons.mpr ⟨(List.mem_of_getElem? (i := 961) (by rfl)), List.forall_mem_append.mpr ⟨toX8_solves, List.forall_mem_append.mpr ⟨in_wsX80, fun _ h => absurd h List.not_mem_nil⟩⟩⟩
theorem iX8_solves_X8 : ∀ w ∈ wsX80, w ∈ wpX8_solves := fun w h => List.mem_cons_of_mem _ (List.mem_append_right _ (List.mem_append_left _ h))
set_option maxHeartbeats 4000000 in
set_option maxRecDepth 100000 in
theorem c_X8_solves (l : Launch) (D : va_G) (cI cJ cZ : ClassId) (sz : Nat) (h a0 a1 a2 a3 a4 a5 a6 a7 a8 a9 a10 a11 a12 a13 a14 a15 a16 a17 : Nat) (f0 f1 : Nat → Int64) : Met l yX8_solves wpX8_solves ({ frames := 0, cells := 0, slots := 0, locals := 0 }) (va_Pc [.ref h] (sp_pre D vwCl (sp_ty cI cJ cZ) [(h, .inr (6, [.int 0, .int 0, .ref a0, .ref a1, .ref a2, .int 0, .ref a3, .ref a4, .ref a5, .ref a6, .ref a7, .ref a8, .int 1, .int (-1), .int 1, .int 0, .ref a9, .ref a10, .ref a11, .ref a12, .ref a13, .ref a14, .ref a15, .ref a16, .ref a17, .int 0])), (a9, .inl (cJ, 4, .inr (.inl f0))), (a11, .inl (cJ, 4, .inr (.inl f1)))] sz)) (va_Qv (fun (_ : Unit) => True) (sp_B D vwCl (va_A [(h, .inr (6, [.int 0, .int 0, .ref a0, .ref a1, .ref a2, .int 0, .ref a3, .ref a4, .ref a5, .ref a6, .ref a7, .ref a8, .int 1, .int (-1), .int 1, .int 0, .ref a9, .ref a10, .ref a11, .ref a12, .ref a13, .ref a14, .ref a15, .ref a16, .ref a17, .int 0])), (a9, .inl (cJ, 4, .inr (.inl f0))), (a11, .inl (cJ, 4, .inr (.inl f1)))] sz) (fun (_ : Unit) => [(h, .inr (6, [.int 0, .int 0, .ref a0, .ref a1, .ref a2, .int 0, .ref a3, .ref a4, .ref a5, .ref a6, .ref a7, .ref a8, .int 1, .int 1, .int 1, .int 0, .ref a9, .ref a10, .ref a11, .ref a12, .ref a13, .ref a14, .ref a15, .ref a16, .ref a17, .int 0]))])) (va_A [(h, .inr (6, [.int 0, .int 0, .ref a0, .ref a1, .ref a2, .int 0, .ref a3, .ref a4, .ref a5, .ref a6, .ref a7, .ref a8, .int 1, .int (-1), .int 1, .int 0, .ref a9, .ref a10, .ref a11, .ref a12, .ref a13, .ref a14, .ref a15, .ref a16, .ref a17, .int 0])), (a9, .inl (cJ, 4, .inr (.inl f0))), (a11, .inl (cJ, 4, .inr (.inl f1)))] sz)) 0 0 (va_A [(h, .inr (6, [.int 0, .int 0, .ref a0, .ref a1, .ref a2, .int 0, .ref a3, .ref a4, .ref a5, .ref a6, .ref a7, .ref a8, .int 1, .int (-1), .int 1, .int 0, .ref a9, .ref a10, .ref a11, .ref a12, .ref a13, .ref a14, .ref a15, .ref a16, .ref a17, .int 0])), (a9, .inl (cJ, 4, .inr (.inl f0))), (a11, .inl (cJ, 4, .inr (.inl f1)))] sz) := by
  refine sp_ofW (Qc := fun A => va_Qv (fun (_ : Unit) => True) (sp_B D vwCl A (fun (_ : Unit) => [(h, .inr (6, [.int 0, .int 0, .ref a0, .ref a1, .ref a2, .int 0, .ref a3, .ref a4, .ref a5, .ref a6, .ref a7, .ref a8, .int 1, .int 1, .int 1, .int 0, .ref a9, .ref a10, .ref a11, .ref a12, .ref a13, .ref a14, .ref a15, .ref a16, .ref a17, .int 0]))])) A) (by decide) rfl (Nat.le_of_ble_eq_true rfl) (fun p e s m below meth c A ls H locs C0 hA hS hP hK hD hl => ?_)
  obtain ⟨hx, hb, hr, hts, hown, hlocks, hml, hin⟩ := C0
  have hown : s.vm.findClass RX8 = some m.cls := hown
  have hl : lv_has ls 2 [(0, .ref h)] := hl
  have hK : va_K D vwCl [(cI, .int), (cJ, .long), (cZ, .boolean)] s := hK
  refine lv_aload_n hx hb dX8_solves_0 rfl (lv_at hl 0 rfl) ?_
  refine lv_iconst (v := 1) hx hb dX8_solves_1 (by decide) ?_
  refine va_put (D := D) (ci := 6) (v := .int 1) (ty := .int) (C := RX8) (T := TX8) (N := 26) hx hb hts iX8_solves_X8 tyX8 tyX8_ok nmX8 hown hK hP hD hS 0 rfl rfl 13 (by decide) (hts (.fieldLink RX8 231 "FloatSolverModel" "answer" "I") (oX8_solves_in _ (List.mem_of_getElem? (i := 0) rfl))) (fun _ h9 => h9) rfl (by decide +kernel) rfl rfl (Nat.le_of_ble_eq_true rfl) dX8_solves_2 (fun H locs hP hD hS => ?_)
  have hP : va_P D vwCl [(h, .inr (6, [.int 0, .int 0, .ref a0, .ref a1, .ref a2, .int 0, .ref a3, .ref a4, .ref a5, .ref a6, .ref a7, .ref a8, .int 1, .int 1, .int 1, .int 0, .ref a9, .ref a10, .ref a11, .ref a12, .ref a13, .ref a14, .ref a15, .ref a16, .ref a17, .int 0])), (a9, .inl (cJ, 4, .inr (.inl f0))), (a11, .inl (cJ, 4, .inr (.inl f1)))] H := hP
  have hD : va_D A [(h, .inr (6, [.int 0, .int 0, .ref a0, .ref a1, .ref a2, .int 0, .ref a3, .ref a4, .ref a5, .ref a6, .ref a7, .ref a8, .int 1, .int 1, .int 1, .int 0, .ref a9, .ref a10, .ref a11, .ref a12, .ref a13, .ref a14, .ref a15, .ref a16, .ref a17, .int 0])), (a9, .inl (cJ, 4, .inr (.inl f0))), (a11, .inl (cJ, 4, .inr (.inl f1)))] := hD
  refine lv_iconst (v := 0) hx hb dX8_solves_5 (by decide) ?_
  refine lv_istore_n (lv' := [(1, .int 0), (0, .ref h)]) hx hb dX8_solves_6 rfl hl (by decide) rfl (fun ls hl => ?_)
  refine lv_iload_n hx hb dX8_solves_7 rfl (lv_at hl 0 rfl) ?_
  refine lv_iconst (v := 4) hx hb dX8_solves_8 (by decide) ?_
  refine lv_icmp_ge (tgt := 30) hx hb dX8_solves_9 (by decide) (fun c1 => absurd c1 (by decide)) (fun _ => ?_)
  refine lv_aload_n hx hb dX8_solves_12 rfl (lv_at hl 1 rfl) ?_
  refine va_get (D := D) (ci := 6) (v := .ref a9) (C := RX8) (T := TX8) (N := 26) hx hb hts iX8_solves_X8 hown hK hP 0 rfl rfl 16 (by decide) (hts (.fieldLink RX8 38 "FloatSolverModel" "found" "[J") (oX8_solves_in _ (List.mem_of_getElem? (i := 1) rfl))) (fun _ h9 => h9) rfl dX8_solves_13 ?_
  refine lv_iload_n hx hb dX8_solves_16 rfl (lv_at hl 0 rfl) ?_
  refine lv_aload_n hx hb dX8_solves_17 rfl (lv_at hl 1 rfl) ?_
  refine va_get (D := D) (ci := 6) (v := .ref a11) (C := RX8) (T := TX8) (N := 26) hx hb hts iX8_solves_X8 hown hK hP 0 rfl rfl 18 (by decide) (hts (.fieldLink RX8 44 "FloatSolverModel" "boxLow" "[J") (oX8_solves_in _ (List.mem_of_getElem? (i := 2) rfl))) (fun _ h9 => h9) rfl dX8_solves_18 ?_
  refine lv_iload_n hx hb dX8_solves_21 rfl (lv_at hl 0 rfl) ?_
  refine va_lald hx hb hK hP 2 1 rfl rfl (by unfold vp_in; decide) dX8_solves_22 ?_
  refine lv_topl (fun y2 e3 => ?_)
  obtain rfl : y2 = f1 0 := e3
  refine va_last hx hb hK hP hD hS 1 1 rfl rfl (by unfold vp_in; decide) dX8_solves_23 (fun H locs hP hD hS => ?_)
  obtain ⟨f4, ef5⟩ : ∃ z9 : Nat → Int64, z9 = vp_updL f0 (0 : Int32).toNatClampNeg (f1 0) := ⟨_, rfl⟩
  rw [← ef5] at hP hD
  have hP : va_P D vwCl [(h, .inr (6, [.int 0, .int 0, .ref a0, .ref a1, .ref a2, .int 0, .ref a3, .ref a4, .ref a5, .ref a6, .ref a7, .ref a8, .int 1, .int 1, .int 1, .int 0, .ref a9, .ref a10, .ref a11, .ref a12, .ref a13, .ref a14, .ref a15, .ref a16, .ref a17, .int 0])), (a9, .inl (cJ, 4, .inr (.inl f4))), (a11, .inl (cJ, 4, .inr (.inl f1)))] H := hP
  have hD : va_D A [(h, .inr (6, [.int 0, .int 0, .ref a0, .ref a1, .ref a2, .int 0, .ref a3, .ref a4, .ref a5, .ref a6, .ref a7, .ref a8, .int 1, .int 1, .int 1, .int 0, .ref a9, .ref a10, .ref a11, .ref a12, .ref a13, .ref a14, .ref a15, .ref a16, .ref a17, .int 0])), (a9, .inl (cJ, 4, .inr (.inl f4))), (a11, .inl (cJ, 4, .inr (.inl f1)))] := hD
  refine lv_iinc (v := 1) (lv' := [(1, .int 1), (0, .ref h)]) hx hb dX8_solves_24 hl (k := 0) rfl (by decide) (by decide) rfl (fun ls hl => ?_)
  refine lv_goto (tgt := 7) hx hb dX8_solves_27 (by decide) ?_
  refine lv_iload_n hx hb dX8_solves_7 rfl (lv_at hl 0 rfl) ?_
  refine lv_iconst (v := 4) hx hb dX8_solves_8 (by decide) ?_
  refine lv_icmp_ge (tgt := 30) hx hb dX8_solves_9 (by decide) (fun c6 => absurd c6 (by decide)) (fun _ => ?_)
  refine lv_aload_n hx hb dX8_solves_12 rfl (lv_at hl 1 rfl) ?_
  refine va_get (D := D) (ci := 6) (v := .ref a9) (C := RX8) (T := TX8) (N := 26) hx hb hts iX8_solves_X8 hown hK hP 0 rfl rfl 16 (by decide) (hts (.fieldLink RX8 38 "FloatSolverModel" "found" "[J") (oX8_solves_in _ (List.mem_of_getElem? (i := 1) rfl))) (fun _ h9 => h9) rfl dX8_solves_13 ?_
  refine lv_iload_n hx hb dX8_solves_16 rfl (lv_at hl 0 rfl) ?_
  refine lv_aload_n hx hb dX8_solves_17 rfl (lv_at hl 1 rfl) ?_
  refine va_get (D := D) (ci := 6) (v := .ref a11) (C := RX8) (T := TX8) (N := 26) hx hb hts iX8_solves_X8 hown hK hP 0 rfl rfl 18 (by decide) (hts (.fieldLink RX8 44 "FloatSolverModel" "boxLow" "[J") (oX8_solves_in _ (List.mem_of_getElem? (i := 2) rfl))) (fun _ h9 => h9) rfl dX8_solves_18 ?_
  refine lv_iload_n hx hb dX8_solves_21 rfl (lv_at hl 0 rfl) ?_
  refine va_lald hx hb hK hP 2 1 rfl rfl (by unfold vp_in; decide) dX8_solves_22 ?_
  refine lv_topl (fun y7 e8 => ?_)
  obtain rfl : y7 = f1 1 := e8
  refine va_last hx hb hK hP hD hS 1 1 rfl rfl (by unfold vp_in; decide) dX8_solves_23 (fun H locs hP hD hS => ?_)
  obtain ⟨f9, ef10⟩ : ∃ z9 : Nat → Int64, z9 = vp_updL f4 (1 : Int32).toNatClampNeg (f1 1) := ⟨_, rfl⟩
  rw [← ef10] at hP hD
  have hP : va_P D vwCl [(h, .inr (6, [.int 0, .int 0, .ref a0, .ref a1, .ref a2, .int 0, .ref a3, .ref a4, .ref a5, .ref a6, .ref a7, .ref a8, .int 1, .int 1, .int 1, .int 0, .ref a9, .ref a10, .ref a11, .ref a12, .ref a13, .ref a14, .ref a15, .ref a16, .ref a17, .int 0])), (a9, .inl (cJ, 4, .inr (.inl f9))), (a11, .inl (cJ, 4, .inr (.inl f1)))] H := hP
  have hD : va_D A [(h, .inr (6, [.int 0, .int 0, .ref a0, .ref a1, .ref a2, .int 0, .ref a3, .ref a4, .ref a5, .ref a6, .ref a7, .ref a8, .int 1, .int 1, .int 1, .int 0, .ref a9, .ref a10, .ref a11, .ref a12, .ref a13, .ref a14, .ref a15, .ref a16, .ref a17, .int 0])), (a9, .inl (cJ, 4, .inr (.inl f9))), (a11, .inl (cJ, 4, .inr (.inl f1)))] := hD
  refine lv_iinc (v := 2) (lv' := [(1, .int 2), (0, .ref h)]) hx hb dX8_solves_24 hl (k := 0) rfl (by decide) (by decide) rfl (fun ls hl => ?_)
  refine lv_goto (tgt := 7) hx hb dX8_solves_27 (by decide) ?_
  refine lv_iload_n hx hb dX8_solves_7 rfl (lv_at hl 0 rfl) ?_
  refine lv_iconst (v := 4) hx hb dX8_solves_8 (by decide) ?_
  refine lv_icmp_ge (tgt := 30) hx hb dX8_solves_9 (by decide) (fun c11 => absurd c11 (by decide)) (fun _ => ?_)
  refine lv_aload_n hx hb dX8_solves_12 rfl (lv_at hl 1 rfl) ?_
  refine va_get (D := D) (ci := 6) (v := .ref a9) (C := RX8) (T := TX8) (N := 26) hx hb hts iX8_solves_X8 hown hK hP 0 rfl rfl 16 (by decide) (hts (.fieldLink RX8 38 "FloatSolverModel" "found" "[J") (oX8_solves_in _ (List.mem_of_getElem? (i := 1) rfl))) (fun _ h9 => h9) rfl dX8_solves_13 ?_
  refine lv_iload_n hx hb dX8_solves_16 rfl (lv_at hl 0 rfl) ?_
  refine lv_aload_n hx hb dX8_solves_17 rfl (lv_at hl 1 rfl) ?_
  refine va_get (D := D) (ci := 6) (v := .ref a11) (C := RX8) (T := TX8) (N := 26) hx hb hts iX8_solves_X8 hown hK hP 0 rfl rfl 18 (by decide) (hts (.fieldLink RX8 44 "FloatSolverModel" "boxLow" "[J") (oX8_solves_in _ (List.mem_of_getElem? (i := 2) rfl))) (fun _ h9 => h9) rfl dX8_solves_18 ?_
  refine lv_iload_n hx hb dX8_solves_21 rfl (lv_at hl 0 rfl) ?_
  refine va_lald hx hb hK hP 2 1 rfl rfl (by unfold vp_in; decide) dX8_solves_22 ?_
  refine lv_topl (fun y12 e13 => ?_)
  obtain rfl : y12 = f1 2 := e13
  refine va_last hx hb hK hP hD hS 1 1 rfl rfl (by unfold vp_in; decide) dX8_solves_23 (fun H locs hP hD hS => ?_)
  obtain ⟨f14, ef15⟩ : ∃ z9 : Nat → Int64, z9 = vp_updL f9 (2 : Int32).toNatClampNeg (f1 2) := ⟨_, rfl⟩
  rw [← ef15] at hP hD
  have hP : va_P D vwCl [(h, .inr (6, [.int 0, .int 0, .ref a0, .ref a1, .ref a2, .int 0, .ref a3, .ref a4, .ref a5, .ref a6, .ref a7, .ref a8, .int 1, .int 1, .int 1, .int 0, .ref a9, .ref a10, .ref a11, .ref a12, .ref a13, .ref a14, .ref a15, .ref a16, .ref a17, .int 0])), (a9, .inl (cJ, 4, .inr (.inl f14))), (a11, .inl (cJ, 4, .inr (.inl f1)))] H := hP
  have hD : va_D A [(h, .inr (6, [.int 0, .int 0, .ref a0, .ref a1, .ref a2, .int 0, .ref a3, .ref a4, .ref a5, .ref a6, .ref a7, .ref a8, .int 1, .int 1, .int 1, .int 0, .ref a9, .ref a10, .ref a11, .ref a12, .ref a13, .ref a14, .ref a15, .ref a16, .ref a17, .int 0])), (a9, .inl (cJ, 4, .inr (.inl f14))), (a11, .inl (cJ, 4, .inr (.inl f1)))] := hD
  refine lv_iinc (v := 3) (lv' := [(1, .int 3), (0, .ref h)]) hx hb dX8_solves_24 hl (k := 0) rfl (by decide) (by decide) rfl (fun ls hl => ?_)
  refine lv_goto (tgt := 7) hx hb dX8_solves_27 (by decide) ?_
  refine lv_iload_n hx hb dX8_solves_7 rfl (lv_at hl 0 rfl) ?_
  refine lv_iconst (v := 4) hx hb dX8_solves_8 (by decide) ?_
  refine lv_icmp_ge (tgt := 30) hx hb dX8_solves_9 (by decide) (fun c16 => absurd c16 (by decide)) (fun _ => ?_)
  refine lv_aload_n hx hb dX8_solves_12 rfl (lv_at hl 1 rfl) ?_
  refine va_get (D := D) (ci := 6) (v := .ref a9) (C := RX8) (T := TX8) (N := 26) hx hb hts iX8_solves_X8 hown hK hP 0 rfl rfl 16 (by decide) (hts (.fieldLink RX8 38 "FloatSolverModel" "found" "[J") (oX8_solves_in _ (List.mem_of_getElem? (i := 1) rfl))) (fun _ h9 => h9) rfl dX8_solves_13 ?_
  refine lv_iload_n hx hb dX8_solves_16 rfl (lv_at hl 0 rfl) ?_
  refine lv_aload_n hx hb dX8_solves_17 rfl (lv_at hl 1 rfl) ?_
  refine va_get (D := D) (ci := 6) (v := .ref a11) (C := RX8) (T := TX8) (N := 26) hx hb hts iX8_solves_X8 hown hK hP 0 rfl rfl 18 (by decide) (hts (.fieldLink RX8 44 "FloatSolverModel" "boxLow" "[J") (oX8_solves_in _ (List.mem_of_getElem? (i := 2) rfl))) (fun _ h9 => h9) rfl dX8_solves_18 ?_
  refine lv_iload_n hx hb dX8_solves_21 rfl (lv_at hl 0 rfl) ?_
  refine va_lald hx hb hK hP 2 1 rfl rfl (by unfold vp_in; decide) dX8_solves_22 ?_
  refine lv_topl (fun y17 e18 => ?_)
  obtain rfl : y17 = f1 3 := e18
  refine va_last hx hb hK hP hD hS 1 1 rfl rfl (by unfold vp_in; decide) dX8_solves_23 (fun H locs hP hD hS => ?_)
  obtain ⟨f19, ef20⟩ : ∃ z9 : Nat → Int64, z9 = vp_updL f14 (3 : Int32).toNatClampNeg (f1 3) := ⟨_, rfl⟩
  rw [← ef20] at hP hD
  have hP : va_P D vwCl [(h, .inr (6, [.int 0, .int 0, .ref a0, .ref a1, .ref a2, .int 0, .ref a3, .ref a4, .ref a5, .ref a6, .ref a7, .ref a8, .int 1, .int 1, .int 1, .int 0, .ref a9, .ref a10, .ref a11, .ref a12, .ref a13, .ref a14, .ref a15, .ref a16, .ref a17, .int 0])), (a9, .inl (cJ, 4, .inr (.inl f19))), (a11, .inl (cJ, 4, .inr (.inl f1)))] H := hP
  have hD : va_D A [(h, .inr (6, [.int 0, .int 0, .ref a0, .ref a1, .ref a2, .int 0, .ref a3, .ref a4, .ref a5, .ref a6, .ref a7, .ref a8, .int 1, .int 1, .int 1, .int 0, .ref a9, .ref a10, .ref a11, .ref a12, .ref a13, .ref a14, .ref a15, .ref a16, .ref a17, .int 0])), (a9, .inl (cJ, 4, .inr (.inl f19))), (a11, .inl (cJ, 4, .inr (.inl f1)))] := hD
  refine lv_iinc (v := 4) (lv' := [(1, .int 4), (0, .ref h)]) hx hb dX8_solves_24 hl (k := 0) rfl (by decide) (by decide) rfl (fun ls hl => ?_)
  refine lv_goto (tgt := 7) hx hb dX8_solves_27 (by decide) ?_
  refine lv_iload_n hx hb dX8_solves_7 rfl (lv_at hl 0 rfl) ?_
  refine lv_iconst (v := 4) hx hb dX8_solves_8 (by decide) ?_
  refine lv_icmp_ge (tgt := 30) hx hb dX8_solves_9 (by decide) (fun _ => ?_) (fun c21 => absurd (by decide) c21)
  refine W.widen (k := 0) (n := 0) (by decide) (by decide) ?_
  exact sp_vret (u := ()) hx hb hr hlocks hS trivial (hP.sub [0] rfl) (hD.sub [0] (by decide) rfl) dX8_solves_30
def oX8_look : List Cond := [.fieldLink RX8 167 "FloatSolverModel" "rules" "I"]
def wpX8_look : List Cond := .code yX8_look cX8_look 9 none :: (oX8_look ++ (wsX80 ++ ((wsV RX8 214 RX8 yX8_spans wpX8_spans) ++ ((wsV RX8 255 RX8 yX8_solves wpX8_solves) ++ ([] : List Cond)))))
theorem oX8_look_in : ∀ w ∈ oX8_look, w ∈ wpX8_look := fun w h => List.mem_cons_of_mem _ (List.mem_append_left _ h)
theorem gwoX8_look : ∀ w ∈ oX8_look, goodWord w = true := by decide +kernel
theorem gwX8_look : ∀ w ∈ wpX8_look, goodWord w = true := by
  unfold wpX8_look
  exact List.forall_mem_cons.mpr ⟨rfl, List.forall_mem_append.mpr ⟨gwoX8_look, List.forall_mem_append.mpr ⟨gwX8, List.forall_mem_append.mpr ⟨(sp_gV gwX8_spans), List.forall_mem_append.mpr ⟨(sp_gV gwX8_solves), fun _ h => absurd h List.not_mem_nil⟩⟩⟩⟩⟩
set_option maxRecDepth 100000 in
theorem toX8_look : ∀ w ∈ oX8_look, w ∈ lw_tbl := by
  unfold oX8_look
  exact List.forall_mem_cons.mpr ⟨(List.mem_of_getElem? (i := 688) (by decide +kernel)), fun _ h => absurd h List.not_mem_nil⟩
set_option maxRecDepth 100000 in
theorem tX8_look : ∀ w ∈ wpX8_look, w ∈ lw_tbl := by
  unfold wpX8_look
  exact List.forall_mem_cons.mpr ⟨(List.mem_of_getElem? (i := 957) (by rfl)), List.forall_mem_append.mpr ⟨toX8_look, List.forall_mem_append.mpr ⟨in_wsX80, List.forall_mem_append.mpr ⟨(sp_tV (List.mem_of_getElem? (i := 901) (by decide +kernel)) (List.mem_of_getElem? (i := 903) (by decide +kernel)) (List.mem_of_getElem? (i := 24) (by decide +kernel)) (List.mem_of_getElem? (i := 45) (by decide +kernel)) tX8_spans), List.forall_mem_append.mpr ⟨(sp_tV (List.mem_of_getElem? (i := 958) (by decide +kernel)) (List.mem_of_getElem? (i := 960) (by decide +kernel)) (List.mem_of_getElem? (i := 36) (by decide +kernel)) (List.mem_of_getElem? (i := 45) (by decide +kernel)) tX8_solves), fun _ h => absurd h List.not_mem_nil⟩⟩⟩⟩⟩
theorem iX8_look_X8 : ∀ w ∈ wsX80, w ∈ wpX8_look := fun w h => List.mem_cons_of_mem _ (List.mem_append_right _ (List.mem_append_left _ h))
theorem gX8_look_X8_spans_214 : GoodIn wpX8_look (wsV RX8 214 RX8 yX8_spans wpX8_spans) := fun w h => ⟨List.mem_cons_of_mem _ (List.mem_append_right _ (List.mem_append_right _ (List.mem_append_left _ h))), good_of_word (sp_gV gwX8_spans w h)⟩
theorem gX8_look_X8_solves_255 : GoodIn wpX8_look (wsV RX8 255 RX8 yX8_solves wpX8_solves) := fun w h => ⟨List.mem_cons_of_mem _ (List.mem_append_right _ (List.mem_append_right _ (List.mem_append_right _ (List.mem_append_left _ h)))), good_of_word (sp_gV gwX8_solves w h)⟩
set_option maxHeartbeats 4000000 in
set_option maxRecDepth 100000 in
theorem c_X8_look (l : Launch) (D : va_G) (cI cJ cZ : ClassId) (sz : Nat) (h a0 a1 a2 a3 a4 a5 a6 a7 a8 a9 a10 a11 a12 a13 a14 a15 a16 a17 : Nat) (f0 f1 : Nat → Int64) : Met l yX8_look wpX8_look ({ frames := 1, cells := 0, slots := 0, locals := 21 }) (va_Pc [.ref h] (sp_pre D vwCl (sp_ty cI cJ cZ) [(h, .inr (6, [.int 0, .int 0, .ref a0, .ref a1, .ref a2, .int 0, .ref a3, .ref a4, .ref a5, .ref a6, .ref a7, .ref a8, .int 1, .int (-1), .int 1, .int 0, .ref a9, .ref a10, .ref a11, .ref a12, .ref a13, .ref a14, .ref a15, .ref a16, .ref a17, .int 0])), (a9, .inl (cJ, 4, .inr (.inl f0))), (a11, .inl (cJ, 4, .inr (.inl f1)))] sz)) (va_Qv (fun (_ : Unit) => True) (sp_B D vwCl (va_A [(h, .inr (6, [.int 0, .int 0, .ref a0, .ref a1, .ref a2, .int 0, .ref a3, .ref a4, .ref a5, .ref a6, .ref a7, .ref a8, .int 1, .int (-1), .int 1, .int 0, .ref a9, .ref a10, .ref a11, .ref a12, .ref a13, .ref a14, .ref a15, .ref a16, .ref a17, .int 0])), (a9, .inl (cJ, 4, .inr (.inl f0))), (a11, .inl (cJ, 4, .inr (.inl f1)))] sz) (fun (_ : Unit) => [(h, .inr (6, [.int 0, .int 0, .ref a0, .ref a1, .ref a2, .int 0, .ref a3, .ref a4, .ref a5, .ref a6, .ref a7, .ref a8, .int 1, .int 1, .int 1, .int 0, .ref a9, .ref a10, .ref a11, .ref a12, .ref a13, .ref a14, .ref a15, .ref a16, .ref a17, .int 0]))])) (va_A [(h, .inr (6, [.int 0, .int 0, .ref a0, .ref a1, .ref a2, .int 0, .ref a3, .ref a4, .ref a5, .ref a6, .ref a7, .ref a8, .int 1, .int (-1), .int 1, .int 0, .ref a9, .ref a10, .ref a11, .ref a12, .ref a13, .ref a14, .ref a15, .ref a16, .ref a17, .int 0])), (a9, .inl (cJ, 4, .inr (.inl f0))), (a11, .inl (cJ, 4, .inr (.inl f1)))] sz)) 0 0 (va_A [(h, .inr (6, [.int 0, .int 0, .ref a0, .ref a1, .ref a2, .int 0, .ref a3, .ref a4, .ref a5, .ref a6, .ref a7, .ref a8, .int 1, .int (-1), .int 1, .int 0, .ref a9, .ref a10, .ref a11, .ref a12, .ref a13, .ref a14, .ref a15, .ref a16, .ref a17, .int 0])), (a9, .inl (cJ, 4, .inr (.inl f0))), (a11, .inl (cJ, 4, .inr (.inl f1)))] sz) := by
  refine sp_ofW (Qc := fun A => va_Qv (fun (_ : Unit) => True) (sp_B D vwCl A (fun (_ : Unit) => [(h, .inr (6, [.int 0, .int 0, .ref a0, .ref a1, .ref a2, .int 0, .ref a3, .ref a4, .ref a5, .ref a6, .ref a7, .ref a8, .int 1, .int 1, .int 1, .int 0, .ref a9, .ref a10, .ref a11, .ref a12, .ref a13, .ref a14, .ref a15, .ref a16, .ref a17, .int 0]))])) A) (by decide) rfl (Nat.le_of_ble_eq_true rfl) (fun p e s m below meth c A ls H locs C0 hA hS hP hK hD hl => ?_)
  obtain ⟨hx, hb, hr, hts, hown, hlocks, hml, hin⟩ := C0
  have hown : s.vm.findClass RX8 = some m.cls := hown
  have hl : lv_has ls 9 [(0, .ref h)] := hl
  have hK : va_K D vwCl [(cI, .int), (cJ, .long), (cZ, .boolean)] s := hK
  refine lv_aload_n hx hb dX8_look_0 rfl (lv_at hl 0 rfl) ?_
  refine sp_callv (wr := [(a9, .inl (cJ, 4, .inr (.inl f0))), (a11, .inl (cJ, 4, .inr (.inl f1)))]) (wc := [(h, .inr (6, [.int 0, .int 0, .ref a0, .ref a1, .ref a2, .int 0, .ref a3, .ref a4, .ref a5, .ref a6, .ref a7, .ref a8, .int 1, .int (-1), .int 1, .int 0, .ref a9, .ref a10, .ref a11, .ref a12, .ref a13, .ref a14, .ref a15, .ref a16, .ref a17, .int 0]))]) hP hD hS hA [0] [1, 2] rfl rfl (by decide) (by decide) (va_runV (As := []) (rest := []) ⟨hx, hb, hml, hown, hts⟩ (c_X8_spans l D cI cJ cZ H.size h a0 a1 a2 a3 a4 a5 a6 a7 a8 a9 a10 a11 a12 a13 a14 a15 a16 a17) (cwV 0 hts gX8_look_X8_spans_214 rfl rfl rfl (by decide +kernel) ⟨Nat.le_of_ble_eq_true rfl, Nat.le_of_ble_eq_true rfl⟩) (sp_preV (ci := 6) (q0 := 0) [] hK (hP.sub (ws' := [(h, .inr (6, [.int 0, .int 0, .ref a0, .ref a1, .ref a2, .int 0, .ref a3, .ref a4, .ref a5, .ref a6, .ref a7, .ref a8, .int 1, .int (-1), .int 1, .int 0, .ref a9, .ref a10, .ref a11, .ref a12, .ref a13, .ref a14, .ref a15, .ref a16, .ref a17, .int 0]))]) [0] rfl) (hD.sub (ws' := [(h, .inr (6, [.int 0, .int 0, .ref a0, .ref a1, .ref a2, .int 0, .ref a3, .ref a4, .ref a5, .ref a6, .ref a7, .ref a8, .int 1, .int (-1), .int 1, .int 0, .ref a9, .ref a10, .ref a11, .ref a12, .ref a13, .ref a14, .ref a15, .ref a16, .ref a17, .int 0]))]) [0] (by decide) rfl) rfl rfl) rfl rfl hl.1 rfl (lv_room (Nat.le_of_ble_eq_true rfl)) dX8_look_1 ⟨Nat.le_of_ble_eq_true rfl, Nat.le_of_ble_eq_true rfl⟩) (fun u2 H locs hw3 hP hD hS => ?_)
  have hP : va_P D vwCl [(a9, .inl (cJ, 4, .inr (.inl f0))), (a11, .inl (cJ, 4, .inr (.inl f1))), (h, .inr (6, [.int 0, .int 0, .ref a0, .ref a1, .ref a2, .int 0, .ref a3, .ref a4, .ref a5, .ref a6, .ref a7, .ref a8, .int 1, .int (-1), .int 1, .int 0, .ref a9, .ref a10, .ref a11, .ref a12, .ref a13, .ref a14, .ref a15, .ref a16, .ref a17, .int 0]))] H := hP
  have hD : va_D A [(a9, .inl (cJ, 4, .inr (.inl f0))), (a11, .inl (cJ, 4, .inr (.inl f1))), (h, .inr (6, [.int 0, .int 0, .ref a0, .ref a1, .ref a2, .int 0, .ref a3, .ref a4, .ref a5, .ref a6, .ref a7, .ref a8, .int 1, .int (-1), .int 1, .int 0, .ref a9, .ref a10, .ref a11, .ref a12, .ref a13, .ref a14, .ref a15, .ref a16, .ref a17, .int 0]))] := hD
  refine lv_iconst (v := 1) hx hb dX8_look_4 (by decide) ?_
  refine lv_istore_n (lv' := [(1, .int 1), (0, .ref h)]) hx hb dX8_look_5 rfl hl (by decide) rfl (fun ls hl => ?_)
  refine lv_iconst (v := 0) hx hb dX8_look_6 (by decide) ?_
  refine lv_istore_n (lv' := [(2, .int 0), (1, .int 1), (0, .ref h)]) hx hb dX8_look_7 rfl hl (by decide) rfl (fun ls hl => ?_)
  refine lv_iload_n hx hb dX8_look_8 rfl (lv_at hl 0 rfl) ?_
  refine lv_aload_n hx hb dX8_look_9 rfl (lv_at hl 2 rfl) ?_
  refine va_get (D := D) (ci := 6) (v := .int 0) (C := RX8) (T := TX8) (N := 26) hx hb hts iX8_look_X8 hown hK hP 2 rfl rfl 5 (by decide) (hts (.fieldLink RX8 167 "FloatSolverModel" "rules" "I") (oX8_look_in _ (List.mem_of_getElem? (i := 0) rfl))) (fun _ h9 => h9) rfl dX8_look_10 ?_
  refine lv_icmp_ge (tgt := 48) hx hb dX8_look_13 (by decide) (fun _ => ?_) (fun c4 => absurd (by decide) c4)
  refine lv_iload_n hx hb dX8_look_48 rfl (lv_at hl 1 rfl) ?_
  refine lv_if_eq (tgt := 57) hx hb dX8_look_49 (by decide) (fun c5 => absurd c5 (by decide)) (fun _ => ?_)
  refine lv_aload_n hx hb dX8_look_52 rfl (lv_at hl 2 rfl) ?_
  refine sp_callv (wr := []) (wc := [(h, .inr (6, [.int 0, .int 0, .ref a0, .ref a1, .ref a2, .int 0, .ref a3, .ref a4, .ref a5, .ref a6, .ref a7, .ref a8, .int 1, .int (-1), .int 1, .int 0, .ref a9, .ref a10, .ref a11, .ref a12, .ref a13, .ref a14, .ref a15, .ref a16, .ref a17, .int 0])), (a9, .inl (cJ, 4, .inr (.inl f0))), (a11, .inl (cJ, 4, .inr (.inl f1)))]) hP hD hS hA [2, 0, 1] [] rfl rfl (by decide) (by decide) (va_runV (As := []) (rest := []) ⟨hx, hb, hml, hown, hts⟩ (c_X8_solves l D cI cJ cZ H.size h a0 a1 a2 a3 a4 a5 a6 a7 a8 a9 a10 a11 a12 a13 a14 a15 a16 a17 f0 f1) (cwV 0 hts gX8_look_X8_solves_255 rfl rfl rfl (by decide +kernel) ⟨Nat.le_of_ble_eq_true rfl, Nat.le_of_ble_eq_true rfl⟩) (sp_preV (ci := 6) (q0 := 0) [] hK (hP.sub (ws' := [(h, .inr (6, [.int 0, .int 0, .ref a0, .ref a1, .ref a2, .int 0, .ref a3, .ref a4, .ref a5, .ref a6, .ref a7, .ref a8, .int 1, .int (-1), .int 1, .int 0, .ref a9, .ref a10, .ref a11, .ref a12, .ref a13, .ref a14, .ref a15, .ref a16, .ref a17, .int 0])), (a9, .inl (cJ, 4, .inr (.inl f0))), (a11, .inl (cJ, 4, .inr (.inl f1)))]) [2, 0, 1] rfl) (hD.sub (ws' := [(h, .inr (6, [.int 0, .int 0, .ref a0, .ref a1, .ref a2, .int 0, .ref a3, .ref a4, .ref a5, .ref a6, .ref a7, .ref a8, .int 1, .int (-1), .int 1, .int 0, .ref a9, .ref a10, .ref a11, .ref a12, .ref a13, .ref a14, .ref a15, .ref a16, .ref a17, .int 0])), (a9, .inl (cJ, 4, .inr (.inl f0))), (a11, .inl (cJ, 4, .inr (.inl f1)))]) [2, 0, 1] (by decide) rfl) rfl rfl) rfl rfl hl.1 rfl (lv_room (Nat.le_of_ble_eq_true rfl)) dX8_look_53 ⟨Nat.le_of_ble_eq_true rfl, Nat.le_of_ble_eq_true rfl⟩) (fun u7 H locs hw8 hP hD hS => ?_)
  have hP : va_P D vwCl [(h, .inr (6, [.int 0, .int 0, .ref a0, .ref a1, .ref a2, .int 0, .ref a3, .ref a4, .ref a5, .ref a6, .ref a7, .ref a8, .int 1, .int 1, .int 1, .int 0, .ref a9, .ref a10, .ref a11, .ref a12, .ref a13, .ref a14, .ref a15, .ref a16, .ref a17, .int 0]))] H := hP
  have hD : va_D A [(h, .inr (6, [.int 0, .int 0, .ref a0, .ref a1, .ref a2, .int 0, .ref a3, .ref a4, .ref a5, .ref a6, .ref a7, .ref a8, .int 1, .int 1, .int 1, .int 0, .ref a9, .ref a10, .ref a11, .ref a12, .ref a13, .ref a14, .ref a15, .ref a16, .ref a17, .int 0]))] := hD
  refine W.widen (k := 0) (n := 0) (by decide) (by decide) ?_
  exact sp_vret (u := ()) hx hb hr hlocks hS trivial (hP.sub [0] rfl) (hD.sub [0] (by decide) rfl) dX8_look_56
def oX8_solve : List Cond := [.fieldLink RX8 70 "FloatSolverModel" "thrown" "I", .constantLong RX8 234 (5000), .fieldLink RX8 236 "FloatSolverModel" "isSolved" "Z", .fieldLink RX8 240 "FloatSolverModel" "looked" "I", .fieldLink RX8 243 "FloatSolverModel" "halved" "I", .fieldLink RX8 231 "FloatSolverModel" "answer" "I", .fieldLink RX8 228 "FloatSolverModel" "stacked" "I", .fieldLink RX8 44 "FloatSolverModel" "boxLow" "[J", .fieldLink RX8 28 "FloatSolverModel" "low" "[J", .fieldLink RX8 47 "FloatSolverModel" "boxHigh" "[J", .fieldLink RX8 32 "FloatSolverModel" "high" "[J"]
def wpX8_solve : List Cond := .code yX8_solve cX8_solve 3 (some .int) :: (oX8_solve ++ (wsX80 ++ ((va_wsS RX8 150 yX8_in wpX8_in) ++ ((wsV RX8 246 RX8 yX8_lay wpX8_lay) ++ ((wsV RX8 249 RX8 yX8_lift wpX8_lift) ++ ((wsV RX8 252 RX8 yX8_look wpX8_look) ++ ([] : List Cond)))))))
theorem oX8_solve_in : ∀ w ∈ oX8_solve, w ∈ wpX8_solve := fun w h => List.mem_cons_of_mem _ (List.mem_append_left _ h)
theorem gwoX8_solve : ∀ w ∈ oX8_solve, goodWord w = true := by decide +kernel
theorem gwX8_solve : ∀ w ∈ wpX8_solve, goodWord w = true := by
  unfold wpX8_solve
  exact List.forall_mem_cons.mpr ⟨rfl, List.forall_mem_append.mpr ⟨gwoX8_solve, List.forall_mem_append.mpr ⟨gwX8, List.forall_mem_append.mpr ⟨(sp_gS gwX8_in), List.forall_mem_append.mpr ⟨(sp_gV gwX8_lay), List.forall_mem_append.mpr ⟨(sp_gV gwX8_lift), List.forall_mem_append.mpr ⟨(sp_gV gwX8_look), fun _ h => absurd h List.not_mem_nil⟩⟩⟩⟩⟩⟩⟩
set_option maxRecDepth 100000 in
theorem toX8_solve : ∀ w ∈ oX8_solve, w ∈ lw_tbl := by
  unfold oX8_solve
  exact List.forall_mem_cons.mpr ⟨(List.mem_of_getElem? (i := 683) (by decide +kernel)), List.forall_mem_cons.mpr ⟨(List.mem_of_getElem? (i := 945) (by decide +kernel)), List.forall_mem_cons.mpr ⟨(List.mem_of_getElem? (i := 695) (by decide +kernel)), List.forall_mem_cons.mpr ⟨(List.mem_of_getElem? (i := 697) (by decide +kernel)), List.forall_mem_cons.mpr ⟨(List.mem_of_getElem? (i := 698) (by decide +kernel)), List.forall_mem_cons.mpr ⟨(List.mem_of_getElem? (i := 696) (by decide +kernel)), List.forall_mem_cons.mpr ⟨(List.mem_of_getElem? (i := 708) (by decide +kernel)), List.forall_mem_cons.mpr ⟨(List.mem_of_getElem? (i := 701) (by decide +kernel)), List.forall_mem_cons.mpr ⟨(List.mem_of_getElem? (i := 692) (by decide +kernel)), List.forall_mem_cons.mpr ⟨(List.mem_of_getElem? (i := 702) (by decide +kernel)), List.forall_mem_cons.mpr ⟨(List.mem_of_getElem? (i := 693) (by decide +kernel)), fun _ h => absurd h List.not_mem_nil⟩⟩⟩⟩⟩⟩⟩⟩⟩⟩⟩
set_option maxRecDepth 100000 in
theorem tX8_solve : ∀ w ∈ wpX8_solve, w ∈ lw_tbl := by
  unfold wpX8_solve
  exact List.forall_mem_cons.mpr ⟨(List.mem_of_getElem? (i := 944) (by rfl)), List.forall_mem_append.mpr ⟨toX8_solve, List.forall_mem_append.mpr ⟨in_wsX80, List.forall_mem_append.mpr ⟨(sp_tS (List.mem_of_getElem? (i := 771) (by decide +kernel)) (List.mem_of_getElem? (i := 772) (by decide +kernel)) (List.mem_of_getElem? (i := 45) (by decide +kernel)) tX8_in), List.forall_mem_append.mpr ⟨(sp_tV (List.mem_of_getElem? (i := 946) (by decide +kernel)) (List.mem_of_getElem? (i := 948) (by decide +kernel)) (List.mem_of_getElem? (i := 33) (by decide +kernel)) (List.mem_of_getElem? (i := 45) (by decide +kernel)) tX8_lay), List.forall_mem_append.mpr ⟨(sp_tV (List.mem_of_getElem? (i := 950) (by decide +kernel)) (List.mem_of_getElem? (i := 952) (by decide +kernel)) (List.mem_of_getElem? (i := 34) (by decide +kernel)) (List.mem_of_getElem? (i := 45) (by decide +kernel)) tX8_lift), List.forall_mem_append.mpr ⟨(sp_tV (List.mem_of_getElem? (i := 954) (by decide +kernel)) (List.mem_of_getElem? (i := 956) (by decide +kernel)) (List.mem_of_getElem? (i := 35) (by decide +kernel)) (List.mem_of_getElem? (i := 45) (by decide +kernel)) tX8_look), fun _ h => absurd h List.not_mem_nil⟩⟩⟩⟩⟩⟩⟩
theorem iX8_solve_X8 : ∀ w ∈ wsX80, w ∈ wpX8_solve := fun w h => List.mem_cons_of_mem _ (List.mem_append_right _ (List.mem_append_left _ h))
theorem gX8_solve_X8_in_150 : GoodIn wpX8_solve (va_wsS RX8 150 yX8_in wpX8_in) := fun w h => ⟨List.mem_cons_of_mem _ (List.mem_append_right _ (List.mem_append_right _ (List.mem_append_left _ h))), good_of_word (sp_gS gwX8_in w h)⟩
theorem gX8_solve_X8_lay_246 : GoodIn wpX8_solve (wsV RX8 246 RX8 yX8_lay wpX8_lay) := fun w h => ⟨List.mem_cons_of_mem _ (List.mem_append_right _ (List.mem_append_right _ (List.mem_append_right _ (List.mem_append_left _ h)))), good_of_word (sp_gV gwX8_lay w h)⟩
theorem gX8_solve_X8_lift_249 : GoodIn wpX8_solve (wsV RX8 249 RX8 yX8_lift wpX8_lift) := fun w h => ⟨List.mem_cons_of_mem _ (List.mem_append_right _ (List.mem_append_right _ (List.mem_append_right _ (List.mem_append_right _ (List.mem_append_left _ h))))), good_of_word (sp_gV gwX8_lift w h)⟩
theorem gX8_solve_X8_look_252 : GoodIn wpX8_solve (wsV RX8 252 RX8 yX8_look wpX8_look) := fun w h => ⟨List.mem_cons_of_mem _ (List.mem_append_right _ (List.mem_append_right _ (List.mem_append_right _ (List.mem_append_right _ (List.mem_append_right _ (List.mem_append_left _ h)))))), good_of_word (sp_gV gwX8_look w h)⟩
set_option maxHeartbeats 4000000 in
set_option maxRecDepth 100000 in
theorem c_X8_solve (l : Launch) (D : va_G) (cI cJ cZ : ClassId) (sz : Nat) (h a0 a1 a2 a3 a4 a5 a6 a7 a8 a9 a10 a11 a12 a13 a14 a15 a16 a17 : Nat) (g0 g1 g2 g3 g4 g5 : Nat → Int64) (w : Int32) : Met l yX8_solve wpX8_solve ({ frames := 2, cells := 0, slots := 0, locals := 49 }) (va_Pc [.ref h, .int w] (sp_pre D vwCl (sp_ty cI cJ cZ) [(h, .inr (6, [.int 0, .int 0, .ref a0, .ref a1, .ref a2, .int 0, .ref a3, .ref a4, .ref a5, .ref a6, .ref a7, .ref a8, .int 0, .int 0, .int 0, .int 0, .ref a9, .ref a10, .ref a11, .ref a12, .ref a13, .ref a14, .ref a15, .ref a16, .ref a17, .int 0])), (a6, .inl (cJ, 4, .inr (.inl g0))), (a7, .inl (cJ, 4, .inr (.inl g1))), (a9, .inl (cJ, 4, .inr (.inl g2))), (a11, .inl (cJ, 4, .inr (.inl g3))), (a12, .inl (cJ, 4, .inr (.inl g4))), (a17, .inl (cJ, 1200, .inr (.inl g5)))] sz)) (va_Qi (fun (r : Int32) (_ : Unit) => r = sp_solve w) (sp_B D vwCl (va_A [(h, .inr (6, [.int 0, .int 0, .ref a0, .ref a1, .ref a2, .int 0, .ref a3, .ref a4, .ref a5, .ref a6, .ref a7, .ref a8, .int 0, .int 0, .int 0, .int 0, .ref a9, .ref a10, .ref a11, .ref a12, .ref a13, .ref a14, .ref a15, .ref a16, .ref a17, .int 0])), (a6, .inl (cJ, 4, .inr (.inl g0))), (a7, .inl (cJ, 4, .inr (.inl g1))), (a9, .inl (cJ, 4, .inr (.inl g2))), (a11, .inl (cJ, 4, .inr (.inl g3))), (a12, .inl (cJ, 4, .inr (.inl g4))), (a17, .inl (cJ, 1200, .inr (.inl g5)))] sz) (fun (_ : Unit) => [])) (va_A [(h, .inr (6, [.int 0, .int 0, .ref a0, .ref a1, .ref a2, .int 0, .ref a3, .ref a4, .ref a5, .ref a6, .ref a7, .ref a8, .int 0, .int 0, .int 0, .int 0, .ref a9, .ref a10, .ref a11, .ref a12, .ref a13, .ref a14, .ref a15, .ref a16, .ref a17, .int 0])), (a6, .inl (cJ, 4, .inr (.inl g0))), (a7, .inl (cJ, 4, .inr (.inl g1))), (a9, .inl (cJ, 4, .inr (.inl g2))), (a11, .inl (cJ, 4, .inr (.inl g3))), (a12, .inl (cJ, 4, .inr (.inl g4))), (a17, .inl (cJ, 1200, .inr (.inl g5)))] sz)) 0 0 (va_A [(h, .inr (6, [.int 0, .int 0, .ref a0, .ref a1, .ref a2, .int 0, .ref a3, .ref a4, .ref a5, .ref a6, .ref a7, .ref a8, .int 0, .int 0, .int 0, .int 0, .ref a9, .ref a10, .ref a11, .ref a12, .ref a13, .ref a14, .ref a15, .ref a16, .ref a17, .int 0])), (a6, .inl (cJ, 4, .inr (.inl g0))), (a7, .inl (cJ, 4, .inr (.inl g1))), (a9, .inl (cJ, 4, .inr (.inl g2))), (a11, .inl (cJ, 4, .inr (.inl g3))), (a12, .inl (cJ, 4, .inr (.inl g4))), (a17, .inl (cJ, 1200, .inr (.inl g5)))] sz) := by
  refine sp_ofW (Qc := fun A => va_Qi (fun (r : Int32) (_ : Unit) => r = sp_solve w) (sp_B D vwCl A (fun (_ : Unit) => [])) A) (by decide) rfl (Nat.le_of_ble_eq_true rfl) (fun p e s m below meth c A ls H locs C0 hA hS hP hK hD hl => ?_)
  obtain ⟨hx, hb, hr, hts, hown, hlocks, hml, hin⟩ := C0
  have hown : s.vm.findClass RX8 = some m.cls := hown
  have hl : lv_has ls 3 [(0, .ref h), (1, .int w)] := hl
  have hK : va_K D vwCl [(cI, .int), (cJ, .long), (cZ, .boolean)] s := hK
  refine lv_aload_n hx hb dX8_solve_0 rfl (lv_at hl 0 rfl) ?_
  refine lv_iconst (v := 0) hx hb dX8_solve_1 (by decide) ?_
  refine va_put (D := D) (ci := 6) (v := .int 0) (ty := .int) (C := RX8) (T := TX8) (N := 26) hx hb hts iX8_solve_X8 tyX8 tyX8_ok nmX8 hown hK hP hD hS 0 rfl rfl 0 (by decide) (hts (.fieldLink RX8 70 "FloatSolverModel" "thrown" "I") (oX8_solve_in _ (List.mem_of_getElem? (i := 0) rfl))) (fun _ h9 => h9) rfl (by decide +kernel) rfl rfl (Nat.le_of_ble_eq_true rfl) dX8_solve_2 (fun H locs hP hD hS => ?_)
  have hP : va_P D vwCl [(h, .inr (6, [.int 0, .int 0, .ref a0, .ref a1, .ref a2, .int 0, .ref a3, .ref a4, .ref a5, .ref a6, .ref a7, .ref a8, .int 0, .int 0, .int 0, .int 0, .ref a9, .ref a10, .ref a11, .ref a12, .ref a13, .ref a14, .ref a15, .ref a16, .ref a17, .int 0])), (a6, .inl (cJ, 4, .inr (.inl g0))), (a7, .inl (cJ, 4, .inr (.inl g1))), (a9, .inl (cJ, 4, .inr (.inl g2))), (a11, .inl (cJ, 4, .inr (.inl g3))), (a12, .inl (cJ, 4, .inr (.inl g4))), (a17, .inl (cJ, 1200, .inr (.inl g5)))] H := hP
  have hD : va_D A [(h, .inr (6, [.int 0, .int 0, .ref a0, .ref a1, .ref a2, .int 0, .ref a3, .ref a4, .ref a5, .ref a6, .ref a7, .ref a8, .int 0, .int 0, .int 0, .int 0, .ref a9, .ref a10, .ref a11, .ref a12, .ref a13, .ref a14, .ref a15, .ref a16, .ref a17, .int 0])), (a6, .inl (cJ, 4, .inr (.inl g0))), (a7, .inl (cJ, 4, .inr (.inl g1))), (a9, .inl (cJ, 4, .inr (.inl g2))), (a11, .inl (cJ, 4, .inr (.inl g3))), (a12, .inl (cJ, 4, .inr (.inl g4))), (a17, .inl (cJ, 1200, .inr (.inl g5)))] := hD
  refine lv_iload_n hx hb dX8_solve_5 rfl (lv_at hl 1 rfl) ?_
  refine lv_i2l (v := _) hx hb dX8_solve_6 rfl ?_
  refine lv_lconst (v := 1) hx hb dX8_solve_7 (by decide) ?_
  refine lv_ldc2 (v := 5000) hx hb hown (hts (.constantLong RX8 234 (5000)) (oX8_solve_in _ (List.mem_of_getElem? (i := 1) rfl))) dX8_solve_8 ?_
  refine sp_calli (wr := [(h, .inr (6, [.int 0, .int 0, .ref a0, .ref a1, .ref a2, .int 0, .ref a3, .ref a4, .ref a5, .ref a6, .ref a7, .ref a8, .int 0, .int 0, .int 0, .int 0, .ref a9, .ref a10, .ref a11, .ref a12, .ref a13, .ref a14, .ref a15, .ref a16, .ref a17, .int 0])), (a6, .inl (cJ, 4, .inr (.inl g0))), (a7, .inl (cJ, 4, .inr (.inl g1))), (a9, .inl (cJ, 4, .inr (.inl g2))), (a11, .inl (cJ, 4, .inr (.inl g3))), (a12, .inl (cJ, 4, .inr (.inl g4))), (a17, .inl (cJ, 1200, .inr (.inl g5)))]) (wc := []) hP hD hS hA [] [0, 1, 2, 3, 4, 5, 6] rfl rfl (by decide) (by decide) (va_runS (As := [.long (w : Int32).toInt64, .long 1, .long 5000]) (rest := []) ⟨hx, hb, hml, hown, hts⟩ (c_X8_in l D cI cJ cZ H.size ((w : Int32).toInt64) (1) (5000)) (va_cwS 3 hts gX8_solve_X8_in_150 rfl rfl rfl (by decide +kernel) ⟨Nat.le_of_ble_eq_true rfl, Nat.le_of_ble_eq_true rfl⟩) (sp_preS [.long (w : Int32).toInt64, .long 1, .long 5000] hK (hP.sub (ws' := []) [] rfl) (hD.sub (ws' := []) [] (by decide) rfl)) rfl rfl hl.1 rfl (lv_room (Nat.le_of_ble_eq_true rfl)) dX8_solve_11 ⟨Nat.le_of_ble_eq_true rfl, Nat.le_of_ble_eq_true rfl⟩) (fun r1 u2 H locs hw3 hP hD hS => ?_)
  rcases hw3 with ⟨rfl, h4⟩ | ⟨rfl, h4⟩
  · skip
    have h4 : (1 : Int) ≤ (w : Int32).toInt ∧ (w : Int32).toInt ≤ (5000 : Int) := (by have h9 := h4; simp only [Int32.toInt_toInt64] at h9; exact h9)
    have hP : va_P D vwCl [(h, .inr (6, [.int 0, .int 0, .ref a0, .ref a1, .ref a2, .int 0, .ref a3, .ref a4, .ref a5, .ref a6, .ref a7, .ref a8, .int 0, .int 0, .int 0, .int 0, .ref a9, .ref a10, .ref a11, .ref a12, .ref a13, .ref a14, .ref a15, .ref a16, .ref a17, .int 0])), (a6, .inl (cJ, 4, .inr (.inl g0))), (a7, .inl (cJ, 4, .inr (.inl g1))), (a9, .inl (cJ, 4, .inr (.inl g2))), (a11, .inl (cJ, 4, .inr (.inl g3))), (a12, .inl (cJ, 4, .inr (.inl g4))), (a17, .inl (cJ, 1200, .inr (.inl g5)))] H := hP
    have hD : va_D A [(h, .inr (6, [.int 0, .int 0, .ref a0, .ref a1, .ref a2, .int 0, .ref a3, .ref a4, .ref a5, .ref a6, .ref a7, .ref a8, .int 0, .int 0, .int 0, .int 0, .ref a9, .ref a10, .ref a11, .ref a12, .ref a13, .ref a14, .ref a15, .ref a16, .ref a17, .int 0])), (a6, .inl (cJ, 4, .inr (.inl g0))), (a7, .inl (cJ, 4, .inr (.inl g1))), (a9, .inl (cJ, 4, .inr (.inl g2))), (a11, .inl (cJ, 4, .inr (.inl g3))), (a12, .inl (cJ, 4, .inr (.inl g4))), (a17, .inl (cJ, 1200, .inr (.inl g5)))] := hD
    refine lv_if_ne (tgt := 20) hx hb dX8_solve_14 (by decide) (fun _ => ?_) (fun c5 => absurd c5 (by decide))
    refine lv_aload_n hx hb dX8_solve_20 rfl (lv_at hl 0 rfl) ?_
    refine lv_iconst (v := 1) hx hb dX8_solve_21 (by decide) ?_
    refine va_put (D := D) (ci := 6) (v := .int 1) (ty := .boolean) (C := RX8) (T := TX8) (N := 26) hx hb hts iX8_solve_X8 tyX8 tyX8_ok nmX8 hown hK hP hD hS 0 rfl rfl 12 (by decide) (hts (.fieldLink RX8 236 "FloatSolverModel" "isSolved" "Z") (oX8_solve_in _ (List.mem_of_getElem? (i := 2) rfl))) (fun _ h9 => h9) rfl (by decide +kernel) rfl rfl (Nat.le_of_ble_eq_true rfl) dX8_solve_22 (fun H locs hP hD hS => ?_)
    have hP : va_P D vwCl [(h, .inr (6, [.int 0, .int 0, .ref a0, .ref a1, .ref a2, .int 0, .ref a3, .ref a4, .ref a5, .ref a6, .ref a7, .ref a8, .int 1, .int 0, .int 0, .int 0, .ref a9, .ref a10, .ref a11, .ref a12, .ref a13, .ref a14, .ref a15, .ref a16, .ref a17, .int 0])), (a6, .inl (cJ, 4, .inr (.inl g0))), (a7, .inl (cJ, 4, .inr (.inl g1))), (a9, .inl (cJ, 4, .inr (.inl g2))), (a11, .inl (cJ, 4, .inr (.inl g3))), (a12, .inl (cJ, 4, .inr (.inl g4))), (a17, .inl (cJ, 1200, .inr (.inl g5)))] H := hP
    have hD : va_D A [(h, .inr (6, [.int 0, .int 0, .ref a0, .ref a1, .ref a2, .int 0, .ref a3, .ref a4, .ref a5, .ref a6, .ref a7, .ref a8, .int 1, .int 0, .int 0, .int 0, .ref a9, .ref a10, .ref a11, .ref a12, .ref a13, .ref a14, .ref a15, .ref a16, .ref a17, .int 0])), (a6, .inl (cJ, 4, .inr (.inl g0))), (a7, .inl (cJ, 4, .inr (.inl g1))), (a9, .inl (cJ, 4, .inr (.inl g2))), (a11, .inl (cJ, 4, .inr (.inl g3))), (a12, .inl (cJ, 4, .inr (.inl g4))), (a17, .inl (cJ, 1200, .inr (.inl g5)))] := hD
    refine lv_aload_n hx hb dX8_solve_25 rfl (lv_at hl 0 rfl) ?_
    refine lv_iconst (v := 0) hx hb dX8_solve_26 (by decide) ?_
    refine va_put (D := D) (ci := 6) (v := .int 0) (ty := .int) (C := RX8) (T := TX8) (N := 26) hx hb hts iX8_solve_X8 tyX8 tyX8_ok nmX8 hown hK hP hD hS 0 rfl rfl 14 (by decide) (hts (.fieldLink RX8 240 "FloatSolverModel" "looked" "I") (oX8_solve_in _ (List.mem_of_getElem? (i := 3) rfl))) (fun _ h9 => h9) rfl (by decide +kernel) rfl rfl (Nat.le_of_ble_eq_true rfl) dX8_solve_27 (fun H locs hP hD hS => ?_)
    have hP : va_P D vwCl [(h, .inr (6, [.int 0, .int 0, .ref a0, .ref a1, .ref a2, .int 0, .ref a3, .ref a4, .ref a5, .ref a6, .ref a7, .ref a8, .int 1, .int 0, .int 0, .int 0, .ref a9, .ref a10, .ref a11, .ref a12, .ref a13, .ref a14, .ref a15, .ref a16, .ref a17, .int 0])), (a6, .inl (cJ, 4, .inr (.inl g0))), (a7, .inl (cJ, 4, .inr (.inl g1))), (a9, .inl (cJ, 4, .inr (.inl g2))), (a11, .inl (cJ, 4, .inr (.inl g3))), (a12, .inl (cJ, 4, .inr (.inl g4))), (a17, .inl (cJ, 1200, .inr (.inl g5)))] H := hP
    have hD : va_D A [(h, .inr (6, [.int 0, .int 0, .ref a0, .ref a1, .ref a2, .int 0, .ref a3, .ref a4, .ref a5, .ref a6, .ref a7, .ref a8, .int 1, .int 0, .int 0, .int 0, .ref a9, .ref a10, .ref a11, .ref a12, .ref a13, .ref a14, .ref a15, .ref a16, .ref a17, .int 0])), (a6, .inl (cJ, 4, .inr (.inl g0))), (a7, .inl (cJ, 4, .inr (.inl g1))), (a9, .inl (cJ, 4, .inr (.inl g2))), (a11, .inl (cJ, 4, .inr (.inl g3))), (a12, .inl (cJ, 4, .inr (.inl g4))), (a17, .inl (cJ, 1200, .inr (.inl g5)))] := hD
    refine lv_aload_n hx hb dX8_solve_30 rfl (lv_at hl 0 rfl) ?_
    refine lv_iconst (v := 0) hx hb dX8_solve_31 (by decide) ?_
    refine va_put (D := D) (ci := 6) (v := .int 0) (ty := .int) (C := RX8) (T := TX8) (N := 26) hx hb hts iX8_solve_X8 tyX8 tyX8_ok nmX8 hown hK hP hD hS 0 rfl rfl 15 (by decide) (hts (.fieldLink RX8 243 "FloatSolverModel" "halved" "I") (oX8_solve_in _ (List.mem_of_getElem? (i := 4) rfl))) (fun _ h9 => h9) rfl (by decide +kernel) rfl rfl (Nat.le_of_ble_eq_true rfl) dX8_solve_32 (fun H locs hP hD hS => ?_)
    have hP : va_P D vwCl [(h, .inr (6, [.int 0, .int 0, .ref a0, .ref a1, .ref a2, .int 0, .ref a3, .ref a4, .ref a5, .ref a6, .ref a7, .ref a8, .int 1, .int 0, .int 0, .int 0, .ref a9, .ref a10, .ref a11, .ref a12, .ref a13, .ref a14, .ref a15, .ref a16, .ref a17, .int 0])), (a6, .inl (cJ, 4, .inr (.inl g0))), (a7, .inl (cJ, 4, .inr (.inl g1))), (a9, .inl (cJ, 4, .inr (.inl g2))), (a11, .inl (cJ, 4, .inr (.inl g3))), (a12, .inl (cJ, 4, .inr (.inl g4))), (a17, .inl (cJ, 1200, .inr (.inl g5)))] H := hP
    have hD : va_D A [(h, .inr (6, [.int 0, .int 0, .ref a0, .ref a1, .ref a2, .int 0, .ref a3, .ref a4, .ref a5, .ref a6, .ref a7, .ref a8, .int 1, .int 0, .int 0, .int 0, .ref a9, .ref a10, .ref a11, .ref a12, .ref a13, .ref a14, .ref a15, .ref a16, .ref a17, .int 0])), (a6, .inl (cJ, 4, .inr (.inl g0))), (a7, .inl (cJ, 4, .inr (.inl g1))), (a9, .inl (cJ, 4, .inr (.inl g2))), (a11, .inl (cJ, 4, .inr (.inl g3))), (a12, .inl (cJ, 4, .inr (.inl g4))), (a17, .inl (cJ, 1200, .inr (.inl g5)))] := hD
    refine lv_aload_n hx hb dX8_solve_35 rfl (lv_at hl 0 rfl) ?_
    refine lv_iconst (v := (-1)) hx hb dX8_solve_36 (by decide) ?_
    refine va_put (D := D) (ci := 6) (v := .int (-1)) (ty := .int) (C := RX8) (T := TX8) (N := 26) hx hb hts iX8_solve_X8 tyX8 tyX8_ok nmX8 hown hK hP hD hS 0 rfl rfl 13 (by decide) (hts (.fieldLink RX8 231 "FloatSolverModel" "answer" "I") (oX8_solve_in _ (List.mem_of_getElem? (i := 5) rfl))) (fun _ h9 => h9) rfl (by decide +kernel) rfl rfl (Nat.le_of_ble_eq_true rfl) dX8_solve_37 (fun H locs hP hD hS => ?_)
    have hP : va_P D vwCl [(h, .inr (6, [.int 0, .int 0, .ref a0, .ref a1, .ref a2, .int 0, .ref a3, .ref a4, .ref a5, .ref a6, .ref a7, .ref a8, .int 1, .int (-1), .int 0, .int 0, .ref a9, .ref a10, .ref a11, .ref a12, .ref a13, .ref a14, .ref a15, .ref a16, .ref a17, .int 0])), (a6, .inl (cJ, 4, .inr (.inl g0))), (a7, .inl (cJ, 4, .inr (.inl g1))), (a9, .inl (cJ, 4, .inr (.inl g2))), (a11, .inl (cJ, 4, .inr (.inl g3))), (a12, .inl (cJ, 4, .inr (.inl g4))), (a17, .inl (cJ, 1200, .inr (.inl g5)))] H := hP
    have hD : va_D A [(h, .inr (6, [.int 0, .int 0, .ref a0, .ref a1, .ref a2, .int 0, .ref a3, .ref a4, .ref a5, .ref a6, .ref a7, .ref a8, .int 1, .int (-1), .int 0, .int 0, .ref a9, .ref a10, .ref a11, .ref a12, .ref a13, .ref a14, .ref a15, .ref a16, .ref a17, .int 0])), (a6, .inl (cJ, 4, .inr (.inl g0))), (a7, .inl (cJ, 4, .inr (.inl g1))), (a9, .inl (cJ, 4, .inr (.inl g2))), (a11, .inl (cJ, 4, .inr (.inl g3))), (a12, .inl (cJ, 4, .inr (.inl g4))), (a17, .inl (cJ, 1200, .inr (.inl g5)))] := hD
    refine lv_aload_n hx hb dX8_solve_40 rfl (lv_at hl 0 rfl) ?_
    refine lv_iconst (v := 0) hx hb dX8_solve_41 (by decide) ?_
    refine va_put (D := D) (ci := 6) (v := .int 0) (ty := .int) (C := RX8) (T := TX8) (N := 26) hx hb hts iX8_solve_X8 tyX8 tyX8_ok nmX8 hown hK hP hD hS 0 rfl rfl 25 (by decide) (hts (.fieldLink RX8 228 "FloatSolverModel" "stacked" "I") (oX8_solve_in _ (List.mem_of_getElem? (i := 6) rfl))) (fun _ h9 => h9) rfl (by decide +kernel) rfl rfl (Nat.le_of_ble_eq_true rfl) dX8_solve_42 (fun H locs hP hD hS => ?_)
    have hP : va_P D vwCl [(h, .inr (6, [.int 0, .int 0, .ref a0, .ref a1, .ref a2, .int 0, .ref a3, .ref a4, .ref a5, .ref a6, .ref a7, .ref a8, .int 1, .int (-1), .int 0, .int 0, .ref a9, .ref a10, .ref a11, .ref a12, .ref a13, .ref a14, .ref a15, .ref a16, .ref a17, .int 0])), (a6, .inl (cJ, 4, .inr (.inl g0))), (a7, .inl (cJ, 4, .inr (.inl g1))), (a9, .inl (cJ, 4, .inr (.inl g2))), (a11, .inl (cJ, 4, .inr (.inl g3))), (a12, .inl (cJ, 4, .inr (.inl g4))), (a17, .inl (cJ, 1200, .inr (.inl g5)))] H := hP
    have hD : va_D A [(h, .inr (6, [.int 0, .int 0, .ref a0, .ref a1, .ref a2, .int 0, .ref a3, .ref a4, .ref a5, .ref a6, .ref a7, .ref a8, .int 1, .int (-1), .int 0, .int 0, .ref a9, .ref a10, .ref a11, .ref a12, .ref a13, .ref a14, .ref a15, .ref a16, .ref a17, .int 0])), (a6, .inl (cJ, 4, .inr (.inl g0))), (a7, .inl (cJ, 4, .inr (.inl g1))), (a9, .inl (cJ, 4, .inr (.inl g2))), (a11, .inl (cJ, 4, .inr (.inl g3))), (a12, .inl (cJ, 4, .inr (.inl g4))), (a17, .inl (cJ, 1200, .inr (.inl g5)))] := hD
    refine lv_iconst (v := 0) hx hb dX8_solve_45 (by decide) ?_
    refine lv_istore_n (lv' := [(2, .int 0), (0, .ref h), (1, .int w)]) hx hb dX8_solve_46 rfl hl (by decide) rfl (fun ls hl => ?_)
    refine lv_iload_n hx hb dX8_solve_47 rfl (lv_at hl 0 rfl) ?_
    refine lv_iconst (v := 4) hx hb dX8_solve_48 (by decide) ?_
    refine lv_icmp_ge (tgt := 82) hx hb dX8_solve_49 (by decide) (fun c6 => absurd c6 (by decide)) (fun _ => ?_)
    refine lv_aload_n hx hb dX8_solve_52 rfl (lv_at hl 1 rfl) ?_
    refine va_get (D := D) (ci := 6) (v := .ref a11) (C := RX8) (T := TX8) (N := 26) hx hb hts iX8_solve_X8 hown hK hP 0 rfl rfl 18 (by decide) (hts (.fieldLink RX8 44 "FloatSolverModel" "boxLow" "[J") (oX8_solve_in _ (List.mem_of_getElem? (i := 7) rfl))) (fun _ h9 => h9) rfl dX8_solve_53 ?_
    refine lv_iload_n hx hb dX8_solve_56 rfl (lv_at hl 0 rfl) ?_
    refine lv_aload_n hx hb dX8_solve_57 rfl (lv_at hl 1 rfl) ?_
    refine va_get (D := D) (ci := 6) (v := .ref a6) (C := RX8) (T := TX8) (N := 26) hx hb hts iX8_solve_X8 hown hK hP 0 rfl rfl 9 (by decide) (hts (.fieldLink RX8 28 "FloatSolverModel" "low" "[J") (oX8_solve_in _ (List.mem_of_getElem? (i := 8) rfl))) (fun _ h9 => h9) rfl dX8_solve_58 ?_
    refine lv_iload_n hx hb dX8_solve_61 rfl (lv_at hl 0 rfl) ?_
    refine va_lald hx hb hK hP 1 1 rfl rfl (by unfold vp_in; decide) dX8_solve_62 ?_
    refine lv_topl (fun y7 e8 => ?_)
    obtain rfl : y7 = g0 0 := e8
    refine va_last hx hb hK hP hD hS 4 1 rfl rfl (by unfold vp_in; decide) dX8_solve_63 (fun H locs hP hD hS => ?_)
    obtain ⟨f9, ef10⟩ : ∃ z9 : Nat → Int64, z9 = vp_updL g3 (0 : Int32).toNatClampNeg (g0 0) := ⟨_, rfl⟩
    rw [← ef10] at hP hD
    have hP : va_P D vwCl [(h, .inr (6, [.int 0, .int 0, .ref a0, .ref a1, .ref a2, .int 0, .ref a3, .ref a4, .ref a5, .ref a6, .ref a7, .ref a8, .int 1, .int (-1), .int 0, .int 0, .ref a9, .ref a10, .ref a11, .ref a12, .ref a13, .ref a14, .ref a15, .ref a16, .ref a17, .int 0])), (a6, .inl (cJ, 4, .inr (.inl g0))), (a7, .inl (cJ, 4, .inr (.inl g1))), (a9, .inl (cJ, 4, .inr (.inl g2))), (a11, .inl (cJ, 4, .inr (.inl f9))), (a12, .inl (cJ, 4, .inr (.inl g4))), (a17, .inl (cJ, 1200, .inr (.inl g5)))] H := hP
    have hD : va_D A [(h, .inr (6, [.int 0, .int 0, .ref a0, .ref a1, .ref a2, .int 0, .ref a3, .ref a4, .ref a5, .ref a6, .ref a7, .ref a8, .int 1, .int (-1), .int 0, .int 0, .ref a9, .ref a10, .ref a11, .ref a12, .ref a13, .ref a14, .ref a15, .ref a16, .ref a17, .int 0])), (a6, .inl (cJ, 4, .inr (.inl g0))), (a7, .inl (cJ, 4, .inr (.inl g1))), (a9, .inl (cJ, 4, .inr (.inl g2))), (a11, .inl (cJ, 4, .inr (.inl f9))), (a12, .inl (cJ, 4, .inr (.inl g4))), (a17, .inl (cJ, 1200, .inr (.inl g5)))] := hD
    refine lv_aload_n hx hb dX8_solve_64 rfl (lv_at hl 1 rfl) ?_
    refine va_get (D := D) (ci := 6) (v := .ref a12) (C := RX8) (T := TX8) (N := 26) hx hb hts iX8_solve_X8 hown hK hP 0 rfl rfl 19 (by decide) (hts (.fieldLink RX8 47 "FloatSolverModel" "boxHigh" "[J") (oX8_solve_in _ (List.mem_of_getElem? (i := 9) rfl))) (fun _ h9 => h9) rfl dX8_solve_65 ?_
    refine lv_iload_n hx hb dX8_solve_68 rfl (lv_at hl 0 rfl) ?_
    refine lv_aload_n hx hb dX8_solve_69 rfl (lv_at hl 1 rfl) ?_
    refine va_get (D := D) (ci := 6) (v := .ref a7) (C := RX8) (T := TX8) (N := 26) hx hb hts iX8_solve_X8 hown hK hP 0 rfl rfl 10 (by decide) (hts (.fieldLink RX8 32 "FloatSolverModel" "high" "[J") (oX8_solve_in _ (List.mem_of_getElem? (i := 10) rfl))) (fun _ h9 => h9) rfl dX8_solve_70 ?_
    refine lv_iload_n hx hb dX8_solve_73 rfl (lv_at hl 0 rfl) ?_
    refine va_lald hx hb hK hP 2 1 rfl rfl (by unfold vp_in; decide) dX8_solve_74 ?_
    refine lv_topl (fun y11 e12 => ?_)
    obtain rfl : y11 = g1 0 := e12
    refine va_last hx hb hK hP hD hS 5 1 rfl rfl (by unfold vp_in; decide) dX8_solve_75 (fun H locs hP hD hS => ?_)
    obtain ⟨f13, ef14⟩ : ∃ z9 : Nat → Int64, z9 = vp_updL g4 (0 : Int32).toNatClampNeg (g1 0) := ⟨_, rfl⟩
    rw [← ef14] at hP hD
    have hP : va_P D vwCl [(h, .inr (6, [.int 0, .int 0, .ref a0, .ref a1, .ref a2, .int 0, .ref a3, .ref a4, .ref a5, .ref a6, .ref a7, .ref a8, .int 1, .int (-1), .int 0, .int 0, .ref a9, .ref a10, .ref a11, .ref a12, .ref a13, .ref a14, .ref a15, .ref a16, .ref a17, .int 0])), (a6, .inl (cJ, 4, .inr (.inl g0))), (a7, .inl (cJ, 4, .inr (.inl g1))), (a9, .inl (cJ, 4, .inr (.inl g2))), (a11, .inl (cJ, 4, .inr (.inl f9))), (a12, .inl (cJ, 4, .inr (.inl f13))), (a17, .inl (cJ, 1200, .inr (.inl g5)))] H := hP
    have hD : va_D A [(h, .inr (6, [.int 0, .int 0, .ref a0, .ref a1, .ref a2, .int 0, .ref a3, .ref a4, .ref a5, .ref a6, .ref a7, .ref a8, .int 1, .int (-1), .int 0, .int 0, .ref a9, .ref a10, .ref a11, .ref a12, .ref a13, .ref a14, .ref a15, .ref a16, .ref a17, .int 0])), (a6, .inl (cJ, 4, .inr (.inl g0))), (a7, .inl (cJ, 4, .inr (.inl g1))), (a9, .inl (cJ, 4, .inr (.inl g2))), (a11, .inl (cJ, 4, .inr (.inl f9))), (a12, .inl (cJ, 4, .inr (.inl f13))), (a17, .inl (cJ, 1200, .inr (.inl g5)))] := hD
    refine lv_iinc (v := 1) (lv' := [(2, .int 1), (0, .ref h), (1, .int w)]) hx hb dX8_solve_76 hl (k := 0) rfl (by decide) (by decide) rfl (fun ls hl => ?_)
    refine lv_goto (tgt := 47) hx hb dX8_solve_79 (by decide) ?_
    refine lv_iload_n hx hb dX8_solve_47 rfl (lv_at hl 0 rfl) ?_
    refine lv_iconst (v := 4) hx hb dX8_solve_48 (by decide) ?_
    refine lv_icmp_ge (tgt := 82) hx hb dX8_solve_49 (by decide) (fun c15 => absurd c15 (by decide)) (fun _ => ?_)
    refine lv_aload_n hx hb dX8_solve_52 rfl (lv_at hl 1 rfl) ?_
    refine va_get (D := D) (ci := 6) (v := .ref a11) (C := RX8) (T := TX8) (N := 26) hx hb hts iX8_solve_X8 hown hK hP 0 rfl rfl 18 (by decide) (hts (.fieldLink RX8 44 "FloatSolverModel" "boxLow" "[J") (oX8_solve_in _ (List.mem_of_getElem? (i := 7) rfl))) (fun _ h9 => h9) rfl dX8_solve_53 ?_
    refine lv_iload_n hx hb dX8_solve_56 rfl (lv_at hl 0 rfl) ?_
    refine lv_aload_n hx hb dX8_solve_57 rfl (lv_at hl 1 rfl) ?_
    refine va_get (D := D) (ci := 6) (v := .ref a6) (C := RX8) (T := TX8) (N := 26) hx hb hts iX8_solve_X8 hown hK hP 0 rfl rfl 9 (by decide) (hts (.fieldLink RX8 28 "FloatSolverModel" "low" "[J") (oX8_solve_in _ (List.mem_of_getElem? (i := 8) rfl))) (fun _ h9 => h9) rfl dX8_solve_58 ?_
    refine lv_iload_n hx hb dX8_solve_61 rfl (lv_at hl 0 rfl) ?_
    refine va_lald hx hb hK hP 1 1 rfl rfl (by unfold vp_in; decide) dX8_solve_62 ?_
    refine lv_topl (fun y16 e17 => ?_)
    obtain rfl : y16 = g0 1 := e17
    refine va_last hx hb hK hP hD hS 4 1 rfl rfl (by unfold vp_in; decide) dX8_solve_63 (fun H locs hP hD hS => ?_)
    obtain ⟨f18, ef19⟩ : ∃ z9 : Nat → Int64, z9 = vp_updL f9 (1 : Int32).toNatClampNeg (g0 1) := ⟨_, rfl⟩
    rw [← ef19] at hP hD
    have hP : va_P D vwCl [(h, .inr (6, [.int 0, .int 0, .ref a0, .ref a1, .ref a2, .int 0, .ref a3, .ref a4, .ref a5, .ref a6, .ref a7, .ref a8, .int 1, .int (-1), .int 0, .int 0, .ref a9, .ref a10, .ref a11, .ref a12, .ref a13, .ref a14, .ref a15, .ref a16, .ref a17, .int 0])), (a6, .inl (cJ, 4, .inr (.inl g0))), (a7, .inl (cJ, 4, .inr (.inl g1))), (a9, .inl (cJ, 4, .inr (.inl g2))), (a11, .inl (cJ, 4, .inr (.inl f18))), (a12, .inl (cJ, 4, .inr (.inl f13))), (a17, .inl (cJ, 1200, .inr (.inl g5)))] H := hP
    have hD : va_D A [(h, .inr (6, [.int 0, .int 0, .ref a0, .ref a1, .ref a2, .int 0, .ref a3, .ref a4, .ref a5, .ref a6, .ref a7, .ref a8, .int 1, .int (-1), .int 0, .int 0, .ref a9, .ref a10, .ref a11, .ref a12, .ref a13, .ref a14, .ref a15, .ref a16, .ref a17, .int 0])), (a6, .inl (cJ, 4, .inr (.inl g0))), (a7, .inl (cJ, 4, .inr (.inl g1))), (a9, .inl (cJ, 4, .inr (.inl g2))), (a11, .inl (cJ, 4, .inr (.inl f18))), (a12, .inl (cJ, 4, .inr (.inl f13))), (a17, .inl (cJ, 1200, .inr (.inl g5)))] := hD
    refine lv_aload_n hx hb dX8_solve_64 rfl (lv_at hl 1 rfl) ?_
    refine va_get (D := D) (ci := 6) (v := .ref a12) (C := RX8) (T := TX8) (N := 26) hx hb hts iX8_solve_X8 hown hK hP 0 rfl rfl 19 (by decide) (hts (.fieldLink RX8 47 "FloatSolverModel" "boxHigh" "[J") (oX8_solve_in _ (List.mem_of_getElem? (i := 9) rfl))) (fun _ h9 => h9) rfl dX8_solve_65 ?_
    refine lv_iload_n hx hb dX8_solve_68 rfl (lv_at hl 0 rfl) ?_
    refine lv_aload_n hx hb dX8_solve_69 rfl (lv_at hl 1 rfl) ?_
    refine va_get (D := D) (ci := 6) (v := .ref a7) (C := RX8) (T := TX8) (N := 26) hx hb hts iX8_solve_X8 hown hK hP 0 rfl rfl 10 (by decide) (hts (.fieldLink RX8 32 "FloatSolverModel" "high" "[J") (oX8_solve_in _ (List.mem_of_getElem? (i := 10) rfl))) (fun _ h9 => h9) rfl dX8_solve_70 ?_
    refine lv_iload_n hx hb dX8_solve_73 rfl (lv_at hl 0 rfl) ?_
    refine va_lald hx hb hK hP 2 1 rfl rfl (by unfold vp_in; decide) dX8_solve_74 ?_
    refine lv_topl (fun y20 e21 => ?_)
    obtain rfl : y20 = g1 1 := e21
    refine va_last hx hb hK hP hD hS 5 1 rfl rfl (by unfold vp_in; decide) dX8_solve_75 (fun H locs hP hD hS => ?_)
    obtain ⟨f22, ef23⟩ : ∃ z9 : Nat → Int64, z9 = vp_updL f13 (1 : Int32).toNatClampNeg (g1 1) := ⟨_, rfl⟩
    rw [← ef23] at hP hD
    have hP : va_P D vwCl [(h, .inr (6, [.int 0, .int 0, .ref a0, .ref a1, .ref a2, .int 0, .ref a3, .ref a4, .ref a5, .ref a6, .ref a7, .ref a8, .int 1, .int (-1), .int 0, .int 0, .ref a9, .ref a10, .ref a11, .ref a12, .ref a13, .ref a14, .ref a15, .ref a16, .ref a17, .int 0])), (a6, .inl (cJ, 4, .inr (.inl g0))), (a7, .inl (cJ, 4, .inr (.inl g1))), (a9, .inl (cJ, 4, .inr (.inl g2))), (a11, .inl (cJ, 4, .inr (.inl f18))), (a12, .inl (cJ, 4, .inr (.inl f22))), (a17, .inl (cJ, 1200, .inr (.inl g5)))] H := hP
    have hD : va_D A [(h, .inr (6, [.int 0, .int 0, .ref a0, .ref a1, .ref a2, .int 0, .ref a3, .ref a4, .ref a5, .ref a6, .ref a7, .ref a8, .int 1, .int (-1), .int 0, .int 0, .ref a9, .ref a10, .ref a11, .ref a12, .ref a13, .ref a14, .ref a15, .ref a16, .ref a17, .int 0])), (a6, .inl (cJ, 4, .inr (.inl g0))), (a7, .inl (cJ, 4, .inr (.inl g1))), (a9, .inl (cJ, 4, .inr (.inl g2))), (a11, .inl (cJ, 4, .inr (.inl f18))), (a12, .inl (cJ, 4, .inr (.inl f22))), (a17, .inl (cJ, 1200, .inr (.inl g5)))] := hD
    refine lv_iinc (v := 2) (lv' := [(2, .int 2), (0, .ref h), (1, .int w)]) hx hb dX8_solve_76 hl (k := 0) rfl (by decide) (by decide) rfl (fun ls hl => ?_)
    refine lv_goto (tgt := 47) hx hb dX8_solve_79 (by decide) ?_
    refine lv_iload_n hx hb dX8_solve_47 rfl (lv_at hl 0 rfl) ?_
    refine lv_iconst (v := 4) hx hb dX8_solve_48 (by decide) ?_
    refine lv_icmp_ge (tgt := 82) hx hb dX8_solve_49 (by decide) (fun c24 => absurd c24 (by decide)) (fun _ => ?_)
    refine lv_aload_n hx hb dX8_solve_52 rfl (lv_at hl 1 rfl) ?_
    refine va_get (D := D) (ci := 6) (v := .ref a11) (C := RX8) (T := TX8) (N := 26) hx hb hts iX8_solve_X8 hown hK hP 0 rfl rfl 18 (by decide) (hts (.fieldLink RX8 44 "FloatSolverModel" "boxLow" "[J") (oX8_solve_in _ (List.mem_of_getElem? (i := 7) rfl))) (fun _ h9 => h9) rfl dX8_solve_53 ?_
    refine lv_iload_n hx hb dX8_solve_56 rfl (lv_at hl 0 rfl) ?_
    refine lv_aload_n hx hb dX8_solve_57 rfl (lv_at hl 1 rfl) ?_
    refine va_get (D := D) (ci := 6) (v := .ref a6) (C := RX8) (T := TX8) (N := 26) hx hb hts iX8_solve_X8 hown hK hP 0 rfl rfl 9 (by decide) (hts (.fieldLink RX8 28 "FloatSolverModel" "low" "[J") (oX8_solve_in _ (List.mem_of_getElem? (i := 8) rfl))) (fun _ h9 => h9) rfl dX8_solve_58 ?_
    refine lv_iload_n hx hb dX8_solve_61 rfl (lv_at hl 0 rfl) ?_
    refine va_lald hx hb hK hP 1 1 rfl rfl (by unfold vp_in; decide) dX8_solve_62 ?_
    refine lv_topl (fun y25 e26 => ?_)
    obtain rfl : y25 = g0 2 := e26
    refine va_last hx hb hK hP hD hS 4 1 rfl rfl (by unfold vp_in; decide) dX8_solve_63 (fun H locs hP hD hS => ?_)
    obtain ⟨f27, ef28⟩ : ∃ z9 : Nat → Int64, z9 = vp_updL f18 (2 : Int32).toNatClampNeg (g0 2) := ⟨_, rfl⟩
    rw [← ef28] at hP hD
    have hP : va_P D vwCl [(h, .inr (6, [.int 0, .int 0, .ref a0, .ref a1, .ref a2, .int 0, .ref a3, .ref a4, .ref a5, .ref a6, .ref a7, .ref a8, .int 1, .int (-1), .int 0, .int 0, .ref a9, .ref a10, .ref a11, .ref a12, .ref a13, .ref a14, .ref a15, .ref a16, .ref a17, .int 0])), (a6, .inl (cJ, 4, .inr (.inl g0))), (a7, .inl (cJ, 4, .inr (.inl g1))), (a9, .inl (cJ, 4, .inr (.inl g2))), (a11, .inl (cJ, 4, .inr (.inl f27))), (a12, .inl (cJ, 4, .inr (.inl f22))), (a17, .inl (cJ, 1200, .inr (.inl g5)))] H := hP
    have hD : va_D A [(h, .inr (6, [.int 0, .int 0, .ref a0, .ref a1, .ref a2, .int 0, .ref a3, .ref a4, .ref a5, .ref a6, .ref a7, .ref a8, .int 1, .int (-1), .int 0, .int 0, .ref a9, .ref a10, .ref a11, .ref a12, .ref a13, .ref a14, .ref a15, .ref a16, .ref a17, .int 0])), (a6, .inl (cJ, 4, .inr (.inl g0))), (a7, .inl (cJ, 4, .inr (.inl g1))), (a9, .inl (cJ, 4, .inr (.inl g2))), (a11, .inl (cJ, 4, .inr (.inl f27))), (a12, .inl (cJ, 4, .inr (.inl f22))), (a17, .inl (cJ, 1200, .inr (.inl g5)))] := hD
    refine lv_aload_n hx hb dX8_solve_64 rfl (lv_at hl 1 rfl) ?_
    refine va_get (D := D) (ci := 6) (v := .ref a12) (C := RX8) (T := TX8) (N := 26) hx hb hts iX8_solve_X8 hown hK hP 0 rfl rfl 19 (by decide) (hts (.fieldLink RX8 47 "FloatSolverModel" "boxHigh" "[J") (oX8_solve_in _ (List.mem_of_getElem? (i := 9) rfl))) (fun _ h9 => h9) rfl dX8_solve_65 ?_
    refine lv_iload_n hx hb dX8_solve_68 rfl (lv_at hl 0 rfl) ?_
    refine lv_aload_n hx hb dX8_solve_69 rfl (lv_at hl 1 rfl) ?_
    refine va_get (D := D) (ci := 6) (v := .ref a7) (C := RX8) (T := TX8) (N := 26) hx hb hts iX8_solve_X8 hown hK hP 0 rfl rfl 10 (by decide) (hts (.fieldLink RX8 32 "FloatSolverModel" "high" "[J") (oX8_solve_in _ (List.mem_of_getElem? (i := 10) rfl))) (fun _ h9 => h9) rfl dX8_solve_70 ?_
    refine lv_iload_n hx hb dX8_solve_73 rfl (lv_at hl 0 rfl) ?_
    refine va_lald hx hb hK hP 2 1 rfl rfl (by unfold vp_in; decide) dX8_solve_74 ?_
    refine lv_topl (fun y29 e30 => ?_)
    obtain rfl : y29 = g1 2 := e30
    refine va_last hx hb hK hP hD hS 5 1 rfl rfl (by unfold vp_in; decide) dX8_solve_75 (fun H locs hP hD hS => ?_)
    obtain ⟨f31, ef32⟩ : ∃ z9 : Nat → Int64, z9 = vp_updL f22 (2 : Int32).toNatClampNeg (g1 2) := ⟨_, rfl⟩
    rw [← ef32] at hP hD
    have hP : va_P D vwCl [(h, .inr (6, [.int 0, .int 0, .ref a0, .ref a1, .ref a2, .int 0, .ref a3, .ref a4, .ref a5, .ref a6, .ref a7, .ref a8, .int 1, .int (-1), .int 0, .int 0, .ref a9, .ref a10, .ref a11, .ref a12, .ref a13, .ref a14, .ref a15, .ref a16, .ref a17, .int 0])), (a6, .inl (cJ, 4, .inr (.inl g0))), (a7, .inl (cJ, 4, .inr (.inl g1))), (a9, .inl (cJ, 4, .inr (.inl g2))), (a11, .inl (cJ, 4, .inr (.inl f27))), (a12, .inl (cJ, 4, .inr (.inl f31))), (a17, .inl (cJ, 1200, .inr (.inl g5)))] H := hP
    have hD : va_D A [(h, .inr (6, [.int 0, .int 0, .ref a0, .ref a1, .ref a2, .int 0, .ref a3, .ref a4, .ref a5, .ref a6, .ref a7, .ref a8, .int 1, .int (-1), .int 0, .int 0, .ref a9, .ref a10, .ref a11, .ref a12, .ref a13, .ref a14, .ref a15, .ref a16, .ref a17, .int 0])), (a6, .inl (cJ, 4, .inr (.inl g0))), (a7, .inl (cJ, 4, .inr (.inl g1))), (a9, .inl (cJ, 4, .inr (.inl g2))), (a11, .inl (cJ, 4, .inr (.inl f27))), (a12, .inl (cJ, 4, .inr (.inl f31))), (a17, .inl (cJ, 1200, .inr (.inl g5)))] := hD
    refine lv_iinc (v := 3) (lv' := [(2, .int 3), (0, .ref h), (1, .int w)]) hx hb dX8_solve_76 hl (k := 0) rfl (by decide) (by decide) rfl (fun ls hl => ?_)
    refine lv_goto (tgt := 47) hx hb dX8_solve_79 (by decide) ?_
    refine lv_iload_n hx hb dX8_solve_47 rfl (lv_at hl 0 rfl) ?_
    refine lv_iconst (v := 4) hx hb dX8_solve_48 (by decide) ?_
    refine lv_icmp_ge (tgt := 82) hx hb dX8_solve_49 (by decide) (fun c33 => absurd c33 (by decide)) (fun _ => ?_)
    refine lv_aload_n hx hb dX8_solve_52 rfl (lv_at hl 1 rfl) ?_
    refine va_get (D := D) (ci := 6) (v := .ref a11) (C := RX8) (T := TX8) (N := 26) hx hb hts iX8_solve_X8 hown hK hP 0 rfl rfl 18 (by decide) (hts (.fieldLink RX8 44 "FloatSolverModel" "boxLow" "[J") (oX8_solve_in _ (List.mem_of_getElem? (i := 7) rfl))) (fun _ h9 => h9) rfl dX8_solve_53 ?_
    refine lv_iload_n hx hb dX8_solve_56 rfl (lv_at hl 0 rfl) ?_
    refine lv_aload_n hx hb dX8_solve_57 rfl (lv_at hl 1 rfl) ?_
    refine va_get (D := D) (ci := 6) (v := .ref a6) (C := RX8) (T := TX8) (N := 26) hx hb hts iX8_solve_X8 hown hK hP 0 rfl rfl 9 (by decide) (hts (.fieldLink RX8 28 "FloatSolverModel" "low" "[J") (oX8_solve_in _ (List.mem_of_getElem? (i := 8) rfl))) (fun _ h9 => h9) rfl dX8_solve_58 ?_
    refine lv_iload_n hx hb dX8_solve_61 rfl (lv_at hl 0 rfl) ?_
    refine va_lald hx hb hK hP 1 1 rfl rfl (by unfold vp_in; decide) dX8_solve_62 ?_
    refine lv_topl (fun y34 e35 => ?_)
    obtain rfl : y34 = g0 3 := e35
    refine va_last hx hb hK hP hD hS 4 1 rfl rfl (by unfold vp_in; decide) dX8_solve_63 (fun H locs hP hD hS => ?_)
    obtain ⟨f36, ef37⟩ : ∃ z9 : Nat → Int64, z9 = vp_updL f27 (3 : Int32).toNatClampNeg (g0 3) := ⟨_, rfl⟩
    rw [← ef37] at hP hD
    have hP : va_P D vwCl [(h, .inr (6, [.int 0, .int 0, .ref a0, .ref a1, .ref a2, .int 0, .ref a3, .ref a4, .ref a5, .ref a6, .ref a7, .ref a8, .int 1, .int (-1), .int 0, .int 0, .ref a9, .ref a10, .ref a11, .ref a12, .ref a13, .ref a14, .ref a15, .ref a16, .ref a17, .int 0])), (a6, .inl (cJ, 4, .inr (.inl g0))), (a7, .inl (cJ, 4, .inr (.inl g1))), (a9, .inl (cJ, 4, .inr (.inl g2))), (a11, .inl (cJ, 4, .inr (.inl f36))), (a12, .inl (cJ, 4, .inr (.inl f31))), (a17, .inl (cJ, 1200, .inr (.inl g5)))] H := hP
    have hD : va_D A [(h, .inr (6, [.int 0, .int 0, .ref a0, .ref a1, .ref a2, .int 0, .ref a3, .ref a4, .ref a5, .ref a6, .ref a7, .ref a8, .int 1, .int (-1), .int 0, .int 0, .ref a9, .ref a10, .ref a11, .ref a12, .ref a13, .ref a14, .ref a15, .ref a16, .ref a17, .int 0])), (a6, .inl (cJ, 4, .inr (.inl g0))), (a7, .inl (cJ, 4, .inr (.inl g1))), (a9, .inl (cJ, 4, .inr (.inl g2))), (a11, .inl (cJ, 4, .inr (.inl f36))), (a12, .inl (cJ, 4, .inr (.inl f31))), (a17, .inl (cJ, 1200, .inr (.inl g5)))] := hD
    refine lv_aload_n hx hb dX8_solve_64 rfl (lv_at hl 1 rfl) ?_
    refine va_get (D := D) (ci := 6) (v := .ref a12) (C := RX8) (T := TX8) (N := 26) hx hb hts iX8_solve_X8 hown hK hP 0 rfl rfl 19 (by decide) (hts (.fieldLink RX8 47 "FloatSolverModel" "boxHigh" "[J") (oX8_solve_in _ (List.mem_of_getElem? (i := 9) rfl))) (fun _ h9 => h9) rfl dX8_solve_65 ?_
    refine lv_iload_n hx hb dX8_solve_68 rfl (lv_at hl 0 rfl) ?_
    refine lv_aload_n hx hb dX8_solve_69 rfl (lv_at hl 1 rfl) ?_
    refine va_get (D := D) (ci := 6) (v := .ref a7) (C := RX8) (T := TX8) (N := 26) hx hb hts iX8_solve_X8 hown hK hP 0 rfl rfl 10 (by decide) (hts (.fieldLink RX8 32 "FloatSolverModel" "high" "[J") (oX8_solve_in _ (List.mem_of_getElem? (i := 10) rfl))) (fun _ h9 => h9) rfl dX8_solve_70 ?_
    refine lv_iload_n hx hb dX8_solve_73 rfl (lv_at hl 0 rfl) ?_
    refine va_lald hx hb hK hP 2 1 rfl rfl (by unfold vp_in; decide) dX8_solve_74 ?_
    refine lv_topl (fun y38 e39 => ?_)
    obtain rfl : y38 = g1 3 := e39
    refine va_last hx hb hK hP hD hS 5 1 rfl rfl (by unfold vp_in; decide) dX8_solve_75 (fun H locs hP hD hS => ?_)
    obtain ⟨f40, ef41⟩ : ∃ z9 : Nat → Int64, z9 = vp_updL f31 (3 : Int32).toNatClampNeg (g1 3) := ⟨_, rfl⟩
    rw [← ef41] at hP hD
    have hP : va_P D vwCl [(h, .inr (6, [.int 0, .int 0, .ref a0, .ref a1, .ref a2, .int 0, .ref a3, .ref a4, .ref a5, .ref a6, .ref a7, .ref a8, .int 1, .int (-1), .int 0, .int 0, .ref a9, .ref a10, .ref a11, .ref a12, .ref a13, .ref a14, .ref a15, .ref a16, .ref a17, .int 0])), (a6, .inl (cJ, 4, .inr (.inl g0))), (a7, .inl (cJ, 4, .inr (.inl g1))), (a9, .inl (cJ, 4, .inr (.inl g2))), (a11, .inl (cJ, 4, .inr (.inl f36))), (a12, .inl (cJ, 4, .inr (.inl f40))), (a17, .inl (cJ, 1200, .inr (.inl g5)))] H := hP
    have hD : va_D A [(h, .inr (6, [.int 0, .int 0, .ref a0, .ref a1, .ref a2, .int 0, .ref a3, .ref a4, .ref a5, .ref a6, .ref a7, .ref a8, .int 1, .int (-1), .int 0, .int 0, .ref a9, .ref a10, .ref a11, .ref a12, .ref a13, .ref a14, .ref a15, .ref a16, .ref a17, .int 0])), (a6, .inl (cJ, 4, .inr (.inl g0))), (a7, .inl (cJ, 4, .inr (.inl g1))), (a9, .inl (cJ, 4, .inr (.inl g2))), (a11, .inl (cJ, 4, .inr (.inl f36))), (a12, .inl (cJ, 4, .inr (.inl f40))), (a17, .inl (cJ, 1200, .inr (.inl g5)))] := hD
    refine lv_iinc (v := 4) (lv' := [(2, .int 4), (0, .ref h), (1, .int w)]) hx hb dX8_solve_76 hl (k := 0) rfl (by decide) (by decide) rfl (fun ls hl => ?_)
    refine lv_goto (tgt := 47) hx hb dX8_solve_79 (by decide) ?_
    refine lv_iload_n hx hb dX8_solve_47 rfl (lv_at hl 0 rfl) ?_
    refine lv_iconst (v := 4) hx hb dX8_solve_48 (by decide) ?_
    refine lv_icmp_ge (tgt := 82) hx hb dX8_solve_49 (by decide) (fun _ => ?_) (fun c42 => absurd (by decide) c42)
    refine lv_aload_n hx hb dX8_solve_82 rfl (lv_at hl 1 rfl) ?_
    refine sp_callv (wr := [(a6, .inl (cJ, 4, .inr (.inl g0))), (a7, .inl (cJ, 4, .inr (.inl g1))), (a9, .inl (cJ, 4, .inr (.inl g2)))]) (wc := [(h, .inr (6, [.int 0, .int 0, .ref a0, .ref a1, .ref a2, .int 0, .ref a3, .ref a4, .ref a5, .ref a6, .ref a7, .ref a8, .int 1, .int (-1), .int 0, .int 0, .ref a9, .ref a10, .ref a11, .ref a12, .ref a13, .ref a14, .ref a15, .ref a16, .ref a17, .int 0])), (a17, .inl (cJ, 1200, .inr (.inl g5))), (a11, .inl (cJ, 4, .inr (.inl f36))), (a12, .inl (cJ, 4, .inr (.inl f40)))]) hP hD hS hA [0, 6, 4, 5] [1, 2, 3] rfl rfl (by decide) (by decide) (va_runV (As := []) (rest := []) ⟨hx, hb, hml, hown, hts⟩ (c_X8_lay l D cI cJ cZ H.size h a0 a1 a2 a3 a4 a5 a6 a7 a8 a9 a10 a11 a12 a13 a14 a15 a16 a17 g5 f36 f40) (cwV 0 hts gX8_solve_X8_lay_246 rfl rfl rfl (by decide +kernel) ⟨Nat.le_of_ble_eq_true rfl, Nat.le_of_ble_eq_true rfl⟩) (sp_preV (ci := 6) (q0 := 0) [] hK (hP.sub (ws' := [(h, .inr (6, [.int 0, .int 0, .ref a0, .ref a1, .ref a2, .int 0, .ref a3, .ref a4, .ref a5, .ref a6, .ref a7, .ref a8, .int 1, .int (-1), .int 0, .int 0, .ref a9, .ref a10, .ref a11, .ref a12, .ref a13, .ref a14, .ref a15, .ref a16, .ref a17, .int 0])), (a17, .inl (cJ, 1200, .inr (.inl g5))), (a11, .inl (cJ, 4, .inr (.inl f36))), (a12, .inl (cJ, 4, .inr (.inl f40)))]) [0, 6, 4, 5] rfl) (hD.sub (ws' := [(h, .inr (6, [.int 0, .int 0, .ref a0, .ref a1, .ref a2, .int 0, .ref a3, .ref a4, .ref a5, .ref a6, .ref a7, .ref a8, .int 1, .int (-1), .int 0, .int 0, .ref a9, .ref a10, .ref a11, .ref a12, .ref a13, .ref a14, .ref a15, .ref a16, .ref a17, .int 0])), (a17, .inl (cJ, 1200, .inr (.inl g5))), (a11, .inl (cJ, 4, .inr (.inl f36))), (a12, .inl (cJ, 4, .inr (.inl f40)))]) [0, 6, 4, 5] (by decide) rfl) rfl rfl) rfl rfl hl.1 rfl (lv_room (Nat.le_of_ble_eq_true rfl)) dX8_solve_83 ⟨Nat.le_of_ble_eq_true rfl, Nat.le_of_ble_eq_true rfl⟩) (fun u44 H locs hw45 hP hD hS => ?_)
    have hP : va_P D vwCl [(a6, .inl (cJ, 4, .inr (.inl g0))), (a7, .inl (cJ, 4, .inr (.inl g1))), (a9, .inl (cJ, 4, .inr (.inl g2))), (h, .inr (6, [.int 0, .int 0, .ref a0, .ref a1, .ref a2, .int 0, .ref a3, .ref a4, .ref a5, .ref a6, .ref a7, .ref a8, .int 1, .int (-1), .int 0, .int 0, .ref a9, .ref a10, .ref a11, .ref a12, .ref a13, .ref a14, .ref a15, .ref a16, .ref a17, .int 1])), (a17, .inl (cJ, 1200, .inr (.inl u44))), (a11, .inl (cJ, 4, .inr (.inl f36))), (a12, .inl (cJ, 4, .inr (.inl f40)))] H := hP
    have hD : va_D A [(a6, .inl (cJ, 4, .inr (.inl g0))), (a7, .inl (cJ, 4, .inr (.inl g1))), (a9, .inl (cJ, 4, .inr (.inl g2))), (h, .inr (6, [.int 0, .int 0, .ref a0, .ref a1, .ref a2, .int 0, .ref a3, .ref a4, .ref a5, .ref a6, .ref a7, .ref a8, .int 1, .int (-1), .int 0, .int 0, .ref a9, .ref a10, .ref a11, .ref a12, .ref a13, .ref a14, .ref a15, .ref a16, .ref a17, .int 1])), (a17, .inl (cJ, 1200, .inr (.inl u44))), (a11, .inl (cJ, 4, .inr (.inl f36))), (a12, .inl (cJ, 4, .inr (.inl f40)))] := hD
    refine lv_aload_n hx hb dX8_solve_86 rfl (lv_at hl 1 rfl) ?_
    refine va_get (D := D) (ci := 6) (v := .int (-1)) (C := RX8) (T := TX8) (N := 26) hx hb hts iX8_solve_X8 hown hK hP 3 rfl rfl 13 (by decide) (hts (.fieldLink RX8 231 "FloatSolverModel" "answer" "I") (oX8_solve_in _ (List.mem_of_getElem? (i := 5) rfl))) (fun _ h9 => h9) rfl dX8_solve_87 ?_
    refine lv_if_ge (tgt := 145) hx hb dX8_solve_90 (by decide) (fun c46 => absurd c46 (by decide)) (fun _ => ?_)
    refine lv_aload_n hx hb dX8_solve_93 rfl (lv_at hl 1 rfl) ?_
    refine va_get (D := D) (ci := 6) (v := .int 1) (C := RX8) (T := TX8) (N := 26) hx hb hts iX8_solve_X8 hown hK hP 3 rfl rfl 25 (by decide) (hts (.fieldLink RX8 228 "FloatSolverModel" "stacked" "I") (oX8_solve_in _ (List.mem_of_getElem? (i := 6) rfl))) (fun _ h9 => h9) rfl dX8_solve_94 ?_
    refine lv_if_ne (tgt := 108) hx hb dX8_solve_97 (by decide) (fun _ => ?_) (fun c47 => absurd c47 (by decide))
    refine lv_aload_n hx hb dX8_solve_108 rfl (lv_at hl 1 rfl) ?_
    refine va_get (D := D) (ci := 6) (v := .int 0) (C := RX8) (T := TX8) (N := 26) hx hb hts iX8_solve_X8 hown hK hP 3 rfl rfl 14 (by decide) (hts (.fieldLink RX8 240 "FloatSolverModel" "looked" "I") (oX8_solve_in _ (List.mem_of_getElem? (i := 3) rfl))) (fun _ h9 => h9) rfl dX8_solve_109 ?_
    refine lv_iload_n hx hb dX8_solve_112 rfl (lv_at hl 2 rfl) ?_
    refine lv_icmp_ne (tgt := 124) hx hb dX8_solve_113 (by decide) (fun c48 => ?_) (fun c48 => ?_)
    · skip
      have c48i : ¬ 0 = (w : Int32).toInt := fun h => c48 (Int32.toInt_inj.mp h)
      refine lv_aload_n hx hb dX8_solve_124 rfl (lv_at hl 1 rfl) ?_
      refine sp_callv (wr := [(a6, .inl (cJ, 4, .inr (.inl g0))), (a7, .inl (cJ, 4, .inr (.inl g1))), (a9, .inl (cJ, 4, .inr (.inl g2)))]) (wc := [(h, .inr (6, [.int 0, .int 0, .ref a0, .ref a1, .ref a2, .int 0, .ref a3, .ref a4, .ref a5, .ref a6, .ref a7, .ref a8, .int 1, .int (-1), .int 0, .int 0, .ref a9, .ref a10, .ref a11, .ref a12, .ref a13, .ref a14, .ref a15, .ref a16, .ref a17, .int 1])), (a17, .inl (cJ, 1200, .inr (.inl u44))), (a11, .inl (cJ, 4, .inr (.inl f36))), (a12, .inl (cJ, 4, .inr (.inl f40)))]) hP hD hS hA [3, 4, 5, 6] [0, 1, 2] rfl rfl (by decide) (by decide) (va_runV (As := []) (rest := []) ⟨hx, hb, hml, hown, hts⟩ (c_X8_lift l D cI cJ cZ H.size h a0 a1 a2 a3 a4 a5 a6 a7 a8 a9 a10 a11 a12 a13 a14 a15 a16 a17 u44 f36 f40) (cwV 0 hts gX8_solve_X8_lift_249 rfl rfl rfl (by decide +kernel) ⟨Nat.le_of_ble_eq_true rfl, Nat.le_of_ble_eq_true rfl⟩) (sp_preV (ci := 6) (q0 := 0) [] hK (hP.sub (ws' := [(h, .inr (6, [.int 0, .int 0, .ref a0, .ref a1, .ref a2, .int 0, .ref a3, .ref a4, .ref a5, .ref a6, .ref a7, .ref a8, .int 1, .int (-1), .int 0, .int 0, .ref a9, .ref a10, .ref a11, .ref a12, .ref a13, .ref a14, .ref a15, .ref a16, .ref a17, .int 1])), (a17, .inl (cJ, 1200, .inr (.inl u44))), (a11, .inl (cJ, 4, .inr (.inl f36))), (a12, .inl (cJ, 4, .inr (.inl f40)))]) [3, 4, 5, 6] rfl) (hD.sub (ws' := [(h, .inr (6, [.int 0, .int 0, .ref a0, .ref a1, .ref a2, .int 0, .ref a3, .ref a4, .ref a5, .ref a6, .ref a7, .ref a8, .int 1, .int (-1), .int 0, .int 0, .ref a9, .ref a10, .ref a11, .ref a12, .ref a13, .ref a14, .ref a15, .ref a16, .ref a17, .int 1])), (a17, .inl (cJ, 1200, .inr (.inl u44))), (a11, .inl (cJ, 4, .inr (.inl f36))), (a12, .inl (cJ, 4, .inr (.inl f40)))]) [3, 4, 5, 6] (by decide) rfl) rfl rfl) rfl rfl hl.1 rfl (lv_room (Nat.le_of_ble_eq_true rfl)) dX8_solve_125 ⟨Nat.le_of_ble_eq_true rfl, Nat.le_of_ble_eq_true rfl⟩) (fun u50 H locs hw51 hP hD hS => ?_)
      obtain ⟨f52, f53⟩ := u50
      have hP : va_P D vwCl [(a6, .inl (cJ, 4, .inr (.inl g0))), (a7, .inl (cJ, 4, .inr (.inl g1))), (a9, .inl (cJ, 4, .inr (.inl g2))), (h, .inr (6, [.int 0, .int 0, .ref a0, .ref a1, .ref a2, .int 0, .ref a3, .ref a4, .ref a5, .ref a6, .ref a7, .ref a8, .int 1, .int (-1), .int 0, .int 0, .ref a9, .ref a10, .ref a11, .ref a12, .ref a13, .ref a14, .ref a15, .ref a16, .ref a17, .int 0])), (a17, .inl (cJ, 1200, .inr (.inl u44))), (a11, .inl (cJ, 4, .inr (.inl f52))), (a12, .inl (cJ, 4, .inr (.inl f53)))] H := hP
      have hD : va_D A [(a6, .inl (cJ, 4, .inr (.inl g0))), (a7, .inl (cJ, 4, .inr (.inl g1))), (a9, .inl (cJ, 4, .inr (.inl g2))), (h, .inr (6, [.int 0, .int 0, .ref a0, .ref a1, .ref a2, .int 0, .ref a3, .ref a4, .ref a5, .ref a6, .ref a7, .ref a8, .int 1, .int (-1), .int 0, .int 0, .ref a9, .ref a10, .ref a11, .ref a12, .ref a13, .ref a14, .ref a15, .ref a16, .ref a17, .int 0])), (a17, .inl (cJ, 1200, .inr (.inl u44))), (a11, .inl (cJ, 4, .inr (.inl f52))), (a12, .inl (cJ, 4, .inr (.inl f53)))] := hD
      refine lv_aload_n hx hb dX8_solve_128 rfl (lv_at hl 1 rfl) ?_
      refine lv_dup hx hb dX8_solve_129 rfl ?_
      refine va_get (D := D) (ci := 6) (v := .int 0) (C := RX8) (T := TX8) (N := 26) hx hb hts iX8_solve_X8 hown hK hP 3 rfl rfl 14 (by decide) (hts (.fieldLink RX8 240 "FloatSolverModel" "looked" "I") (oX8_solve_in _ (List.mem_of_getElem? (i := 3) rfl))) (fun _ h9 => h9) rfl dX8_solve_130 ?_
      refine lv_iconst (v := 1) hx hb dX8_solve_133 (by decide) ?_
      refine lv_iadd hx hb dX8_solve_134 ?_
      refine lv_topi (fun y54 e55 => ?_)
      obtain rfl : y54 = 1 := e55.trans (by decide)
      refine va_put (D := D) (ci := 6) (v := .int 1) (ty := .int) (C := RX8) (T := TX8) (N := 26) hx hb hts iX8_solve_X8 tyX8 tyX8_ok nmX8 hown hK hP hD hS 3 rfl rfl 14 (by decide) (hts (.fieldLink RX8 240 "FloatSolverModel" "looked" "I") (oX8_solve_in _ (List.mem_of_getElem? (i := 3) rfl))) (fun _ h9 => h9) rfl (by decide +kernel) rfl rfl (Nat.le_of_ble_eq_true rfl) dX8_solve_135 (fun H locs hP hD hS => ?_)
      have hP : va_P D vwCl [(a6, .inl (cJ, 4, .inr (.inl g0))), (a7, .inl (cJ, 4, .inr (.inl g1))), (a9, .inl (cJ, 4, .inr (.inl g2))), (h, .inr (6, [.int 0, .int 0, .ref a0, .ref a1, .ref a2, .int 0, .ref a3, .ref a4, .ref a5, .ref a6, .ref a7, .ref a8, .int 1, .int (-1), .int 1, .int 0, .ref a9, .ref a10, .ref a11, .ref a12, .ref a13, .ref a14, .ref a15, .ref a16, .ref a17, .int 0])), (a17, .inl (cJ, 1200, .inr (.inl u44))), (a11, .inl (cJ, 4, .inr (.inl f52))), (a12, .inl (cJ, 4, .inr (.inl f53)))] H := hP
      have hD : va_D A [(a6, .inl (cJ, 4, .inr (.inl g0))), (a7, .inl (cJ, 4, .inr (.inl g1))), (a9, .inl (cJ, 4, .inr (.inl g2))), (h, .inr (6, [.int 0, .int 0, .ref a0, .ref a1, .ref a2, .int 0, .ref a3, .ref a4, .ref a5, .ref a6, .ref a7, .ref a8, .int 1, .int (-1), .int 1, .int 0, .ref a9, .ref a10, .ref a11, .ref a12, .ref a13, .ref a14, .ref a15, .ref a16, .ref a17, .int 0])), (a17, .inl (cJ, 1200, .inr (.inl u44))), (a11, .inl (cJ, 4, .inr (.inl f52))), (a12, .inl (cJ, 4, .inr (.inl f53)))] := hD
      refine lv_aload_n hx hb dX8_solve_138 rfl (lv_at hl 1 rfl) ?_
      refine sp_callv (wr := [(a6, .inl (cJ, 4, .inr (.inl g0))), (a7, .inl (cJ, 4, .inr (.inl g1))), (a17, .inl (cJ, 1200, .inr (.inl u44))), (a12, .inl (cJ, 4, .inr (.inl f53)))]) (wc := [(h, .inr (6, [.int 0, .int 0, .ref a0, .ref a1, .ref a2, .int 0, .ref a3, .ref a4, .ref a5, .ref a6, .ref a7, .ref a8, .int 1, .int (-1), .int 1, .int 0, .ref a9, .ref a10, .ref a11, .ref a12, .ref a13, .ref a14, .ref a15, .ref a16, .ref a17, .int 0])), (a9, .inl (cJ, 4, .inr (.inl g2))), (a11, .inl (cJ, 4, .inr (.inl f52)))]) hP hD hS hA [3, 2, 5] [0, 1, 4, 6] rfl rfl (by decide) (by decide) (va_runV (As := []) (rest := []) ⟨hx, hb, hml, hown, hts⟩ (c_X8_look l D cI cJ cZ H.size h a0 a1 a2 a3 a4 a5 a6 a7 a8 a9 a10 a11 a12 a13 a14 a15 a16 a17 g2 f52) (cwV 0 hts gX8_solve_X8_look_252 rfl rfl rfl (by decide +kernel) ⟨Nat.le_of_ble_eq_true rfl, Nat.le_of_ble_eq_true rfl⟩) (sp_preV (ci := 6) (q0 := 0) [] hK (hP.sub (ws' := [(h, .inr (6, [.int 0, .int 0, .ref a0, .ref a1, .ref a2, .int 0, .ref a3, .ref a4, .ref a5, .ref a6, .ref a7, .ref a8, .int 1, .int (-1), .int 1, .int 0, .ref a9, .ref a10, .ref a11, .ref a12, .ref a13, .ref a14, .ref a15, .ref a16, .ref a17, .int 0])), (a9, .inl (cJ, 4, .inr (.inl g2))), (a11, .inl (cJ, 4, .inr (.inl f52)))]) [3, 2, 5] rfl) (hD.sub (ws' := [(h, .inr (6, [.int 0, .int 0, .ref a0, .ref a1, .ref a2, .int 0, .ref a3, .ref a4, .ref a5, .ref a6, .ref a7, .ref a8, .int 1, .int (-1), .int 1, .int 0, .ref a9, .ref a10, .ref a11, .ref a12, .ref a13, .ref a14, .ref a15, .ref a16, .ref a17, .int 0])), (a9, .inl (cJ, 4, .inr (.inl g2))), (a11, .inl (cJ, 4, .inr (.inl f52)))]) [3, 2, 5] (by decide) rfl) rfl rfl) rfl rfl hl.1 rfl (lv_room (Nat.le_of_ble_eq_true rfl)) dX8_solve_139 ⟨Nat.le_of_ble_eq_true rfl, Nat.le_of_ble_eq_true rfl⟩) (fun u57 H locs hw58 hP hD hS => ?_)
      have hP : va_P D vwCl [(a6, .inl (cJ, 4, .inr (.inl g0))), (a7, .inl (cJ, 4, .inr (.inl g1))), (a17, .inl (cJ, 1200, .inr (.inl u44))), (a12, .inl (cJ, 4, .inr (.inl f53))), (h, .inr (6, [.int 0, .int 0, .ref a0, .ref a1, .ref a2, .int 0, .ref a3, .ref a4, .ref a5, .ref a6, .ref a7, .ref a8, .int 1, .int 1, .int 1, .int 0, .ref a9, .ref a10, .ref a11, .ref a12, .ref a13, .ref a14, .ref a15, .ref a16, .ref a17, .int 0]))] H := hP
      have hD : va_D A [(a6, .inl (cJ, 4, .inr (.inl g0))), (a7, .inl (cJ, 4, .inr (.inl g1))), (a17, .inl (cJ, 1200, .inr (.inl u44))), (a12, .inl (cJ, 4, .inr (.inl f53))), (h, .inr (6, [.int 0, .int 0, .ref a0, .ref a1, .ref a2, .int 0, .ref a3, .ref a4, .ref a5, .ref a6, .ref a7, .ref a8, .int 1, .int 1, .int 1, .int 0, .ref a9, .ref a10, .ref a11, .ref a12, .ref a13, .ref a14, .ref a15, .ref a16, .ref a17, .int 0]))] := hD
      refine lv_goto (tgt := 86) hx hb dX8_solve_142 (by decide) ?_
      refine lv_aload_n hx hb dX8_solve_86 rfl (lv_at hl 1 rfl) ?_
      refine va_get (D := D) (ci := 6) (v := .int 1) (C := RX8) (T := TX8) (N := 26) hx hb hts iX8_solve_X8 hown hK hP 4 rfl rfl 13 (by decide) (hts (.fieldLink RX8 231 "FloatSolverModel" "answer" "I") (oX8_solve_in _ (List.mem_of_getElem? (i := 5) rfl))) (fun _ h9 => h9) rfl dX8_solve_87 ?_
      refine lv_if_ge (tgt := 145) hx hb dX8_solve_90 (by decide) (fun _ => ?_) (fun c59 => absurd (by decide) c59)
      refine lv_aload_n hx hb dX8_solve_145 rfl (lv_at hl 1 rfl) ?_
      refine va_get (D := D) (ci := 6) (v := .int 1) (C := RX8) (T := TX8) (N := 26) hx hb hts iX8_solve_X8 hown hK hP 4 rfl rfl 13 (by decide) (hts (.fieldLink RX8 231 "FloatSolverModel" "answer" "I") (oX8_solve_in _ (List.mem_of_getElem? (i := 5) rfl))) (fun _ h9 => h9) rfl dX8_solve_146 ?_
      refine W.widen (k := 0) (n := 0) (by decide) (by decide) ?_
      exact sp_iret (u := ()) hx hb hr hlocks hS (by unfold sp_solve; (repeat' split) <;> first | (exfalso; omega) | rfl) (hP.sub [] rfl) (hD.sub [] (by decide) rfl) dX8_solve_149
    · skip
      have c48i : 0 = (w : Int32).toInt := congrArg Int32.toInt c48
      exact (by omega : False).elim
  · skip
    have h4 : ¬ ((1 : Int) ≤ (w : Int32).toInt ∧ (w : Int32).toInt ≤ (5000 : Int)) := (by have h9 := h4; simp only [Int32.toInt_toInt64] at h9; exact h9)
    have hP : va_P D vwCl [(h, .inr (6, [.int 0, .int 0, .ref a0, .ref a1, .ref a2, .int 0, .ref a3, .ref a4, .ref a5, .ref a6, .ref a7, .ref a8, .int 0, .int 0, .int 0, .int 0, .ref a9, .ref a10, .ref a11, .ref a12, .ref a13, .ref a14, .ref a15, .ref a16, .ref a17, .int 0])), (a6, .inl (cJ, 4, .inr (.inl g0))), (a7, .inl (cJ, 4, .inr (.inl g1))), (a9, .inl (cJ, 4, .inr (.inl g2))), (a11, .inl (cJ, 4, .inr (.inl g3))), (a12, .inl (cJ, 4, .inr (.inl g4))), (a17, .inl (cJ, 1200, .inr (.inl g5)))] H := hP
    have hD : va_D A [(h, .inr (6, [.int 0, .int 0, .ref a0, .ref a1, .ref a2, .int 0, .ref a3, .ref a4, .ref a5, .ref a6, .ref a7, .ref a8, .int 0, .int 0, .int 0, .int 0, .ref a9, .ref a10, .ref a11, .ref a12, .ref a13, .ref a14, .ref a15, .ref a16, .ref a17, .int 0])), (a6, .inl (cJ, 4, .inr (.inl g0))), (a7, .inl (cJ, 4, .inr (.inl g1))), (a9, .inl (cJ, 4, .inr (.inl g2))), (a11, .inl (cJ, 4, .inr (.inl g3))), (a12, .inl (cJ, 4, .inr (.inl g4))), (a17, .inl (cJ, 1200, .inr (.inl g5)))] := hD
    refine lv_if_ne (tgt := 20) hx hb dX8_solve_14 (by decide) (fun c60 => absurd (by decide) c60) (fun _ => ?_)
    refine lv_bipush (v := (-2)) hx hb dX8_solve_17 (by decide) ?_
    refine W.widen (k := 0) (n := 0) (by decide) (by decide) ?_
    exact sp_iret (u := ()) hx hb hr hlocks hS (by unfold sp_solve; (repeat' split) <;> first | (exfalso; omega) | rfl) (hP.sub [] rfl) (hD.sub [] (by decide) rfl) dX8_solve_19
def oX8_width : List Cond := [.fieldLink RX8 70 "FloatSolverModel" "thrown" "I", .constantLong RX8 156 (3), .fieldLink RX8 32 "FloatSolverModel" "high" "[J", .fieldLink RX8 28 "FloatSolverModel" "low" "[J", .constantLong RX8 174 (-9223372036854775808)]
def wpX8_width : List Cond := .code yX8_width cX8_width 3 (some .long) :: (oX8_width ++ (wsX80 ++ ((va_wsS RX8 150 yX8_in wpX8_in) ++ ([] : List Cond))))
theorem oX8_width_in : ∀ w ∈ oX8_width, w ∈ wpX8_width := fun w h => List.mem_cons_of_mem _ (List.mem_append_left _ h)
theorem gwoX8_width : ∀ w ∈ oX8_width, goodWord w = true := by decide +kernel
theorem gwX8_width : ∀ w ∈ wpX8_width, goodWord w = true := by
  unfold wpX8_width
  exact List.forall_mem_cons.mpr ⟨rfl, List.forall_mem_append.mpr ⟨gwoX8_width, List.forall_mem_append.mpr ⟨gwX8, List.forall_mem_append.mpr ⟨(sp_gS gwX8_in), fun _ h => absurd h List.not_mem_nil⟩⟩⟩⟩
set_option maxRecDepth 100000 in
theorem toX8_width : ∀ w ∈ oX8_width, w ∈ lw_tbl := by
  unfold oX8_width
  exact List.forall_mem_cons.mpr ⟨(List.mem_of_getElem? (i := 683) (by decide +kernel)), List.forall_mem_cons.mpr ⟨(List.mem_of_getElem? (i := 770) (by decide +kernel)), List.forall_mem_cons.mpr ⟨(List.mem_of_getElem? (i := 693) (by decide +kernel)), List.forall_mem_cons.mpr ⟨(List.mem_of_getElem? (i := 692) (by decide +kernel)), List.forall_mem_cons.mpr ⟨(List.mem_of_getElem? (i := 813) (by decide +kernel)), fun _ h => absurd h List.not_mem_nil⟩⟩⟩⟩⟩
set_option maxRecDepth 100000 in
theorem tX8_width : ∀ w ∈ wpX8_width, w ∈ lw_tbl := by
  unfold wpX8_width
  exact List.forall_mem_cons.mpr ⟨(List.mem_of_getElem? (i := 970) (by rfl)), List.forall_mem_append.mpr ⟨toX8_width, List.forall_mem_append.mpr ⟨in_wsX80, List.forall_mem_append.mpr ⟨(sp_tS (List.mem_of_getElem? (i := 771) (by decide +kernel)) (List.mem_of_getElem? (i := 772) (by decide +kernel)) (List.mem_of_getElem? (i := 45) (by decide +kernel)) tX8_in), fun _ h => absurd h List.not_mem_nil⟩⟩⟩⟩
theorem iX8_width_X8 : ∀ w ∈ wsX80, w ∈ wpX8_width := fun w h => List.mem_cons_of_mem _ (List.mem_append_right _ (List.mem_append_left _ h))
theorem gX8_width_X8_in_150 : GoodIn wpX8_width (va_wsS RX8 150 yX8_in wpX8_in) := fun w h => ⟨List.mem_cons_of_mem _ (List.mem_append_right _ (List.mem_append_right _ (List.mem_append_left _ h))), good_of_word (sp_gS gwX8_in w h)⟩
set_option maxHeartbeats 4000000 in
set_option maxRecDepth 100000 in
theorem c_X8_width (l : Launch) (D : va_G) (cI cJ cZ : ClassId) (sz : Nat) (h a0 a1 a2 a3 a4 a5 a6 a7 a8 a9 a10 a11 a12 a13 a14 a15 a16 a17 : Nat) (f g : Nat → Int64) (kf : ∀ j : Nat, j < 4 → f j = -2139095041) (kg : ∀ j : Nat, j < 4 → g j = 2139095040) (v n : Int32) : Met l yX8_width wpX8_width ({ frames := 1, cells := 0, slots := 0, locals := 25 }) (va_Pc [.ref h, .int v, .int n] (sp_pre D vwCl (sp_ty cI cJ cZ) [(h, .inr (6, [.int 0, .int 0, .ref a0, .ref a1, .ref a2, .int 0, .ref a3, .ref a4, .ref a5, .ref a6, .ref a7, .ref a8, .int 0, .int 0, .int 0, .int 0, .ref a9, .ref a10, .ref a11, .ref a12, .ref a13, .ref a14, .ref a15, .ref a16, .ref a17, .int 0])), (a6, .inl (cJ, 4, .inr (.inl f))), (a7, .inl (cJ, 4, .inr (.inl g)))] sz)) (va_Ql (fun (r : Int64) (u : Int32) => (¬ (0 ≤ v.toInt ∧ v.toInt < 4) ∧ r = -9223372036854775808 ∧ u = 0) ∨ ((0 ≤ v.toInt ∧ v.toInt < 4) ∧ n.toInt = 0 ∧ u = 1) ∨ ((0 ≤ v.toInt ∧ v.toInt < 4) ∧ ¬ n.toInt = 0 ∧ r = 4278190082 / n.toInt64 ∧ u = 0)) (sp_B D vwCl (va_A [(h, .inr (6, [.int 0, .int 0, .ref a0, .ref a1, .ref a2, .int 0, .ref a3, .ref a4, .ref a5, .ref a6, .ref a7, .ref a8, .int 0, .int 0, .int 0, .int 0, .ref a9, .ref a10, .ref a11, .ref a12, .ref a13, .ref a14, .ref a15, .ref a16, .ref a17, .int 0])), (a6, .inl (cJ, 4, .inr (.inl f))), (a7, .inl (cJ, 4, .inr (.inl g)))] sz) (fun (u : Int32) => [(h, .inr (6, [.int u, .int 0, .ref a0, .ref a1, .ref a2, .int 0, .ref a3, .ref a4, .ref a5, .ref a6, .ref a7, .ref a8, .int 0, .int 0, .int 0, .int 0, .ref a9, .ref a10, .ref a11, .ref a12, .ref a13, .ref a14, .ref a15, .ref a16, .ref a17, .int 0]))])) (va_A [(h, .inr (6, [.int 0, .int 0, .ref a0, .ref a1, .ref a2, .int 0, .ref a3, .ref a4, .ref a5, .ref a6, .ref a7, .ref a8, .int 0, .int 0, .int 0, .int 0, .ref a9, .ref a10, .ref a11, .ref a12, .ref a13, .ref a14, .ref a15, .ref a16, .ref a17, .int 0])), (a6, .inl (cJ, 4, .inr (.inl f))), (a7, .inl (cJ, 4, .inr (.inl g)))] sz)) 0 0 (va_A [(h, .inr (6, [.int 0, .int 0, .ref a0, .ref a1, .ref a2, .int 0, .ref a3, .ref a4, .ref a5, .ref a6, .ref a7, .ref a8, .int 0, .int 0, .int 0, .int 0, .ref a9, .ref a10, .ref a11, .ref a12, .ref a13, .ref a14, .ref a15, .ref a16, .ref a17, .int 0])), (a6, .inl (cJ, 4, .inr (.inl f))), (a7, .inl (cJ, 4, .inr (.inl g)))] sz) := by
  refine sp_ofW (Qc := fun A => va_Ql (fun (r : Int64) (u : Int32) => (¬ (0 ≤ v.toInt ∧ v.toInt < 4) ∧ r = -9223372036854775808 ∧ u = 0) ∨ ((0 ≤ v.toInt ∧ v.toInt < 4) ∧ n.toInt = 0 ∧ u = 1) ∨ ((0 ≤ v.toInt ∧ v.toInt < 4) ∧ ¬ n.toInt = 0 ∧ r = 4278190082 / n.toInt64 ∧ u = 0)) (sp_B D vwCl A (fun (u : Int32) => [(h, .inr (6, [.int u, .int 0, .ref a0, .ref a1, .ref a2, .int 0, .ref a3, .ref a4, .ref a5, .ref a6, .ref a7, .ref a8, .int 0, .int 0, .int 0, .int 0, .ref a9, .ref a10, .ref a11, .ref a12, .ref a13, .ref a14, .ref a15, .ref a16, .ref a17, .int 0]))])) A) (by decide) rfl (Nat.le_of_ble_eq_true rfl) (fun p e s m below meth c A ls H locs C0 hA hS hP hK hD hl => ?_)
  obtain ⟨hx, hb, hr, hts, hown, hlocks, hml, hin⟩ := C0
  have hown : s.vm.findClass RX8 = some m.cls := hown
  have hl : lv_has ls 3 [(0, .ref h), (1, .int v), (2, .int n)] := hl
  have hK : va_K D vwCl [(cI, .int), (cJ, .long), (cZ, .boolean)] s := hK
  refine lv_aload_n hx hb dX8_width_0 rfl (lv_at hl 0 rfl) ?_
  refine lv_iconst (v := 0) hx hb dX8_width_1 (by decide) ?_
  refine va_put (D := D) (ci := 6) (v := .int 0) (ty := .int) (C := RX8) (T := TX8) (N := 26) hx hb hts iX8_width_X8 tyX8 tyX8_ok nmX8 hown hK hP hD hS 0 rfl rfl 0 (by decide) (hts (.fieldLink RX8 70 "FloatSolverModel" "thrown" "I") (oX8_width_in _ (List.mem_of_getElem? (i := 0) rfl))) (fun _ h9 => h9) rfl (by decide +kernel) rfl rfl (Nat.le_of_ble_eq_true rfl) dX8_width_2 (fun H locs hP hD hS => ?_)
  have hP : va_P D vwCl [(h, .inr (6, [.int 0, .int 0, .ref a0, .ref a1, .ref a2, .int 0, .ref a3, .ref a4, .ref a5, .ref a6, .ref a7, .ref a8, .int 0, .int 0, .int 0, .int 0, .ref a9, .ref a10, .ref a11, .ref a12, .ref a13, .ref a14, .ref a15, .ref a16, .ref a17, .int 0])), (a6, .inl (cJ, 4, .inr (.inl f))), (a7, .inl (cJ, 4, .inr (.inl g)))] H := hP
  have hD : va_D A [(h, .inr (6, [.int 0, .int 0, .ref a0, .ref a1, .ref a2, .int 0, .ref a3, .ref a4, .ref a5, .ref a6, .ref a7, .ref a8, .int 0, .int 0, .int 0, .int 0, .ref a9, .ref a10, .ref a11, .ref a12, .ref a13, .ref a14, .ref a15, .ref a16, .ref a17, .int 0])), (a6, .inl (cJ, 4, .inr (.inl f))), (a7, .inl (cJ, 4, .inr (.inl g)))] := hD
  refine lv_iload_n hx hb dX8_width_5 rfl (lv_at hl 1 rfl) ?_
  refine lv_i2l (v := _) hx hb dX8_width_6 rfl ?_
  refine lv_lconst (v := 0) hx hb dX8_width_7 (by decide) ?_
  refine lv_ldc2 (v := 3) hx hb hown (hts (.constantLong RX8 156 (3)) (oX8_width_in _ (List.mem_of_getElem? (i := 1) rfl))) dX8_width_8 ?_
  refine sp_calli (wr := [(h, .inr (6, [.int 0, .int 0, .ref a0, .ref a1, .ref a2, .int 0, .ref a3, .ref a4, .ref a5, .ref a6, .ref a7, .ref a8, .int 0, .int 0, .int 0, .int 0, .ref a9, .ref a10, .ref a11, .ref a12, .ref a13, .ref a14, .ref a15, .ref a16, .ref a17, .int 0])), (a6, .inl (cJ, 4, .inr (.inl f))), (a7, .inl (cJ, 4, .inr (.inl g)))]) (wc := []) hP hD hS hA [] [0, 1, 2] rfl rfl (by decide) (by decide) (va_runS (As := [.long (v : Int32).toInt64, .long 0, .long 3]) (rest := []) ⟨hx, hb, hml, hown, hts⟩ (c_X8_in l D cI cJ cZ H.size ((v : Int32).toInt64) (0) (3)) (va_cwS 3 hts gX8_width_X8_in_150 rfl rfl rfl (by decide +kernel) ⟨Nat.le_of_ble_eq_true rfl, Nat.le_of_ble_eq_true rfl⟩) (sp_preS [.long (v : Int32).toInt64, .long 0, .long 3] hK (hP.sub (ws' := []) [] rfl) (hD.sub (ws' := []) [] (by decide) rfl)) rfl rfl hl.1 rfl (lv_room (Nat.le_of_ble_eq_true rfl)) dX8_width_11 ⟨Nat.le_of_ble_eq_true rfl, Nat.le_of_ble_eq_true rfl⟩) (fun r1 u2 H locs hw3 hP hD hS => ?_)
  rcases hw3 with ⟨rfl, h4⟩ | ⟨rfl, h4⟩
  · skip
    have h4 : (0 : Int) ≤ (v : Int32).toInt ∧ (v : Int32).toInt ≤ (3 : Int) := (by have h9 := h4; simp only [Int32.toInt_toInt64] at h9; exact h9)
    have hP : va_P D vwCl [(h, .inr (6, [.int 0, .int 0, .ref a0, .ref a1, .ref a2, .int 0, .ref a3, .ref a4, .ref a5, .ref a6, .ref a7, .ref a8, .int 0, .int 0, .int 0, .int 0, .ref a9, .ref a10, .ref a11, .ref a12, .ref a13, .ref a14, .ref a15, .ref a16, .ref a17, .int 0])), (a6, .inl (cJ, 4, .inr (.inl f))), (a7, .inl (cJ, 4, .inr (.inl g)))] H := hP
    have hD : va_D A [(h, .inr (6, [.int 0, .int 0, .ref a0, .ref a1, .ref a2, .int 0, .ref a3, .ref a4, .ref a5, .ref a6, .ref a7, .ref a8, .int 0, .int 0, .int 0, .int 0, .ref a9, .ref a10, .ref a11, .ref a12, .ref a13, .ref a14, .ref a15, .ref a16, .ref a17, .int 0])), (a6, .inl (cJ, 4, .inr (.inl f))), (a7, .inl (cJ, 4, .inr (.inl g)))] := hD
    refine lv_if_ne (tgt := 21) hx hb dX8_width_14 (by decide) (fun _ => ?_) (fun c5 => absurd c5 (by decide))
    refine lv_iload_n hx hb dX8_width_21 rfl (lv_at hl 2 rfl) ?_
    refine lv_if_ne (tgt := 32) hx hb dX8_width_22 (by decide) (fun c6 => ?_) (fun c6 => ?_)
    · skip
      have c6i : ¬ (n : Int32).toInt = 0 := fun h => c6 (Int32.toInt_inj.mp h)
      refine lv_aload_n hx hb dX8_width_32 rfl (lv_at hl 0 rfl) ?_
      refine va_get (D := D) (ci := 6) (v := .ref a7) (C := RX8) (T := TX8) (N := 26) hx hb hts iX8_width_X8 hown hK hP 0 rfl rfl 10 (by decide) (hts (.fieldLink RX8 32 "FloatSolverModel" "high" "[J") (oX8_width_in _ (List.mem_of_getElem? (i := 2) rfl))) (fun _ h9 => h9) rfl dX8_width_33 ?_
      refine lv_iload_n hx hb dX8_width_36 rfl (lv_at hl 1 rfl) ?_
      refine va_lald hx hb hK hP 2 1 rfl rfl (vp_in_iff.mpr ⟨by omega, by omega⟩) dX8_width_37 ?_
      refine lv_topl (fun y7 e8 => ?_)
      obtain rfl : y7 = 2139095040 := e8.trans (kg _ (sp_clamp (by omega) (by omega)))
      refine lv_aload_n hx hb dX8_width_38 rfl (lv_at hl 0 rfl) ?_
      refine va_get (D := D) (ci := 6) (v := .ref a6) (C := RX8) (T := TX8) (N := 26) hx hb hts iX8_width_X8 hown hK hP 0 rfl rfl 9 (by decide) (hts (.fieldLink RX8 28 "FloatSolverModel" "low" "[J") (oX8_width_in _ (List.mem_of_getElem? (i := 3) rfl))) (fun _ h9 => h9) rfl dX8_width_39 ?_
      refine lv_iload_n hx hb dX8_width_42 rfl (lv_at hl 1 rfl) ?_
      refine va_lald hx hb hK hP 1 1 rfl rfl (vp_in_iff.mpr ⟨by omega, by omega⟩) dX8_width_43 ?_
      refine lv_topl (fun y9 e10 => ?_)
      obtain rfl : y9 = (-2139095041) := e10.trans (kf _ (sp_clamp (by omega) (by omega)))
      refine lv_lsub hx hb dX8_width_44 ?_
      refine lv_topl (fun y11 e12 => ?_)
      obtain rfl : y11 = 4278190081 := e12.trans (by decide)
      refine lv_lconst (v := 1) hx hb dX8_width_45 (by decide) ?_
      refine lv_ladd hx hb dX8_width_46 ?_
      refine lv_topl (fun y13 e14 => ?_)
      obtain rfl : y13 = 4278190082 := e14.trans (by decide)
      refine lv_iload_n hx hb dX8_width_47 rfl (lv_at hl 2 rfl) ?_
      refine lv_i2l (v := _) hx hb dX8_width_48 rfl ?_
      refine lv_ldiv hx hb dX8_width_49 (px_ne0 (by omega)) ?_
      refine W.widen (k := 0) (n := 0) (by decide) (by decide) ?_
      exact sp_lret (u := 0) hx hb hr hlocks hS (Or.inr (Or.inr ⟨by omega, by omega, rfl, rfl⟩)) (hP.sub [0] rfl) (hD.sub [0] (by decide) rfl) dX8_width_50
    · skip
      have c6i : (n : Int32).toInt = 0 := congrArg Int32.toInt c6
      refine lv_aload_n hx hb dX8_width_25 rfl (lv_at hl 0 rfl) ?_
      refine lv_iconst (v := 1) hx hb dX8_width_26 (by decide) ?_
      refine va_put (D := D) (ci := 6) (v := .int 1) (ty := .int) (C := RX8) (T := TX8) (N := 26) hx hb hts iX8_width_X8 tyX8 tyX8_ok nmX8 hown hK hP hD hS 0 rfl rfl 0 (by decide) (hts (.fieldLink RX8 70 "FloatSolverModel" "thrown" "I") (oX8_width_in _ (List.mem_of_getElem? (i := 0) rfl))) (fun _ h9 => h9) rfl (by decide +kernel) rfl rfl (Nat.le_of_ble_eq_true rfl) dX8_width_27 (fun H locs hP hD hS => ?_)
      have hP : va_P D vwCl [(h, .inr (6, [.int 1, .int 0, .ref a0, .ref a1, .ref a2, .int 0, .ref a3, .ref a4, .ref a5, .ref a6, .ref a7, .ref a8, .int 0, .int 0, .int 0, .int 0, .ref a9, .ref a10, .ref a11, .ref a12, .ref a13, .ref a14, .ref a15, .ref a16, .ref a17, .int 0])), (a6, .inl (cJ, 4, .inr (.inl f))), (a7, .inl (cJ, 4, .inr (.inl g)))] H := hP
      have hD : va_D A [(h, .inr (6, [.int 1, .int 0, .ref a0, .ref a1, .ref a2, .int 0, .ref a3, .ref a4, .ref a5, .ref a6, .ref a7, .ref a8, .int 0, .int 0, .int 0, .int 0, .ref a9, .ref a10, .ref a11, .ref a12, .ref a13, .ref a14, .ref a15, .ref a16, .ref a17, .int 0])), (a6, .inl (cJ, 4, .inr (.inl f))), (a7, .inl (cJ, 4, .inr (.inl g)))] := hD
      refine lv_lconst (v := 0) hx hb dX8_width_30 (by decide) ?_
      refine W.widen (k := 0) (n := 0) (by decide) (by decide) ?_
      exact sp_lret (u := 1) hx hb hr hlocks hS (Or.inr (Or.inl ⟨by omega, by omega, rfl⟩)) (hP.sub [0] rfl) (hD.sub [0] (by decide) rfl) dX8_width_31
  · skip
    have h4 : ¬ ((0 : Int) ≤ (v : Int32).toInt ∧ (v : Int32).toInt ≤ (3 : Int)) := (by have h9 := h4; simp only [Int32.toInt_toInt64] at h9; exact h9)
    have hP : va_P D vwCl [(h, .inr (6, [.int 0, .int 0, .ref a0, .ref a1, .ref a2, .int 0, .ref a3, .ref a4, .ref a5, .ref a6, .ref a7, .ref a8, .int 0, .int 0, .int 0, .int 0, .ref a9, .ref a10, .ref a11, .ref a12, .ref a13, .ref a14, .ref a15, .ref a16, .ref a17, .int 0])), (a6, .inl (cJ, 4, .inr (.inl f))), (a7, .inl (cJ, 4, .inr (.inl g)))] H := hP
    have hD : va_D A [(h, .inr (6, [.int 0, .int 0, .ref a0, .ref a1, .ref a2, .int 0, .ref a3, .ref a4, .ref a5, .ref a6, .ref a7, .ref a8, .int 0, .int 0, .int 0, .int 0, .ref a9, .ref a10, .ref a11, .ref a12, .ref a13, .ref a14, .ref a15, .ref a16, .ref a17, .int 0])), (a6, .inl (cJ, 4, .inr (.inl f))), (a7, .inl (cJ, 4, .inr (.inl g)))] := hD
    refine lv_if_ne (tgt := 21) hx hb dX8_width_14 (by decide) (fun c15 => absurd (by decide) c15) (fun _ => ?_)
    refine lv_ldc2 (v := (-9223372036854775808)) hx hb hown (hts (.constantLong RX8 174 (-9223372036854775808)) (oX8_width_in _ (List.mem_of_getElem? (i := 4) rfl))) dX8_width_17 ?_
    refine W.widen (k := 0) (n := 0) (by decide) (by decide) ?_
    exact sp_lret (u := 0) hx hb hr hlocks hS (Or.inl ⟨by omega, rfl, rfl⟩) (hP.sub [0] rfl) (hD.sub [0] (by decide) rfl) dX8_width_20
