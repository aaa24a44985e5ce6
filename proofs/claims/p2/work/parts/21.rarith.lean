def oX8_in : List Cond := []
def wpX8_in : List Cond := .code yX8_in cX8_in 6 (some .boolean) :: (oX8_in ++ ([] : List Cond))
theorem oX8_in_in : ∀ w ∈ oX8_in, w ∈ wpX8_in := fun w h => List.mem_cons_of_mem _ (List.mem_append_left _ h)
theorem gwoX8_in : ∀ w ∈ oX8_in, goodWord w = true := by decide +kernel
theorem gwX8_in : ∀ w ∈ wpX8_in, goodWord w = true := by
  unfold wpX8_in
  exact List.forall_mem_cons.mpr ⟨rfl, List.forall_mem_append.mpr ⟨gwoX8_in, fun _ h => absurd h List.not_mem_nil⟩⟩
set_option maxRecDepth 100000 in
theorem toX8_in : ∀ w ∈ oX8_in, w ∈ lw_tbl := by
  unfold oX8_in
  exact fun _ h => absurd h List.not_mem_nil
set_option maxRecDepth 100000 in
theorem tX8_in : ∀ w ∈ wpX8_in, w ∈ lw_tbl := by
  unfold wpX8_in
  exact List.forall_mem_cons.mpr ⟨(List.mem_of_getElem? (i := 769) (by rfl)), List.forall_mem_append.mpr ⟨toX8_in, fun _ h => absurd h List.not_mem_nil⟩⟩
set_option maxHeartbeats 4000000 in
set_option maxRecDepth 100000 in
theorem c_X8_in (l : Launch) (D : va_G) (cI cJ cZ : ClassId) (sz : Nat) (a : Int64) (b : Int64) (c0 : Int64) : Met l yX8_in wpX8_in ({ frames := 0, cells := 0, slots := 0, locals := 0 }) (va_Pc ([.long a, .long b, .long c0] : List Value) (sp_pre D vwCl (sp_ty cI cJ cZ) [] sz)) (va_Qi (fun (r : Int32) (_ : Unit) => (r = 1 ∧ (b.toInt ≤ a.toInt ∧ a.toInt ≤ c0.toInt)) ∨ (r = 0 ∧ ¬ (b.toInt ≤ a.toInt ∧ a.toInt ≤ c0.toInt))) (sp_B D vwCl (va_A [] sz) (fun (_ : Unit) => [])) (va_A [] sz)) 0 0 (va_A [] sz) := by
  refine sp_ofW (Qc := fun A => va_Qi (fun (r : Int32) (_ : Unit) => (r = 1 ∧ (b.toInt ≤ a.toInt ∧ a.toInt ≤ c0.toInt)) ∨ (r = 0 ∧ ¬ (b.toInt ≤ a.toInt ∧ a.toInt ≤ c0.toInt))) (sp_B D vwCl A (fun (_ : Unit) => [])) A) (by decide) rfl (Nat.le_of_ble_eq_true rfl) (fun p e s m below meth c A ls H locs C0 hA hS hP hK hD hl => ?_)
  obtain ⟨hx, hb, hr, hts, hown, hlocks, hml, hin⟩ := id C0
  have hown : s.vm.findClass RX8 = some m.cls := hown
  have hl : lv_has ls 6 [(0, .long a), (2, .long b), (4, .long c0)] := hl
  have hK : va_K D vwCl [(cI, .int), (cJ, .long), (cZ, .boolean)] s := hK
  refine lv_lload_n hx hb dX8_in_0 rfl (lv_at hl 0 rfl) ?_
  refine lv_lload_n hx hb dX8_in_1 rfl (lv_at hl 1 rfl) ?_
  refine W.lcmp hx hb dX8_in_2 ?_
  refine lv_if_lt (tgt := 17) hx hb dX8_in_3 (by decide) (fun c1 => ?_) (fun c1 => ?_)
  · skip
    have c1 := (lg_cmp_lt _ _).mp c1
    have c1i : (a : Int64).toInt < (b : Int64).toInt := Int64.lt_iff_toInt_lt.mp c1
    refine lv_iconst (v := 0) hx hb dX8_in_17 (by decide) ?_
    refine W.widen (k := 0) (n := 0) (by decide) (by decide) ?_
    exact sp_zret (u := ()) hx hb hr hlocks (by decide) hS (Or.inr ⟨rfl, by omega⟩) (hP.sub [] rfl) (hD.sub [] (by decide) rfl) dX8_in_18
  · skip
    have c1 := fun h => c1 ((lg_cmp_lt _ _).mpr h)
    have c1i : ¬ (a : Int64).toInt < (b : Int64).toInt := fun h => c1 (Int64.lt_iff_toInt_lt.mpr h)
    refine lv_lload_n hx hb dX8_in_6 rfl (lv_at hl 0 rfl) ?_
    refine lv_lload hx hb dX8_in_7 (lv_at hl 2 rfl) ?_
    refine W.lcmp hx hb dX8_in_9 ?_
    refine lv_if_gt (tgt := 17) hx hb dX8_in_10 (by decide) (fun c2 => ?_) (fun c2 => ?_)
    · skip
      have c2 := (lg_cmp_gt _ _).mp c2
      have c2i : (c0 : Int64).toInt < (a : Int64).toInt := Int64.lt_iff_toInt_lt.mp c2
      refine lv_iconst (v := 0) hx hb dX8_in_17 (by decide) ?_
      refine W.widen (k := 0) (n := 0) (by decide) (by decide) ?_
      exact sp_zret (u := ()) hx hb hr hlocks (by decide) hS (Or.inr ⟨rfl, by omega⟩) (hP.sub [] rfl) (hD.sub [] (by decide) rfl) dX8_in_18
    · skip
      have c2 := fun h => c2 ((lg_cmp_gt _ _).mpr h)
      have c2i : ¬ (c0 : Int64).toInt < (a : Int64).toInt := fun h => c2 (Int64.lt_iff_toInt_lt.mpr h)
      refine lv_iconst (v := 1) hx hb dX8_in_13 (by decide) ?_
      refine lv_goto (tgt := 18) hx hb dX8_in_14 (by decide) ?_
      refine W.widen (k := 0) (n := 0) (by decide) (by decide) ?_
      exact sp_zret (u := ()) hx hb hr hlocks (by decide) hS (Or.inl ⟨rfl, by omega⟩) (hP.sub [] rfl) (hD.sub [] (by decide) rfl) dX8_in_18
def oX8_magOf : List Cond := [.constantLong RX8 74 (-1)]
def wpX8_magOf : List Cond := .code yX8_magOf cX8_magOf 2 (some .long) :: (oX8_magOf ++ ([] : List Cond))
theorem oX8_magOf_in : ∀ w ∈ oX8_magOf, w ∈ wpX8_magOf := fun w h => List.mem_cons_of_mem _ (List.mem_append_left _ h)
theorem gwoX8_magOf : ∀ w ∈ oX8_magOf, goodWord w = true := by decide +kernel
theorem gwX8_magOf : ∀ w ∈ wpX8_magOf, goodWord w = true := by
  unfold wpX8_magOf
  exact List.forall_mem_cons.mpr ⟨rfl, List.forall_mem_append.mpr ⟨gwoX8_magOf, fun _ h => absurd h List.not_mem_nil⟩⟩
set_option maxRecDepth 100000 in
theorem toX8_magOf : ∀ w ∈ oX8_magOf, w ∈ lw_tbl := by
  unfold oX8_magOf
  exact List.forall_mem_cons.mpr ⟨(List.mem_of_getElem? (i := 808) (by decide +kernel)), fun _ h => absurd h List.not_mem_nil⟩
set_option maxRecDepth 100000 in
theorem tX8_magOf : ∀ w ∈ wpX8_magOf, w ∈ lw_tbl := by
  unfold wpX8_magOf
  exact List.forall_mem_cons.mpr ⟨(List.mem_of_getElem? (i := 839) (by rfl)), List.forall_mem_append.mpr ⟨toX8_magOf, fun _ h => absurd h List.not_mem_nil⟩⟩
set_option maxHeartbeats 4000000 in
set_option maxRecDepth 100000 in
theorem c_X8_magOf (l : Launch) (D : va_G) (cI cJ cZ : ClassId) (sz : Nat) (g : Int64) : Met l yX8_magOf wpX8_magOf ({ frames := 0, cells := 0, slots := 0, locals := 0 }) (va_Pc ([.long g] : List Value) (sp_pre D vwCl (sp_ty cI cJ cZ) [] sz)) (va_Ql (fun (r : Int64) (_ : Unit) => 0 ≤ r.toInt ∧ (¬ (g.toInt = 0 ∨ g.toInt = -1) → 1 ≤ r.toInt)) (sp_B D vwCl (va_A [] sz) (fun (_ : Unit) => [])) (va_A [] sz)) 0 0 (va_A [] sz) := by
  refine sp_ofW (Qc := fun A => va_Ql (fun (r : Int64) (_ : Unit) => 0 ≤ r.toInt ∧ (¬ (g.toInt = 0 ∨ g.toInt = -1) → 1 ≤ r.toInt)) (sp_B D vwCl A (fun (_ : Unit) => [])) A) (by decide) rfl (Nat.le_of_ble_eq_true rfl) (fun p e s m below meth c A ls H locs C0 hA hS hP hK hD hl => ?_)
  obtain ⟨hx, hb, hr, hts, hown, hlocks, hml, hin⟩ := id C0
  have hown : s.vm.findClass RX8 = some m.cls := hown
  have hl : lv_has ls 2 [(0, .long g)] := hl
  have hK : va_K D vwCl [(cI, .int), (cJ, .long), (cZ, .boolean)] s := hK
  refine lv_lload_n hx hb dX8_magOf_0 rfl (lv_at hl 0 rfl) ?_
  refine lv_lconst (v := 0) hx hb dX8_magOf_1 (by decide) ?_
  refine W.lcmp hx hb dX8_magOf_2 ?_
  refine lv_if_ge (tgt := 14) hx hb dX8_magOf_3 (by decide) (fun c1 => ?_) (fun c1 => ?_)
  · skip
    have c1 := (lg_cmp_ge _ _).mp c1
    have c1i : 0 ≤ (g : Int64).toInt := Int64.le_iff_toInt_le.mp c1
    refine lv_lload_n hx hb dX8_magOf_14 rfl (lv_at hl 0 rfl) ?_
    refine W.widen (k := 0) (n := 0) (by decide) (by decide) ?_
    exact sp_lret (u := ()) hx hb hr hlocks hS ⟨by omega, by omega⟩ (hP.sub [] rfl) (hD.sub [] (by decide) rfl) dX8_magOf_15
  · skip
    have c1 := fun h => c1 ((lg_cmp_ge _ _).mpr h)
    have c1i : ¬ 0 ≤ (g : Int64).toInt := fun h => c1 (Int64.le_iff_toInt_le.mpr h)
    refine lv_ldc2 (v := (-1)) hx hb hown (hts (.constantLong RX8 74 (-1)) (oX8_magOf_in _ (List.mem_of_getElem? (i := 0) rfl))) dX8_magOf_6 ?_
    refine lv_lload_n hx hb dX8_magOf_9 rfl (lv_at hl 0 rfl) ?_
    refine lv_lsub hx hb dX8_magOf_10 ?_
    refine lv_goto (tgt := 15) hx hb dX8_magOf_11 (by decide) ?_
    refine W.widen (k := 0) (n := 0) (by decide) (by decide) ?_
    exact sp_lret (u := ()) hx hb hr hlocks hS (by have e := px_neg1 (g := g) (by omega); exact ⟨by omega, by omega⟩) (hP.sub [] rfl) (hD.sub [] (by decide) rfl) dX8_magOf_15
def oX8_placeOf : List Cond := [.constantLong RX8 74 (-1)]
def wpX8_placeOf : List Cond := .code yX8_placeOf cX8_placeOf 3 (some .long) :: (oX8_placeOf ++ ([] : List Cond))
theorem oX8_placeOf_in : ∀ w ∈ oX8_placeOf, w ∈ wpX8_placeOf := fun w h => List.mem_cons_of_mem _ (List.mem_append_left _ h)
theorem gwoX8_placeOf : ∀ w ∈ oX8_placeOf, goodWord w = true := by decide +kernel
theorem gwX8_placeOf : ∀ w ∈ wpX8_placeOf, goodWord w = true := by
  unfold wpX8_placeOf
  exact List.forall_mem_cons.mpr ⟨rfl, List.forall_mem_append.mpr ⟨gwoX8_placeOf, fun _ h => absurd h List.not_mem_nil⟩⟩
set_option maxRecDepth 100000 in
theorem toX8_placeOf : ∀ w ∈ oX8_placeOf, w ∈ lw_tbl := by
  unfold oX8_placeOf
  exact List.forall_mem_cons.mpr ⟨(List.mem_of_getElem? (i := 808) (by decide +kernel)), fun _ h => absurd h List.not_mem_nil⟩
set_option maxRecDepth 100000 in
theorem tX8_placeOf : ∀ w ∈ wpX8_placeOf, w ∈ lw_tbl := by
  unfold wpX8_placeOf
  exact List.forall_mem_cons.mpr ⟨(List.mem_of_getElem? (i := 807) (by rfl)), List.forall_mem_append.mpr ⟨toX8_placeOf, fun _ h => absurd h List.not_mem_nil⟩⟩
set_option maxHeartbeats 4000000 in
set_option maxRecDepth 100000 in
theorem c_X8_placeOf (l : Launch) (D : va_G) (cI cJ cZ : ClassId) (sz : Nat) (z : Int32) (g : Int64) : Met l yX8_placeOf wpX8_placeOf ({ frames := 0, cells := 0, slots := 0, locals := 0 }) (va_Pc ([.int z, .long g] : List Value) (sp_pre D vwCl (sp_ty cI cJ cZ) [] sz)) (va_Ql (fun (r : Int64) (_ : Unit) => r = sq_mp z g) (sp_B D vwCl (va_A [] sz) (fun (_ : Unit) => [])) (va_A [] sz)) 0 0 (va_A [] sz) := by
  refine sp_ofW (Qc := fun A => va_Ql (fun (r : Int64) (_ : Unit) => r = sq_mp z g) (sp_B D vwCl A (fun (_ : Unit) => [])) A) (by decide) rfl (Nat.le_of_ble_eq_true rfl) (fun p e s m below meth c A ls H locs C0 hA hS hP hK hD hl => ?_)
  obtain ⟨hx, hb, hr, hts, hown, hlocks, hml, hin⟩ := id C0
  have hown : s.vm.findClass RX8 = some m.cls := hown
  have hl : lv_has ls 3 [(0, .int z), (1, .long g)] := hl
  have hK : va_K D vwCl [(cI, .int), (cJ, .long), (cZ, .boolean)] s := hK
  refine lv_iload_n hx hb dX8_placeOf_0 rfl (lv_at hl 0 rfl) ?_
  refine lv_if_eq (tgt := 12) hx hb dX8_placeOf_1 (by decide) (fun c1 => ?_) (fun c1 => ?_)
  · skip
    have c1i : (z : Int32).toInt = 0 := congrArg Int32.toInt c1
    refine lv_lload_n hx hb dX8_placeOf_12 rfl (lv_at hl 1 rfl) ?_
    refine W.widen (k := 0) (n := 0) (by decide) (by decide) ?_
    exact sp_lret (u := ()) hx hb hr hlocks hS (by unfold sq_mp; split <;> first | (exfalso; omega) | rfl) (hP.sub [] rfl) (hD.sub [] (by decide) rfl) dX8_placeOf_13
  · skip
    have c1i : ¬ (z : Int32).toInt = 0 := fun h => c1 (Int32.toInt_inj.mp h)
    refine lv_ldc2 (v := (-1)) hx hb hown (hts (.constantLong RX8 74 (-1)) (oX8_placeOf_in _ (List.mem_of_getElem? (i := 0) rfl))) dX8_placeOf_4 ?_
    refine lv_lload_n hx hb dX8_placeOf_7 rfl (lv_at hl 1 rfl) ?_
    refine lv_lsub hx hb dX8_placeOf_8 ?_
    refine lv_goto (tgt := 13) hx hb dX8_placeOf_9 (by decide) ?_
    refine W.widen (k := 0) (n := 0) (by decide) (by decide) ?_
    exact sp_lret (u := ()) hx hb hr hlocks hS (by unfold sq_mp; split <;> first | (exfalso; omega) | rfl) (hP.sub [] rfl) (hD.sub [] (by decide) rfl) dX8_placeOf_13
def oX8_digits : List Cond := [.constantLong RX8 80 (8388608)]
def wpX8_digits : List Cond := .code yX8_digits cX8_digits 4 (some .long) :: (oX8_digits ++ ((va_wsS RX8 76 yX8_magOf wpX8_magOf) ++ ([] : List Cond)))
theorem oX8_digits_in : ∀ w ∈ oX8_digits, w ∈ wpX8_digits := fun w h => List.mem_cons_of_mem _ (List.mem_append_left _ h)
theorem gwoX8_digits : ∀ w ∈ oX8_digits, goodWord w = true := by decide +kernel
theorem gwX8_digits : ∀ w ∈ wpX8_digits, goodWord w = true := by
  unfold wpX8_digits
  exact List.forall_mem_cons.mpr ⟨rfl, List.forall_mem_append.mpr ⟨gwoX8_digits, List.forall_mem_append.mpr ⟨(sp_gS gwX8_magOf), fun _ h => absurd h List.not_mem_nil⟩⟩⟩
set_option maxRecDepth 100000 in
theorem toX8_digits : ∀ w ∈ oX8_digits, w ∈ lw_tbl := by
  unfold oX8_digits
  exact List.forall_mem_cons.mpr ⟨(List.mem_of_getElem? (i := 843) (by decide +kernel)), fun _ h => absurd h List.not_mem_nil⟩
set_option maxRecDepth 100000 in
theorem tX8_digits : ∀ w ∈ wpX8_digits, w ∈ lw_tbl := by
  unfold wpX8_digits
  exact List.forall_mem_cons.mpr ⟨(List.mem_of_getElem? (i := 846) (by rfl)), List.forall_mem_append.mpr ⟨toX8_digits, List.forall_mem_append.mpr ⟨(sp_tS (List.mem_of_getElem? (i := 837) (by decide +kernel)) (List.mem_of_getElem? (i := 838) (by decide +kernel)) (List.mem_of_getElem? (i := 45) (by decide +kernel)) tX8_magOf), fun _ h => absurd h List.not_mem_nil⟩⟩⟩
theorem gX8_digits_X8_magOf_76 : GoodIn wpX8_digits (va_wsS RX8 76 yX8_magOf wpX8_magOf) := fun w h => ⟨List.mem_cons_of_mem _ (List.mem_append_right _ (List.mem_append_left _ h)), good_of_word (sp_gS gwX8_magOf w h)⟩
set_option maxHeartbeats 4000000 in
set_option maxRecDepth 100000 in
theorem c_X8_digits (l : Launch) (D : va_G) (cI cJ cZ : ClassId) (sz : Nat) (g : Int64) : Met l yX8_digits wpX8_digits ({ frames := 1, cells := 0, slots := 0, locals := 21 }) (va_Pc ([.long g] : List Value) (sp_pre D vwCl (sp_ty cI cJ cZ) [] sz)) (va_Ql (fun (r : Int64) (_ : Unit) => 0 ≤ r.toInt ∧ (¬ (g.toInt = 0 ∨ g.toInt = -1) → 1 ≤ r.toInt)) (sp_B D vwCl (va_A [] sz) (fun (_ : Unit) => [])) (va_A [] sz)) 0 0 (va_A [] sz) := by
  refine sp_ofW (Qc := fun A => va_Ql (fun (r : Int64) (_ : Unit) => 0 ≤ r.toInt ∧ (¬ (g.toInt = 0 ∨ g.toInt = -1) → 1 ≤ r.toInt)) (sp_B D vwCl A (fun (_ : Unit) => [])) A) (by decide) rfl (Nat.le_of_ble_eq_true rfl) (fun p e s m below meth c A ls H locs C0 hA hS hP hK hD hl => ?_)
  obtain ⟨hx, hb, hr, hts, hown, hlocks, hml, hin⟩ := id C0
  have hown : s.vm.findClass RX8 = some m.cls := hown
  have hl : lv_has ls 4 [(0, .long g)] := hl
  have hK : va_K D vwCl [(cI, .int), (cJ, .long), (cZ, .boolean)] s := hK
  refine lv_lload_n hx hb dX8_digits_0 rfl (lv_at hl 0 rfl) ?_
  refine sp_callj (wr := []) (wc := []) hP hD hS hA [] [] rfl rfl (by decide) (by decide) (va_runS (As := [.long g]) (rest := []) ⟨hx, hb, hml, hown, hts⟩ (c_X8_magOf l D cI cJ cZ H.size (g)) (va_cwS 1 hts gX8_digits_X8_magOf_76 rfl rfl rfl (by decide +kernel) ⟨Nat.le_of_ble_eq_true rfl, Nat.le_of_ble_eq_true rfl⟩) (sp_preS [.long g] hK (hP.sub (ws' := []) [] rfl) (hD.sub (ws' := []) [] (by decide) rfl)) rfl rfl hl.1 rfl (lv_room (Nat.le_of_ble_eq_true rfl)) dX8_digits_1 ⟨Nat.le_of_ble_eq_true rfl, Nat.le_of_ble_eq_true rfl⟩) (fun r1 u2 H locs hw3 hP hD hS => ?_)
  have h4 : 0 ≤ (r1 : Int64).toInt ∧ (¬ ((g : Int64).toInt = 0 ∨ (g : Int64).toInt = -1) → 1 ≤ (r1 : Int64).toInt) := hw3
  have hP : va_P D vwCl [] H := hP
  have hD : va_D A [] := hD
  refine lv_lstore_n (lv' := [(2, .long r1), (0, .long g)]) hx hb dX8_digits_4 rfl hl (by decide) rfl (fun ls hl => ?_)
  refine lv_lload_n hx hb dX8_digits_5 rfl (lv_at hl 0 rfl) ?_
  refine lv_ldc2 (v := 8388608) hx hb hown (hts (.constantLong RX8 80 (8388608)) (oX8_digits_in _ (List.mem_of_getElem? (i := 0) rfl))) dX8_digits_6 ?_
  refine W.lcmp hx hb dX8_digits_9 ?_
  refine lv_if_ge (tgt := 17) hx hb dX8_digits_10 (by decide) (fun c5 => ?_) (fun c5 => ?_)
  · skip
    have c5 := (lg_cmp_ge _ _).mp c5
    have c5i : 8388608 ≤ (r1 : Int64).toInt := Int64.le_iff_toInt_le.mp c5
    refine lv_lload_n hx hb dX8_digits_17 rfl (lv_at hl 0 rfl) ?_
    refine lv_ldc2 (v := 8388608) hx hb hown (hts (.constantLong RX8 80 (8388608)) (oX8_digits_in _ (List.mem_of_getElem? (i := 0) rfl))) dX8_digits_18 ?_
    refine lv_lrem hx hb dX8_digits_21 (by decide) ?_
    refine lv_ldc2 (v := 8388608) hx hb hown (hts (.constantLong RX8 80 (8388608)) (oX8_digits_in _ (List.mem_of_getElem? (i := 0) rfl))) dX8_digits_22 ?_
    refine lv_ladd hx hb dX8_digits_25 ?_
    refine W.widen (k := 0) (n := 0) (by decide) (by decide) ?_
    exact sp_lret (u := ()) hx hb hr hlocks hS (by have e := px_dig (x := r1) (by omega); exact ⟨by omega, by omega⟩) (hP.sub [] rfl) (hD.sub [] (by decide) rfl) dX8_digits_26
  · skip
    have c5 := fun h => c5 ((lg_cmp_ge _ _).mpr h)
    have c5i : ¬ 8388608 ≤ (r1 : Int64).toInt := fun h => c5 (Int64.le_iff_toInt_le.mpr h)
    refine lv_lload_n hx hb dX8_digits_13 rfl (lv_at hl 0 rfl) ?_
    refine lv_goto (tgt := 26) hx hb dX8_digits_14 (by decide) ?_
    refine W.widen (k := 0) (n := 0) (by decide) (by decide) ?_
    exact sp_lret (u := ()) hx hb hr hlocks hS ⟨by omega, by omega⟩ (hP.sub [] rfl) (hD.sub [] (by decide) rfl) dX8_digits_26
def oX8_power : List Cond := [.constantLong RX8 80 (8388608)]
def wpX8_power : List Cond := .code yX8_power cX8_power 3 (some .int) :: (oX8_power ++ ((va_wsS RX8 76 yX8_magOf wpX8_magOf) ++ ([] : List Cond)))
theorem oX8_power_in : ∀ w ∈ oX8_power, w ∈ wpX8_power := fun w h => List.mem_cons_of_mem _ (List.mem_append_left _ h)
theorem gwoX8_power : ∀ w ∈ oX8_power, goodWord w = true := by decide +kernel
theorem gwX8_power : ∀ w ∈ wpX8_power, goodWord w = true := by
  unfold wpX8_power
  exact List.forall_mem_cons.mpr ⟨rfl, List.forall_mem_append.mpr ⟨gwoX8_power, List.forall_mem_append.mpr ⟨(sp_gS gwX8_magOf), fun _ h => absurd h List.not_mem_nil⟩⟩⟩
set_option maxRecDepth 100000 in
theorem toX8_power : ∀ w ∈ oX8_power, w ∈ lw_tbl := by
  unfold oX8_power
  exact List.forall_mem_cons.mpr ⟨(List.mem_of_getElem? (i := 843) (by decide +kernel)), fun _ h => absurd h List.not_mem_nil⟩
set_option maxRecDepth 100000 in
theorem tX8_power : ∀ w ∈ wpX8_power, w ∈ lw_tbl := by
  unfold wpX8_power
  exact List.forall_mem_cons.mpr ⟨(List.mem_of_getElem? (i := 842) (by rfl)), List.forall_mem_append.mpr ⟨toX8_power, List.forall_mem_append.mpr ⟨(sp_tS (List.mem_of_getElem? (i := 837) (by decide +kernel)) (List.mem_of_getElem? (i := 838) (by decide +kernel)) (List.mem_of_getElem? (i := 45) (by decide +kernel)) tX8_magOf), fun _ h => absurd h List.not_mem_nil⟩⟩⟩
theorem gX8_power_X8_magOf_76 : GoodIn wpX8_power (va_wsS RX8 76 yX8_magOf wpX8_magOf) := fun w h => ⟨List.mem_cons_of_mem _ (List.mem_append_right _ (List.mem_append_left _ h)), good_of_word (sp_gS gwX8_magOf w h)⟩
set_option maxHeartbeats 4000000 in
set_option maxRecDepth 100000 in
theorem c_X8_power (l : Launch) (D : va_G) (cI cJ cZ : ClassId) (sz : Nat) (g : Int64) : Met l yX8_power wpX8_power ({ frames := 1, cells := 0, slots := 0, locals := 21 }) (va_Pc ([.long g] : List Value) (sp_pre D vwCl (sp_ty cI cJ cZ) [] sz)) (va_Qi (fun (r : Int32) (_ : Unit) => True) (sp_B D vwCl (va_A [] sz) (fun (_ : Unit) => [])) (va_A [] sz)) 0 0 (va_A [] sz) := by
  refine sp_ofW (Qc := fun A => va_Qi (fun (r : Int32) (_ : Unit) => True) (sp_B D vwCl A (fun (_ : Unit) => [])) A) (by decide) rfl (Nat.le_of_ble_eq_true rfl) (fun p e s m below meth c A ls H locs C0 hA hS hP hK hD hl => ?_)
  obtain ⟨hx, hb, hr, hts, hown, hlocks, hml, hin⟩ := id C0
  have hown : s.vm.findClass RX8 = some m.cls := hown
  have hl : lv_has ls 3 [(0, .long g)] := hl
  have hK : va_K D vwCl [(cI, .int), (cJ, .long), (cZ, .boolean)] s := hK
  refine lv_lload_n hx hb dX8_power_0 rfl (lv_at hl 0 rfl) ?_
  refine sp_callj (wr := []) (wc := []) hP hD hS hA [] [] rfl rfl (by decide) (by decide) (va_runS (As := [.long g]) (rest := []) ⟨hx, hb, hml, hown, hts⟩ (c_X8_magOf l D cI cJ cZ H.size (g)) (va_cwS 1 hts gX8_power_X8_magOf_76 rfl rfl rfl (by decide +kernel) ⟨Nat.le_of_ble_eq_true rfl, Nat.le_of_ble_eq_true rfl⟩) (sp_preS [.long g] hK (hP.sub (ws' := []) [] rfl) (hD.sub (ws' := []) [] (by decide) rfl)) rfl rfl hl.1 rfl (lv_room (Nat.le_of_ble_eq_true rfl)) dX8_power_1 ⟨Nat.le_of_ble_eq_true rfl, Nat.le_of_ble_eq_true rfl⟩) (fun r1 u2 H locs hw3 hP hD hS => ?_)
  have h4 : 0 ≤ (r1 : Int64).toInt ∧ (¬ ((g : Int64).toInt = 0 ∨ (g : Int64).toInt = -1) → 1 ≤ (r1 : Int64).toInt) := hw3
  have hP : va_P D vwCl [] H := hP
  have hD : va_D A [] := hD
  refine lv_ldc2 (v := 8388608) hx hb hown (hts (.constantLong RX8 80 (8388608)) (oX8_power_in _ (List.mem_of_getElem? (i := 0) rfl))) dX8_power_4 ?_
  refine lv_ldiv hx hb dX8_power_7 (by decide) ?_
  refine lv_l2i (v := _) hx hb dX8_power_8 rfl ?_
  refine lv_istore_n (lv' := [(2, .int ((r1 / 8388608)).toInt32), (0, .long g)]) hx hb dX8_power_9 rfl hl (by decide) rfl (fun ls hl => ?_)
  refine lv_iload_n hx hb dX8_power_10 rfl (lv_at hl 0 rfl) ?_
  have hj9 : ∀ (z8 : Int32) (H : Heap) (locs : List Loc) (ls : Array Slot), va_P D vwCl [] H → va_D A [] → va_S A s.heap H locs → lv_has ls 3 [(2, .int ((r1 / 8388608)).toInt32), (0, .long g)] → W p l e ({ frames := 1, cells := 0, slots := 0, locals := 21 }) s m (([.long g] : List Value).toArray) below meth c H locs 0 0 (MQ below (va_Qi (fun (r : Int32) (_ : Unit) => True) (sp_B D vwCl A (fun (_ : Unit) => [])) A) ([.long g] : List Value).toArray s 0 0 A) (F0 m 25 ls [.int z8]) := by
    intro z8 H locs ls  hP hD hS hl
    refine W.widen (k := 0) (n := 0) (by decide) (by decide) ?_
    exact sp_iret (u := ()) hx hb hr hlocks hS trivial (hP.sub [] rfl) (hD.sub [] (by decide) rfl) dX8_power_25
  refine lv_if_ne (tgt := 20) hx hb dX8_power_11 (by decide) (fun c5 => ?_) (fun c5 => ?_)
  · skip
    have c5i : ¬ (((r1 / 8388608)).toInt32 : Int32).toInt = 0 := fun h => c5 (Int32.toInt_inj.mp h)
    refine lv_iload_n hx hb dX8_power_20 rfl (lv_at hl 0 rfl) ?_
    refine lv_sipush (v := 150) hx hb dX8_power_21 (by decide) ?_
    refine lv_isub hx hb dX8_power_24 ?_
    exact hj9 ((((r1 / 8388608)).toInt32 - 150)) _ _ _ (hP.sub [] rfl) (hD.sub [] (by decide) rfl) hS (lv_sub hl [0, 1] rfl)
  · skip
    have c5i : (((r1 / 8388608)).toInt32 : Int32).toInt = 0 := congrArg Int32.toInt c5
    refine lv_sipush (v := (-149)) hx hb dX8_power_14 (by decide) ?_
    refine lv_goto (tgt := 25) hx hb dX8_power_17 (by decide) ?_
    exact hj9 ((-149)) _ _ _ (hP.sub [] rfl) (hD.sub [] (by decide) rfl) hS (lv_sub hl [0, 1] rfl)
def oX8_isInfinite : List Cond := [.constantLong RX8 82 (9000000000), .constantLong RX8 68 (2139095040)]
def wpX8_isInfinite : List Cond := .code yX8_isInfinite cX8_isInfinite 2 (some .boolean) :: (oX8_isInfinite ++ ((va_wsS RX8 76 yX8_magOf wpX8_magOf) ++ ([] : List Cond)))
theorem oX8_isInfinite_in : ∀ w ∈ oX8_isInfinite, w ∈ wpX8_isInfinite := fun w h => List.mem_cons_of_mem _ (List.mem_append_left _ h)
theorem gwoX8_isInfinite : ∀ w ∈ oX8_isInfinite, goodWord w = true := by decide +kernel
theorem gwX8_isInfinite : ∀ w ∈ wpX8_isInfinite, goodWord w = true := by
  unfold wpX8_isInfinite
  exact List.forall_mem_cons.mpr ⟨rfl, List.forall_mem_append.mpr ⟨gwoX8_isInfinite, List.forall_mem_append.mpr ⟨(sp_gS gwX8_magOf), fun _ h => absurd h List.not_mem_nil⟩⟩⟩
set_option maxRecDepth 100000 in
theorem toX8_isInfinite : ∀ w ∈ oX8_isInfinite, w ∈ lw_tbl := by
  unfold oX8_isInfinite
  exact List.forall_mem_cons.mpr ⟨(List.mem_of_getElem? (i := 804) (by decide +kernel)), List.forall_mem_cons.mpr ⟨(List.mem_of_getElem? (i := 682) (by decide +kernel)), fun _ h => absurd h List.not_mem_nil⟩⟩
set_option maxRecDepth 100000 in
theorem tX8_isInfinite : ∀ w ∈ wpX8_isInfinite, w ∈ lw_tbl := by
  unfold wpX8_isInfinite
  exact List.forall_mem_cons.mpr ⟨(List.mem_of_getElem? (i := 836) (by rfl)), List.forall_mem_append.mpr ⟨toX8_isInfinite, List.forall_mem_append.mpr ⟨(sp_tS (List.mem_of_getElem? (i := 837) (by decide +kernel)) (List.mem_of_getElem? (i := 838) (by decide +kernel)) (List.mem_of_getElem? (i := 45) (by decide +kernel)) tX8_magOf), fun _ h => absurd h List.not_mem_nil⟩⟩⟩
theorem gX8_isInfinite_X8_magOf_76 : GoodIn wpX8_isInfinite (va_wsS RX8 76 yX8_magOf wpX8_magOf) := fun w h => ⟨List.mem_cons_of_mem _ (List.mem_append_right _ (List.mem_append_left _ h)), good_of_word (sp_gS gwX8_magOf w h)⟩
set_option maxHeartbeats 4000000 in
set_option maxRecDepth 100000 in
theorem c_X8_isInfinite (l : Launch) (D : va_G) (cI cJ cZ : ClassId) (sz : Nat) (g : Int64) : Met l yX8_isInfinite wpX8_isInfinite ({ frames := 1, cells := 0, slots := 0, locals := 21 }) (va_Pc ([.long g] : List Value) (sp_pre D vwCl (sp_ty cI cJ cZ) [] sz)) (va_Qi (fun (r : Int32) (_ : Unit) => True) (sp_B D vwCl (va_A [] sz) (fun (_ : Unit) => [])) (va_A [] sz)) 0 0 (va_A [] sz) := by
  refine sp_ofW (Qc := fun A => va_Qi (fun (r : Int32) (_ : Unit) => True) (sp_B D vwCl A (fun (_ : Unit) => [])) A) (by decide) rfl (Nat.le_of_ble_eq_true rfl) (fun p e s m below meth c A ls H locs C0 hA hS hP hK hD hl => ?_)
  obtain ⟨hx, hb, hr, hts, hown, hlocks, hml, hin⟩ := id C0
  have hown : s.vm.findClass RX8 = some m.cls := hown
  have hl : lv_has ls 2 [(0, .long g)] := hl
  have hK : va_K D vwCl [(cI, .int), (cJ, .long), (cZ, .boolean)] s := hK
  refine lv_lload_n hx hb dX8_isInfinite_0 rfl (lv_at hl 0 rfl) ?_
  refine lv_ldc2 (v := 9000000000) hx hb hown (hts (.constantLong RX8 82 (9000000000)) (oX8_isInfinite_in _ (List.mem_of_getElem? (i := 0) rfl))) dX8_isInfinite_1 ?_
  refine W.lcmp hx hb dX8_isInfinite_4 ?_
  refine lv_if_eq (tgt := 23) hx hb dX8_isInfinite_5 (by decide) (fun c1 => ?_) (fun c1 => ?_)
  · skip
    have c1 := (lg_cmp_eq _ _).mp c1
    have c1i : (g : Int64).toInt = 9000000000 := congrArg Int64.toInt c1
    refine lv_iconst (v := 0) hx hb dX8_isInfinite_23 (by decide) ?_
    refine W.widen (k := 0) (n := 0) (by decide) (by decide) ?_
    exact sp_zret (u := ()) hx hb hr hlocks (by decide) hS trivial (hP.sub [] rfl) (hD.sub [] (by decide) rfl) dX8_isInfinite_24
  · skip
    have c1 := fun h => c1 ((lg_cmp_eq _ _).mpr h)
    have c1i : ¬ (g : Int64).toInt = 9000000000 := fun h => c1 (Int64.toInt_inj.mp h)
    refine lv_lload_n hx hb dX8_isInfinite_8 rfl (lv_at hl 0 rfl) ?_
    refine sp_callj (wr := []) (wc := []) hP hD hS hA [] [] rfl rfl (by decide) (by decide) (va_runS (As := [.long g]) (rest := []) ⟨hx, hb, hml, hown, hts⟩ (c_X8_magOf l D cI cJ cZ H.size (g)) (va_cwS 1 hts gX8_isInfinite_X8_magOf_76 rfl rfl rfl (by decide +kernel) ⟨Nat.le_of_ble_eq_true rfl, Nat.le_of_ble_eq_true rfl⟩) (sp_preS [.long g] hK (hP.sub (ws' := []) [] rfl) (hD.sub (ws' := []) [] (by decide) rfl)) rfl rfl hl.1 rfl (lv_room (Nat.le_of_ble_eq_true rfl)) dX8_isInfinite_9 ⟨Nat.le_of_ble_eq_true rfl, Nat.le_of_ble_eq_true rfl⟩) (fun r2 u3 H locs hw4 hP hD hS => ?_)
    have h5 : 0 ≤ (r2 : Int64).toInt ∧ (¬ ((g : Int64).toInt = 0 ∨ (g : Int64).toInt = -1) → 1 ≤ (r2 : Int64).toInt) := hw4
    have hP : va_P D vwCl [] H := hP
    have hD : va_D A [] := hD
    refine lv_ldc2 (v := 2139095040) hx hb hown (hts (.constantLong RX8 68 (2139095040)) (oX8_isInfinite_in _ (List.mem_of_getElem? (i := 1) rfl))) dX8_isInfinite_12 ?_
    refine W.lcmp hx hb dX8_isInfinite_15 ?_
    refine lv_if_ne (tgt := 23) hx hb dX8_isInfinite_16 (by decide) (fun c6 => ?_) (fun c6 => ?_)
    · skip
      have c6 := fun h => c6 ((lg_cmp_eq _ _).mpr h)
      have c6i : ¬ (r2 : Int64).toInt = 2139095040 := fun h => c6 (Int64.toInt_inj.mp h)
      refine lv_iconst (v := 0) hx hb dX8_isInfinite_23 (by decide) ?_
      refine W.widen (k := 0) (n := 0) (by decide) (by decide) ?_
      exact sp_zret (u := ()) hx hb hr hlocks (by decide) hS trivial (hP.sub [] rfl) (hD.sub [] (by decide) rfl) dX8_isInfinite_24
    · skip
      have c6 := (lg_cmp_eq _ _).mp c6
      have c6i : (r2 : Int64).toInt = 2139095040 := congrArg Int64.toInt c6
      refine lv_iconst (v := 1) hx hb dX8_isInfinite_19 (by decide) ?_
      refine lv_goto (tgt := 24) hx hb dX8_isInfinite_20 (by decide) ?_
      refine W.widen (k := 0) (n := 0) (by decide) (by decide) ?_
      exact sp_zret (u := ()) hx hb hr hlocks (by decide) hS trivial (hP.sub [] rfl) (hD.sub [] (by decide) rfl) dX8_isInfinite_24
def oX8_isZero : List Cond := [.constantLong RX8 74 (-1)]
def wpX8_isZero : List Cond := .code yX8_isZero cX8_isZero 2 (some .boolean) :: (oX8_isZero ++ ([] : List Cond))
theorem oX8_isZero_in : ∀ w ∈ oX8_isZero, w ∈ wpX8_isZero := fun w h => List.mem_cons_of_mem _ (List.mem_append_left _ h)
theorem gwoX8_isZero : ∀ w ∈ oX8_isZero, goodWord w = true := by decide +kernel
theorem gwX8_isZero : ∀ w ∈ wpX8_isZero, goodWord w = true := by
  unfold wpX8_isZero
  exact List.forall_mem_cons.mpr ⟨rfl, List.forall_mem_append.mpr ⟨gwoX8_isZero, fun _ h => absurd h List.not_mem_nil⟩⟩
set_option maxRecDepth 100000 in
theorem toX8_isZero : ∀ w ∈ oX8_isZero, w ∈ lw_tbl := by
  unfold oX8_isZero
  exact List.forall_mem_cons.mpr ⟨(List.mem_of_getElem? (i := 808) (by decide +kernel)), fun _ h => absurd h List.not_mem_nil⟩
set_option maxRecDepth 100000 in
theorem tX8_isZero : ∀ w ∈ wpX8_isZero, w ∈ lw_tbl := by
  unfold wpX8_isZero
  exact List.forall_mem_cons.mpr ⟨(List.mem_of_getElem? (i := 860) (by rfl)), List.forall_mem_append.mpr ⟨toX8_isZero, fun _ h => absurd h List.not_mem_nil⟩⟩
set_option maxHeartbeats 4000000 in
set_option maxRecDepth 100000 in
theorem c_X8_isZero (l : Launch) (D : va_G) (cI cJ cZ : ClassId) (sz : Nat) (g : Int64) : Met l yX8_isZero wpX8_isZero ({ frames := 0, cells := 0, slots := 0, locals := 0 }) (va_Pc ([.long g] : List Value) (sp_pre D vwCl (sp_ty cI cJ cZ) [] sz)) (va_Qi (fun (r : Int32) (_ : Unit) => (r = 1 ∧ (g.toInt = 0 ∨ g.toInt = -1)) ∨ (r = 0 ∧ ¬ (g.toInt = 0 ∨ g.toInt = -1))) (sp_B D vwCl (va_A [] sz) (fun (_ : Unit) => [])) (va_A [] sz)) 0 0 (va_A [] sz) := by
  refine sp_ofW (Qc := fun A => va_Qi (fun (r : Int32) (_ : Unit) => (r = 1 ∧ (g.toInt = 0 ∨ g.toInt = -1)) ∨ (r = 0 ∧ ¬ (g.toInt = 0 ∨ g.toInt = -1))) (sp_B D vwCl A (fun (_ : Unit) => [])) A) (by decide) rfl (Nat.le_of_ble_eq_true rfl) (fun p e s m below meth c A ls H locs C0 hA hS hP hK hD hl => ?_)
  obtain ⟨hx, hb, hr, hts, hown, hlocks, hml, hin⟩ := id C0
  have hown : s.vm.findClass RX8 = some m.cls := hown
  have hl : lv_has ls 2 [(0, .long g)] := hl
  have hK : va_K D vwCl [(cI, .int), (cJ, .long), (cZ, .boolean)] s := hK
  refine lv_lload_n hx hb dX8_isZero_0 rfl (lv_at hl 0 rfl) ?_
  refine lv_lconst (v := 0) hx hb dX8_isZero_1 (by decide) ?_
  refine W.lcmp hx hb dX8_isZero_2 ?_
  refine lv_if_eq (tgt := 14) hx hb dX8_isZero_3 (by decide) (fun c1 => ?_) (fun c1 => ?_)
  · skip
    have c1 := (lg_cmp_eq _ _).mp c1
    have c1i : (g : Int64).toInt = 0 := congrArg Int64.toInt c1
    refine lv_iconst (v := 1) hx hb dX8_isZero_14 (by decide) ?_
    refine lv_goto (tgt := 19) hx hb dX8_isZero_15 (by decide) ?_
    refine W.widen (k := 0) (n := 0) (by decide) (by decide) ?_
    exact sp_zret (u := ()) hx hb hr hlocks (by decide) hS (Or.inl ⟨rfl, by omega⟩) (hP.sub [] rfl) (hD.sub [] (by decide) rfl) dX8_isZero_19
  · skip
    have c1 := fun h => c1 ((lg_cmp_eq _ _).mpr h)
    have c1i : ¬ (g : Int64).toInt = 0 := fun h => c1 (Int64.toInt_inj.mp h)
    refine lv_lload_n hx hb dX8_isZero_6 rfl (lv_at hl 0 rfl) ?_
    refine lv_ldc2 (v := (-1)) hx hb hown (hts (.constantLong RX8 74 (-1)) (oX8_isZero_in _ (List.mem_of_getElem? (i := 0) rfl))) dX8_isZero_7 ?_
    refine W.lcmp hx hb dX8_isZero_10 ?_
    refine lv_if_ne (tgt := 18) hx hb dX8_isZero_11 (by decide) (fun c2 => ?_) (fun c2 => ?_)
    · skip
      have c2 := fun h => c2 ((lg_cmp_eq _ _).mpr h)
      have c2i : ¬ (g : Int64).toInt = (-1) := fun h => c2 (Int64.toInt_inj.mp h)
      refine lv_iconst (v := 0) hx hb dX8_isZero_18 (by decide) ?_
      refine W.widen (k := 0) (n := 0) (by decide) (by decide) ?_
      exact sp_zret (u := ()) hx hb hr hlocks (by decide) hS (Or.inr ⟨rfl, by omega⟩) (hP.sub [] rfl) (hD.sub [] (by decide) rfl) dX8_isZero_19
    · skip
      have c2 := (lg_cmp_eq _ _).mp c2
      have c2i : (g : Int64).toInt = (-1) := congrArg Int64.toInt c2
      refine lv_iconst (v := 1) hx hb dX8_isZero_14 (by decide) ?_
      refine lv_goto (tgt := 19) hx hb dX8_isZero_15 (by decide) ?_
      refine W.widen (k := 0) (n := 0) (by decide) (by decide) ?_
      exact sp_zret (u := ()) hx hb hr hlocks (by decide) hS (Or.inl ⟨rfl, by omega⟩) (hP.sub [] rfl) (hD.sub [] (by decide) rfl) dX8_isZero_19
def oX8_pack : List Cond := [.constantLong RX8 80 (8388608), .constantLong RX8 90 (2), .constantLong RX8 88 (16777216), .constantLong RX8 92 (150), .constantLong RX8 68 (2139095040)]
def wpX8_pack : List Cond := .code yX8_pack cX8_pack 10 (some .long) :: (oX8_pack ++ ((va_wsS RX8 84 yX8_placeOf wpX8_placeOf) ++ ([] : List Cond)))
theorem oX8_pack_in : ∀ w ∈ oX8_pack, w ∈ wpX8_pack := fun w h => List.mem_cons_of_mem _ (List.mem_append_left _ h)
theorem gwoX8_pack : ∀ w ∈ oX8_pack, goodWord w = true := by decide +kernel
theorem gwX8_pack : ∀ w ∈ wpX8_pack, goodWord w = true := by
  unfold wpX8_pack
  exact List.forall_mem_cons.mpr ⟨rfl, List.forall_mem_append.mpr ⟨gwoX8_pack, List.forall_mem_append.mpr ⟨(sp_gS gwX8_placeOf), fun _ h => absurd h List.not_mem_nil⟩⟩⟩
set_option maxRecDepth 100000 in
theorem toX8_pack : ∀ w ∈ oX8_pack, w ∈ lw_tbl := by
  unfold oX8_pack
  exact List.forall_mem_cons.mpr ⟨(List.mem_of_getElem? (i := 843) (by decide +kernel)), List.forall_mem_cons.mpr ⟨(List.mem_of_getElem? (i := 770) (by decide +kernel)), List.forall_mem_cons.mpr ⟨(List.mem_of_getElem? (i := 850) (by decide +kernel)), List.forall_mem_cons.mpr ⟨(List.mem_of_getElem? (i := 851) (by decide +kernel)), List.forall_mem_cons.mpr ⟨(List.mem_of_getElem? (i := 682) (by decide +kernel)), fun _ h => absurd h List.not_mem_nil⟩⟩⟩⟩⟩
set_option maxRecDepth 100000 in
theorem tX8_pack : ∀ w ∈ wpX8_pack, w ∈ lw_tbl := by
  unfold wpX8_pack
  exact List.forall_mem_cons.mpr ⟨(List.mem_of_getElem? (i := 849) (by rfl)), List.forall_mem_append.mpr ⟨toX8_pack, List.forall_mem_append.mpr ⟨(sp_tS (List.mem_of_getElem? (i := 805) (by decide +kernel)) (List.mem_of_getElem? (i := 806) (by decide +kernel)) (List.mem_of_getElem? (i := 45) (by decide +kernel)) tX8_placeOf), fun _ h => absurd h List.not_mem_nil⟩⟩⟩
theorem gX8_pack_X8_placeOf_84 : GoodIn wpX8_pack (va_wsS RX8 84 yX8_placeOf wpX8_placeOf) := fun w h => ⟨List.mem_cons_of_mem _ (List.mem_append_right _ (List.mem_append_left _ h)), good_of_word (sp_gS gwX8_placeOf w h)⟩
set_option maxHeartbeats 4000000 in
set_option maxRecDepth 100000 in
theorem lp_X8_pack_91 {p : Program} {e : Env} {s : State} {m : MethodId} {below : List Frame} {meth : Method} {c : Code} {A : Nat → Prop} (l : Launch) (D : va_G) (cI cJ cZ : ClassId) (zg : Int32) (wh : Int64) (pw : Int32) (mo : Int32) (C0 : sp_C cX8_pack (some .long) 10 wpX8_pack yX8_pack.cls yX8_pack.name p s m ([.int zg, .long wh, .int pw, .int mo] : List Value).toArray meth c) (hA : ∀ q : Nat, s.heap.size ≤ q → A q) (hK : va_K D vwCl [(cI, .int), (cJ, .long), (cZ, .boolean)] s) :
    ∀ (fuel : Nat) (mm : Int64) (ee : Int32) (hf : Int32) (rs : Int32) (H : Heap) (locs : List Loc) (ls : Array Slot), ((if (ee : Int32).toInt < -149 then 0 else (ee : Int32).toInt + 149) < (fuel : Int)) → va_P D vwCl [] H → va_D A [] → va_S A s.heap H locs → lv_has ls 10 [(0, .int zg), (1, .long wh), (3, .int pw), (4, .int mo), (5, .long mm), (7, .int ee), (8, .int hf), (9, .int rs)] → W p l e ({ frames := 1, cells := 0, slots := 0, locals := 22 }) s m (([.int zg, .long wh, .int pw, .int mo] : List Value).toArray) below meth c H locs 0 0 (MQ below (va_Ql (fun (r : Int64) (_ : Unit) => True) (sp_B D vwCl A (fun (_ : Unit) => [])) A) ([.int zg, .long wh, .int pw, .int mo] : List Value).toArray s 0 0 A) (F0 m 91 ls []) := by
  obtain ⟨hx, hb, hr, hts, hown, hlocks, hml, hin⟩ := id C0
  have hown : s.vm.findClass RX8 = some m.cls := hown
  intro fuel
  induction fuel with
  | zero =>
    intro mm ee hf rs H locs ls  hm
    exact absurd hm (by omega)
  | succ fuel ih =>
    intro mm ee hf rs H locs ls  hm hP hD hS hl
    have hrg := px_rng ee
    refine lv_lload hx hb dX8_pack_91 (lv_at hl 4 rfl) ?_
    refine lv_ldc2 (v := 8388608) hx hb hown (hts (.constantLong RX8 80 (8388608)) (oX8_pack_in _ (List.mem_of_getElem? (i := 0) rfl))) dX8_pack_93 ?_
    refine W.lcmp hx hb dX8_pack_96 ?_
    have hj8 : ∀ (H : Heap) (locs : List Loc) (ls : Array Slot), va_P D vwCl [] H → va_D A [] → va_S A s.heap H locs → lv_has ls 10 [(0, .int zg), (1, .long wh), (3, .int pw), (4, .int mo), (5, .long mm), (7, .int ee), (8, .int hf), (9, .int rs)] → W p l e ({ frames := 1, cells := 0, slots := 0, locals := 22 }) s m (([.int zg, .long wh, .int pw, .int mo] : List Value).toArray) below meth c H locs 0 0 (MQ below (va_Ql (fun (r : Int64) (_ : Unit) => True) (sp_B D vwCl A (fun (_ : Unit) => [])) A) ([.int zg, .long wh, .int pw, .int mo] : List Value).toArray s 0 0 A) (F0 m 122 ls []) := by
      intro  H locs ls  hP hD hS hl
      refine lv_iload hx hb dX8_pack_122 (lv_at hl 6 rfl) ?_
      have hj42 : ∀ (z40 : Int64) (z41 : Int32) (H : Heap) (locs : List Loc) (ls : Array Slot), va_P D vwCl [] H → va_D A [] → va_S A s.heap H locs → lv_has ls 10 [(0, .int zg), (1, .long wh), (3, .int pw), (4, .int mo), (5, .long z40), (7, .int z41), (8, .int hf), (9, .int rs)] → W p l e ({ frames := 1, cells := 0, slots := 0, locals := 22 }) s m (([.int zg, .long wh, .int pw, .int mo] : List Value).toArray) below meth c H locs 0 0 (MQ below (va_Ql (fun (r : Int64) (_ : Unit) => True) (sp_B D vwCl A (fun (_ : Unit) => [])) A) ([.int zg, .long wh, .int pw, .int mo] : List Value).toArray s 0 0 A) (F0 m 166 ls []) := by
        intro z40 z41 H locs ls  hP hD hS hl
        refine lv_iload hx hb dX8_pack_166 (lv_at hl 5 rfl) ?_
        refine lv_sipush (v := 150) hx hb dX8_pack_168 (by decide) ?_
        refine lv_iadd hx hb dX8_pack_171 ?_
        refine lv_sipush (v := 254) hx hb dX8_pack_172 (by decide) ?_
        refine lv_icmp_le (tgt := 186) hx hb dX8_pack_175 (by decide) (fun c43 => ?_) (fun c43 => ?_)
        · skip
          have c43i : ((z41 + 150) : Int32).toInt ≤ 254 := Int32.le_iff_toInt_le.mp c43
          refine lv_iload_n hx hb dX8_pack_186 rfl (lv_at hl 0 rfl) ?_
          refine lv_lload hx hb dX8_pack_187 (lv_at hl 4 rfl) ?_
          refine lv_ldc2 (v := 8388608) hx hb hown (hts (.constantLong RX8 80 (8388608)) (oX8_pack_in _ (List.mem_of_getElem? (i := 0) rfl))) dX8_pack_189 ?_
          refine W.lcmp hx hb dX8_pack_192 ?_
          have hj48 : ∀ (z47 : Int64) (H : Heap) (locs : List Loc) (ls : Array Slot), va_P D vwCl [] H → va_D A [] → va_S A s.heap H locs → lv_has ls 10 [(0, .int zg), (1, .long wh), (3, .int pw), (4, .int mo), (5, .long z40), (7, .int z41), (8, .int hf), (9, .int rs)] → W p l e ({ frames := 1, cells := 0, slots := 0, locals := 22 }) s m (([.int zg, .long wh, .int pw, .int mo] : List Value).toArray) below meth c H locs 0 0 (MQ below (va_Ql (fun (r : Int64) (_ : Unit) => True) (sp_B D vwCl A (fun (_ : Unit) => [])) A) ([.int zg, .long wh, .int pw, .int mo] : List Value).toArray s 0 0 A) (F0 m 219 ls [.long z47, .int zg]) := by
            intro z47 H locs ls  hP hD hS hl
            refine sp_callj (wr := []) (wc := []) hP hD hS hA [] [] rfl rfl (by decide) (by decide) (va_runS (As := [.int zg, .long z47]) (rest := []) ⟨hx, hb, hml, hown, hts⟩ (c_X8_placeOf l D cI cJ cZ H.size (zg) (z47)) (va_cwS 2 hts gX8_pack_X8_placeOf_84 rfl rfl rfl (by decide +kernel) ⟨Nat.le_of_ble_eq_true rfl, Nat.le_of_ble_eq_true rfl⟩) (sp_preS [.int zg, .long z47] hK (hP.sub (ws' := []) [] rfl) (hD.sub (ws' := []) [] (by decide) rfl)) rfl rfl hl.1 rfl (lv_room (Nat.le_of_ble_eq_true rfl)) dX8_pack_219 ⟨Nat.le_of_ble_eq_true rfl, Nat.le_of_ble_eq_true rfl⟩) (fun r49 u50 H locs hw51 hP hD hS => ?_)
            have h52 : (r49 : Int64) = sq_mp (zg) (z47) := hw51
            have hP : va_P D vwCl [] H := hP
            have hD : va_D A [] := hD
            refine W.widen (k := 0) (n := 0) (by decide) (by decide) ?_
            exact sp_lret (u := ()) hx hb hr hlocks hS trivial (hP.sub [] rfl) (hD.sub [] (by decide) rfl) dX8_pack_222
          refine lv_if_ge (tgt := 201) hx hb dX8_pack_193 (by decide) (fun c44 => ?_) (fun c44 => ?_)
          · skip
            have c44 := (lg_cmp_ge _ _).mp c44
            have c44i : 8388608 ≤ (z40 : Int64).toInt := Int64.le_iff_toInt_le.mp c44
            refine lv_iload hx hb dX8_pack_201 (lv_at hl 5 rfl) ?_
            refine lv_i2l (v := _) hx hb dX8_pack_203 rfl ?_
            refine lv_ldc2 (v := 150) hx hb hown (hts (.constantLong RX8 92 (150)) (oX8_pack_in _ (List.mem_of_getElem? (i := 3) rfl))) dX8_pack_204 ?_
            refine lv_ladd hx hb dX8_pack_207 ?_
            refine lv_ldc2 (v := 8388608) hx hb hown (hts (.constantLong RX8 80 (8388608)) (oX8_pack_in _ (List.mem_of_getElem? (i := 0) rfl))) dX8_pack_208 ?_
            refine lv_lmul hx hb dX8_pack_211 ?_
            refine lv_lload hx hb dX8_pack_212 (lv_at hl 4 rfl) ?_
            refine lv_ladd hx hb dX8_pack_214 ?_
            refine lv_ldc2 (v := 8388608) hx hb hown (hts (.constantLong RX8 80 (8388608)) (oX8_pack_in _ (List.mem_of_getElem? (i := 0) rfl))) dX8_pack_215 ?_
            refine lv_lsub hx hb dX8_pack_218 ?_
            exact hj48 ((((((z41 : Int32).toInt64 + 150) * 8388608) + z40) - 8388608)) _ _ _ (hP.sub [] rfl) (hD.sub [] (by decide) rfl) hS (lv_sub hl [0, 1, 2, 3, 4, 5, 6, 7] rfl)
          · skip
            have c44 := fun h => c44 ((lg_cmp_ge _ _).mpr h)
            have c44i : ¬ 8388608 ≤ (z40 : Int64).toInt := fun h => c44 (Int64.le_iff_toInt_le.mpr h)
            refine lv_lload hx hb dX8_pack_196 (lv_at hl 4 rfl) ?_
            refine lv_goto (tgt := 219) hx hb dX8_pack_198 (by decide) ?_
            exact hj48 (z40) _ _ _ (hP.sub [] rfl) (hD.sub [] (by decide) rfl) hS (lv_sub hl [0, 1, 2, 3, 4, 5, 6, 7] rfl)
        · skip
          have c43i : ¬ ((z41 + 150) : Int32).toInt ≤ 254 := fun h => c43 (Int32.le_iff_toInt_le.mpr h)
          refine lv_iload_n hx hb dX8_pack_178 rfl (lv_at hl 0 rfl) ?_
          refine lv_ldc2 (v := 2139095040) hx hb hown (hts (.constantLong RX8 68 (2139095040)) (oX8_pack_in _ (List.mem_of_getElem? (i := 4) rfl))) dX8_pack_179 ?_
          refine sp_callj (wr := []) (wc := []) hP hD hS hA [] [] rfl rfl (by decide) (by decide) (va_runS (As := [.int zg, .long 2139095040]) (rest := []) ⟨hx, hb, hml, hown, hts⟩ (c_X8_placeOf l D cI cJ cZ H.size (zg) (2139095040)) (va_cwS 2 hts gX8_pack_X8_placeOf_84 rfl rfl rfl (by decide +kernel) ⟨Nat.le_of_ble_eq_true rfl, Nat.le_of_ble_eq_true rfl⟩) (sp_preS [.int zg, .long 2139095040] hK (hP.sub (ws' := []) [] rfl) (hD.sub (ws' := []) [] (by decide) rfl)) rfl rfl hl.1 rfl (lv_room (Nat.le_of_ble_eq_true rfl)) dX8_pack_182 ⟨Nat.le_of_ble_eq_true rfl, Nat.le_of_ble_eq_true rfl⟩) (fun r53 u54 H locs hw55 hP hD hS => ?_)
          have h56 : (r53 : Int64) = sq_mp (zg) (2139095040) := hw55
          have hP : va_P D vwCl [] H := hP
          have hD : va_D A [] := hD
          refine W.widen (k := 0) (n := 0) (by decide) (by decide) ?_
          exact sp_lret (u := ()) hx hb hr hlocks hS trivial (hP.sub [] rfl) (hD.sub [] (by decide) rfl) dX8_pack_185
      refine lv_if_eq (tgt := 166) hx hb dX8_pack_124 (by decide) (fun c9 => ?_) (fun c9 => ?_)
      · skip
        have c9i : (hf : Int32).toInt = 0 := congrArg Int32.toInt c9
        exact hj42 (mm) (ee) _ _ _ (hP.sub [] rfl) (hD.sub [] (by decide) rfl) hS (lv_sub hl [0, 1, 2, 3, 4, 5, 6, 7] rfl)
      · skip
        have c9i : ¬ (hf : Int32).toInt = 0 := fun h => c9 (Int32.toInt_inj.mp h)
        refine lv_iload hx hb dX8_pack_127 (lv_at hl 7 rfl) ?_
        have hj38 : ∀ (z36 : Int64) (z37 : Int32) (H : Heap) (locs : List Loc) (ls : Array Slot), va_P D vwCl [] H → va_D A [] → va_S A s.heap H locs → lv_has ls 10 [(5, .long z36), (0, .int zg), (1, .long wh), (3, .int pw), (4, .int mo), (7, .int z37), (8, .int hf), (9, .int rs)] → W p l e ({ frames := 1, cells := 0, slots := 0, locals := 22 }) s m (([.int zg, .long wh, .int pw, .int mo] : List Value).toArray) below meth c H locs 0 0 (MQ below (va_Ql (fun (r : Int64) (_ : Unit) => True) (sp_B D vwCl A (fun (_ : Unit) => [])) A) ([.int zg, .long wh, .int pw, .int mo] : List Value).toArray s 0 0 A) (F0 m 166 ls []) := by
          intro z36 z37 H locs ls  hP hD hS hl
          exact hj42 (z36) (z37) _ _ _ (hP.sub [] rfl) (hD.sub [] (by decide) rfl) hS (lv_sub hl [1, 2, 3, 4, 0, 5, 6, 7] rfl)
        refine lv_if_ne (tgt := 143) hx hb dX8_pack_129 (by decide) (fun c11 => ?_) (fun c11 => ?_)
        · skip
          have c11i : ¬ (rs : Int32).toInt = 0 := fun h => c11 (Int32.toInt_inj.mp h)
          refine lv_lload hx hb dX8_pack_143 (lv_at hl 4 rfl) ?_
          refine lv_lconst (v := 1) hx hb dX8_pack_145 (by decide) ?_
          refine lv_ladd hx hb dX8_pack_146 ?_
          refine lv_lstore (lv' := [(5, .long (mm + 1)), (0, .int zg), (1, .long wh), (3, .int pw), (4, .int mo), (7, .int ee), (8, .int hf), (9, .int rs)]) hx hb dX8_pack_147 hl (by decide) rfl (fun ls hl => ?_)
          refine lv_lload hx hb dX8_pack_149 (lv_at hl 0 rfl) ?_
          refine lv_ldc2 (v := 16777216) hx hb hown (hts (.constantLong RX8 88 (16777216)) (oX8_pack_in _ (List.mem_of_getElem? (i := 2) rfl))) dX8_pack_151 ?_
          refine W.lcmp hx hb dX8_pack_154 ?_
          have hj19 : ∀ (z17 : Int64) (z18 : Int32) (H : Heap) (locs : List Loc) (ls : Array Slot), va_P D vwCl [] H → va_D A [] → va_S A s.heap H locs → lv_has ls 10 [(5, .long z17), (0, .int zg), (1, .long wh), (3, .int pw), (4, .int mo), (7, .int z18), (8, .int hf), (9, .int rs)] → W p l e ({ frames := 1, cells := 0, slots := 0, locals := 22 }) s m (([.int zg, .long wh, .int pw, .int mo] : List Value).toArray) below meth c H locs 0 0 (MQ below (va_Ql (fun (r : Int64) (_ : Unit) => True) (sp_B D vwCl A (fun (_ : Unit) => [])) A) ([.int zg, .long wh, .int pw, .int mo] : List Value).toArray s 0 0 A) (F0 m 166 ls []) := by
            intro z17 z18 H locs ls  hP hD hS hl
            exact hj38 (z17) (z18) _ _ _ (hP.sub [] rfl) (hD.sub [] (by decide) rfl) hS (lv_sub hl [0, 1, 2, 3, 4, 5, 6, 7] rfl)
          refine lv_if_ne (tgt := 166) hx hb dX8_pack_155 (by decide) (fun c12 => ?_) (fun c12 => ?_)
          · skip
            have c12 := fun h => c12 ((lg_cmp_eq _ _).mpr h)
            have c12i : ¬ ((mm + 1) : Int64).toInt = 16777216 := fun h => c12 (Int64.toInt_inj.mp h)
            exact hj19 ((mm + 1)) (ee) _ _ _ (hP.sub [] rfl) (hD.sub [] (by decide) rfl) hS (lv_sub hl [0, 1, 2, 3, 4, 5, 6, 7] rfl)
          · skip
            have c12 := (lg_cmp_eq _ _).mp c12
            have c12i : ((mm + 1) : Int64).toInt = 16777216 := congrArg Int64.toInt c12
            refine lv_ldc2 (v := 8388608) hx hb hown (hts (.constantLong RX8 80 (8388608)) (oX8_pack_in _ (List.mem_of_getElem? (i := 0) rfl))) dX8_pack_158 ?_
            refine lv_lstore (lv' := [(5, .long 8388608), (0, .int zg), (1, .long wh), (3, .int pw), (4, .int mo), (7, .int ee), (8, .int hf), (9, .int rs)]) hx hb dX8_pack_161 hl (by decide) rfl (fun ls hl => ?_)
            obtain ⟨y14, e15⟩ : ∃ y : Int32, y = ee + 1 := ⟨_, rfl⟩
            refine lv_iinc (v := y14) (lv' := [(7, .int y14), (5, .long 8388608), (0, .int zg), (1, .long wh), (3, .int pw), (4, .int mo), (8, .int hf), (9, .int rs)]) hx hb dX8_pack_163 hl (k := 5) rfl (by rw [e15]; rfl) (by decide) rfl (fun ls hl => ?_)
            exact hj19 (8388608) (y14) _ _ _ (hP.sub [] rfl) (hD.sub [] (by decide) rfl) hS (lv_sub hl [1, 2, 3, 4, 5, 0, 6, 7] rfl)
        · skip
          have c11i : (rs : Int32).toInt = 0 := congrArg Int32.toInt c11
          refine lv_lload hx hb dX8_pack_132 (lv_at hl 4 rfl) ?_
          refine lv_ldc2 (v := 2) hx hb hown (hts (.constantLong RX8 90 (2)) (oX8_pack_in _ (List.mem_of_getElem? (i := 1) rfl))) dX8_pack_134 ?_
          refine lv_lrem hx hb dX8_pack_137 (by decide) ?_
          refine lv_lconst (v := 1) hx hb dX8_pack_138 (by decide) ?_
          refine W.lcmp hx hb dX8_pack_139 ?_
          have hj34 : ∀ (z32 : Int64) (z33 : Int32) (H : Heap) (locs : List Loc) (ls : Array Slot), va_P D vwCl [] H → va_D A [] → va_S A s.heap H locs → lv_has ls 10 [(0, .int zg), (1, .long wh), (3, .int pw), (4, .int mo), (5, .long z32), (7, .int z33), (8, .int hf), (9, .int rs)] → W p l e ({ frames := 1, cells := 0, slots := 0, locals := 22 }) s m (([.int zg, .long wh, .int pw, .int mo] : List Value).toArray) below meth c H locs 0 0 (MQ below (va_Ql (fun (r : Int64) (_ : Unit) => True) (sp_B D vwCl A (fun (_ : Unit) => [])) A) ([.int zg, .long wh, .int pw, .int mo] : List Value).toArray s 0 0 A) (F0 m 166 ls []) := by
            intro z32 z33 H locs ls  hP hD hS hl
            exact hj38 (z32) (z33) _ _ _ (hP.sub [] rfl) (hD.sub [] (by decide) rfl) hS (lv_sub hl [4, 0, 1, 2, 3, 5, 6, 7] rfl)
          refine lv_if_ne (tgt := 166) hx hb dX8_pack_140 (by decide) (fun c21 => ?_) (fun c21 => ?_)
          · skip
            have c21 := fun h => c21 ((lg_cmp_eq _ _).mpr h)
            have c21i : ¬ ((mm - mm / 2 * 2) : Int64).toInt = 1 := fun h => c21 (Int64.toInt_inj.mp h)
            exact hj34 (mm) (ee) _ _ _ (hP.sub [] rfl) (hD.sub [] (by decide) rfl) hS (lv_sub hl [0, 1, 2, 3, 4, 5, 6, 7] rfl)
          · skip
            have c21 := (lg_cmp_eq _ _).mp c21
            have c21i : ((mm - mm / 2 * 2) : Int64).toInt = 1 := congrArg Int64.toInt c21
            refine lv_lload hx hb dX8_pack_143 (lv_at hl 4 rfl) ?_
            refine lv_lconst (v := 1) hx hb dX8_pack_145 (by decide) ?_
            refine lv_ladd hx hb dX8_pack_146 ?_
            refine lv_lstore (lv' := [(5, .long (mm + 1)), (0, .int zg), (1, .long wh), (3, .int pw), (4, .int mo), (7, .int ee), (8, .int hf), (9, .int rs)]) hx hb dX8_pack_147 hl (by decide) rfl (fun ls hl => ?_)
            refine lv_lload hx hb dX8_pack_149 (lv_at hl 0 rfl) ?_
            refine lv_ldc2 (v := 16777216) hx hb hown (hts (.constantLong RX8 88 (16777216)) (oX8_pack_in _ (List.mem_of_getElem? (i := 2) rfl))) dX8_pack_151 ?_
            refine W.lcmp hx hb dX8_pack_154 ?_
            have hj30 : ∀ (z28 : Int64) (z29 : Int32) (H : Heap) (locs : List Loc) (ls : Array Slot), va_P D vwCl [] H → va_D A [] → va_S A s.heap H locs → lv_has ls 10 [(5, .long z28), (0, .int zg), (1, .long wh), (3, .int pw), (4, .int mo), (7, .int z29), (8, .int hf), (9, .int rs)] → W p l e ({ frames := 1, cells := 0, slots := 0, locals := 22 }) s m (([.int zg, .long wh, .int pw, .int mo] : List Value).toArray) below meth c H locs 0 0 (MQ below (va_Ql (fun (r : Int64) (_ : Unit) => True) (sp_B D vwCl A (fun (_ : Unit) => [])) A) ([.int zg, .long wh, .int pw, .int mo] : List Value).toArray s 0 0 A) (F0 m 166 ls []) := by
              intro z28 z29 H locs ls  hP hD hS hl
              exact hj34 (z28) (z29) _ _ _ (hP.sub [] rfl) (hD.sub [] (by decide) rfl) hS (lv_sub hl [1, 2, 3, 4, 0, 5, 6, 7] rfl)
            refine lv_if_ne (tgt := 166) hx hb dX8_pack_155 (by decide) (fun c23 => ?_) (fun c23 => ?_)
            · skip
              have c23 := fun h => c23 ((lg_cmp_eq _ _).mpr h)
              have c23i : ¬ ((mm + 1) : Int64).toInt = 16777216 := fun h => c23 (Int64.toInt_inj.mp h)
              exact hj30 ((mm + 1)) (ee) _ _ _ (hP.sub [] rfl) (hD.sub [] (by decide) rfl) hS (lv_sub hl [0, 1, 2, 3, 4, 5, 6, 7] rfl)
            · skip
              have c23 := (lg_cmp_eq _ _).mp c23
              have c23i : ((mm + 1) : Int64).toInt = 16777216 := congrArg Int64.toInt c23
              refine lv_ldc2 (v := 8388608) hx hb hown (hts (.constantLong RX8 80 (8388608)) (oX8_pack_in _ (List.mem_of_getElem? (i := 0) rfl))) dX8_pack_158 ?_
              refine lv_lstore (lv' := [(5, .long 8388608), (0, .int zg), (1, .long wh), (3, .int pw), (4, .int mo), (7, .int ee), (8, .int hf), (9, .int rs)]) hx hb dX8_pack_161 hl (by decide) rfl (fun ls hl => ?_)
              obtain ⟨y25, e26⟩ : ∃ y : Int32, y = ee + 1 := ⟨_, rfl⟩
              refine lv_iinc (v := y25) (lv' := [(7, .int y25), (5, .long 8388608), (0, .int zg), (1, .long wh), (3, .int pw), (4, .int mo), (8, .int hf), (9, .int rs)]) hx hb dX8_pack_163 hl (k := 5) rfl (by rw [e26]; rfl) (by decide) rfl (fun ls hl => ?_)
              exact hj30 (8388608) (y25) _ _ _ (hP.sub [] rfl) (hD.sub [] (by decide) rfl) hS (lv_sub hl [1, 2, 3, 4, 5, 0, 6, 7] rfl)
    refine lv_if_ge (tgt := 122) hx hb dX8_pack_97 (by decide) (fun c1 => ?_) (fun c1 => ?_)
    · skip
      have c1 := (lg_cmp_ge _ _).mp c1
      have c1i : 8388608 ≤ (mm : Int64).toInt := Int64.le_iff_toInt_le.mp c1
      exact hj8  _ _ _ (hP.sub [] rfl) (hD.sub [] (by decide) rfl) hS (lv_sub hl [0, 1, 2, 3, 4, 5, 6, 7] rfl)
    · skip
      have c1 := fun h => c1 ((lg_cmp_ge _ _).mpr h)
      have c1i : ¬ 8388608 ≤ (mm : Int64).toInt := fun h => c1 (Int64.le_iff_toInt_le.mpr h)
      refine lv_iload hx hb dX8_pack_100 (lv_at hl 5 rfl) ?_
      refine lv_sipush (v := (-149)) hx hb dX8_pack_102 (by decide) ?_
      refine lv_icmp_le (tgt := 122) hx hb dX8_pack_105 (by decide) (fun c3 => ?_) (fun c3 => ?_)
      · skip
        have c3i : (ee : Int32).toInt ≤ (-149) := Int32.le_iff_toInt_le.mp c3
        exact hj8  _ _ _ (hP.sub [] rfl) (hD.sub [] (by decide) rfl) hS (lv_sub hl [0, 1, 2, 3, 4, 5, 6, 7] rfl)
      · skip
        have c3i : ¬ (ee : Int32).toInt ≤ (-149) := fun h => c3 (Int32.le_iff_toInt_le.mpr h)
        refine lv_lload hx hb dX8_pack_108 (lv_at hl 4 rfl) ?_
        refine lv_ldc2 (v := 2) hx hb hown (hts (.constantLong RX8 90 (2)) (oX8_pack_in _ (List.mem_of_getElem? (i := 1) rfl))) dX8_pack_110 ?_
        refine lv_lmul hx hb dX8_pack_113 ?_
        refine lv_lstore (lv' := [(5, .long (mm * 2)), (0, .int zg), (1, .long wh), (3, .int pw), (4, .int mo), (7, .int ee), (8, .int hf), (9, .int rs)]) hx hb dX8_pack_114 hl (by decide) rfl (fun ls hl => ?_)
        obtain ⟨y5, e6⟩ : ∃ y : Int32, y = ee + (-1) := ⟨_, rfl⟩
        refine lv_iinc (v := y5) (lv' := [(7, .int y5), (5, .long (mm * 2)), (0, .int zg), (1, .long wh), (3, .int pw), (4, .int mo), (8, .int hf), (9, .int rs)]) hx hb dX8_pack_116 hl (k := 5) rfl (by rw [e6]; rfl) (by decide) rfl (fun ls hl => ?_)
        have iy5 : (y5 : Int32).toInt = (ee : Int32).toInt + (-1) := by rw [e6]; exact px_iadd (show -2147483648 ≤ (ee : Int32).toInt + (-1) by omega) (show (ee : Int32).toInt + (-1) < 2147483648 by omega)
        refine lv_goto (tgt := 91) hx hb dX8_pack_119 (by decide) ?_
        have hq2 := px_rng (y5)
        exact ih ((mm * 2)) (y5) (hf) (rs) _ _ _  (by omega) (hP.sub [] rfl) (hD.sub [] (by decide) rfl) hS (lv_sub hl [2, 3, 4, 5, 1, 0, 6, 7] rfl)
set_option maxHeartbeats 4000000 in
set_option maxRecDepth 100000 in
theorem lp_X8_pack_25 {p : Program} {e : Env} {s : State} {m : MethodId} {below : List Frame} {meth : Method} {c : Code} {A : Nat → Prop} (l : Launch) (D : va_G) (cI cJ cZ : ClassId) (zg : Int32) (wh : Int64) (pw : Int32) (mo : Int32) (C0 : sp_C cX8_pack (some .long) 10 wpX8_pack yX8_pack.cls yX8_pack.name p s m ([.int zg, .long wh, .int pw, .int mo] : List Value).toArray meth c) (hA : ∀ q : Nat, s.heap.size ≤ q → A q) (hK : va_K D vwCl [(cI, .int), (cJ, .long), (cZ, .boolean)] s) :
    ∀ (fuel : Nat) (mm : Int64) (ee : Int32) (hf : Int32) (rs : Int32) (H : Heap) (locs : List Loc) (ls : Array Slot), ((if (mm : Int64).toInt < 0 then 0 else (mm : Int64).toInt) * 4294967296 + (if (ee : Int32).toInt < -149 then -149 - (ee : Int32).toInt else 0) < (fuel : Int)) → va_P D vwCl [] H → va_D A [] → va_S A s.heap H locs → lv_has ls 10 [(0, .int zg), (1, .long wh), (3, .int pw), (4, .int mo), (5, .long mm), (7, .int ee), (8, .int hf), (9, .int rs)] → W p l e ({ frames := 1, cells := 0, slots := 0, locals := 22 }) s m (([.int zg, .long wh, .int pw, .int mo] : List Value).toArray) below meth c H locs 0 0 (MQ below (va_Ql (fun (r : Int64) (_ : Unit) => True) (sp_B D vwCl A (fun (_ : Unit) => [])) A) ([.int zg, .long wh, .int pw, .int mo] : List Value).toArray s 0 0 A) (F0 m 25 ls []) := by
  obtain ⟨hx, hb, hr, hts, hown, hlocks, hml, hin⟩ := id C0
  have hown : s.vm.findClass RX8 = some m.cls := hown
  intro fuel
  induction fuel with
  | zero =>
    intro mm ee hf rs H locs ls  hm
    exact absurd hm (by omega)
  | succ fuel ih =>
    intro mm ee hf rs H locs ls  hm hP hD hS hl
    have hrg := px_rng ee
    have hrm := px_lrng mm
    refine lv_lload hx hb dX8_pack_25 (lv_at hl 4 rfl) ?_
    refine lv_ldc2 (v := 16777216) hx hb hown (hts (.constantLong RX8 88 (16777216)) (oX8_pack_in _ (List.mem_of_getElem? (i := 2) rfl))) dX8_pack_27 ?_
    refine W.lcmp hx hb dX8_pack_30 ?_
    refine lv_if_ge (tgt := 42) hx hb dX8_pack_31 (by decide) (fun c1 => ?_) (fun c1 => ?_)
    · skip
      have c1 := (lg_cmp_ge _ _).mp c1
      have c1i : 16777216 ≤ (mm : Int64).toInt := Int64.le_iff_toInt_le.mp c1
      refine lv_iload hx hb dX8_pack_42 (lv_at hl 7 rfl) ?_
      have hj11 : ∀ (z10 : Int32) (H : Heap) (locs : List Loc) (ls : Array Slot), va_P D vwCl [] H → va_D A [] → va_S A s.heap H locs → lv_has ls 10 [(0, .int zg), (1, .long wh), (3, .int pw), (4, .int mo), (5, .long mm), (7, .int ee), (8, .int hf), (9, .int rs)] → W p l e ({ frames := 1, cells := 0, slots := 0, locals := 22 }) s m (([.int zg, .long wh, .int pw, .int mo] : List Value).toArray) below meth c H locs 0 0 (MQ below (va_Ql (fun (r : Int64) (_ : Unit) => True) (sp_B D vwCl A (fun (_ : Unit) => [])) A) ([.int zg, .long wh, .int pw, .int mo] : List Value).toArray s 0 0 A) (F0 m 57 ls [.int z10]) := by
        intro z10 H locs ls  hP hD hS hl
        refine lv_istore (lv' := [(9, .int z10), (0, .int zg), (1, .long wh), (3, .int pw), (4, .int mo), (5, .long mm), (7, .int ee), (8, .int hf)]) hx hb dX8_pack_57 hl (by decide) rfl (fun ls hl => ?_)
        refine lv_lload hx hb dX8_pack_59 (lv_at hl 5 rfl) ?_
        refine lv_ldc2 (v := 2) hx hb hown (hts (.constantLong RX8 90 (2)) (oX8_pack_in _ (List.mem_of_getElem? (i := 1) rfl))) dX8_pack_61 ?_
        refine lv_lrem hx hb dX8_pack_64 (by decide) ?_
        refine lv_lconst (v := 1) hx hb dX8_pack_65 (by decide) ?_
        refine W.lcmp hx hb dX8_pack_66 ?_
        have hj16 : ∀ (z15 : Int32) (H : Heap) (locs : List Loc) (ls : Array Slot), va_P D vwCl [] H → va_D A [] → va_S A s.heap H locs → lv_has ls 10 [(9, .int z10), (0, .int zg), (1, .long wh), (3, .int pw), (4, .int mo), (5, .long mm), (7, .int ee), (8, .int hf)] → W p l e ({ frames := 1, cells := 0, slots := 0, locals := 22 }) s m (([.int zg, .long wh, .int pw, .int mo] : List Value).toArray) below meth c H locs 0 0 (MQ below (va_Ql (fun (r : Int64) (_ : Unit) => True) (sp_B D vwCl A (fun (_ : Unit) => [])) A) ([.int zg, .long wh, .int pw, .int mo] : List Value).toArray s 0 0 A) (F0 m 75 ls [.int z15]) := by
          intro z15 H locs ls  hP hD hS hl
          refine lv_istore (lv' := [(8, .int z15), (9, .int z10), (0, .int zg), (1, .long wh), (3, .int pw), (4, .int mo), (5, .long mm), (7, .int ee)]) hx hb dX8_pack_75 hl (by decide) rfl (fun ls hl => ?_)
          refine lv_lload hx hb dX8_pack_77 (lv_at hl 6 rfl) ?_
          refine lv_ldc2 (v := 2) hx hb hown (hts (.constantLong RX8 90 (2)) (oX8_pack_in _ (List.mem_of_getElem? (i := 1) rfl))) dX8_pack_79 ?_
          refine lv_ldiv hx hb dX8_pack_82 (by decide) ?_
          refine lv_lstore (lv' := [(5, .long (mm / 2)), (8, .int z15), (9, .int z10), (0, .int zg), (1, .long wh), (3, .int pw), (4, .int mo), (7, .int ee)]) hx hb dX8_pack_83 hl (by decide) rfl (fun ls hl => ?_)
          obtain ⟨y17, e18⟩ : ∃ y : Int32, y = ee + 1 := ⟨_, rfl⟩
          refine lv_iinc (v := y17) (lv' := [(7, .int y17), (5, .long (mm / 2)), (8, .int z15), (9, .int z10), (0, .int zg), (1, .long wh), (3, .int pw), (4, .int mo)]) hx hb dX8_pack_85 hl (k := 7) rfl (by rw [e18]; rfl) (by decide) rfl (fun ls hl => ?_)
          refine lv_goto (tgt := 25) hx hb dX8_pack_88 (by decide) ?_
          have hq1 := px_lrng ((mm / 2))
          have hq2 := px_rng (y17)
          have hq3 := px_half mm
          have hq4 : (ee : Int32).toInt < -149 → (y17 : Int32).toInt = (ee : Int32).toInt + 1 := fun h => by rw [e18]; exact sp_inc (by omega)
          exact ih ((mm / 2)) (y17) (z15) (z10) _ _ _  (by omega) (hP.sub [] rfl) (hD.sub [] (by decide) rfl) hS (lv_sub hl [4, 5, 6, 7, 1, 0, 2, 3] rfl)
        refine lv_if_ne (tgt := 74) hx hb dX8_pack_67 (by decide) (fun c12 => ?_) (fun c12 => ?_)
        · skip
          have c12 := fun h => c12 ((lg_cmp_eq _ _).mpr h)
          have c12i : ¬ ((mm - mm / 2 * 2) : Int64).toInt = 1 := fun h => c12 (Int64.toInt_inj.mp h)
          refine lv_iconst (v := 0) hx hb dX8_pack_74 (by decide) ?_
          exact hj16 (0) _ _ _ (hP.sub [] rfl) (hD.sub [] (by decide) rfl) hS (lv_sub hl [0, 1, 2, 3, 4, 5, 6, 7] rfl)
        · skip
          have c12 := (lg_cmp_eq _ _).mp c12
          have c12i : ((mm - mm / 2 * 2) : Int64).toInt = 1 := congrArg Int64.toInt c12
          refine lv_iconst (v := 1) hx hb dX8_pack_70 (by decide) ?_
          refine lv_goto (tgt := 75) hx hb dX8_pack_71 (by decide) ?_
          exact hj16 (1) _ _ _ (hP.sub [] rfl) (hD.sub [] (by decide) rfl) hS (lv_sub hl [0, 1, 2, 3, 4, 5, 6, 7] rfl)
      refine lv_if_ne (tgt := 52) hx hb dX8_pack_44 (by decide) (fun c2 => ?_) (fun c2 => ?_)
      · skip
        have c2i : ¬ (rs : Int32).toInt = 0 := fun h => c2 (Int32.toInt_inj.mp h)
        refine lv_iconst (v := 1) hx hb dX8_pack_52 (by decide) ?_
        refine lv_goto (tgt := 57) hx hb dX8_pack_53 (by decide) ?_
        exact hj11 (1) _ _ _ (hP.sub [] rfl) (hD.sub [] (by decide) rfl) hS (lv_sub hl [0, 1, 2, 3, 4, 5, 6, 7] rfl)
      · skip
        have c2i : (rs : Int32).toInt = 0 := congrArg Int32.toInt c2
        refine lv_iload hx hb dX8_pack_47 (lv_at hl 6 rfl) ?_
        have hj8 : ∀ (z7 : Int32) (H : Heap) (locs : List Loc) (ls : Array Slot), va_P D vwCl [] H → va_D A [] → va_S A s.heap H locs → lv_has ls 10 [(0, .int zg), (1, .long wh), (3, .int pw), (4, .int mo), (5, .long mm), (7, .int ee), (8, .int hf), (9, .int rs)] → W p l e ({ frames := 1, cells := 0, slots := 0, locals := 22 }) s m (([.int zg, .long wh, .int pw, .int mo] : List Value).toArray) below meth c H locs 0 0 (MQ below (va_Ql (fun (r : Int64) (_ : Unit) => True) (sp_B D vwCl A (fun (_ : Unit) => [])) A) ([.int zg, .long wh, .int pw, .int mo] : List Value).toArray s 0 0 A) (F0 m 57 ls [.int z7]) := by
          intro z7 H locs ls  hP hD hS hl
          exact hj11 (z7) _ _ _ (hP.sub [] rfl) (hD.sub [] (by decide) rfl) hS (lv_sub hl [0, 1, 2, 3, 4, 5, 6, 7] rfl)
        refine lv_if_eq (tgt := 56) hx hb dX8_pack_49 (by decide) (fun c4 => ?_) (fun c4 => ?_)
        · skip
          have c4i : (hf : Int32).toInt = 0 := congrArg Int32.toInt c4
          refine lv_iconst (v := 0) hx hb dX8_pack_56 (by decide) ?_
          exact hj8 (0) _ _ _ (hP.sub [] rfl) (hD.sub [] (by decide) rfl) hS (lv_sub hl [0, 1, 2, 3, 4, 5, 6, 7] rfl)
        · skip
          have c4i : ¬ (hf : Int32).toInt = 0 := fun h => c4 (Int32.toInt_inj.mp h)
          refine lv_iconst (v := 1) hx hb dX8_pack_52 (by decide) ?_
          refine lv_goto (tgt := 57) hx hb dX8_pack_53 (by decide) ?_
          exact hj8 (1) _ _ _ (hP.sub [] rfl) (hD.sub [] (by decide) rfl) hS (lv_sub hl [0, 1, 2, 3, 4, 5, 6, 7] rfl)
    · skip
      have c1 := fun h => c1 ((lg_cmp_ge _ _).mpr h)
      have c1i : ¬ 16777216 ≤ (mm : Int64).toInt := fun h => c1 (Int64.le_iff_toInt_le.mpr h)
      refine lv_iload hx hb dX8_pack_34 (lv_at hl 5 rfl) ?_
      refine lv_sipush (v := (-149)) hx hb dX8_pack_36 (by decide) ?_
      refine lv_icmp_ge (tgt := 91) hx hb dX8_pack_39 (by decide) (fun c20 => ?_) (fun c20 => ?_)
      · skip
        have c20i : (-149) ≤ (ee : Int32).toInt := Int32.le_iff_toInt_le.mp c20
        have hq2 := px_rng (ee)
        exact lp_X8_pack_91 l D cI cJ cZ zg wh pw mo C0 hA hK 2147484000 (mm) (ee) (hf) (rs) _ _ _  (by omega) (hP.sub [] rfl) (hD.sub [] (by decide) rfl) hS (lv_sub hl [0, 1, 2, 3, 4, 5, 6, 7] rfl)
      · skip
        have c20i : ¬ (-149) ≤ (ee : Int32).toInt := fun h => c20 (Int32.le_iff_toInt_le.mpr h)
        refine lv_iload hx hb dX8_pack_42 (lv_at hl 7 rfl) ?_
        have hj30 : ∀ (z29 : Int32) (H : Heap) (locs : List Loc) (ls : Array Slot), va_P D vwCl [] H → va_D A [] → va_S A s.heap H locs → lv_has ls 10 [(0, .int zg), (1, .long wh), (3, .int pw), (4, .int mo), (5, .long mm), (7, .int ee), (8, .int hf), (9, .int rs)] → W p l e ({ frames := 1, cells := 0, slots := 0, locals := 22 }) s m (([.int zg, .long wh, .int pw, .int mo] : List Value).toArray) below meth c H locs 0 0 (MQ below (va_Ql (fun (r : Int64) (_ : Unit) => True) (sp_B D vwCl A (fun (_ : Unit) => [])) A) ([.int zg, .long wh, .int pw, .int mo] : List Value).toArray s 0 0 A) (F0 m 57 ls [.int z29]) := by
          intro z29 H locs ls  hP hD hS hl
          refine lv_istore (lv' := [(9, .int z29), (0, .int zg), (1, .long wh), (3, .int pw), (4, .int mo), (5, .long mm), (7, .int ee), (8, .int hf)]) hx hb dX8_pack_57 hl (by decide) rfl (fun ls hl => ?_)
          refine lv_lload hx hb dX8_pack_59 (lv_at hl 5 rfl) ?_
          refine lv_ldc2 (v := 2) hx hb hown (hts (.constantLong RX8 90 (2)) (oX8_pack_in _ (List.mem_of_getElem? (i := 1) rfl))) dX8_pack_61 ?_
          refine lv_lrem hx hb dX8_pack_64 (by decide) ?_
          refine lv_lconst (v := 1) hx hb dX8_pack_65 (by decide) ?_
          refine W.lcmp hx hb dX8_pack_66 ?_
          have hj35 : ∀ (z34 : Int32) (H : Heap) (locs : List Loc) (ls : Array Slot), va_P D vwCl [] H → va_D A [] → va_S A s.heap H locs → lv_has ls 10 [(9, .int z29), (0, .int zg), (1, .long wh), (3, .int pw), (4, .int mo), (5, .long mm), (7, .int ee), (8, .int hf)] → W p l e ({ frames := 1, cells := 0, slots := 0, locals := 22 }) s m (([.int zg, .long wh, .int pw, .int mo] : List Value).toArray) below meth c H locs 0 0 (MQ below (va_Ql (fun (r : Int64) (_ : Unit) => True) (sp_B D vwCl A (fun (_ : Unit) => [])) A) ([.int zg, .long wh, .int pw, .int mo] : List Value).toArray s 0 0 A) (F0 m 75 ls [.int z34]) := by
            intro z34 H locs ls  hP hD hS hl
            refine lv_istore (lv' := [(8, .int z34), (9, .int z29), (0, .int zg), (1, .long wh), (3, .int pw), (4, .int mo), (5, .long mm), (7, .int ee)]) hx hb dX8_pack_75 hl (by decide) rfl (fun ls hl => ?_)
            refine lv_lload hx hb dX8_pack_77 (lv_at hl 6 rfl) ?_
            refine lv_ldc2 (v := 2) hx hb hown (hts (.constantLong RX8 90 (2)) (oX8_pack_in _ (List.mem_of_getElem? (i := 1) rfl))) dX8_pack_79 ?_
            refine lv_ldiv hx hb dX8_pack_82 (by decide) ?_
            refine lv_lstore (lv' := [(5, .long (mm / 2)), (8, .int z34), (9, .int z29), (0, .int zg), (1, .long wh), (3, .int pw), (4, .int mo), (7, .int ee)]) hx hb dX8_pack_83 hl (by decide) rfl (fun ls hl => ?_)
            obtain ⟨y36, e37⟩ : ∃ y : Int32, y = ee + 1 := ⟨_, rfl⟩
            refine lv_iinc (v := y36) (lv' := [(7, .int y36), (5, .long (mm / 2)), (8, .int z34), (9, .int z29), (0, .int zg), (1, .long wh), (3, .int pw), (4, .int mo)]) hx hb dX8_pack_85 hl (k := 7) rfl (by rw [e37]; rfl) (by decide) rfl (fun ls hl => ?_)
            refine lv_goto (tgt := 25) hx hb dX8_pack_88 (by decide) ?_
            have hq1 := px_lrng ((mm / 2))
            have hq2 := px_rng (y36)
            have hq3 := px_half mm
            have hq4 : (ee : Int32).toInt < -149 → (y36 : Int32).toInt = (ee : Int32).toInt + 1 := fun h => by rw [e37]; exact sp_inc (by omega)
            exact ih ((mm / 2)) (y36) (z34) (z29) _ _ _  (by omega) (hP.sub [] rfl) (hD.sub [] (by decide) rfl) hS (lv_sub hl [4, 5, 6, 7, 1, 0, 2, 3] rfl)
          refine lv_if_ne (tgt := 74) hx hb dX8_pack_67 (by decide) (fun c31 => ?_) (fun c31 => ?_)
          · skip
            have c31 := fun h => c31 ((lg_cmp_eq _ _).mpr h)
            have c31i : ¬ ((mm - mm / 2 * 2) : Int64).toInt = 1 := fun h => c31 (Int64.toInt_inj.mp h)
            refine lv_iconst (v := 0) hx hb dX8_pack_74 (by decide) ?_
            exact hj35 (0) _ _ _ (hP.sub [] rfl) (hD.sub [] (by decide) rfl) hS (lv_sub hl [0, 1, 2, 3, 4, 5, 6, 7] rfl)
          · skip
            have c31 := (lg_cmp_eq _ _).mp c31
            have c31i : ((mm - mm / 2 * 2) : Int64).toInt = 1 := congrArg Int64.toInt c31
            refine lv_iconst (v := 1) hx hb dX8_pack_70 (by decide) ?_
            refine lv_goto (tgt := 75) hx hb dX8_pack_71 (by decide) ?_
            exact hj35 (1) _ _ _ (hP.sub [] rfl) (hD.sub [] (by decide) rfl) hS (lv_sub hl [0, 1, 2, 3, 4, 5, 6, 7] rfl)
        refine lv_if_ne (tgt := 52) hx hb dX8_pack_44 (by decide) (fun c21 => ?_) (fun c21 => ?_)
        · skip
          have c21i : ¬ (rs : Int32).toInt = 0 := fun h => c21 (Int32.toInt_inj.mp h)
          refine lv_iconst (v := 1) hx hb dX8_pack_52 (by decide) ?_
          refine lv_goto (tgt := 57) hx hb dX8_pack_53 (by decide) ?_
          exact hj30 (1) _ _ _ (hP.sub [] rfl) (hD.sub [] (by decide) rfl) hS (lv_sub hl [0, 1, 2, 3, 4, 5, 6, 7] rfl)
        · skip
          have c21i : (rs : Int32).toInt = 0 := congrArg Int32.toInt c21
          refine lv_iload hx hb dX8_pack_47 (lv_at hl 6 rfl) ?_
          have hj27 : ∀ (z26 : Int32) (H : Heap) (locs : List Loc) (ls : Array Slot), va_P D vwCl [] H → va_D A [] → va_S A s.heap H locs → lv_has ls 10 [(0, .int zg), (1, .long wh), (3, .int pw), (4, .int mo), (5, .long mm), (7, .int ee), (8, .int hf), (9, .int rs)] → W p l e ({ frames := 1, cells := 0, slots := 0, locals := 22 }) s m (([.int zg, .long wh, .int pw, .int mo] : List Value).toArray) below meth c H locs 0 0 (MQ below (va_Ql (fun (r : Int64) (_ : Unit) => True) (sp_B D vwCl A (fun (_ : Unit) => [])) A) ([.int zg, .long wh, .int pw, .int mo] : List Value).toArray s 0 0 A) (F0 m 57 ls [.int z26]) := by
            intro z26 H locs ls  hP hD hS hl
            exact hj30 (z26) _ _ _ (hP.sub [] rfl) (hD.sub [] (by decide) rfl) hS (lv_sub hl [0, 1, 2, 3, 4, 5, 6, 7] rfl)
          refine lv_if_eq (tgt := 56) hx hb dX8_pack_49 (by decide) (fun c23 => ?_) (fun c23 => ?_)
          · skip
            have c23i : (hf : Int32).toInt = 0 := congrArg Int32.toInt c23
            refine lv_iconst (v := 0) hx hb dX8_pack_56 (by decide) ?_
            exact hj27 (0) _ _ _ (hP.sub [] rfl) (hD.sub [] (by decide) rfl) hS (lv_sub hl [0, 1, 2, 3, 4, 5, 6, 7] rfl)
          · skip
            have c23i : ¬ (hf : Int32).toInt = 0 := fun h => c23 (Int32.toInt_inj.mp h)
            refine lv_iconst (v := 1) hx hb dX8_pack_52 (by decide) ?_
            refine lv_goto (tgt := 57) hx hb dX8_pack_53 (by decide) ?_
            exact hj27 (1) _ _ _ (hP.sub [] rfl) (hD.sub [] (by decide) rfl) hS (lv_sub hl [0, 1, 2, 3, 4, 5, 6, 7] rfl)
set_option maxHeartbeats 4000000 in
set_option maxRecDepth 100000 in
theorem c_X8_pack (l : Launch) (D : va_G) (cI cJ cZ : ClassId) (sz : Nat) (zg : Int32) (wh : Int64) (pw : Int32) (mo : Int32) : Met l yX8_pack wpX8_pack ({ frames := 1, cells := 0, slots := 0, locals := 22 }) (va_Pc ([.int zg, .long wh, .int pw, .int mo] : List Value) (sp_pre D vwCl (sp_ty cI cJ cZ) [] sz)) (va_Ql (fun (r : Int64) (_ : Unit) => True) (sp_B D vwCl (va_A [] sz) (fun (_ : Unit) => [])) (va_A [] sz)) 0 0 (va_A [] sz) := by
  refine sp_ofW (Qc := fun A => va_Ql (fun (r : Int64) (_ : Unit) => True) (sp_B D vwCl A (fun (_ : Unit) => [])) A) (by decide) rfl (Nat.le_of_ble_eq_true rfl) (fun p e s m below meth c A ls H locs C0 hA hS hP hK hD hl => ?_)
  obtain ⟨hx, hb, hr, hts, hown, hlocks, hml, hin⟩ := id C0
  have hown : s.vm.findClass RX8 = some m.cls := hown
  have hl : lv_has ls 10 [(0, .int zg), (1, .long wh), (3, .int pw), (4, .int mo)] := hl
  have hK : va_K D vwCl [(cI, .int), (cJ, .long), (cZ, .boolean)] s := hK
  refine lv_lload_n hx hb dX8_pack_0 rfl (lv_at hl 1 rfl) ?_
  refine lv_lconst (v := 0) hx hb dX8_pack_1 (by decide) ?_
  refine W.lcmp hx hb dX8_pack_2 ?_
  refine lv_if_ne (tgt := 12) hx hb dX8_pack_3 (by decide) (fun c1 => ?_) (fun c1 => ?_)
  · skip
    have c1 := fun h => c1 ((lg_cmp_eq _ _).mpr h)
    have c1i : ¬ (wh : Int64).toInt = 0 := fun h => c1 (Int64.toInt_inj.mp h)
    refine lv_lload_n hx hb dX8_pack_12 rfl (lv_at hl 1 rfl) ?_
    refine lv_lstore (lv' := [(5, .long wh), (0, .int zg), (1, .long wh), (3, .int pw), (4, .int mo)]) hx hb dX8_pack_13 hl (by decide) rfl (fun ls hl => ?_)
    refine lv_iload_n hx hb dX8_pack_15 rfl (lv_at hl 3 rfl) ?_
    refine lv_istore (lv' := [(7, .int pw), (5, .long wh), (0, .int zg), (1, .long wh), (3, .int pw), (4, .int mo)]) hx hb dX8_pack_16 hl (by decide) rfl (fun ls hl => ?_)
    refine lv_iconst (v := 0) hx hb dX8_pack_18 (by decide) ?_
    refine lv_istore (lv' := [(8, .int 0), (7, .int pw), (5, .long wh), (0, .int zg), (1, .long wh), (3, .int pw), (4, .int mo)]) hx hb dX8_pack_19 hl (by decide) rfl (fun ls hl => ?_)
    refine lv_iload hx hb dX8_pack_21 (lv_at hl 6 rfl) ?_
    refine lv_istore (lv' := [(9, .int mo), (8, .int 0), (7, .int pw), (5, .long wh), (0, .int zg), (1, .long wh), (3, .int pw), (4, .int mo)]) hx hb dX8_pack_23 hl (by decide) rfl (fun ls hl => ?_)
    have kk2 : ((0) : Int32).toInt = (0) := by decide
    have hq1 := px_lrng (wh)
    have hq2 := px_rng (pw)
    exact lp_X8_pack_25 l D cI cJ cZ zg wh pw mo C0 hA hK 39614081257132168805361909760 (wh) (pw) (0) (mo) _ _ _  (by omega) (hP.sub [] rfl) (hD.sub [] (by decide) rfl) hS (lv_sub hl [4, 5, 6, 7, 3, 2, 1, 0] rfl)
  · skip
    have c1 := (lg_cmp_eq _ _).mp c1
    have c1i : (wh : Int64).toInt = 0 := congrArg Int64.toInt c1
    refine lv_iload_n hx hb dX8_pack_6 rfl (lv_at hl 0 rfl) ?_
    refine lv_lconst (v := 0) hx hb dX8_pack_7 (by decide) ?_
    refine sp_callj (wr := []) (wc := []) hP hD hS hA [] [] rfl rfl (by decide) (by decide) (va_runS (As := [.int zg, .long 0]) (rest := []) ⟨hx, hb, hml, hown, hts⟩ (c_X8_placeOf l D cI cJ cZ H.size (zg) (0)) (va_cwS 2 hts gX8_pack_X8_placeOf_84 rfl rfl rfl (by decide +kernel) ⟨Nat.le_of_ble_eq_true rfl, Nat.le_of_ble_eq_true rfl⟩) (sp_preS [.int zg, .long 0] hK (hP.sub (ws' := []) [] rfl) (hD.sub (ws' := []) [] (by decide) rfl)) rfl rfl hl.1 rfl (lv_room (Nat.le_of_ble_eq_true rfl)) dX8_pack_8 ⟨Nat.le_of_ble_eq_true rfl, Nat.le_of_ble_eq_true rfl⟩) (fun r3 u4 H locs hw5 hP hD hS => ?_)
    have h6 : (r3 : Int64) = sq_mp (zg) (0) := hw5
    have hP : va_P D vwCl [] H := hP
    have hD : va_D A [] := hD
    refine W.widen (k := 0) (n := 0) (by decide) (by decide) ?_
    exact sp_lret (u := ()) hx hb hr hlocks hS trivial (hP.sub [] rfl) (hD.sub [] (by decide) rfl) dX8_pack_11
def oX8_turned : List Cond := [.constantLong RX8 82 (9000000000), .constantLong RX8 74 (-1)]
def wpX8_turned : List Cond := .code yX8_turned cX8_turned 2 (some .long) :: (oX8_turned ++ ([] : List Cond))
theorem oX8_turned_in : ∀ w ∈ oX8_turned, w ∈ wpX8_turned := fun w h => List.mem_cons_of_mem _ (List.mem_append_left _ h)
theorem gwoX8_turned : ∀ w ∈ oX8_turned, goodWord w = true := by decide +kernel
theorem gwX8_turned : ∀ w ∈ wpX8_turned, goodWord w = true := by
  unfold wpX8_turned
  exact List.forall_mem_cons.mpr ⟨rfl, List.forall_mem_append.mpr ⟨gwoX8_turned, fun _ h => absurd h List.not_mem_nil⟩⟩
set_option maxRecDepth 100000 in
theorem toX8_turned : ∀ w ∈ oX8_turned, w ∈ lw_tbl := by
  unfold oX8_turned
  exact List.forall_mem_cons.mpr ⟨(List.mem_of_getElem? (i := 804) (by decide +kernel)), List.forall_mem_cons.mpr ⟨(List.mem_of_getElem? (i := 808) (by decide +kernel)), fun _ h => absurd h List.not_mem_nil⟩⟩
set_option maxRecDepth 100000 in
theorem tX8_turned : ∀ w ∈ wpX8_turned, w ∈ lw_tbl := by
  unfold wpX8_turned
  exact List.forall_mem_cons.mpr ⟨(List.mem_of_getElem? (i := 854) (by rfl)), List.forall_mem_append.mpr ⟨toX8_turned, fun _ h => absurd h List.not_mem_nil⟩⟩
set_option maxHeartbeats 4000000 in
set_option maxRecDepth 100000 in
theorem c_X8_turned (l : Launch) (D : va_G) (cI cJ cZ : ClassId) (sz : Nat) (g : Int64) : Met l yX8_turned wpX8_turned ({ frames := 0, cells := 0, slots := 0, locals := 0 }) (va_Pc ([.long g] : List Value) (sp_pre D vwCl (sp_ty cI cJ cZ) [] sz)) (va_Ql (fun (r : Int64) (_ : Unit) => True) (sp_B D vwCl (va_A [] sz) (fun (_ : Unit) => [])) (va_A [] sz)) 0 0 (va_A [] sz) := by
  refine sp_ofW (Qc := fun A => va_Ql (fun (r : Int64) (_ : Unit) => True) (sp_B D vwCl A (fun (_ : Unit) => [])) A) (by decide) rfl (Nat.le_of_ble_eq_true rfl) (fun p e s m below meth c A ls H locs C0 hA hS hP hK hD hl => ?_)
  obtain ⟨hx, hb, hr, hts, hown, hlocks, hml, hin⟩ := id C0
  have hown : s.vm.findClass RX8 = some m.cls := hown
  have hl : lv_has ls 2 [(0, .long g)] := hl
  have hK : va_K D vwCl [(cI, .int), (cJ, .long), (cZ, .boolean)] s := hK
  refine lv_lload_n hx hb dX8_turned_0 rfl (lv_at hl 0 rfl) ?_
  refine lv_ldc2 (v := 9000000000) hx hb hown (hts (.constantLong RX8 82 (9000000000)) (oX8_turned_in _ (List.mem_of_getElem? (i := 0) rfl))) dX8_turned_1 ?_
  refine W.lcmp hx hb dX8_turned_4 ?_
  have hj5 : ∀ (z4 : Int64) (H : Heap) (locs : List Loc) (ls : Array Slot), va_P D vwCl [] H → va_D A [] → va_S A s.heap H locs → lv_has ls 2 [(0, .long g)] → W p l e ({ frames := 0, cells := 0, slots := 0, locals := 0 }) s m (([.long g] : List Value).toArray) below meth c H locs 0 0 (MQ below (va_Ql (fun (r : Int64) (_ : Unit) => True) (sp_B D vwCl A (fun (_ : Unit) => [])) A) ([.long g] : List Value).toArray s 0 0 A) (F0 m 19 ls [.long z4]) := by
    intro z4 H locs ls  hP hD hS hl
    refine W.widen (k := 0) (n := 0) (by decide) (by decide) ?_
    exact sp_lret (u := ()) hx hb hr hlocks hS trivial (hP.sub [] rfl) (hD.sub [] (by decide) rfl) dX8_turned_19
  refine lv_if_ne (tgt := 14) hx hb dX8_turned_5 (by decide) (fun c1 => ?_) (fun c1 => ?_)
  · skip
    have c1 := fun h => c1 ((lg_cmp_eq _ _).mpr h)
    have c1i : ¬ (g : Int64).toInt = 9000000000 := fun h => c1 (Int64.toInt_inj.mp h)
    refine lv_ldc2 (v := (-1)) hx hb hown (hts (.constantLong RX8 74 (-1)) (oX8_turned_in _ (List.mem_of_getElem? (i := 1) rfl))) dX8_turned_14 ?_
    refine lv_lload_n hx hb dX8_turned_17 rfl (lv_at hl 0 rfl) ?_
    refine lv_lsub hx hb dX8_turned_18 ?_
    exact hj5 (((-1) - g)) _ _ _ (hP.sub [] rfl) (hD.sub [] (by decide) rfl) hS (lv_sub hl [0] rfl)
  · skip
    have c1 := (lg_cmp_eq _ _).mp c1
    have c1i : (g : Int64).toInt = 9000000000 := congrArg Int64.toInt c1
    refine lv_ldc2 (v := 9000000000) hx hb hown (hts (.constantLong RX8 82 (9000000000)) (oX8_turned_in _ (List.mem_of_getElem? (i := 0) rfl))) dX8_turned_8 ?_
    refine lv_goto (tgt := 19) hx hb dX8_turned_11 (by decide) ?_
    exact hj5 (9000000000) _ _ _ (hP.sub [] rfl) (hD.sub [] (by decide) rfl) hS (lv_sub hl [0] rfl)
def oX8_plus : List Cond := [.constantLong RX8 82 (9000000000)]
def wpX8_plus : List Cond := .code yX8_plus cX8_plus 19 (some .long) :: (oX8_plus ++ ((va_wsS RX8 94 yX8_isInfinite wpX8_isInfinite) ++ ((va_wsS RX8 98 yX8_power wpX8_power) ++ ((va_wsS RX8 102 yX8_digits wpX8_digits) ++ ((va_wsS RX8 105 yX8_pack wpX8_pack) ++ ([] : List Cond))))))
theorem oX8_plus_in : ∀ w ∈ oX8_plus, w ∈ wpX8_plus := fun w h => List.mem_cons_of_mem _ (List.mem_append_left _ h)
theorem gwoX8_plus : ∀ w ∈ oX8_plus, goodWord w = true := by decide +kernel
theorem gwX8_plus : ∀ w ∈ wpX8_plus, goodWord w = true := by
  unfold wpX8_plus
  exact List.forall_mem_cons.mpr ⟨rfl, List.forall_mem_append.mpr ⟨gwoX8_plus, List.forall_mem_append.mpr ⟨(sp_gS gwX8_isInfinite), List.forall_mem_append.mpr ⟨(sp_gS gwX8_power), List.forall_mem_append.mpr ⟨(sp_gS gwX8_digits), List.forall_mem_append.mpr ⟨(sp_gS gwX8_pack), fun _ h => absurd h List.not_mem_nil⟩⟩⟩⟩⟩⟩
set_option maxRecDepth 100000 in
theorem toX8_plus : ∀ w ∈ oX8_plus, w ∈ lw_tbl := by
  unfold oX8_plus
  exact List.forall_mem_cons.mpr ⟨(List.mem_of_getElem? (i := 804) (by decide +kernel)), fun _ h => absurd h List.not_mem_nil⟩
set_option maxRecDepth 100000 in
theorem tX8_plus : ∀ w ∈ wpX8_plus, w ∈ lw_tbl := by
  unfold wpX8_plus
  exact List.forall_mem_cons.mpr ⟨(List.mem_of_getElem? (i := 833) (by rfl)), List.forall_mem_append.mpr ⟨toX8_plus, List.forall_mem_append.mpr ⟨(sp_tS (List.mem_of_getElem? (i := 834) (by decide +kernel)) (List.mem_of_getElem? (i := 835) (by decide +kernel)) (List.mem_of_getElem? (i := 45) (by decide +kernel)) tX8_isInfinite), List.forall_mem_append.mpr ⟨(sp_tS (List.mem_of_getElem? (i := 840) (by decide +kernel)) (List.mem_of_getElem? (i := 841) (by decide +kernel)) (List.mem_of_getElem? (i := 45) (by decide +kernel)) tX8_power), List.forall_mem_append.mpr ⟨(sp_tS (List.mem_of_getElem? (i := 844) (by decide +kernel)) (List.mem_of_getElem? (i := 845) (by decide +kernel)) (List.mem_of_getElem? (i := 45) (by decide +kernel)) tX8_digits), List.forall_mem_append.mpr ⟨(sp_tS (List.mem_of_getElem? (i := 847) (by decide +kernel)) (List.mem_of_getElem? (i := 848) (by decide +kernel)) (List.mem_of_getElem? (i := 45) (by decide +kernel)) tX8_pack), fun _ h => absurd h List.not_mem_nil⟩⟩⟩⟩⟩⟩
theorem gX8_plus_X8_isInfinite_94 : GoodIn wpX8_plus (va_wsS RX8 94 yX8_isInfinite wpX8_isInfinite) := fun w h => ⟨List.mem_cons_of_mem _ (List.mem_append_right _ (List.mem_append_left _ h)), good_of_word (sp_gS gwX8_isInfinite w h)⟩
theorem gX8_plus_X8_power_98 : GoodIn wpX8_plus (va_wsS RX8 98 yX8_power wpX8_power) := fun w h => ⟨List.mem_cons_of_mem _ (List.mem_append_right _ (List.mem_append_right _ (List.mem_append_left _ h))), good_of_word (sp_gS gwX8_power w h)⟩
theorem gX8_plus_X8_digits_102 : GoodIn wpX8_plus (va_wsS RX8 102 yX8_digits wpX8_digits) := fun w h => ⟨List.mem_cons_of_mem _ (List.mem_append_right _ (List.mem_append_right _ (List.mem_append_right _ (List.mem_append_left _ h)))), good_of_word (sp_gS gwX8_digits w h)⟩
theorem gX8_plus_X8_pack_105 : GoodIn wpX8_plus (va_wsS RX8 105 yX8_pack wpX8_pack) := fun w h => ⟨List.mem_cons_of_mem _ (List.mem_append_right _ (List.mem_append_right _ (List.mem_append_right _ (List.mem_append_right _ (List.mem_append_left _ h))))), good_of_word (sp_gS gwX8_pack w h)⟩
set_option maxHeartbeats 4000000 in
set_option maxRecDepth 100000 in
theorem c_X8_plus (l : Launch) (D : va_G) (cI cJ cZ : ClassId) (sz : Nat) (g : Int64) (q : Int64) : Met l yX8_plus wpX8_plus ({ frames := 2, cells := 0, slots := 0, locals := 51 }) (va_Pc ([.long g, .long q] : List Value) (sp_pre D vwCl (sp_ty cI cJ cZ) [] sz)) (va_Ql (fun (r : Int64) (_ : Unit) => True) (sp_B D vwCl (va_A [] sz) (fun (_ : Unit) => [])) (va_A [] sz)) 0 0 (va_A [] sz) := by
  refine sp_ofW (Qc := fun A => va_Ql (fun (r : Int64) (_ : Unit) => True) (sp_B D vwCl A (fun (_ : Unit) => [])) A) (by decide) rfl (Nat.le_of_ble_eq_true rfl) (fun p e s m below meth c A ls H locs C0 hA hS hP hK hD hl => ?_)
  obtain ⟨hx, hb, hr, hts, hown, hlocks, hml, hin⟩ := id C0
  have hown : s.vm.findClass RX8 = some m.cls := hown
  have hl : lv_has ls 19 [(0, .long g), (2, .long q)] := hl
  have hK : va_K D vwCl [(cI, .int), (cJ, .long), (cZ, .boolean)] s := hK
  refine lv_lload_n hx hb dX8_plus_0 rfl (lv_at hl 0 rfl) ?_
  refine lv_ldc2 (v := 9000000000) hx hb hown (hts (.constantLong RX8 82 (9000000000)) (oX8_plus_in _ (List.mem_of_getElem? (i := 0) rfl))) dX8_plus_1 ?_
  refine W.lcmp hx hb dX8_plus_4 ?_
  refine lv_if_eq (tgt := 16) hx hb dX8_plus_5 (by decide) (fun c1 => ?_) (fun c1 => ?_)
  · skip
    have c1 := (lg_cmp_eq _ _).mp c1
    have c1i : (g : Int64).toInt = 9000000000 := congrArg Int64.toInt c1
    refine lv_ldc2 (v := 9000000000) hx hb hown (hts (.constantLong RX8 82 (9000000000)) (oX8_plus_in _ (List.mem_of_getElem? (i := 0) rfl))) dX8_plus_16 ?_
    refine W.widen (k := 0) (n := 0) (by decide) (by decide) ?_
    exact sp_lret (u := ()) hx hb hr hlocks hS trivial (hP.sub [] rfl) (hD.sub [] (by decide) rfl) dX8_plus_19
  · skip
    have c1 := fun h => c1 ((lg_cmp_eq _ _).mpr h)
    have c1i : ¬ (g : Int64).toInt = 9000000000 := fun h => c1 (Int64.toInt_inj.mp h)
    refine lv_lload_n hx hb dX8_plus_8 rfl (lv_at hl 1 rfl) ?_
    refine lv_ldc2 (v := 9000000000) hx hb hown (hts (.constantLong RX8 82 (9000000000)) (oX8_plus_in _ (List.mem_of_getElem? (i := 0) rfl))) dX8_plus_9 ?_
    refine W.lcmp hx hb dX8_plus_12 ?_
    refine lv_if_ne (tgt := 20) hx hb dX8_plus_13 (by decide) (fun c2 => ?_) (fun c2 => ?_)
    · skip
      have c2 := fun h => c2 ((lg_cmp_eq _ _).mpr h)
      have c2i : ¬ (q : Int64).toInt = 9000000000 := fun h => c2 (Int64.toInt_inj.mp h)
      refine lv_lload_n hx hb dX8_plus_20 rfl (lv_at hl 0 rfl) ?_
      refine sp_calli (wr := []) (wc := []) hP hD hS hA [] [] rfl rfl (by decide) (by decide) (va_runS (As := [.long g]) (rest := []) ⟨hx, hb, hml, hown, hts⟩ (c_X8_isInfinite l D cI cJ cZ H.size (g)) (va_cwS 1 hts gX8_plus_X8_isInfinite_94 rfl rfl rfl (by decide +kernel) ⟨Nat.le_of_ble_eq_true rfl, Nat.le_of_ble_eq_true rfl⟩) (sp_preS [.long g] hK (hP.sub (ws' := []) [] rfl) (hD.sub (ws' := []) [] (by decide) rfl)) rfl rfl hl.1 rfl (lv_room (Nat.le_of_ble_eq_true rfl)) dX8_plus_21 ⟨Nat.le_of_ble_eq_true rfl, Nat.le_of_ble_eq_true rfl⟩) (fun r3 u4 H locs hw5 hP hD hS => ?_)
      have hP : va_P D vwCl [] H := hP
      have hD : va_D A [] := hD
      refine lv_if_ne (tgt := 34) hx hb dX8_plus_24 (by decide) (fun c6 => ?_) (fun c6 => ?_)
      · skip
        have c6i : ¬ (r3 : Int32).toInt = 0 := fun h => c6 (Int32.toInt_inj.mp h)
        refine lv_lload_n hx hb dX8_plus_34 rfl (lv_at hl 0 rfl) ?_
        refine sp_calli (wr := []) (wc := []) hP hD hS hA [] [] rfl rfl (by decide) (by decide) (va_runS (As := [.long g]) (rest := []) ⟨hx, hb, hml, hown, hts⟩ (c_X8_isInfinite l D cI cJ cZ H.size (g)) (va_cwS 1 hts gX8_plus_X8_isInfinite_94 rfl rfl rfl (by decide +kernel) ⟨Nat.le_of_ble_eq_true rfl, Nat.le_of_ble_eq_true rfl⟩) (sp_preS [.long g] hK (hP.sub (ws' := []) [] rfl) (hD.sub (ws' := []) [] (by decide) rfl)) rfl rfl hl.1 rfl (lv_room (Nat.le_of_ble_eq_true rfl)) dX8_plus_35 ⟨Nat.le_of_ble_eq_true rfl, Nat.le_of_ble_eq_true rfl⟩) (fun r7 u8 H locs hw9 hP hD hS => ?_)
        have hP : va_P D vwCl [] H := hP
        have hD : va_D A [] := hD
        have hj51 : ∀ (z50 : Int64) (H : Heap) (locs : List Loc) (ls : Array Slot), va_P D vwCl [] H → va_D A [] → va_S A s.heap H locs → lv_has ls 19 [(0, .long g), (2, .long q)] → W p l e ({ frames := 2, cells := 0, slots := 0, locals := 51 }) s m (([.long g, .long q] : List Value).toArray) below meth c H locs 0 0 (MQ below (va_Ql (fun (r : Int64) (_ : Unit) => True) (sp_B D vwCl A (fun (_ : Unit) => [])) A) ([.long g, .long q] : List Value).toArray s 0 0 A) (F0 m 72 ls [.long z50]) := by
          intro z50 H locs ls  hP hD hS hl
          refine W.widen (k := 0) (n := 0) (by decide) (by decide) ?_
          exact sp_lret (u := ()) hx hb hr hlocks hS trivial (hP.sub [] rfl) (hD.sub [] (by decide) rfl) dX8_plus_72
        refine lv_if_eq (tgt := 60) hx hb dX8_plus_38 (by decide) (fun c10 => ?_) (fun c10 => ?_)
        · skip
          have c10i : (r7 : Int32).toInt = 0 := congrArg Int32.toInt c10
          refine lv_lload_n hx hb dX8_plus_60 rfl (lv_at hl 0 rfl) ?_
          refine sp_calli (wr := []) (wc := []) hP hD hS hA [] [] rfl rfl (by decide) (by decide) (va_runS (As := [.long g]) (rest := []) ⟨hx, hb, hml, hown, hts⟩ (c_X8_isInfinite l D cI cJ cZ H.size (g)) (va_cwS 1 hts gX8_plus_X8_isInfinite_94 rfl rfl rfl (by decide +kernel) ⟨Nat.le_of_ble_eq_true rfl, Nat.le_of_ble_eq_true rfl⟩) (sp_preS [.long g] hK (hP.sub (ws' := []) [] rfl) (hD.sub (ws' := []) [] (by decide) rfl)) rfl rfl hl.1 rfl (lv_room (Nat.le_of_ble_eq_true rfl)) dX8_plus_61 ⟨Nat.le_of_ble_eq_true rfl, Nat.le_of_ble_eq_true rfl⟩) (fun r11 u12 H locs hw13 hP hD hS => ?_)
          have hP : va_P D vwCl [] H := hP
          have hD : va_D A [] := hD
          have hj18 : ∀ (z17 : Int64) (H : Heap) (locs : List Loc) (ls : Array Slot), va_P D vwCl [] H → va_D A [] → va_S A s.heap H locs → lv_has ls 19 [(0, .long g), (2, .long q)] → W p l e ({ frames := 2, cells := 0, slots := 0, locals := 51 }) s m (([.long g, .long q] : List Value).toArray) below meth c H locs 0 0 (MQ below (va_Ql (fun (r : Int64) (_ : Unit) => True) (sp_B D vwCl A (fun (_ : Unit) => [])) A) ([.long g, .long q] : List Value).toArray s 0 0 A) (F0 m 72 ls [.long z17]) := by
            intro z17 H locs ls  hP hD hS hl
            exact hj51 (z17) _ _ _ (hP.sub [] rfl) (hD.sub [] (by decide) rfl) hS (lv_sub hl [0, 1] rfl)
          refine lv_if_eq (tgt := 71) hx hb dX8_plus_64 (by decide) (fun c14 => ?_) (fun c14 => ?_)
          · skip
            have c14i : (r11 : Int32).toInt = 0 := congrArg Int32.toInt c14
            refine lv_lload_n hx hb dX8_plus_71 rfl (lv_at hl 1 rfl) ?_
            exact hj18 (q) _ _ _ (hP.sub [] rfl) (hD.sub [] (by decide) rfl) hS (lv_sub hl [0, 1] rfl)
          · skip
            have c14i : ¬ (r11 : Int32).toInt = 0 := fun h => c14 (Int32.toInt_inj.mp h)
            refine lv_lload_n hx hb dX8_plus_67 rfl (lv_at hl 0 rfl) ?_
            refine lv_goto (tgt := 72) hx hb dX8_plus_68 (by decide) ?_
            exact hj18 (g) _ _ _ (hP.sub [] rfl) (hD.sub [] (by decide) rfl) hS (lv_sub hl [0, 1] rfl)
        · skip
          have c10i : ¬ (r7 : Int32).toInt = 0 := fun h => c10 (Int32.toInt_inj.mp h)
          refine lv_lload_n hx hb dX8_plus_41 rfl (lv_at hl 1 rfl) ?_
          refine sp_calli (wr := []) (wc := []) hP hD hS hA [] [] rfl rfl (by decide) (by decide) (va_runS (As := [.long q]) (rest := []) ⟨hx, hb, hml, hown, hts⟩ (c_X8_isInfinite l D cI cJ cZ H.size (q)) (va_cwS 1 hts gX8_plus_X8_isInfinite_94 rfl rfl rfl (by decide +kernel) ⟨Nat.le_of_ble_eq_true rfl, Nat.le_of_ble_eq_true rfl⟩) (sp_preS [.long q] hK (hP.sub (ws' := []) [] rfl) (hD.sub (ws' := []) [] (by decide) rfl)) rfl rfl hl.1 rfl (lv_room (Nat.le_of_ble_eq_true rfl)) dX8_plus_42 ⟨Nat.le_of_ble_eq_true rfl, Nat.le_of_ble_eq_true rfl⟩) (fun r20 u21 H locs hw22 hP hD hS => ?_)
          have hP : va_P D vwCl [] H := hP
          have hD : va_D A [] := hD
          have hj48 : ∀ (z47 : Int64) (H : Heap) (locs : List Loc) (ls : Array Slot), va_P D vwCl [] H → va_D A [] → va_S A s.heap H locs → lv_has ls 19 [(0, .long g), (2, .long q)] → W p l e ({ frames := 2, cells := 0, slots := 0, locals := 51 }) s m (([.long g, .long q] : List Value).toArray) below meth c H locs 0 0 (MQ below (va_Ql (fun (r : Int64) (_ : Unit) => True) (sp_B D vwCl A (fun (_ : Unit) => [])) A) ([.long g, .long q] : List Value).toArray s 0 0 A) (F0 m 72 ls [.long z47]) := by
            intro z47 H locs ls  hP hD hS hl
            exact hj51 (z47) _ _ _ (hP.sub [] rfl) (hD.sub [] (by decide) rfl) hS (lv_sub hl [0, 1] rfl)
          refine lv_if_eq (tgt := 60) hx hb dX8_plus_45 (by decide) (fun c23 => ?_) (fun c23 => ?_)
          · skip
            have c23i : (r20 : Int32).toInt = 0 := congrArg Int32.toInt c23
            refine lv_lload_n hx hb dX8_plus_60 rfl (lv_at hl 0 rfl) ?_
            refine sp_calli (wr := []) (wc := []) hP hD hS hA [] [] rfl rfl (by decide) (by decide) (va_runS (As := [.long g]) (rest := []) ⟨hx, hb, hml, hown, hts⟩ (c_X8_isInfinite l D cI cJ cZ H.size (g)) (va_cwS 1 hts gX8_plus_X8_isInfinite_94 rfl rfl rfl (by decide +kernel) ⟨Nat.le_of_ble_eq_true rfl, Nat.le_of_ble_eq_true rfl⟩) (sp_preS [.long g] hK (hP.sub (ws' := []) [] rfl) (hD.sub (ws' := []) [] (by decide) rfl)) rfl rfl hl.1 rfl (lv_room (Nat.le_of_ble_eq_true rfl)) dX8_plus_61 ⟨Nat.le_of_ble_eq_true rfl, Nat.le_of_ble_eq_true rfl⟩) (fun r24 u25 H locs hw26 hP hD hS => ?_)
            have hP : va_P D vwCl [] H := hP
            have hD : va_D A [] := hD
            have hj31 : ∀ (z30 : Int64) (H : Heap) (locs : List Loc) (ls : Array Slot), va_P D vwCl [] H → va_D A [] → va_S A s.heap H locs → lv_has ls 19 [(0, .long g), (2, .long q)] → W p l e ({ frames := 2, cells := 0, slots := 0, locals := 51 }) s m (([.long g, .long q] : List Value).toArray) below meth c H locs 0 0 (MQ below (va_Ql (fun (r : Int64) (_ : Unit) => True) (sp_B D vwCl A (fun (_ : Unit) => [])) A) ([.long g, .long q] : List Value).toArray s 0 0 A) (F0 m 72 ls [.long z30]) := by
              intro z30 H locs ls  hP hD hS hl
              exact hj48 (z30) _ _ _ (hP.sub [] rfl) (hD.sub [] (by decide) rfl) hS (lv_sub hl [0, 1] rfl)
            refine lv_if_eq (tgt := 71) hx hb dX8_plus_64 (by decide) (fun c27 => ?_) (fun c27 => ?_)
            · skip
              have c27i : (r24 : Int32).toInt = 0 := congrArg Int32.toInt c27
              refine lv_lload_n hx hb dX8_plus_71 rfl (lv_at hl 1 rfl) ?_
              exact hj31 (q) _ _ _ (hP.sub [] rfl) (hD.sub [] (by decide) rfl) hS (lv_sub hl [0, 1] rfl)
            · skip
              have c27i : ¬ (r24 : Int32).toInt = 0 := fun h => c27 (Int32.toInt_inj.mp h)
              refine lv_lload_n hx hb dX8_plus_67 rfl (lv_at hl 0 rfl) ?_
              refine lv_goto (tgt := 72) hx hb dX8_plus_68 (by decide) ?_
              exact hj31 (g) _ _ _ (hP.sub [] rfl) (hD.sub [] (by decide) rfl) hS (lv_sub hl [0, 1] rfl)
          · skip
            have c23i : ¬ (r20 : Int32).toInt = 0 := fun h => c23 (Int32.toInt_inj.mp h)
            refine lv_lload_n hx hb dX8_plus_48 rfl (lv_at hl 0 rfl) ?_
            refine lv_lload_n hx hb dX8_plus_49 rfl (lv_at hl 1 rfl) ?_
            refine W.lcmp hx hb dX8_plus_50 ?_
            have hj45 : ∀ (z44 : Int64) (H : Heap) (locs : List Loc) (ls : Array Slot), va_P D vwCl [] H → va_D A [] → va_S A s.heap H locs → lv_has ls 19 [(0, .long g), (2, .long q)] → W p l e ({ frames := 2, cells := 0, slots := 0, locals := 51 }) s m (([.long g, .long q] : List Value).toArray) below meth c H locs 0 0 (MQ below (va_Ql (fun (r : Int64) (_ : Unit) => True) (sp_B D vwCl A (fun (_ : Unit) => [])) A) ([.long g, .long q] : List Value).toArray s 0 0 A) (F0 m 72 ls [.long z44]) := by
              intro z44 H locs ls  hP hD hS hl
              exact hj48 (z44) _ _ _ (hP.sub [] rfl) (hD.sub [] (by decide) rfl) hS (lv_sub hl [0, 1] rfl)
            refine lv_if_eq (tgt := 60) hx hb dX8_plus_51 (by decide) (fun c33 => ?_) (fun c33 => ?_)
            · skip
              have c33 := (lg_cmp_eq _ _).mp c33
              have c33i : (g : Int64).toInt = (q : Int64).toInt := congrArg Int64.toInt c33
              refine lv_lload_n hx hb dX8_plus_60 rfl (lv_at hl 0 rfl) ?_
              refine sp_calli (wr := []) (wc := []) hP hD hS hA [] [] rfl rfl (by decide) (by decide) (va_runS (As := [.long g]) (rest := []) ⟨hx, hb, hml, hown, hts⟩ (c_X8_isInfinite l D cI cJ cZ H.size (g)) (va_cwS 1 hts gX8_plus_X8_isInfinite_94 rfl rfl rfl (by decide +kernel) ⟨Nat.le_of_ble_eq_true rfl, Nat.le_of_ble_eq_true rfl⟩) (sp_preS [.long g] hK (hP.sub (ws' := []) [] rfl) (hD.sub (ws' := []) [] (by decide) rfl)) rfl rfl hl.1 rfl (lv_room (Nat.le_of_ble_eq_true rfl)) dX8_plus_61 ⟨Nat.le_of_ble_eq_true rfl, Nat.le_of_ble_eq_true rfl⟩) (fun r34 u35 H locs hw36 hP hD hS => ?_)
              have hP : va_P D vwCl [] H := hP
              have hD : va_D A [] := hD
              have hj41 : ∀ (z40 : Int64) (H : Heap) (locs : List Loc) (ls : Array Slot), va_P D vwCl [] H → va_D A [] → va_S A s.heap H locs → lv_has ls 19 [(0, .long g), (2, .long q)] → W p l e ({ frames := 2, cells := 0, slots := 0, locals := 51 }) s m (([.long g, .long q] : List Value).toArray) below meth c H locs 0 0 (MQ below (va_Ql (fun (r : Int64) (_ : Unit) => True) (sp_B D vwCl A (fun (_ : Unit) => [])) A) ([.long g, .long q] : List Value).toArray s 0 0 A) (F0 m 72 ls [.long z40]) := by
                intro z40 H locs ls  hP hD hS hl
                exact hj45 (z40) _ _ _ (hP.sub [] rfl) (hD.sub [] (by decide) rfl) hS (lv_sub hl [0, 1] rfl)
              refine lv_if_eq (tgt := 71) hx hb dX8_plus_64 (by decide) (fun c37 => ?_) (fun c37 => ?_)
              · skip
                have c37i : (r34 : Int32).toInt = 0 := congrArg Int32.toInt c37
                refine lv_lload_n hx hb dX8_plus_71 rfl (lv_at hl 1 rfl) ?_
                exact hj41 (q) _ _ _ (hP.sub [] rfl) (hD.sub [] (by decide) rfl) hS (lv_sub hl [0, 1] rfl)
              · skip
                have c37i : ¬ (r34 : Int32).toInt = 0 := fun h => c37 (Int32.toInt_inj.mp h)
                refine lv_lload_n hx hb dX8_plus_67 rfl (lv_at hl 0 rfl) ?_
                refine lv_goto (tgt := 72) hx hb dX8_plus_68 (by decide) ?_
                exact hj41 (g) _ _ _ (hP.sub [] rfl) (hD.sub [] (by decide) rfl) hS (lv_sub hl [0, 1] rfl)
            · skip
              have c33 := fun h => c33 ((lg_cmp_eq _ _).mpr h)
              have c33i : ¬ (g : Int64).toInt = (q : Int64).toInt := fun h => c33 (Int64.toInt_inj.mp h)
              refine lv_ldc2 (v := 9000000000) hx hb hown (hts (.constantLong RX8 82 (9000000000)) (oX8_plus_in _ (List.mem_of_getElem? (i := 0) rfl))) dX8_plus_54 ?_
              refine lv_goto (tgt := 72) hx hb dX8_plus_57 (by decide) ?_
              exact hj45 (9000000000) _ _ _ (hP.sub [] rfl) (hD.sub [] (by decide) rfl) hS (lv_sub hl [0, 1] rfl)
      · skip
        have c6i : (r3 : Int32).toInt = 0 := congrArg Int32.toInt c6
        refine lv_lload_n hx hb dX8_plus_27 rfl (lv_at hl 1 rfl) ?_
        refine sp_calli (wr := []) (wc := []) hP hD hS hA [] [] rfl rfl (by decide) (by decide) (va_runS (As := [.long q]) (rest := []) ⟨hx, hb, hml, hown, hts⟩ (c_X8_isInfinite l D cI cJ cZ H.size (q)) (va_cwS 1 hts gX8_plus_X8_isInfinite_94 rfl rfl rfl (by decide +kernel) ⟨Nat.le_of_ble_eq_true rfl, Nat.le_of_ble_eq_true rfl⟩) (sp_preS [.long q] hK (hP.sub (ws' := []) [] rfl) (hD.sub (ws' := []) [] (by decide) rfl)) rfl rfl hl.1 rfl (lv_room (Nat.le_of_ble_eq_true rfl)) dX8_plus_28 ⟨Nat.le_of_ble_eq_true rfl, Nat.le_of_ble_eq_true rfl⟩) (fun r52 u53 H locs hw54 hP hD hS => ?_)
        have hP : va_P D vwCl [] H := hP
        have hD : va_D A [] := hD
        refine lv_if_eq (tgt := 73) hx hb dX8_plus_31 (by decide) (fun c55 => ?_) (fun c55 => ?_)
        · skip
          have c55i : (r52 : Int32).toInt = 0 := congrArg Int32.toInt c55
          refine lv_lload_n hx hb dX8_plus_73 rfl (lv_at hl 0 rfl) ?_
          refine sp_calli (wr := []) (wc := []) hP hD hS hA [] [] rfl rfl (by decide) (by decide) (va_runS (As := [.long g]) (rest := []) ⟨hx, hb, hml, hown, hts⟩ (c_X8_power l D cI cJ cZ H.size (g)) (va_cwS 1 hts gX8_plus_X8_power_98 rfl rfl rfl (by decide +kernel) ⟨Nat.le_of_ble_eq_true rfl, Nat.le_of_ble_eq_true rfl⟩) (sp_preS [.long g] hK (hP.sub (ws' := []) [] rfl) (hD.sub (ws' := []) [] (by decide) rfl)) rfl rfl hl.1 rfl (lv_room (Nat.le_of_ble_eq_true rfl)) dX8_plus_74 ⟨Nat.le_of_ble_eq_true rfl, Nat.le_of_ble_eq_true rfl⟩) (fun r56 u57 H locs hw58 hP hD hS => ?_)
          have hP : va_P D vwCl [] H := hP
          have hD : va_D A [] := hD
          refine lv_lload_n hx hb dX8_plus_77 rfl (lv_at hl 1 rfl) ?_
          refine sp_calli (wr := []) (wc := []) hP hD hS hA [] [] rfl rfl (by decide) (by decide) (va_runS (As := [.long q]) (rest := [.int r56]) ⟨hx, hb, hml, hown, hts⟩ (c_X8_power l D cI cJ cZ H.size (q)) (va_cwS 1 hts gX8_plus_X8_power_98 rfl rfl rfl (by decide +kernel) ⟨Nat.le_of_ble_eq_true rfl, Nat.le_of_ble_eq_true rfl⟩) (sp_preS [.long q] hK (hP.sub (ws' := []) [] rfl) (hD.sub (ws' := []) [] (by decide) rfl)) rfl rfl hl.1 rfl (lv_room (Nat.le_of_ble_eq_true rfl)) dX8_plus_78 ⟨Nat.le_of_ble_eq_true rfl, Nat.le_of_ble_eq_true rfl⟩) (fun r59 u60 H locs hw61 hP hD hS => ?_)
          have hP : va_P D vwCl [] H := hP
          have hD : va_D A [] := hD
          have hj66 : ∀ (z65 : Int64) (H : Heap) (locs : List Loc) (ls : Array Slot), va_P D vwCl [] H → va_D A [] → va_S A s.heap H locs → lv_has ls 19 [(0, .long g), (2, .long q)] → W p l e ({ frames := 2, cells := 0, slots := 0, locals := 51 }) s m (([.long g, .long q] : List Value).toArray) below meth c H locs 0 0 (MQ below (va_Ql (fun (r : Int64) (_ : Unit) => True) (sp_B D vwCl A (fun (_ : Unit) => [])) A) ([.long g, .long q] : List Value).toArray s 0 0 A) (F0 m 89 ls [.long z65]) := by
            intro z65 H locs ls  hP hD hS hl
            refine lv_lstore (lv' := [(4, .long z65), (0, .long g), (2, .long q)]) hx hb dX8_plus_89 hl (by decide) rfl (fun ls hl => ?_)
            refine lv_lload_n hx hb dX8_plus_91 rfl (lv_at hl 1 rfl) ?_
            refine sp_calli (wr := []) (wc := []) hP hD hS hA [] [] rfl rfl (by decide) (by decide) (va_runS (As := [.long g]) (rest := []) ⟨hx, hb, hml, hown, hts⟩ (c_X8_power l D cI cJ cZ H.size (g)) (va_cwS 1 hts gX8_plus_X8_power_98 rfl rfl rfl (by decide +kernel) ⟨Nat.le_of_ble_eq_true rfl, Nat.le_of_ble_eq_true rfl⟩) (sp_preS [.long g] hK (hP.sub (ws' := []) [] rfl) (hD.sub (ws' := []) [] (by decide) rfl)) rfl rfl hl.1 rfl (lv_room (Nat.le_of_ble_eq_true rfl)) dX8_plus_92 ⟨Nat.le_of_ble_eq_true rfl, Nat.le_of_ble_eq_true rfl⟩) (fun r67 u68 H locs hw69 hP hD hS => ?_)
            have hP : va_P D vwCl [] H := hP
            have hD : va_D A [] := hD
            refine lv_lload_n hx hb dX8_plus_95 rfl (lv_at hl 2 rfl) ?_
            refine sp_calli (wr := []) (wc := []) hP hD hS hA [] [] rfl rfl (by decide) (by decide) (va_runS (As := [.long q]) (rest := [.int r67]) ⟨hx, hb, hml, hown, hts⟩ (c_X8_power l D cI cJ cZ H.size (q)) (va_cwS 1 hts gX8_plus_X8_power_98 rfl rfl rfl (by decide +kernel) ⟨Nat.le_of_ble_eq_true rfl, Nat.le_of_ble_eq_true rfl⟩) (sp_preS [.long q] hK (hP.sub (ws' := []) [] rfl) (hD.sub (ws' := []) [] (by decide) rfl)) rfl rfl hl.1 rfl (lv_room (Nat.le_of_ble_eq_true rfl)) dX8_plus_96 ⟨Nat.le_of_ble_eq_true rfl, Nat.le_of_ble_eq_true rfl⟩) (fun r70 u71 H locs hw72 hP hD hS => ?_)
            have hP : va_P D vwCl [] H := hP
            have hD : va_D A [] := hD
            have hj77 : ∀ (z76 : Int64) (H : Heap) (locs : List Loc) (ls : Array Slot), va_P D vwCl [] H → va_D A [] → va_S A s.heap H locs → lv_has ls 19 [(4, .long z65), (0, .long g), (2, .long q)] → W p l e ({ frames := 2, cells := 0, slots := 0, locals := 51 }) s m (([.long g, .long q] : List Value).toArray) below meth c H locs 0 0 (MQ below (va_Ql (fun (r : Int64) (_ : Unit) => True) (sp_B D vwCl A (fun (_ : Unit) => [])) A) ([.long g, .long q] : List Value).toArray s 0 0 A) (F0 m 107 ls [.long z76]) := by
              intro z76 H locs ls  hP hD hS hl
              refine lv_lstore (lv' := [(6, .long z76), (4, .long z65), (0, .long g), (2, .long q)]) hx hb dX8_plus_107 hl (by decide) rfl (fun ls hl => ?_)
              refine lv_lload hx hb dX8_plus_109 (lv_at hl 1 rfl) ?_
              refine sp_calli (wr := []) (wc := []) hP hD hS hA [] [] rfl rfl (by decide) (by decide) (va_runS (As := [.long z65]) (rest := []) ⟨hx, hb, hml, hown, hts⟩ (c_X8_power l D cI cJ cZ H.size (z65)) (va_cwS 1 hts gX8_plus_X8_power_98 rfl rfl rfl (by decide +kernel) ⟨Nat.le_of_ble_eq_true rfl, Nat.le_of_ble_eq_true rfl⟩) (sp_preS [.long z65] hK (hP.sub (ws' := []) [] rfl) (hD.sub (ws' := []) [] (by decide) rfl)) rfl rfl hl.1 rfl (lv_room (Nat.le_of_ble_eq_true rfl)) dX8_plus_111 ⟨Nat.le_of_ble_eq_true rfl, Nat.le_of_ble_eq_true rfl⟩) (fun r78 u79 H locs hw80 hP hD hS => ?_)
              have hP : va_P D vwCl [] H := hP
              have hD : va_D A [] := hD
              refine lv_lload hx hb dX8_plus_114 (lv_at hl 0 rfl) ?_
              refine sp_calli (wr := []) (wc := []) hP hD hS hA [] [] rfl rfl (by decide) (by decide) (va_runS (As := [.long z76]) (rest := [.int r78]) ⟨hx, hb, hml, hown, hts⟩ (c_X8_power l D cI cJ cZ H.size (z76)) (va_cwS 1 hts gX8_plus_X8_power_98 rfl rfl rfl (by decide +kernel) ⟨Nat.le_of_ble_eq_true rfl, Nat.le_of_ble_eq_true rfl⟩) (sp_preS [.long z76] hK (hP.sub (ws' := []) [] rfl) (hD.sub (ws' := []) [] (by decide) rfl)) rfl rfl hl.1 rfl (lv_room (Nat.le_of_ble_eq_true rfl)) dX8_plus_116 ⟨Nat.le_of_ble_eq_true rfl, Nat.le_of_ble_eq_true rfl⟩) (fun r81 u82 H locs hw83 hP hD hS => ?_)
              have hP : va_P D vwCl [] H := hP
              have hD : va_D A [] := hD
              refine lv_isub hx hb dX8_plus_119 ?_
              refine lv_istore (lv' := [(8, .int (r78 - r81)), (6, .long z76), (4, .long z65), (0, .long g), (2, .long q)]) hx hb dX8_plus_120 hl (by decide) rfl (fun ls hl => ?_)
              refine lv_iload hx hb dX8_plus_122 (lv_at hl 0 rfl) ?_
              refine lv_bipush (v := 38) hx hb dX8_plus_124 (by decide) ?_
              have hj88 : ∀ (z87 : Int32) (H : Heap) (locs : List Loc) (ls : Array Slot), va_P D vwCl [] H → va_D A [] → va_S A s.heap H locs → lv_has ls 19 [(8, .int (r78 - r81)), (6, .long z76), (4, .long z65), (0, .long g), (2, .long q)] → W p l e ({ frames := 2, cells := 0, slots := 0, locals := 51 }) s m (([.long g, .long q] : List Value).toArray) below meth c H locs 0 0 (MQ below (va_Ql (fun (r : Int64) (_ : Unit) => True) (sp_B D vwCl A (fun (_ : Unit) => [])) A) ([.long g, .long q] : List Value).toArray s 0 0 A) (F0 m 136 ls [.int z87]) := by
                intro z87 H locs ls  hP hD hS hl
                refine lv_istore (lv' := [(9, .int z87), (8, .int (r78 - r81)), (6, .long z76), (4, .long z65), (0, .long g), (2, .long q)]) hx hb dX8_plus_136 hl (by decide) rfl (fun ls hl => ?_)
                refine lv_lload hx hb dX8_plus_138 (lv_at hl 3 rfl) ?_
                refine sp_callj (wr := []) (wc := []) hP hD hS hA [] [] rfl rfl (by decide) (by decide) (va_runS (As := [.long z65]) (rest := []) ⟨hx, hb, hml, hown, hts⟩ (c_X8_digits l D cI cJ cZ H.size (z65)) (va_cwS 1 hts gX8_plus_X8_digits_102 rfl rfl rfl (by decide +kernel) ⟨Nat.le_of_ble_eq_true rfl, Nat.le_of_ble_eq_true rfl⟩) (sp_preS [.long z65] hK (hP.sub (ws' := []) [] rfl) (hD.sub (ws' := []) [] (by decide) rfl)) rfl rfl hl.1 rfl (lv_room (Nat.le_of_ble_eq_true rfl)) dX8_plus_140 ⟨Nat.le_of_ble_eq_true rfl, Nat.le_of_ble_eq_true rfl⟩) (fun r89 u90 H locs hw91 hP hD hS => ?_)
                have h92 : 0 ≤ (r89 : Int64).toInt ∧ (¬ ((z65 : Int64).toInt = 0 ∨ (z65 : Int64).toInt = -1) → 1 ≤ (r89 : Int64).toInt) := hw91
                have hP : va_P D vwCl [] H := hP
                have hD : va_D A [] := hD
                refine lv_iload hx hb dX8_plus_143 (lv_at hl 0 rfl) ?_
                refine lv_lshl (v := _) hx hb dX8_plus_145 rfl ?_
                refine lv_lstore (lv' := [(10, .long (r89 <<< ((z87 : Int32).toInt64 &&& 63))), (9, .int z87), (8, .int (r78 - r81)), (6, .long z76), (4, .long z65), (0, .long g), (2, .long q)]) hx hb dX8_plus_146 hl (by decide) rfl (fun ls hl => ?_)
                refine lv_lload hx hb dX8_plus_148 (lv_at hl 4 rfl) ?_
                refine sp_calli (wr := []) (wc := []) hP hD hS hA [] [] rfl rfl (by decide) (by decide) (va_runS (As := [.long z65]) (rest := []) ⟨hx, hb, hml, hown, hts⟩ (c_X8_power l D cI cJ cZ H.size (z65)) (va_cwS 1 hts gX8_plus_X8_power_98 rfl rfl rfl (by decide +kernel) ⟨Nat.le_of_ble_eq_true rfl, Nat.le_of_ble_eq_true rfl⟩) (sp_preS [.long z65] hK (hP.sub (ws' := []) [] rfl) (hD.sub (ws' := []) [] (by decide) rfl)) rfl rfl hl.1 rfl (lv_room (Nat.le_of_ble_eq_true rfl)) dX8_plus_150 ⟨Nat.le_of_ble_eq_true rfl, Nat.le_of_ble_eq_true rfl⟩) (fun r93 u94 H locs hw95 hP hD hS => ?_)
                have hP : va_P D vwCl [] H := hP
                have hD : va_D A [] := hD
                refine lv_iload hx hb dX8_plus_153 (lv_at hl 1 rfl) ?_
                refine lv_isub hx hb dX8_plus_155 ?_
                refine lv_istore (lv' := [(12, .int (r93 - z87)), (10, .long (r89 <<< ((z87 : Int32).toInt64 &&& 63))), (9, .int z87), (8, .int (r78 - r81)), (6, .long z76), (4, .long z65), (0, .long g), (2, .long q)]) hx hb dX8_plus_156 hl (by decide) rfl (fun ls hl => ?_)
                refine lv_iload hx hb dX8_plus_158 (lv_at hl 3 rfl) ?_
                refine lv_iload hx hb dX8_plus_160 (lv_at hl 2 rfl) ?_
                refine lv_isub hx hb dX8_plus_162 ?_
                refine lv_istore (lv' := [(13, .int ((r78 - r81) - z87)), (12, .int (r93 - z87)), (10, .long (r89 <<< ((z87 : Int32).toInt64 &&& 63))), (9, .int z87), (8, .int (r78 - r81)), (6, .long z76), (4, .long z65), (0, .long g), (2, .long q)]) hx hb dX8_plus_163 hl (by decide) rfl (fun ls hl => ?_)
                refine lv_iload hx hb dX8_plus_165 (lv_at hl 0 rfl) ?_
                refine lv_bipush (v := 40) hx hb dX8_plus_167 (by decide) ?_
                have hj104 : ∀ (z103 : Int64) (H : Heap) (locs : List Loc) (ls : Array Slot), va_P D vwCl [] H → va_D A [] → va_S A s.heap H locs → lv_has ls 19 [(13, .int ((r78 - r81) - z87)), (12, .int (r93 - z87)), (10, .long (r89 <<< ((z87 : Int32).toInt64 &&& 63))), (9, .int z87), (8, .int (r78 - r81)), (6, .long z76), (4, .long z65), (0, .long g), (2, .long q)] → W p l e ({ frames := 2, cells := 0, slots := 0, locals := 51 }) s m (([.long g, .long q] : List Value).toArray) below meth c H locs 0 0 (MQ below (va_Ql (fun (r : Int64) (_ : Unit) => True) (sp_B D vwCl A (fun (_ : Unit) => [])) A) ([.long g, .long q] : List Value).toArray s 0 0 A) (F0 m 184 ls [.long z103]) := by
                  intro z103 H locs ls  hP hD hS hl
                  refine lv_lstore (lv' := [(14, .long z103), (13, .int ((r78 - r81) - z87)), (12, .int (r93 - z87)), (10, .long (r89 <<< ((z87 : Int32).toInt64 &&& 63))), (9, .int z87), (8, .int (r78 - r81)), (6, .long z76), (4, .long z65), (0, .long g), (2, .long q)]) hx hb dX8_plus_184 hl (by decide) rfl (fun ls hl => ?_)
                  refine lv_iload hx hb dX8_plus_186 (lv_at hl 1 rfl) ?_
                  refine lv_bipush (v := 40) hx hb dX8_plus_188 (by decide) ?_
                  have hj127 : ∀ (z126 : Int32) (H : Heap) (locs : List Loc) (ls : Array Slot), va_P D vwCl [] H → va_D A [] → va_S A s.heap H locs → lv_has ls 19 [(14, .long z103), (13, .int ((r78 - r81) - z87)), (12, .int (r93 - z87)), (10, .long (r89 <<< ((z87 : Int32).toInt64 &&& 63))), (9, .int z87), (8, .int (r78 - r81)), (6, .long z76), (4, .long z65), (0, .long g), (2, .long q)] → W p l e ({ frames := 2, cells := 0, slots := 0, locals := 51 }) s m (([.long g, .long q] : List Value).toArray) below meth c H locs 0 0 (MQ below (va_Ql (fun (r : Int64) (_ : Unit) => True) (sp_B D vwCl A (fun (_ : Unit) => [])) A) ([.long g, .long q] : List Value).toArray s 0 0 A) (F0 m 230 ls [.int z126]) := by
                    intro z126 H locs ls  hP hD hS hl
                    refine lv_istore (lv' := [(16, .int z126), (14, .long z103), (13, .int ((r78 - r81) - z87)), (12, .int (r93 - z87)), (10, .long (r89 <<< ((z87 : Int32).toInt64 &&& 63))), (9, .int z87), (8, .int (r78 - r81)), (6, .long z76), (4, .long z65), (0, .long g), (2, .long q)]) hx hb dX8_plus_230 hl (by decide) rfl (fun ls hl => ?_)
                    refine lv_lload hx hb dX8_plus_232 (lv_at hl 8 rfl) ?_
                    refine lv_lconst (v := 0) hx hb dX8_plus_234 (by decide) ?_
                    refine W.lcmp hx hb dX8_plus_235 ?_
                    have hj132 : ∀ (z131 : Int32) (H : Heap) (locs : List Loc) (ls : Array Slot), va_P D vwCl [] H → va_D A [] → va_S A s.heap H locs → lv_has ls 19 [(16, .int z126), (14, .long z103), (13, .int ((r78 - r81) - z87)), (12, .int (r93 - z87)), (10, .long (r89 <<< ((z87 : Int32).toInt64 &&& 63))), (9, .int z87), (8, .int (r78 - r81)), (6, .long z76), (4, .long z65), (0, .long g), (2, .long q)] → W p l e ({ frames := 2, cells := 0, slots := 0, locals := 51 }) s m (([.long g, .long q] : List Value).toArray) below meth c H locs 0 0 (MQ below (va_Ql (fun (r : Int64) (_ : Unit) => True) (sp_B D vwCl A (fun (_ : Unit) => [])) A) ([.long g, .long q] : List Value).toArray s 0 0 A) (F0 m 244 ls [.int z131]) := by
                      intro z131 H locs ls  hP hD hS hl
                      refine lv_lload hx hb dX8_plus_244 (lv_at hl 7 rfl) ?_
                      refine lv_lconst (v := 0) hx hb dX8_plus_246 (by decide) ?_
                      refine W.lcmp hx hb dX8_plus_247 ?_
                      have hj137 : ∀ (z136 : Int32) (H : Heap) (locs : List Loc) (ls : Array Slot), va_P D vwCl [] H → va_D A [] → va_S A s.heap H locs → lv_has ls 19 [(16, .int z126), (14, .long z103), (13, .int ((r78 - r81) - z87)), (12, .int (r93 - z87)), (10, .long (r89 <<< ((z87 : Int32).toInt64 &&& 63))), (9, .int z87), (8, .int (r78 - r81)), (6, .long z76), (4, .long z65), (0, .long g), (2, .long q)] → W p l e ({ frames := 2, cells := 0, slots := 0, locals := 51 }) s m (([.long g, .long q] : List Value).toArray) below meth c H locs 0 0 (MQ below (va_Ql (fun (r : Int64) (_ : Unit) => True) (sp_B D vwCl A (fun (_ : Unit) => [])) A) ([.long g, .long q] : List Value).toArray s 0 0 A) (F0 m 256 ls [.int z136, .int z131]) := by
                        intro z136 H locs ls  hP hD hS hl
                        refine lv_icmp_ne (tgt := 284) hx hb dX8_plus_256 (by decide) (fun c138 => ?_) (fun c138 => ?_)
                        · skip
                          have c138i : ¬ (z131 : Int32).toInt = (z136 : Int32).toInt := fun h => c138 (Int32.toInt_inj.mp h)
                          refine lv_lload hx hb dX8_plus_284 (lv_at hl 4 rfl) ?_
                          refine lv_lload hx hb dX8_plus_286 (lv_at hl 1 rfl) ?_
                          refine lv_lsub hx hb dX8_plus_288 ?_
                          refine lv_iload hx hb dX8_plus_289 (lv_at hl 0 rfl) ?_
                          have hj143 : ∀ (z142 : Int64) (H : Heap) (locs : List Loc) (ls : Array Slot), va_P D vwCl [] H → va_D A [] → va_S A s.heap H locs → lv_has ls 19 [(16, .int z126), (14, .long z103), (13, .int ((r78 - r81) - z87)), (12, .int (r93 - z87)), (10, .long (r89 <<< ((z87 : Int32).toInt64 &&& 63))), (9, .int z87), (8, .int (r78 - r81)), (6, .long z76), (4, .long z65), (0, .long g), (2, .long q)] → W p l e ({ frames := 2, cells := 0, slots := 0, locals := 51 }) s m (([.long g, .long q] : List Value).toArray) below meth c H locs 0 0 (MQ below (va_Ql (fun (r : Int64) (_ : Unit) => True) (sp_B D vwCl A (fun (_ : Unit) => [])) A) ([.long g, .long q] : List Value).toArray s 0 0 A) (F0 m 299 ls [.long z142, .long ((r89 <<< ((z87 : Int32).toInt64 &&& 63)) - z103)]) := by
                            intro z142 H locs ls  hP hD hS hl
                            refine lv_lsub hx hb dX8_plus_299 ?_
                            refine lv_lstore (lv' := [(17, .long (((r89 <<< ((z87 : Int32).toInt64 &&& 63)) - z103) - z142)), (16, .int z126), (14, .long z103), (13, .int ((r78 - r81) - z87)), (12, .int (r93 - z87)), (10, .long (r89 <<< ((z87 : Int32).toInt64 &&& 63))), (9, .int z87), (8, .int (r78 - r81)), (6, .long z76), (4, .long z65), (0, .long g), (2, .long q)]) hx hb dX8_plus_300 hl (by decide) rfl (fun ls hl => ?_)
                            refine lv_lload hx hb dX8_plus_302 (lv_at hl 0 rfl) ?_
                            refine lv_lconst (v := 0) hx hb dX8_plus_304 (by decide) ?_
                            refine W.lcmp hx hb dX8_plus_305 ?_
                            refine lv_if_ne (tgt := 316) hx hb dX8_plus_306 (by decide) (fun c144 => ?_) (fun c144 => ?_)
                            · skip
                              have c144 := fun h => c144 ((lg_cmp_eq _ _).mpr h)
                              have c144i : ¬ ((((r89 <<< ((z87 : Int32).toInt64 &&& 63)) - z103) - z142) : Int64).toInt = 0 := fun h => c144 (Int64.toInt_inj.mp h)
                              refine lv_lload hx hb dX8_plus_316 (lv_at hl 0 rfl) ?_
                              refine lv_lconst (v := 0) hx hb dX8_plus_318 (by decide) ?_
                              refine W.lcmp hx hb dX8_plus_319 ?_
                              have hj165 : ∀ (z164 : Int64) (H : Heap) (locs : List Loc) (ls : Array Slot), va_P D vwCl [] H → va_D A [] → va_S A s.heap H locs → lv_has ls 19 [(17, .long (((r89 <<< ((z87 : Int32).toInt64 &&& 63)) - z103) - z142)), (16, .int z126), (14, .long z103), (13, .int ((r78 - r81) - z87)), (12, .int (r93 - z87)), (10, .long (r89 <<< ((z87 : Int32).toInt64 &&& 63))), (9, .int z87), (8, .int (r78 - r81)), (6, .long z76), (4, .long z65), (0, .long g), (2, .long q)] → W p l e ({ frames := 2, cells := 0, slots := 0, locals := 51 }) s m (([.long g, .long q] : List Value).toArray) below meth c H locs 0 0 (MQ below (va_Ql (fun (r : Int64) (_ : Unit) => True) (sp_B D vwCl A (fun (_ : Unit) => [])) A) ([.long g, .long q] : List Value).toArray s 0 0 A) (F0 m 368 ls [.long z164]) := by
                                intro z164 H locs ls  hP hD hS hl
                                refine W.widen (k := 0) (n := 0) (by decide) (by decide) ?_
                                exact sp_lret (u := ()) hx hb hr hlocks hS trivial (hP.sub [] rfl) (hD.sub [] (by decide) rfl) dX8_plus_368
                              refine lv_if_ge (tgt := 347) hx hb dX8_plus_320 (by decide) (fun c145 => ?_) (fun c145 => ?_)
                              · skip
                                have c145 := (lg_cmp_ge _ _).mp c145
                                have c145i : 0 ≤ ((((r89 <<< ((z87 : Int32).toInt64 &&& 63)) - z103) - z142) : Int64).toInt := Int64.le_iff_toInt_le.mp c145
                                refine lv_lload hx hb dX8_plus_347 (lv_at hl 9 rfl) ?_
                                refine lv_lconst (v := 0) hx hb dX8_plus_349 (by decide) ?_
                                refine W.lcmp hx hb dX8_plus_350 ?_
                                have hj150 : ∀ (z149 : Int32) (H : Heap) (locs : List Loc) (ls : Array Slot), va_P D vwCl [] H → va_D A [] → va_S A s.heap H locs → lv_has ls 19 [(17, .long (((r89 <<< ((z87 : Int32).toInt64 &&& 63)) - z103) - z142)), (16, .int z126), (14, .long z103), (13, .int ((r78 - r81) - z87)), (12, .int (r93 - z87)), (10, .long (r89 <<< ((z87 : Int32).toInt64 &&& 63))), (9, .int z87), (8, .int (r78 - r81)), (6, .long z76), (4, .long z65), (0, .long g), (2, .long q)] → W p l e ({ frames := 2, cells := 0, slots := 0, locals := 51 }) s m (([.long g, .long q] : List Value).toArray) below meth c H locs 0 0 (MQ below (va_Ql (fun (r : Int64) (_ : Unit) => True) (sp_B D vwCl A (fun (_ : Unit) => [])) A) ([.long g, .long q] : List Value).toArray s 0 0 A) (F0 m 359 ls [.int z149]) := by
                                  intro z149 H locs ls  hP hD hS hl
                                  refine lv_lload hx hb dX8_plus_359 (lv_at hl 0 rfl) ?_
                                  refine lv_iload hx hb dX8_plus_361 (lv_at hl 4 rfl) ?_
                                  refine lv_iload hx hb dX8_plus_363 (lv_at hl 1 rfl) ?_
                                  refine sp_callj (wr := []) (wc := []) hP hD hS hA [] [] rfl rfl (by decide) (by decide) (va_runS (As := [.int z149, .long (((r89 <<< ((z87 : Int32).toInt64 &&& 63)) - z103) - z142), .int (r93 - z87), .int z126]) (rest := []) ⟨hx, hb, hml, hown, hts⟩ (c_X8_pack l D cI cJ cZ H.size (z149) ((((r89 <<< ((z87 : Int32).toInt64 &&& 63)) - z103) - z142)) ((r93 - z87)) (z126)) (va_cwS 4 hts gX8_plus_X8_pack_105 rfl rfl rfl (by decide +kernel) ⟨Nat.le_of_ble_eq_true rfl, Nat.le_of_ble_eq_true rfl⟩) (sp_preS [.int z149, .long (((r89 <<< ((z87 : Int32).toInt64 &&& 63)) - z103) - z142), .int (r93 - z87), .int z126] hK (hP.sub (ws' := []) [] rfl) (hD.sub (ws' := []) [] (by decide) rfl)) rfl rfl hl.1 rfl (lv_room (Nat.le_of_ble_eq_true rfl)) dX8_plus_365 ⟨Nat.le_of_ble_eq_true rfl, Nat.le_of_ble_eq_true rfl⟩) (fun r151 u152 H locs hw153 hP hD hS => ?_)
                                  have hP : va_P D vwCl [] H := hP
                                  have hD : va_D A [] := hD
                                  exact hj165 (r151) _ _ _ (hP.sub [] rfl) (hD.sub [] (by decide) rfl) hS (lv_sub hl [0, 1, 2, 3, 4, 5, 6, 7, 8, 9, 10, 11] rfl)
                                refine lv_if_ge (tgt := 358) hx hb dX8_plus_351 (by decide) (fun c146 => ?_) (fun c146 => ?_)
                                · skip
                                  have c146 := (lg_cmp_ge _ _).mp c146
                                  have c146i : 0 ≤ (z65 : Int64).toInt := Int64.le_iff_toInt_le.mp c146
                                  refine lv_iconst (v := 0) hx hb dX8_plus_358 (by decide) ?_
                                  exact hj150 (0) _ _ _ (hP.sub [] rfl) (hD.sub [] (by decide) rfl) hS (lv_sub hl [0, 1, 2, 3, 4, 5, 6, 7, 8, 9, 10, 11] rfl)
                                · skip
                                  have c146 := fun h => c146 ((lg_cmp_ge _ _).mpr h)
                                  have c146i : ¬ 0 ≤ (z65 : Int64).toInt := fun h => c146 (Int64.le_iff_toInt_le.mpr h)
                                  refine lv_iconst (v := 1) hx hb dX8_plus_354 (by decide) ?_
                                  refine lv_goto (tgt := 359) hx hb dX8_plus_355 (by decide) ?_
                                  exact hj150 (1) _ _ _ (hP.sub [] rfl) (hD.sub [] (by decide) rfl) hS (lv_sub hl [0, 1, 2, 3, 4, 5, 6, 7, 8, 9, 10, 11] rfl)
                              · skip
                                have c145 := fun h => c145 ((lg_cmp_ge _ _).mpr h)
                                have c145i : ¬ 0 ≤ ((((r89 <<< ((z87 : Int32).toInt64 &&& 63)) - z103) - z142) : Int64).toInt := fun h => c145 (Int64.le_iff_toInt_le.mpr h)
                                refine lv_lload hx hb dX8_plus_323 (lv_at hl 8 rfl) ?_
                                refine lv_lconst (v := 0) hx hb dX8_plus_325 (by decide) ?_
                                refine W.lcmp hx hb dX8_plus_326 ?_
                                have hj159 : ∀ (z158 : Int32) (H : Heap) (locs : List Loc) (ls : Array Slot), va_P D vwCl [] H → va_D A [] → va_S A s.heap H locs → lv_has ls 19 [(17, .long (((r89 <<< ((z87 : Int32).toInt64 &&& 63)) - z103) - z142)), (16, .int z126), (14, .long z103), (13, .int ((r78 - r81) - z87)), (12, .int (r93 - z87)), (10, .long (r89 <<< ((z87 : Int32).toInt64 &&& 63))), (9, .int z87), (8, .int (r78 - r81)), (6, .long z76), (4, .long z65), (0, .long g), (2, .long q)] → W p l e ({ frames := 2, cells := 0, slots := 0, locals := 51 }) s m (([.long g, .long q] : List Value).toArray) below meth c H locs 0 0 (MQ below (va_Ql (fun (r : Int64) (_ : Unit) => True) (sp_B D vwCl A (fun (_ : Unit) => [])) A) ([.long g, .long q] : List Value).toArray s 0 0 A) (F0 m 335 ls [.int z158]) := by
                                  intro z158 H locs ls  hP hD hS hl
                                  refine lv_lload hx hb dX8_plus_335 (lv_at hl 0 rfl) ?_
                                  refine lv_lneg hx hb dX8_plus_337 ?_
                                  refine lv_iload hx hb dX8_plus_338 (lv_at hl 4 rfl) ?_
                                  refine lv_iconst (v := 0) hx hb dX8_plus_340 (by decide) ?_
                                  refine sp_callj (wr := []) (wc := []) hP hD hS hA [] [] rfl rfl (by decide) (by decide) (va_runS (As := [.int z158, .long (-(((r89 <<< ((z87 : Int32).toInt64 &&& 63)) - z103) - z142)), .int (r93 - z87), .int 0]) (rest := []) ⟨hx, hb, hml, hown, hts⟩ (c_X8_pack l D cI cJ cZ H.size (z158) ((-(((r89 <<< ((z87 : Int32).toInt64 &&& 63)) - z103) - z142))) ((r93 - z87)) (0)) (va_cwS 4 hts gX8_plus_X8_pack_105 rfl rfl rfl (by decide +kernel) ⟨Nat.le_of_ble_eq_true rfl, Nat.le_of_ble_eq_true rfl⟩) (sp_preS [.int z158, .long (-(((r89 <<< ((z87 : Int32).toInt64 &&& 63)) - z103) - z142)), .int (r93 - z87), .int 0] hK (hP.sub (ws' := []) [] rfl) (hD.sub (ws' := []) [] (by decide) rfl)) rfl rfl hl.1 rfl (lv_room (Nat.le_of_ble_eq_true rfl)) dX8_plus_341 ⟨Nat.le_of_ble_eq_true rfl, Nat.le_of_ble_eq_true rfl⟩) (fun r160 u161 H locs hw162 hP hD hS => ?_)
                                  have hP : va_P D vwCl [] H := hP
                                  have hD : va_D A [] := hD
                                  refine lv_goto (tgt := 368) hx hb dX8_plus_344 (by decide) ?_
                                  exact hj165 (r160) _ _ _ (hP.sub [] rfl) (hD.sub [] (by decide) rfl) hS (lv_sub hl [0, 1, 2, 3, 4, 5, 6, 7, 8, 9, 10, 11] rfl)
                                refine lv_if_ge (tgt := 334) hx hb dX8_plus_327 (by decide) (fun c155 => ?_) (fun c155 => ?_)
                                · skip
                                  have c155 := (lg_cmp_ge _ _).mp c155
                                  have c155i : 0 ≤ (z76 : Int64).toInt := Int64.le_iff_toInt_le.mp c155
                                  refine lv_iconst (v := 0) hx hb dX8_plus_334 (by decide) ?_
                                  exact hj159 (0) _ _ _ (hP.sub [] rfl) (hD.sub [] (by decide) rfl) hS (lv_sub hl [0, 1, 2, 3, 4, 5, 6, 7, 8, 9, 10, 11] rfl)
                                · skip
                                  have c155 := fun h => c155 ((lg_cmp_ge _ _).mpr h)
                                  have c155i : ¬ 0 ≤ (z76 : Int64).toInt := fun h => c155 (Int64.le_iff_toInt_le.mpr h)
                                  refine lv_iconst (v := 1) hx hb dX8_plus_330 (by decide) ?_
                                  refine lv_goto (tgt := 335) hx hb dX8_plus_331 (by decide) ?_
                                  exact hj159 (1) _ _ _ (hP.sub [] rfl) (hD.sub [] (by decide) rfl) hS (lv_sub hl [0, 1, 2, 3, 4, 5, 6, 7, 8, 9, 10, 11] rfl)
                            · skip
                              have c144 := (lg_cmp_eq _ _).mp c144
                              have c144i : ((((r89 <<< ((z87 : Int32).toInt64 &&& 63)) - z103) - z142) : Int64).toInt = 0 := congrArg Int64.toInt c144
                              refine lv_iload hx hb dX8_plus_309 (lv_at hl 1 rfl) ?_
                              refine lv_if_ne (tgt := 316) hx hb dX8_plus_311 (by decide) (fun c166 => ?_) (fun c166 => ?_)
                              · skip
                                have c166i : ¬ (z126 : Int32).toInt = 0 := fun h => c166 (Int32.toInt_inj.mp h)
                                refine lv_lload hx hb dX8_plus_316 (lv_at hl 0 rfl) ?_
                                refine lv_lconst (v := 0) hx hb dX8_plus_318 (by decide) ?_
                                refine W.lcmp hx hb dX8_plus_319 ?_
                                have hj187 : ∀ (z186 : Int64) (H : Heap) (locs : List Loc) (ls : Array Slot), va_P D vwCl [] H → va_D A [] → va_S A s.heap H locs → lv_has ls 19 [(17, .long (((r89 <<< ((z87 : Int32).toInt64 &&& 63)) - z103) - z142)), (16, .int z126), (14, .long z103), (13, .int ((r78 - r81) - z87)), (12, .int (r93 - z87)), (10, .long (r89 <<< ((z87 : Int32).toInt64 &&& 63))), (9, .int z87), (8, .int (r78 - r81)), (6, .long z76), (4, .long z65), (0, .long g), (2, .long q)] → W p l e ({ frames := 2, cells := 0, slots := 0, locals := 51 }) s m (([.long g, .long q] : List Value).toArray) below meth c H locs 0 0 (MQ below (va_Ql (fun (r : Int64) (_ : Unit) => True) (sp_B D vwCl A (fun (_ : Unit) => [])) A) ([.long g, .long q] : List Value).toArray s 0 0 A) (F0 m 368 ls [.long z186]) := by
                                  intro z186 H locs ls  hP hD hS hl
                                  refine W.widen (k := 0) (n := 0) (by decide) (by decide) ?_
                                  exact sp_lret (u := ()) hx hb hr hlocks hS trivial (hP.sub [] rfl) (hD.sub [] (by decide) rfl) dX8_plus_368
                                refine lv_if_ge (tgt := 347) hx hb dX8_plus_320 (by decide) (fun c167 => ?_) (fun c167 => ?_)
                                · skip
                                  have c167 := (lg_cmp_ge _ _).mp c167
                                  have c167i : 0 ≤ ((((r89 <<< ((z87 : Int32).toInt64 &&& 63)) - z103) - z142) : Int64).toInt := Int64.le_iff_toInt_le.mp c167
                                  refine lv_lload hx hb dX8_plus_347 (lv_at hl 9 rfl) ?_
                                  refine lv_lconst (v := 0) hx hb dX8_plus_349 (by decide) ?_
                                  refine W.lcmp hx hb dX8_plus_350 ?_
                                  have hj172 : ∀ (z171 : Int32) (H : Heap) (locs : List Loc) (ls : Array Slot), va_P D vwCl [] H → va_D A [] → va_S A s.heap H locs → lv_has ls 19 [(17, .long (((r89 <<< ((z87 : Int32).toInt64 &&& 63)) - z103) - z142)), (16, .int z126), (14, .long z103), (13, .int ((r78 - r81) - z87)), (12, .int (r93 - z87)), (10, .long (r89 <<< ((z87 : Int32).toInt64 &&& 63))), (9, .int z87), (8, .int (r78 - r81)), (6, .long z76), (4, .long z65), (0, .long g), (2, .long q)] → W p l e ({ frames := 2, cells := 0, slots := 0, locals := 51 }) s m (([.long g, .long q] : List Value).toArray) below meth c H locs 0 0 (MQ below (va_Ql (fun (r : Int64) (_ : Unit) => True) (sp_B D vwCl A (fun (_ : Unit) => [])) A) ([.long g, .long q] : List Value).toArray s 0 0 A) (F0 m 359 ls [.int z171]) := by
                                    intro z171 H locs ls  hP hD hS hl
                                    refine lv_lload hx hb dX8_plus_359 (lv_at hl 0 rfl) ?_
                                    refine lv_iload hx hb dX8_plus_361 (lv_at hl 4 rfl) ?_
                                    refine lv_iload hx hb dX8_plus_363 (lv_at hl 1 rfl) ?_
                                    refine sp_callj (wr := []) (wc := []) hP hD hS hA [] [] rfl rfl (by decide) (by decide) (va_runS (As := [.int z171, .long (((r89 <<< ((z87 : Int32).toInt64 &&& 63)) - z103) - z142), .int (r93 - z87), .int z126]) (rest := []) ⟨hx, hb, hml, hown, hts⟩ (c_X8_pack l D cI cJ cZ H.size (z171) ((((r89 <<< ((z87 : Int32).toInt64 &&& 63)) - z103) - z142)) ((r93 - z87)) (z126)) (va_cwS 4 hts gX8_plus_X8_pack_105 rfl rfl rfl (by decide +kernel) ⟨Nat.le_of_ble_eq_true rfl, Nat.le_of_ble_eq_true rfl⟩) (sp_preS [.int z171, .long (((r89 <<< ((z87 : Int32).toInt64 &&& 63)) - z103) - z142), .int (r93 - z87), .int z126] hK (hP.sub (ws' := []) [] rfl) (hD.sub (ws' := []) [] (by decide) rfl)) rfl rfl hl.1 rfl (lv_room (Nat.le_of_ble_eq_true rfl)) dX8_plus_365 ⟨Nat.le_of_ble_eq_true rfl, Nat.le_of_ble_eq_true rfl⟩) (fun r173 u174 H locs hw175 hP hD hS => ?_)
                                    have hP : va_P D vwCl [] H := hP
                                    have hD : va_D A [] := hD
                                    exact hj187 (r173) _ _ _ (hP.sub [] rfl) (hD.sub [] (by decide) rfl) hS (lv_sub hl [0, 1, 2, 3, 4, 5, 6, 7, 8, 9, 10, 11] rfl)
                                  refine lv_if_ge (tgt := 358) hx hb dX8_plus_351 (by decide) (fun c168 => ?_) (fun c168 => ?_)
                                  · skip
                                    have c168 := (lg_cmp_ge _ _).mp c168
                                    have c168i : 0 ≤ (z65 : Int64).toInt := Int64.le_iff_toInt_le.mp c168
                                    refine lv_iconst (v := 0) hx hb dX8_plus_358 (by decide) ?_
                                    exact hj172 (0) _ _ _ (hP.sub [] rfl) (hD.sub [] (by decide) rfl) hS (lv_sub hl [0, 1, 2, 3, 4, 5, 6, 7, 8, 9, 10, 11] rfl)
                                  · skip
                                    have c168 := fun h => c168 ((lg_cmp_ge _ _).mpr h)
                                    have c168i : ¬ 0 ≤ (z65 : Int64).toInt := fun h => c168 (Int64.le_iff_toInt_le.mpr h)
                                    refine lv_iconst (v := 1) hx hb dX8_plus_354 (by decide) ?_
                                    refine lv_goto (tgt := 359) hx hb dX8_plus_355 (by decide) ?_
                                    exact hj172 (1) _ _ _ (hP.sub [] rfl) (hD.sub [] (by decide) rfl) hS (lv_sub hl [0, 1, 2, 3, 4, 5, 6, 7, 8, 9, 10, 11] rfl)
                                · skip
                                  have c167 := fun h => c167 ((lg_cmp_ge _ _).mpr h)
                                  have c167i : ¬ 0 ≤ ((((r89 <<< ((z87 : Int32).toInt64 &&& 63)) - z103) - z142) : Int64).toInt := fun h => c167 (Int64.le_iff_toInt_le.mpr h)
                                  refine lv_lload hx hb dX8_plus_323 (lv_at hl 8 rfl) ?_
                                  refine lv_lconst (v := 0) hx hb dX8_plus_325 (by decide) ?_
                                  refine W.lcmp hx hb dX8_plus_326 ?_
                                  have hj181 : ∀ (z180 : Int32) (H : Heap) (locs : List Loc) (ls : Array Slot), va_P D vwCl [] H → va_D A [] → va_S A s.heap H locs → lv_has ls 19 [(17, .long (((r89 <<< ((z87 : Int32).toInt64 &&& 63)) - z103) - z142)), (16, .int z126), (14, .long z103), (13, .int ((r78 - r81) - z87)), (12, .int (r93 - z87)), (10, .long (r89 <<< ((z87 : Int32).toInt64 &&& 63))), (9, .int z87), (8, .int (r78 - r81)), (6, .long z76), (4, .long z65), (0, .long g), (2, .long q)] → W p l e ({ frames := 2, cells := 0, slots := 0, locals := 51 }) s m (([.long g, .long q] : List Value).toArray) below meth c H locs 0 0 (MQ below (va_Ql (fun (r : Int64) (_ : Unit) => True) (sp_B D vwCl A (fun (_ : Unit) => [])) A) ([.long g, .long q] : List Value).toArray s 0 0 A) (F0 m 335 ls [.int z180]) := by
                                    intro z180 H locs ls  hP hD hS hl
                                    refine lv_lload hx hb dX8_plus_335 (lv_at hl 0 rfl) ?_
                                    refine lv_lneg hx hb dX8_plus_337 ?_
                                    refine lv_iload hx hb dX8_plus_338 (lv_at hl 4 rfl) ?_
                                    refine lv_iconst (v := 0) hx hb dX8_plus_340 (by decide) ?_
                                    refine sp_callj (wr := []) (wc := []) hP hD hS hA [] [] rfl rfl (by decide) (by decide) (va_runS (As := [.int z180, .long (-(((r89 <<< ((z87 : Int32).toInt64 &&& 63)) - z103) - z142)), .int (r93 - z87), .int 0]) (rest := []) ⟨hx, hb, hml, hown, hts⟩ (c_X8_pack l D cI cJ cZ H.size (z180) ((-(((r89 <<< ((z87 : Int32).toInt64 &&& 63)) - z103) - z142))) ((r93 - z87)) (0)) (va_cwS 4 hts gX8_plus_X8_pack_105 rfl rfl rfl (by decide +kernel) ⟨Nat.le_of_ble_eq_true rfl, Nat.le_of_ble_eq_true rfl⟩) (sp_preS [.int z180, .long (-(((r89 <<< ((z87 : Int32).toInt64 &&& 63)) - z103) - z142)), .int (r93 - z87), .int 0] hK (hP.sub (ws' := []) [] rfl) (hD.sub (ws' := []) [] (by decide) rfl)) rfl rfl hl.1 rfl (lv_room (Nat.le_of_ble_eq_true rfl)) dX8_plus_341 ⟨Nat.le_of_ble_eq_true rfl, Nat.le_of_ble_eq_true rfl⟩) (fun r182 u183 H locs hw184 hP hD hS => ?_)
                                    have hP : va_P D vwCl [] H := hP
                                    have hD : va_D A [] := hD
                                    refine lv_goto (tgt := 368) hx hb dX8_plus_344 (by decide) ?_
                                    exact hj187 (r182) _ _ _ (hP.sub [] rfl) (hD.sub [] (by decide) rfl) hS (lv_sub hl [0, 1, 2, 3, 4, 5, 6, 7, 8, 9, 10, 11] rfl)
                                  refine lv_if_ge (tgt := 334) hx hb dX8_plus_327 (by decide) (fun c177 => ?_) (fun c177 => ?_)
                                  · skip
                                    have c177 := (lg_cmp_ge _ _).mp c177
                                    have c177i : 0 ≤ (z76 : Int64).toInt := Int64.le_iff_toInt_le.mp c177
                                    refine lv_iconst (v := 0) hx hb dX8_plus_334 (by decide) ?_
                                    exact hj181 (0) _ _ _ (hP.sub [] rfl) (hD.sub [] (by decide) rfl) hS (lv_sub hl [0, 1, 2, 3, 4, 5, 6, 7, 8, 9, 10, 11] rfl)
                                  · skip
                                    have c177 := fun h => c177 ((lg_cmp_ge _ _).mpr h)
                                    have c177i : ¬ 0 ≤ (z76 : Int64).toInt := fun h => c177 (Int64.le_iff_toInt_le.mpr h)
                                    refine lv_iconst (v := 1) hx hb dX8_plus_330 (by decide) ?_
                                    refine lv_goto (tgt := 335) hx hb dX8_plus_331 (by decide) ?_
                                    exact hj181 (1) _ _ _ (hP.sub [] rfl) (hD.sub [] (by decide) rfl) hS (lv_sub hl [0, 1, 2, 3, 4, 5, 6, 7, 8, 9, 10, 11] rfl)
                              · skip
                                have c166i : (z126 : Int32).toInt = 0 := congrArg Int32.toInt c166
                                refine lv_lconst (v := 0) hx hb dX8_plus_314 (by decide) ?_
                                refine W.widen (k := 0) (n := 0) (by decide) (by decide) ?_
                                exact sp_lret (u := ()) hx hb hr hlocks hS trivial (hP.sub [] rfl) (hD.sub [] (by decide) rfl) dX8_plus_315
                          refine lv_if_eq (tgt := 298) hx hb dX8_plus_291 (by decide) (fun c139 => ?_) (fun c139 => ?_)
                          · skip
                            have c139i : (z126 : Int32).toInt = 0 := congrArg Int32.toInt c139
                            refine lv_lconst (v := 0) hx hb dX8_plus_298 (by decide) ?_
                            exact hj143 (0) _ _ _ (hP.sub [] rfl) (hD.sub [] (by decide) rfl) hS (lv_sub hl [0, 1, 2, 3, 4, 5, 6, 7, 8, 9, 10] rfl)
                          · skip
                            have c139i : ¬ (z126 : Int32).toInt = 0 := fun h => c139 (Int32.toInt_inj.mp h)
                            refine lv_lconst (v := 1) hx hb dX8_plus_294 (by decide) ?_
                            refine lv_goto (tgt := 299) hx hb dX8_plus_295 (by decide) ?_
                            exact hj143 (1) _ _ _ (hP.sub [] rfl) (hD.sub [] (by decide) rfl) hS (lv_sub hl [0, 1, 2, 3, 4, 5, 6, 7, 8, 9, 10] rfl)
                        · skip
                          have c138i : (z131 : Int32).toInt = (z136 : Int32).toInt := congrArg Int32.toInt c138
                          refine lv_lload hx hb dX8_plus_259 (lv_at hl 8 rfl) ?_
                          refine lv_lconst (v := 0) hx hb dX8_plus_261 (by decide) ?_
                          refine W.lcmp hx hb dX8_plus_262 ?_
                          have hj192 : ∀ (z191 : Int32) (H : Heap) (locs : List Loc) (ls : Array Slot), va_P D vwCl [] H → va_D A [] → va_S A s.heap H locs → lv_has ls 19 [(16, .int z126), (14, .long z103), (13, .int ((r78 - r81) - z87)), (12, .int (r93 - z87)), (10, .long (r89 <<< ((z87 : Int32).toInt64 &&& 63))), (9, .int z87), (8, .int (r78 - r81)), (6, .long z76), (4, .long z65), (0, .long g), (2, .long q)] → W p l e ({ frames := 2, cells := 0, slots := 0, locals := 51 }) s m (([.long g, .long q] : List Value).toArray) below meth c H locs 0 0 (MQ below (va_Ql (fun (r : Int64) (_ : Unit) => True) (sp_B D vwCl A (fun (_ : Unit) => [])) A) ([.long g, .long q] : List Value).toArray s 0 0 A) (F0 m 271 ls [.int z191]) := by
                            intro z191 H locs ls  hP hD hS hl
                            refine lv_lload hx hb dX8_plus_271 (lv_at hl 4 rfl) ?_
                            refine lv_lload hx hb dX8_plus_273 (lv_at hl 1 rfl) ?_
                            refine lv_ladd hx hb dX8_plus_275 ?_
                            refine lv_iload hx hb dX8_plus_276 (lv_at hl 3 rfl) ?_
                            refine lv_iload hx hb dX8_plus_278 (lv_at hl 0 rfl) ?_
                            refine sp_callj (wr := []) (wc := []) hP hD hS hA [] [] rfl rfl (by decide) (by decide) (va_runS (As := [.int z191, .long ((r89 <<< ((z87 : Int32).toInt64 &&& 63)) + z103), .int (r93 - z87), .int z126]) (rest := []) ⟨hx, hb, hml, hown, hts⟩ (c_X8_pack l D cI cJ cZ H.size (z191) (((r89 <<< ((z87 : Int32).toInt64 &&& 63)) + z103)) ((r93 - z87)) (z126)) (va_cwS 4 hts gX8_plus_X8_pack_105 rfl rfl rfl (by decide +kernel) ⟨Nat.le_of_ble_eq_true rfl, Nat.le_of_ble_eq_true rfl⟩) (sp_preS [.int z191, .long ((r89 <<< ((z87 : Int32).toInt64 &&& 63)) + z103), .int (r93 - z87), .int z126] hK (hP.sub (ws' := []) [] rfl) (hD.sub (ws' := []) [] (by decide) rfl)) rfl rfl hl.1 rfl (lv_room (Nat.le_of_ble_eq_true rfl)) dX8_plus_280 ⟨Nat.le_of_ble_eq_true rfl, Nat.le_of_ble_eq_true rfl⟩) (fun r193 u194 H locs hw195 hP hD hS => ?_)
                            have hP : va_P D vwCl [] H := hP
                            have hD : va_D A [] := hD
                            refine W.widen (k := 0) (n := 0) (by decide) (by decide) ?_
                            exact sp_lret (u := ()) hx hb hr hlocks hS trivial (hP.sub [] rfl) (hD.sub [] (by decide) rfl) dX8_plus_283
                          refine lv_if_ge (tgt := 270) hx hb dX8_plus_263 (by decide) (fun c188 => ?_) (fun c188 => ?_)
                          · skip
                            have c188 := (lg_cmp_ge _ _).mp c188
                            have c188i : 0 ≤ (z65 : Int64).toInt := Int64.le_iff_toInt_le.mp c188
                            refine lv_iconst (v := 0) hx hb dX8_plus_270 (by decide) ?_
                            exact hj192 (0) _ _ _ (hP.sub [] rfl) (hD.sub [] (by decide) rfl) hS (lv_sub hl [0, 1, 2, 3, 4, 5, 6, 7, 8, 9, 10] rfl)
                          · skip
                            have c188 := fun h => c188 ((lg_cmp_ge _ _).mpr h)
                            have c188i : ¬ 0 ≤ (z65 : Int64).toInt := fun h => c188 (Int64.le_iff_toInt_le.mpr h)
                            refine lv_iconst (v := 1) hx hb dX8_plus_266 (by decide) ?_
                            refine lv_goto (tgt := 271) hx hb dX8_plus_267 (by decide) ?_
                            exact hj192 (1) _ _ _ (hP.sub [] rfl) (hD.sub [] (by decide) rfl) hS (lv_sub hl [0, 1, 2, 3, 4, 5, 6, 7, 8, 9, 10] rfl)
                      refine lv_if_ge (tgt := 255) hx hb dX8_plus_248 (by decide) (fun c133 => ?_) (fun c133 => ?_)
                      · skip
                        have c133 := (lg_cmp_ge _ _).mp c133
                        have c133i : 0 ≤ (z76 : Int64).toInt := Int64.le_iff_toInt_le.mp c133
                        refine lv_iconst (v := 0) hx hb dX8_plus_255 (by decide) ?_
                        exact hj137 (0) _ _ _ (hP.sub [] rfl) (hD.sub [] (by decide) rfl) hS (lv_sub hl [0, 1, 2, 3, 4, 5, 6, 7, 8, 9, 10] rfl)
                      · skip
                        have c133 := fun h => c133 ((lg_cmp_ge _ _).mpr h)
                        have c133i : ¬ 0 ≤ (z76 : Int64).toInt := fun h => c133 (Int64.le_iff_toInt_le.mpr h)
                        refine lv_iconst (v := 1) hx hb dX8_plus_251 (by decide) ?_
                        refine lv_goto (tgt := 256) hx hb dX8_plus_252 (by decide) ?_
                        exact hj137 (1) _ _ _ (hP.sub [] rfl) (hD.sub [] (by decide) rfl) hS (lv_sub hl [0, 1, 2, 3, 4, 5, 6, 7, 8, 9, 10] rfl)
                    refine lv_if_ge (tgt := 243) hx hb dX8_plus_236 (by decide) (fun c128 => ?_) (fun c128 => ?_)
                    · skip
                      have c128 := (lg_cmp_ge _ _).mp c128
                      have c128i : 0 ≤ (z65 : Int64).toInt := Int64.le_iff_toInt_le.mp c128
                      refine lv_iconst (v := 0) hx hb dX8_plus_243 (by decide) ?_
                      exact hj132 (0) _ _ _ (hP.sub [] rfl) (hD.sub [] (by decide) rfl) hS (lv_sub hl [0, 1, 2, 3, 4, 5, 6, 7, 8, 9, 10] rfl)
                    · skip
                      have c128 := fun h => c128 ((lg_cmp_ge _ _).mpr h)
                      have c128i : ¬ 0 ≤ (z65 : Int64).toInt := fun h => c128 (Int64.le_iff_toInt_le.mpr h)
                      refine lv_iconst (v := 1) hx hb dX8_plus_239 (by decide) ?_
                      refine lv_goto (tgt := 244) hx hb dX8_plus_240 (by decide) ?_
                      exact hj132 (1) _ _ _ (hP.sub [] rfl) (hD.sub [] (by decide) rfl) hS (lv_sub hl [0, 1, 2, 3, 4, 5, 6, 7, 8, 9, 10] rfl)
                  refine lv_icmp_le (tgt := 211) hx hb dX8_plus_190 (by decide) (fun c105 => ?_) (fun c105 => ?_)
                  · skip
                    have c105i : (((r78 - r81) - z87) : Int32).toInt ≤ 40 := Int32.le_iff_toInt_le.mp c105
                    refine lv_lload hx hb dX8_plus_211 (lv_at hl 0 rfl) ?_
                    refine lv_iload hx hb dX8_plus_213 (lv_at hl 1 rfl) ?_
                    refine lv_lshl (v := _) hx hb dX8_plus_215 rfl ?_
                    refine lv_lload hx hb dX8_plus_216 (lv_at hl 6 rfl) ?_
                    refine sp_callj (wr := []) (wc := []) hP hD hS hA [] [] rfl rfl (by decide) (by decide) (va_runS (As := [.long z76]) (rest := [.long (z103 <<< ((((r78 - r81) - z87) : Int32).toInt64 &&& 63))]) ⟨hx, hb, hml, hown, hts⟩ (c_X8_digits l D cI cJ cZ H.size (z76)) (va_cwS 1 hts gX8_plus_X8_digits_102 rfl rfl rfl (by decide +kernel) ⟨Nat.le_of_ble_eq_true rfl, Nat.le_of_ble_eq_true rfl⟩) (sp_preS [.long z76] hK (hP.sub (ws' := []) [] rfl) (hD.sub (ws' := []) [] (by decide) rfl)) rfl rfl hl.1 rfl (lv_room (Nat.le_of_ble_eq_true rfl)) dX8_plus_218 ⟨Nat.le_of_ble_eq_true rfl, Nat.le_of_ble_eq_true rfl⟩) (fun r106 u107 H locs hw108 hP hD hS => ?_)
                    have h109 : 0 ≤ (r106 : Int64).toInt ∧ (¬ ((z76 : Int64).toInt = 0 ∨ (z76 : Int64).toInt = -1) → 1 ≤ (r106 : Int64).toInt) := hw108
                    have hP : va_P D vwCl [] H := hP
                    have hD : va_D A [] := hD
                    refine W.lcmp hx hb dX8_plus_221 ?_
                    have hj114 : ∀ (z113 : Int32) (H : Heap) (locs : List Loc) (ls : Array Slot), va_P D vwCl [] H → va_D A [] → va_S A s.heap H locs → lv_has ls 19 [(14, .long z103), (13, .int ((r78 - r81) - z87)), (12, .int (r93 - z87)), (10, .long (r89 <<< ((z87 : Int32).toInt64 &&& 63))), (9, .int z87), (8, .int (r78 - r81)), (6, .long z76), (4, .long z65), (0, .long g), (2, .long q)] → W p l e ({ frames := 2, cells := 0, slots := 0, locals := 51 }) s m (([.long g, .long q] : List Value).toArray) below meth c H locs 0 0 (MQ below (va_Ql (fun (r : Int64) (_ : Unit) => True) (sp_B D vwCl A (fun (_ : Unit) => [])) A) ([.long g, .long q] : List Value).toArray s 0 0 A) (F0 m 230 ls [.int z113]) := by
                      intro z113 H locs ls  hP hD hS hl
                      exact hj127 (z113) _ _ _ (hP.sub [] rfl) (hD.sub [] (by decide) rfl) hS (lv_sub hl [0, 1, 2, 3, 4, 5, 6, 7, 8, 9] rfl)
                    refine lv_if_eq (tgt := 229) hx hb dX8_plus_222 (by decide) (fun c110 => ?_) (fun c110 => ?_)
                    · skip
                      have c110 := (lg_cmp_eq _ _).mp c110
                      have c110i : ((z103 <<< ((((r78 - r81) - z87) : Int32).toInt64 &&& 63)) : Int64).toInt = (r106 : Int64).toInt := congrArg Int64.toInt c110
                      refine lv_iconst (v := 0) hx hb dX8_plus_229 (by decide) ?_
                      exact hj114 (0) _ _ _ (hP.sub [] rfl) (hD.sub [] (by decide) rfl) hS (lv_sub hl [0, 1, 2, 3, 4, 5, 6, 7, 8, 9] rfl)
                    · skip
                      have c110 := fun h => c110 ((lg_cmp_eq _ _).mpr h)
                      have c110i : ¬ ((z103 <<< ((((r78 - r81) - z87) : Int32).toInt64 &&& 63)) : Int64).toInt = (r106 : Int64).toInt := fun h => c110 (Int64.toInt_inj.mp h)
                      refine lv_iconst (v := 1) hx hb dX8_plus_225 (by decide) ?_
                      refine lv_goto (tgt := 230) hx hb dX8_plus_226 (by decide) ?_
                      exact hj114 (1) _ _ _ (hP.sub [] rfl) (hD.sub [] (by decide) rfl) hS (lv_sub hl [0, 1, 2, 3, 4, 5, 6, 7, 8, 9] rfl)
                  · skip
                    have c105i : ¬ (((r78 - r81) - z87) : Int32).toInt ≤ 40 := fun h => c105 (Int32.le_iff_toInt_le.mpr h)
                    refine lv_lload hx hb dX8_plus_193 (lv_at hl 6 rfl) ?_
                    refine sp_callj (wr := []) (wc := []) hP hD hS hA [] [] rfl rfl (by decide) (by decide) (va_runS (As := [.long z76]) (rest := []) ⟨hx, hb, hml, hown, hts⟩ (c_X8_digits l D cI cJ cZ H.size (z76)) (va_cwS 1 hts gX8_plus_X8_digits_102 rfl rfl rfl (by decide +kernel) ⟨Nat.le_of_ble_eq_true rfl, Nat.le_of_ble_eq_true rfl⟩) (sp_preS [.long z76] hK (hP.sub (ws' := []) [] rfl) (hD.sub (ws' := []) [] (by decide) rfl)) rfl rfl hl.1 rfl (lv_room (Nat.le_of_ble_eq_true rfl)) dX8_plus_195 ⟨Nat.le_of_ble_eq_true rfl, Nat.le_of_ble_eq_true rfl⟩) (fun r116 u117 H locs hw118 hP hD hS => ?_)
                    have h119 : 0 ≤ (r116 : Int64).toInt ∧ (¬ ((z76 : Int64).toInt = 0 ∨ (z76 : Int64).toInt = -1) → 1 ≤ (r116 : Int64).toInt) := hw118
                    have hP : va_P D vwCl [] H := hP
                    have hD : va_D A [] := hD
                    refine lv_lconst (v := 0) hx hb dX8_plus_198 (by decide) ?_
                    refine W.lcmp hx hb dX8_plus_199 ?_
                    have hj124 : ∀ (z123 : Int32) (H : Heap) (locs : List Loc) (ls : Array Slot), va_P D vwCl [] H → va_D A [] → va_S A s.heap H locs → lv_has ls 19 [(14, .long z103), (13, .int ((r78 - r81) - z87)), (12, .int (r93 - z87)), (10, .long (r89 <<< ((z87 : Int32).toInt64 &&& 63))), (9, .int z87), (8, .int (r78 - r81)), (6, .long z76), (4, .long z65), (0, .long g), (2, .long q)] → W p l e ({ frames := 2, cells := 0, slots := 0, locals := 51 }) s m (([.long g, .long q] : List Value).toArray) below meth c H locs 0 0 (MQ below (va_Ql (fun (r : Int64) (_ : Unit) => True) (sp_B D vwCl A (fun (_ : Unit) => [])) A) ([.long g, .long q] : List Value).toArray s 0 0 A) (F0 m 230 ls [.int z123]) := by
                      intro z123 H locs ls  hP hD hS hl
                      exact hj127 (z123) _ _ _ (hP.sub [] rfl) (hD.sub [] (by decide) rfl) hS (lv_sub hl [0, 1, 2, 3, 4, 5, 6, 7, 8, 9] rfl)
                    refine lv_if_eq (tgt := 207) hx hb dX8_plus_200 (by decide) (fun c120 => ?_) (fun c120 => ?_)
                    · skip
                      have c120 := (lg_cmp_eq _ _).mp c120
                      have c120i : (r116 : Int64).toInt = 0 := congrArg Int64.toInt c120
                      refine lv_iconst (v := 0) hx hb dX8_plus_207 (by decide) ?_
                      refine lv_goto (tgt := 230) hx hb dX8_plus_208 (by decide) ?_
                      exact hj124 (0) _ _ _ (hP.sub [] rfl) (hD.sub [] (by decide) rfl) hS (lv_sub hl [0, 1, 2, 3, 4, 5, 6, 7, 8, 9] rfl)
                    · skip
                      have c120 := fun h => c120 ((lg_cmp_eq _ _).mpr h)
                      have c120i : ¬ (r116 : Int64).toInt = 0 := fun h => c120 (Int64.toInt_inj.mp h)
                      refine lv_iconst (v := 1) hx hb dX8_plus_203 (by decide) ?_
                      refine lv_goto (tgt := 230) hx hb dX8_plus_204 (by decide) ?_
                      exact hj124 (1) _ _ _ (hP.sub [] rfl) (hD.sub [] (by decide) rfl) hS (lv_sub hl [0, 1, 2, 3, 4, 5, 6, 7, 8, 9] rfl)
                refine lv_icmp_le (tgt := 176) hx hb dX8_plus_169 (by decide) (fun c96 => ?_) (fun c96 => ?_)
                · skip
                  have c96i : (((r78 - r81) - z87) : Int32).toInt ≤ 40 := Int32.le_iff_toInt_le.mp c96
                  refine lv_lload hx hb dX8_plus_176 (lv_at hl 5 rfl) ?_
                  refine sp_callj (wr := []) (wc := []) hP hD hS hA [] [] rfl rfl (by decide) (by decide) (va_runS (As := [.long z76]) (rest := []) ⟨hx, hb, hml, hown, hts⟩ (c_X8_digits l D cI cJ cZ H.size (z76)) (va_cwS 1 hts gX8_plus_X8_digits_102 rfl rfl rfl (by decide +kernel) ⟨Nat.le_of_ble_eq_true rfl, Nat.le_of_ble_eq_true rfl⟩) (sp_preS [.long z76] hK (hP.sub (ws' := []) [] rfl) (hD.sub (ws' := []) [] (by decide) rfl)) rfl rfl hl.1 rfl (lv_room (Nat.le_of_ble_eq_true rfl)) dX8_plus_178 ⟨Nat.le_of_ble_eq_true rfl, Nat.le_of_ble_eq_true rfl⟩) (fun r97 u98 H locs hw99 hP hD hS => ?_)
                  have h100 : 0 ≤ (r97 : Int64).toInt ∧ (¬ ((z76 : Int64).toInt = 0 ∨ (z76 : Int64).toInt = -1) → 1 ≤ (r97 : Int64).toInt) := hw99
                  have hP : va_P D vwCl [] H := hP
                  have hD : va_D A [] := hD
                  refine lv_iload hx hb dX8_plus_181 (lv_at hl 0 rfl) ?_
                  refine lv_lshr (v := _) hx hb dX8_plus_183 rfl ?_
                  exact hj104 ((r97 >>> ((((r78 - r81) - z87) : Int32).toInt64 &&& 63))) _ _ _ (hP.sub [] rfl) (hD.sub [] (by decide) rfl) hS (lv_sub hl [0, 1, 2, 3, 4, 5, 6, 7, 8] rfl)
                · skip
                  have c96i : ¬ (((r78 - r81) - z87) : Int32).toInt ≤ 40 := fun h => c96 (Int32.le_iff_toInt_le.mpr h)
                  refine lv_lconst (v := 0) hx hb dX8_plus_172 (by decide) ?_
                  refine lv_goto (tgt := 184) hx hb dX8_plus_173 (by decide) ?_
                  exact hj104 (0) _ _ _ (hP.sub [] rfl) (hD.sub [] (by decide) rfl) hS (lv_sub hl [0, 1, 2, 3, 4, 5, 6, 7, 8] rfl)
              refine lv_icmp_ge (tgt := 134) hx hb dX8_plus_126 (by decide) (fun c84 => ?_) (fun c84 => ?_)
              · skip
                have c84i : 38 ≤ ((r78 - r81) : Int32).toInt := Int32.le_iff_toInt_le.mp c84
                refine lv_bipush (v := 38) hx hb dX8_plus_134 (by decide) ?_
                exact hj88 (38) _ _ _ (hP.sub [] rfl) (hD.sub [] (by decide) rfl) hS (lv_sub hl [0, 1, 2, 3, 4] rfl)
              · skip
                have c84i : ¬ 38 ≤ ((r78 - r81) : Int32).toInt := fun h => c84 (Int32.le_iff_toInt_le.mpr h)
                refine lv_iload hx hb dX8_plus_129 (lv_at hl 0 rfl) ?_
                refine lv_goto (tgt := 136) hx hb dX8_plus_131 (by decide) ?_
                exact hj88 ((r78 - r81)) _ _ _ (hP.sub [] rfl) (hD.sub [] (by decide) rfl) hS (lv_sub hl [0, 1, 2, 3, 4] rfl)
            refine lv_icmp_lt (tgt := 106) hx hb dX8_plus_99 (by decide) (fun c73 => ?_) (fun c73 => ?_)
            · skip
              have c73i : (r67 : Int32).toInt < (r70 : Int32).toInt := Int32.lt_iff_toInt_lt.mp c73
              refine lv_lload_n hx hb dX8_plus_106 rfl (lv_at hl 1 rfl) ?_
              exact hj77 (g) _ _ _ (hP.sub [] rfl) (hD.sub [] (by decide) rfl) hS (lv_sub hl [0, 1, 2] rfl)
            · skip
              have c73i : ¬ (r67 : Int32).toInt < (r70 : Int32).toInt := fun h => c73 (Int32.lt_iff_toInt_lt.mpr h)
              refine lv_lload_n hx hb dX8_plus_102 rfl (lv_at hl 2 rfl) ?_
              refine lv_goto (tgt := 107) hx hb dX8_plus_103 (by decide) ?_
              exact hj77 (q) _ _ _ (hP.sub [] rfl) (hD.sub [] (by decide) rfl) hS (lv_sub hl [0, 1, 2] rfl)
          refine lv_icmp_lt (tgt := 88) hx hb dX8_plus_81 (by decide) (fun c62 => ?_) (fun c62 => ?_)
          · skip
            have c62i : (r56 : Int32).toInt < (r59 : Int32).toInt := Int32.lt_iff_toInt_lt.mp c62
            refine lv_lload_n hx hb dX8_plus_88 rfl (lv_at hl 1 rfl) ?_
            exact hj66 (q) _ _ _ (hP.sub [] rfl) (hD.sub [] (by decide) rfl) hS (lv_sub hl [0, 1] rfl)
          · skip
            have c62i : ¬ (r56 : Int32).toInt < (r59 : Int32).toInt := fun h => c62 (Int32.lt_iff_toInt_lt.mpr h)
            refine lv_lload_n hx hb dX8_plus_84 rfl (lv_at hl 0 rfl) ?_
            refine lv_goto (tgt := 89) hx hb dX8_plus_85 (by decide) ?_
            exact hj66 (g) _ _ _ (hP.sub [] rfl) (hD.sub [] (by decide) rfl) hS (lv_sub hl [0, 1] rfl)
        · skip
          have c55i : ¬ (r52 : Int32).toInt = 0 := fun h => c55 (Int32.toInt_inj.mp h)
          refine lv_lload_n hx hb dX8_plus_34 rfl (lv_at hl 0 rfl) ?_
          refine sp_calli (wr := []) (wc := []) hP hD hS hA [] [] rfl rfl (by decide) (by decide) (va_runS (As := [.long g]) (rest := []) ⟨hx, hb, hml, hown, hts⟩ (c_X8_isInfinite l D cI cJ cZ H.size (g)) (va_cwS 1 hts gX8_plus_X8_isInfinite_94 rfl rfl rfl (by decide +kernel) ⟨Nat.le_of_ble_eq_true rfl, Nat.le_of_ble_eq_true rfl⟩) (sp_preS [.long g] hK (hP.sub (ws' := []) [] rfl) (hD.sub (ws' := []) [] (by decide) rfl)) rfl rfl hl.1 rfl (lv_room (Nat.le_of_ble_eq_true rfl)) dX8_plus_35 ⟨Nat.le_of_ble_eq_true rfl, Nat.le_of_ble_eq_true rfl⟩) (fun r196 u197 H locs hw198 hP hD hS => ?_)
          have hP : va_P D vwCl [] H := hP
          have hD : va_D A [] := hD
          have hj240 : ∀ (z239 : Int64) (H : Heap) (locs : List Loc) (ls : Array Slot), va_P D vwCl [] H → va_D A [] → va_S A s.heap H locs → lv_has ls 19 [(0, .long g), (2, .long q)] → W p l e ({ frames := 2, cells := 0, slots := 0, locals := 51 }) s m (([.long g, .long q] : List Value).toArray) below meth c H locs 0 0 (MQ below (va_Ql (fun (r : Int64) (_ : Unit) => True) (sp_B D vwCl A (fun (_ : Unit) => [])) A) ([.long g, .long q] : List Value).toArray s 0 0 A) (F0 m 72 ls [.long z239]) := by
            intro z239 H locs ls  hP hD hS hl
            refine W.widen (k := 0) (n := 0) (by decide) (by decide) ?_
            exact sp_lret (u := ()) hx hb hr hlocks hS trivial (hP.sub [] rfl) (hD.sub [] (by decide) rfl) dX8_plus_72
          refine lv_if_eq (tgt := 60) hx hb dX8_plus_38 (by decide) (fun c199 => ?_) (fun c199 => ?_)
          · skip
            have c199i : (r196 : Int32).toInt = 0 := congrArg Int32.toInt c199
            refine lv_lload_n hx hb dX8_plus_60 rfl (lv_at hl 0 rfl) ?_
            refine sp_calli (wr := []) (wc := []) hP hD hS hA [] [] rfl rfl (by decide) (by decide) (va_runS (As := [.long g]) (rest := []) ⟨hx, hb, hml, hown, hts⟩ (c_X8_isInfinite l D cI cJ cZ H.size (g)) (va_cwS 1 hts gX8_plus_X8_isInfinite_94 rfl rfl rfl (by decide +kernel) ⟨Nat.le_of_ble_eq_true rfl, Nat.le_of_ble_eq_true rfl⟩) (sp_preS [.long g] hK (hP.sub (ws' := []) [] rfl) (hD.sub (ws' := []) [] (by decide) rfl)) rfl rfl hl.1 rfl (lv_room (Nat.le_of_ble_eq_true rfl)) dX8_plus_61 ⟨Nat.le_of_ble_eq_true rfl, Nat.le_of_ble_eq_true rfl⟩) (fun r200 u201 H locs hw202 hP hD hS => ?_)
            have hP : va_P D vwCl [] H := hP
            have hD : va_D A [] := hD
            have hj207 : ∀ (z206 : Int64) (H : Heap) (locs : List Loc) (ls : Array Slot), va_P D vwCl [] H → va_D A [] → va_S A s.heap H locs → lv_has ls 19 [(0, .long g), (2, .long q)] → W p l e ({ frames := 2, cells := 0, slots := 0, locals := 51 }) s m (([.long g, .long q] : List Value).toArray) below meth c H locs 0 0 (MQ below (va_Ql (fun (r : Int64) (_ : Unit) => True) (sp_B D vwCl A (fun (_ : Unit) => [])) A) ([.long g, .long q] : List Value).toArray s 0 0 A) (F0 m 72 ls [.long z206]) := by
              intro z206 H locs ls  hP hD hS hl
              exact hj240 (z206) _ _ _ (hP.sub [] rfl) (hD.sub [] (by decide) rfl) hS (lv_sub hl [0, 1] rfl)
            refine lv_if_eq (tgt := 71) hx hb dX8_plus_64 (by decide) (fun c203 => ?_) (fun c203 => ?_)
            · skip
              have c203i : (r200 : Int32).toInt = 0 := congrArg Int32.toInt c203
              refine lv_lload_n hx hb dX8_plus_71 rfl (lv_at hl 1 rfl) ?_
              exact hj207 (q) _ _ _ (hP.sub [] rfl) (hD.sub [] (by decide) rfl) hS (lv_sub hl [0, 1] rfl)
            · skip
              have c203i : ¬ (r200 : Int32).toInt = 0 := fun h => c203 (Int32.toInt_inj.mp h)
              refine lv_lload_n hx hb dX8_plus_67 rfl (lv_at hl 0 rfl) ?_
              refine lv_goto (tgt := 72) hx hb dX8_plus_68 (by decide) ?_
              exact hj207 (g) _ _ _ (hP.sub [] rfl) (hD.sub [] (by decide) rfl) hS (lv_sub hl [0, 1] rfl)
          · skip
            have c199i : ¬ (r196 : Int32).toInt = 0 := fun h => c199 (Int32.toInt_inj.mp h)
            refine lv_lload_n hx hb dX8_plus_41 rfl (lv_at hl 1 rfl) ?_
            refine sp_calli (wr := []) (wc := []) hP hD hS hA [] [] rfl rfl (by decide) (by decide) (va_runS (As := [.long q]) (rest := []) ⟨hx, hb, hml, hown, hts⟩ (c_X8_isInfinite l D cI cJ cZ H.size (q)) (va_cwS 1 hts gX8_plus_X8_isInfinite_94 rfl rfl rfl (by decide +kernel) ⟨Nat.le_of_ble_eq_true rfl, Nat.le_of_ble_eq_true rfl⟩) (sp_preS [.long q] hK (hP.sub (ws' := []) [] rfl) (hD.sub (ws' := []) [] (by decide) rfl)) rfl rfl hl.1 rfl (lv_room (Nat.le_of_ble_eq_true rfl)) dX8_plus_42 ⟨Nat.le_of_ble_eq_true rfl, Nat.le_of_ble_eq_true rfl⟩) (fun r209 u210 H locs hw211 hP hD hS => ?_)
            have hP : va_P D vwCl [] H := hP
            have hD : va_D A [] := hD
            have hj237 : ∀ (z236 : Int64) (H : Heap) (locs : List Loc) (ls : Array Slot), va_P D vwCl [] H → va_D A [] → va_S A s.heap H locs → lv_has ls 19 [(0, .long g), (2, .long q)] → W p l e ({ frames := 2, cells := 0, slots := 0, locals := 51 }) s m (([.long g, .long q] : List Value).toArray) below meth c H locs 0 0 (MQ below (va_Ql (fun (r : Int64) (_ : Unit) => True) (sp_B D vwCl A (fun (_ : Unit) => [])) A) ([.long g, .long q] : List Value).toArray s 0 0 A) (F0 m 72 ls [.long z236]) := by
              intro z236 H locs ls  hP hD hS hl
              exact hj240 (z236) _ _ _ (hP.sub [] rfl) (hD.sub [] (by decide) rfl) hS (lv_sub hl [0, 1] rfl)
            refine lv_if_eq (tgt := 60) hx hb dX8_plus_45 (by decide) (fun c212 => ?_) (fun c212 => ?_)
            · skip
              have c212i : (r209 : Int32).toInt = 0 := congrArg Int32.toInt c212
              refine lv_lload_n hx hb dX8_plus_60 rfl (lv_at hl 0 rfl) ?_
              refine sp_calli (wr := []) (wc := []) hP hD hS hA [] [] rfl rfl (by decide) (by decide) (va_runS (As := [.long g]) (rest := []) ⟨hx, hb, hml, hown, hts⟩ (c_X8_isInfinite l D cI cJ cZ H.size (g)) (va_cwS 1 hts gX8_plus_X8_isInfinite_94 rfl rfl rfl (by decide +kernel) ⟨Nat.le_of_ble_eq_true rfl, Nat.le_of_ble_eq_true rfl⟩) (sp_preS [.long g] hK (hP.sub (ws' := []) [] rfl) (hD.sub (ws' := []) [] (by decide) rfl)) rfl rfl hl.1 rfl (lv_room (Nat.le_of_ble_eq_true rfl)) dX8_plus_61 ⟨Nat.le_of_ble_eq_true rfl, Nat.le_of_ble_eq_true rfl⟩) (fun r213 u214 H locs hw215 hP hD hS => ?_)
              have hP : va_P D vwCl [] H := hP
              have hD : va_D A [] := hD
              have hj220 : ∀ (z219 : Int64) (H : Heap) (locs : List Loc) (ls : Array Slot), va_P D vwCl [] H → va_D A [] → va_S A s.heap H locs → lv_has ls 19 [(0, .long g), (2, .long q)] → W p l e ({ frames := 2, cells := 0, slots := 0, locals := 51 }) s m (([.long g, .long q] : List Value).toArray) below meth c H locs 0 0 (MQ below (va_Ql (fun (r : Int64) (_ : Unit) => True) (sp_B D vwCl A (fun (_ : Unit) => [])) A) ([.long g, .long q] : List Value).toArray s 0 0 A) (F0 m 72 ls [.long z219]) := by
                intro z219 H locs ls  hP hD hS hl
                exact hj237 (z219) _ _ _ (hP.sub [] rfl) (hD.sub [] (by decide) rfl) hS (lv_sub hl [0, 1] rfl)
              refine lv_if_eq (tgt := 71) hx hb dX8_plus_64 (by decide) (fun c216 => ?_) (fun c216 => ?_)
              · skip
                have c216i : (r213 : Int32).toInt = 0 := congrArg Int32.toInt c216
                refine lv_lload_n hx hb dX8_plus_71 rfl (lv_at hl 1 rfl) ?_
                exact hj220 (q) _ _ _ (hP.sub [] rfl) (hD.sub [] (by decide) rfl) hS (lv_sub hl [0, 1] rfl)
              · skip
                have c216i : ¬ (r213 : Int32).toInt = 0 := fun h => c216 (Int32.toInt_inj.mp h)
                refine lv_lload_n hx hb dX8_plus_67 rfl (lv_at hl 0 rfl) ?_
                refine lv_goto (tgt := 72) hx hb dX8_plus_68 (by decide) ?_
                exact hj220 (g) _ _ _ (hP.sub [] rfl) (hD.sub [] (by decide) rfl) hS (lv_sub hl [0, 1] rfl)
            · skip
              have c212i : ¬ (r209 : Int32).toInt = 0 := fun h => c212 (Int32.toInt_inj.mp h)
              refine lv_lload_n hx hb dX8_plus_48 rfl (lv_at hl 0 rfl) ?_
              refine lv_lload_n hx hb dX8_plus_49 rfl (lv_at hl 1 rfl) ?_
              refine W.lcmp hx hb dX8_plus_50 ?_
              have hj234 : ∀ (z233 : Int64) (H : Heap) (locs : List Loc) (ls : Array Slot), va_P D vwCl [] H → va_D A [] → va_S A s.heap H locs → lv_has ls 19 [(0, .long g), (2, .long q)] → W p l e ({ frames := 2, cells := 0, slots := 0, locals := 51 }) s m (([.long g, .long q] : List Value).toArray) below meth c H locs 0 0 (MQ below (va_Ql (fun (r : Int64) (_ : Unit) => True) (sp_B D vwCl A (fun (_ : Unit) => [])) A) ([.long g, .long q] : List Value).toArray s 0 0 A) (F0 m 72 ls [.long z233]) := by
                intro z233 H locs ls  hP hD hS hl
                exact hj237 (z233) _ _ _ (hP.sub [] rfl) (hD.sub [] (by decide) rfl) hS (lv_sub hl [0, 1] rfl)
              refine lv_if_eq (tgt := 60) hx hb dX8_plus_51 (by decide) (fun c222 => ?_) (fun c222 => ?_)
              · skip
                have c222 := (lg_cmp_eq _ _).mp c222
                have c222i : (g : Int64).toInt = (q : Int64).toInt := congrArg Int64.toInt c222
                refine lv_lload_n hx hb dX8_plus_60 rfl (lv_at hl 0 rfl) ?_
                refine sp_calli (wr := []) (wc := []) hP hD hS hA [] [] rfl rfl (by decide) (by decide) (va_runS (As := [.long g]) (rest := []) ⟨hx, hb, hml, hown, hts⟩ (c_X8_isInfinite l D cI cJ cZ H.size (g)) (va_cwS 1 hts gX8_plus_X8_isInfinite_94 rfl rfl rfl (by decide +kernel) ⟨Nat.le_of_ble_eq_true rfl, Nat.le_of_ble_eq_true rfl⟩) (sp_preS [.long g] hK (hP.sub (ws' := []) [] rfl) (hD.sub (ws' := []) [] (by decide) rfl)) rfl rfl hl.1 rfl (lv_room (Nat.le_of_ble_eq_true rfl)) dX8_plus_61 ⟨Nat.le_of_ble_eq_true rfl, Nat.le_of_ble_eq_true rfl⟩) (fun r223 u224 H locs hw225 hP hD hS => ?_)
                have hP : va_P D vwCl [] H := hP
                have hD : va_D A [] := hD
                have hj230 : ∀ (z229 : Int64) (H : Heap) (locs : List Loc) (ls : Array Slot), va_P D vwCl [] H → va_D A [] → va_S A s.heap H locs → lv_has ls 19 [(0, .long g), (2, .long q)] → W p l e ({ frames := 2, cells := 0, slots := 0, locals := 51 }) s m (([.long g, .long q] : List Value).toArray) below meth c H locs 0 0 (MQ below (va_Ql (fun (r : Int64) (_ : Unit) => True) (sp_B D vwCl A (fun (_ : Unit) => [])) A) ([.long g, .long q] : List Value).toArray s 0 0 A) (F0 m 72 ls [.long z229]) := by
                  intro z229 H locs ls  hP hD hS hl
                  exact hj234 (z229) _ _ _ (hP.sub [] rfl) (hD.sub [] (by decide) rfl) hS (lv_sub hl [0, 1] rfl)
                refine lv_if_eq (tgt := 71) hx hb dX8_plus_64 (by decide) (fun c226 => ?_) (fun c226 => ?_)
                · skip
                  have c226i : (r223 : Int32).toInt = 0 := congrArg Int32.toInt c226
                  refine lv_lload_n hx hb dX8_plus_71 rfl (lv_at hl 1 rfl) ?_
                  exact hj230 (q) _ _ _ (hP.sub [] rfl) (hD.sub [] (by decide) rfl) hS (lv_sub hl [0, 1] rfl)
                · skip
                  have c226i : ¬ (r223 : Int32).toInt = 0 := fun h => c226 (Int32.toInt_inj.mp h)
                  refine lv_lload_n hx hb dX8_plus_67 rfl (lv_at hl 0 rfl) ?_
                  refine lv_goto (tgt := 72) hx hb dX8_plus_68 (by decide) ?_
                  exact hj230 (g) _ _ _ (hP.sub [] rfl) (hD.sub [] (by decide) rfl) hS (lv_sub hl [0, 1] rfl)
              · skip
                have c222 := fun h => c222 ((lg_cmp_eq _ _).mpr h)
                have c222i : ¬ (g : Int64).toInt = (q : Int64).toInt := fun h => c222 (Int64.toInt_inj.mp h)
                refine lv_ldc2 (v := 9000000000) hx hb hown (hts (.constantLong RX8 82 (9000000000)) (oX8_plus_in _ (List.mem_of_getElem? (i := 0) rfl))) dX8_plus_54 ?_
                refine lv_goto (tgt := 72) hx hb dX8_plus_57 (by decide) ?_
                exact hj234 (9000000000) _ _ _ (hP.sub [] rfl) (hD.sub [] (by decide) rfl) hS (lv_sub hl [0, 1] rfl)
    · skip
      have c2 := (lg_cmp_eq _ _).mp c2
      have c2i : (q : Int64).toInt = 9000000000 := congrArg Int64.toInt c2
      refine lv_ldc2 (v := 9000000000) hx hb hown (hts (.constantLong RX8 82 (9000000000)) (oX8_plus_in _ (List.mem_of_getElem? (i := 0) rfl))) dX8_plus_16 ?_
      refine W.widen (k := 0) (n := 0) (by decide) (by decide) ?_
      exact sp_lret (u := ()) hx hb hr hlocks hS trivial (hP.sub [] rfl) (hD.sub [] (by decide) rfl) dX8_plus_19
def oX8_timesOf : List Cond := [.constantLong RX8 82 (9000000000), .constantLong RX8 68 (2139095040)]
def wpX8_timesOf : List Cond := .code yX8_timesOf cX8_timesOf 5 (some .long) :: (oX8_timesOf ++ ((va_wsS RX8 94 yX8_isInfinite wpX8_isInfinite) ++ ((va_wsS RX8 109 yX8_isZero wpX8_isZero) ++ ((va_wsS RX8 84 yX8_placeOf wpX8_placeOf) ++ ((va_wsS RX8 102 yX8_digits wpX8_digits) ++ ((va_wsS RX8 98 yX8_power wpX8_power) ++ ((va_wsS RX8 105 yX8_pack wpX8_pack) ++ ([] : List Cond))))))))
theorem oX8_timesOf_in : ∀ w ∈ oX8_timesOf, w ∈ wpX8_timesOf := fun w h => List.mem_cons_of_mem _ (List.mem_append_left _ h)
theorem gwoX8_timesOf : ∀ w ∈ oX8_timesOf, goodWord w = true := by decide +kernel
theorem gwX8_timesOf : ∀ w ∈ wpX8_timesOf, goodWord w = true := by
  unfold wpX8_timesOf
  exact List.forall_mem_cons.mpr ⟨rfl, List.forall_mem_append.mpr ⟨gwoX8_timesOf, List.forall_mem_append.mpr ⟨(sp_gS gwX8_isInfinite), List.forall_mem_append.mpr ⟨(sp_gS gwX8_isZero), List.forall_mem_append.mpr ⟨(sp_gS gwX8_placeOf), List.forall_mem_append.mpr ⟨(sp_gS gwX8_digits), List.forall_mem_append.mpr ⟨(sp_gS gwX8_power), List.forall_mem_append.mpr ⟨(sp_gS gwX8_pack), fun _ h => absurd h List.not_mem_nil⟩⟩⟩⟩⟩⟩⟩⟩
set_option maxRecDepth 100000 in
theorem toX8_timesOf : ∀ w ∈ oX8_timesOf, w ∈ lw_tbl := by
  unfold oX8_timesOf
  exact List.forall_mem_cons.mpr ⟨(List.mem_of_getElem? (i := 804) (by decide +kernel)), List.forall_mem_cons.mpr ⟨(List.mem_of_getElem? (i := 682) (by decide +kernel)), fun _ h => absurd h List.not_mem_nil⟩⟩
set_option maxRecDepth 100000 in
theorem tX8_timesOf : ∀ w ∈ wpX8_timesOf, w ∈ lw_tbl := by
  unfold wpX8_timesOf
  exact List.forall_mem_cons.mpr ⟨(List.mem_of_getElem? (i := 857) (by rfl)), List.forall_mem_append.mpr ⟨toX8_timesOf, List.forall_mem_append.mpr ⟨(sp_tS (List.mem_of_getElem? (i := 834) (by decide +kernel)) (List.mem_of_getElem? (i := 835) (by decide +kernel)) (List.mem_of_getElem? (i := 45) (by decide +kernel)) tX8_isInfinite), List.forall_mem_append.mpr ⟨(sp_tS (List.mem_of_getElem? (i := 858) (by decide +kernel)) (List.mem_of_getElem? (i := 859) (by decide +kernel)) (List.mem_of_getElem? (i := 45) (by decide +kernel)) tX8_isZero), List.forall_mem_append.mpr ⟨(sp_tS (List.mem_of_getElem? (i := 805) (by decide +kernel)) (List.mem_of_getElem? (i := 806) (by decide +kernel)) (List.mem_of_getElem? (i := 45) (by decide +kernel)) tX8_placeOf), List.forall_mem_append.mpr ⟨(sp_tS (List.mem_of_getElem? (i := 844) (by decide +kernel)) (List.mem_of_getElem? (i := 845) (by decide +kernel)) (List.mem_of_getElem? (i := 45) (by decide +kernel)) tX8_digits), List.forall_mem_append.mpr ⟨(sp_tS (List.mem_of_getElem? (i := 840) (by decide +kernel)) (List.mem_of_getElem? (i := 841) (by decide +kernel)) (List.mem_of_getElem? (i := 45) (by decide +kernel)) tX8_power), List.forall_mem_append.mpr ⟨(sp_tS (List.mem_of_getElem? (i := 847) (by decide +kernel)) (List.mem_of_getElem? (i := 848) (by decide +kernel)) (List.mem_of_getElem? (i := 45) (by decide +kernel)) tX8_pack), fun _ h => absurd h List.not_mem_nil⟩⟩⟩⟩⟩⟩⟩⟩
theorem gX8_timesOf_X8_isInfinite_94 : GoodIn wpX8_timesOf (va_wsS RX8 94 yX8_isInfinite wpX8_isInfinite) := fun w h => ⟨List.mem_cons_of_mem _ (List.mem_append_right _ (List.mem_append_left _ h)), good_of_word (sp_gS gwX8_isInfinite w h)⟩
theorem gX8_timesOf_X8_isZero_109 : GoodIn wpX8_timesOf (va_wsS RX8 109 yX8_isZero wpX8_isZero) := fun w h => ⟨List.mem_cons_of_mem _ (List.mem_append_right _ (List.mem_append_right _ (List.mem_append_left _ h))), good_of_word (sp_gS gwX8_isZero w h)⟩
theorem gX8_timesOf_X8_placeOf_84 : GoodIn wpX8_timesOf (va_wsS RX8 84 yX8_placeOf wpX8_placeOf) := fun w h => ⟨List.mem_cons_of_mem _ (List.mem_append_right _ (List.mem_append_right _ (List.mem_append_right _ (List.mem_append_left _ h)))), good_of_word (sp_gS gwX8_placeOf w h)⟩
theorem gX8_timesOf_X8_digits_102 : GoodIn wpX8_timesOf (va_wsS RX8 102 yX8_digits wpX8_digits) := fun w h => ⟨List.mem_cons_of_mem _ (List.mem_append_right _ (List.mem_append_right _ (List.mem_append_right _ (List.mem_append_right _ (List.mem_append_left _ h))))), good_of_word (sp_gS gwX8_digits w h)⟩
theorem gX8_timesOf_X8_power_98 : GoodIn wpX8_timesOf (va_wsS RX8 98 yX8_power wpX8_power) := fun w h => ⟨List.mem_cons_of_mem _ (List.mem_append_right _ (List.mem_append_right _ (List.mem_append_right _ (List.mem_append_right _ (List.mem_append_right _ (List.mem_append_left _ h)))))), good_of_word (sp_gS gwX8_power w h)⟩
theorem gX8_timesOf_X8_pack_105 : GoodIn wpX8_timesOf (va_wsS RX8 105 yX8_pack wpX8_pack) := fun w h => ⟨List.mem_cons_of_mem _ (List.mem_append_right _ (List.mem_append_right _ (List.mem_append_right _ (List.mem_append_right _ (List.mem_append_right _ (List.mem_append_right _ (List.mem_append_left _ h))))))), good_of_word (sp_gS gwX8_pack w h)⟩
set_option maxHeartbeats 4000000 in
set_option maxRecDepth 100000 in
theorem c_X8_timesOf (l : Launch) (D : va_G) (cI cJ cZ : ClassId) (sz : Nat) (g : Int64) (q : Int64) : Met l yX8_timesOf wpX8_timesOf ({ frames := 2, cells := 0, slots := 0, locals := 51 }) (va_Pc ([.long g, .long q] : List Value) (sp_pre D vwCl (sp_ty cI cJ cZ) [] sz)) (va_Ql (fun (r : Int64) (_ : Unit) => True) (sp_B D vwCl (va_A [] sz) (fun (_ : Unit) => [])) (va_A [] sz)) 0 0 (va_A [] sz) := by
  refine sp_ofW (Qc := fun A => va_Ql (fun (r : Int64) (_ : Unit) => True) (sp_B D vwCl A (fun (_ : Unit) => [])) A) (by decide) rfl (Nat.le_of_ble_eq_true rfl) (fun p e s m below meth c A ls H locs C0 hA hS hP hK hD hl => ?_)
  obtain ⟨hx, hb, hr, hts, hown, hlocks, hml, hin⟩ := id C0
  have hown : s.vm.findClass RX8 = some m.cls := hown
  have hl : lv_has ls 5 [(0, .long g), (2, .long q)] := hl
  have hK : va_K D vwCl [(cI, .int), (cJ, .long), (cZ, .boolean)] s := hK
  refine lv_lload_n hx hb dX8_timesOf_0 rfl (lv_at hl 0 rfl) ?_
  refine lv_ldc2 (v := 9000000000) hx hb hown (hts (.constantLong RX8 82 (9000000000)) (oX8_timesOf_in _ (List.mem_of_getElem? (i := 0) rfl))) dX8_timesOf_1 ?_
  refine W.lcmp hx hb dX8_timesOf_4 ?_
  refine lv_if_eq (tgt := 44) hx hb dX8_timesOf_5 (by decide) (fun c1 => ?_) (fun c1 => ?_)
  · skip
    have c1 := (lg_cmp_eq _ _).mp c1
    have c1i : (g : Int64).toInt = 9000000000 := congrArg Int64.toInt c1
    refine lv_ldc2 (v := 9000000000) hx hb hown (hts (.constantLong RX8 82 (9000000000)) (oX8_timesOf_in _ (List.mem_of_getElem? (i := 0) rfl))) dX8_timesOf_44 ?_
    refine W.widen (k := 0) (n := 0) (by decide) (by decide) ?_
    exact sp_lret (u := ()) hx hb hr hlocks hS trivial (hP.sub [] rfl) (hD.sub [] (by decide) rfl) dX8_timesOf_47
  · skip
    have c1 := fun h => c1 ((lg_cmp_eq _ _).mpr h)
    have c1i : ¬ (g : Int64).toInt = 9000000000 := fun h => c1 (Int64.toInt_inj.mp h)
    refine lv_lload_n hx hb dX8_timesOf_8 rfl (lv_at hl 1 rfl) ?_
    refine lv_ldc2 (v := 9000000000) hx hb hown (hts (.constantLong RX8 82 (9000000000)) (oX8_timesOf_in _ (List.mem_of_getElem? (i := 0) rfl))) dX8_timesOf_9 ?_
    refine W.lcmp hx hb dX8_timesOf_12 ?_
    refine lv_if_eq (tgt := 44) hx hb dX8_timesOf_13 (by decide) (fun c2 => ?_) (fun c2 => ?_)
    · skip
      have c2 := (lg_cmp_eq _ _).mp c2
      have c2i : (q : Int64).toInt = 9000000000 := congrArg Int64.toInt c2
      refine lv_ldc2 (v := 9000000000) hx hb hown (hts (.constantLong RX8 82 (9000000000)) (oX8_timesOf_in _ (List.mem_of_getElem? (i := 0) rfl))) dX8_timesOf_44 ?_
      refine W.widen (k := 0) (n := 0) (by decide) (by decide) ?_
      exact sp_lret (u := ()) hx hb hr hlocks hS trivial (hP.sub [] rfl) (hD.sub [] (by decide) rfl) dX8_timesOf_47
    · skip
      have c2 := fun h => c2 ((lg_cmp_eq _ _).mpr h)
      have c2i : ¬ (q : Int64).toInt = 9000000000 := fun h => c2 (Int64.toInt_inj.mp h)
      refine lv_lload_n hx hb dX8_timesOf_16 rfl (lv_at hl 0 rfl) ?_
      refine sp_calli (wr := []) (wc := []) hP hD hS hA [] [] rfl rfl (by decide) (by decide) (va_runS (As := [.long g]) (rest := []) ⟨hx, hb, hml, hown, hts⟩ (c_X8_isInfinite l D cI cJ cZ H.size (g)) (va_cwS 1 hts gX8_timesOf_X8_isInfinite_94 rfl rfl rfl (by decide +kernel) ⟨Nat.le_of_ble_eq_true rfl, Nat.le_of_ble_eq_true rfl⟩) (sp_preS [.long g] hK (hP.sub (ws' := []) [] rfl) (hD.sub (ws' := []) [] (by decide) rfl)) rfl rfl hl.1 rfl (lv_room (Nat.le_of_ble_eq_true rfl)) dX8_timesOf_17 ⟨Nat.le_of_ble_eq_true rfl, Nat.le_of_ble_eq_true rfl⟩) (fun r3 u4 H locs hw5 hP hD hS => ?_)
      have hP : va_P D vwCl [] H := hP
      have hD : va_D A [] := hD
      refine lv_if_eq (tgt := 30) hx hb dX8_timesOf_20 (by decide) (fun c6 => ?_) (fun c6 => ?_)
      · skip
        have c6i : (r3 : Int32).toInt = 0 := congrArg Int32.toInt c6
        refine lv_lload_n hx hb dX8_timesOf_30 rfl (lv_at hl 0 rfl) ?_
        refine sp_calli (wr := []) (wc := []) hP hD hS hA [] [] rfl rfl (by decide) (by decide) (va_runS (As := [.long g]) (rest := []) ⟨hx, hb, hml, hown, hts⟩ (c_X8_isZero l D cI cJ cZ H.size (g)) (va_cwS 1 hts gX8_timesOf_X8_isZero_109 rfl rfl rfl (by decide +kernel) ⟨Nat.le_of_ble_eq_true rfl, Nat.le_of_ble_eq_true rfl⟩) (sp_preS [.long g] hK (hP.sub (ws' := []) [] rfl) (hD.sub (ws' := []) [] (by decide) rfl)) rfl rfl hl.1 rfl (lv_room (Nat.le_of_ble_eq_true rfl)) dX8_timesOf_31 ⟨Nat.le_of_ble_eq_true rfl, Nat.le_of_ble_eq_true rfl⟩) (fun r7 u8 H locs hw9 hP hD hS => ?_)
        have h10 : ((r7 : Int32).toInt = 1 ∧ ((g : Int64).toInt = 0 ∨ (g : Int64).toInt = -1)) ∨ ((r7 : Int32).toInt = 0 ∧ ¬ ((g : Int64).toInt = 0 ∨ (g : Int64).toInt = -1)) := sp_bool hw9
        have hP : va_P D vwCl [] H := hP
        have hD : va_D A [] := hD
        refine lv_if_eq (tgt := 48) hx hb dX8_timesOf_34 (by decide) (fun c11 => ?_) (fun c11 => ?_)
        · skip
          have c11i : (r7 : Int32).toInt = 0 := congrArg Int32.toInt c11
          refine lv_lload_n hx hb dX8_timesOf_48 rfl (lv_at hl 0 rfl) ?_
          refine lv_lconst (v := 0) hx hb dX8_timesOf_49 (by decide) ?_
          refine W.lcmp hx hb dX8_timesOf_50 ?_
          have hj16 : ∀ (z15 : Int32) (H : Heap) (locs : List Loc) (ls : Array Slot), va_P D vwCl [] H → va_D A [] → va_S A s.heap H locs → lv_has ls 5 [(0, .long g), (2, .long q)] → W p l e ({ frames := 2, cells := 0, slots := 0, locals := 51 }) s m (([.long g, .long q] : List Value).toArray) below meth c H locs 0 0 (MQ below (va_Ql (fun (r : Int64) (_ : Unit) => True) (sp_B D vwCl A (fun (_ : Unit) => [])) A) ([.long g, .long q] : List Value).toArray s 0 0 A) (F0 m 59 ls [.int z15]) := by
            intro z15 H locs ls  hP hD hS hl
            refine lv_lload_n hx hb dX8_timesOf_59 rfl (lv_at hl 1 rfl) ?_
            refine lv_lconst (v := 0) hx hb dX8_timesOf_60 (by decide) ?_
            refine W.lcmp hx hb dX8_timesOf_61 ?_
            have hj21 : ∀ (z20 : Int32) (H : Heap) (locs : List Loc) (ls : Array Slot), va_P D vwCl [] H → va_D A [] → va_S A s.heap H locs → lv_has ls 5 [(0, .long g), (2, .long q)] → W p l e ({ frames := 2, cells := 0, slots := 0, locals := 51 }) s m (([.long g, .long q] : List Value).toArray) below meth c H locs 0 0 (MQ below (va_Ql (fun (r : Int64) (_ : Unit) => True) (sp_B D vwCl A (fun (_ : Unit) => [])) A) ([.long g, .long q] : List Value).toArray s 0 0 A) (F0 m 70 ls [.int z20, .int z15]) := by
              intro z20 H locs ls  hP hD hS hl
              have hj26 : ∀ (z25 : Int32) (H : Heap) (locs : List Loc) (ls : Array Slot), va_P D vwCl [] H → va_D A [] → va_S A s.heap H locs → lv_has ls 5 [(0, .long g), (2, .long q)] → W p l e ({ frames := 2, cells := 0, slots := 0, locals := 51 }) s m (([.long g, .long q] : List Value).toArray) below meth c H locs 0 0 (MQ below (va_Ql (fun (r : Int64) (_ : Unit) => True) (sp_B D vwCl A (fun (_ : Unit) => [])) A) ([.long g, .long q] : List Value).toArray s 0 0 A) (F0 m 78 ls [.int z25]) := by
                intro z25 H locs ls  hP hD hS hl
                refine lv_istore (lv' := [(4, .int z25), (0, .long g), (2, .long q)]) hx hb dX8_timesOf_78 hl (by decide) rfl (fun ls hl => ?_)
                refine lv_lload_n hx hb dX8_timesOf_80 rfl (lv_at hl 1 rfl) ?_
                refine sp_calli (wr := []) (wc := []) hP hD hS hA [] [] rfl rfl (by decide) (by decide) (va_runS (As := [.long g]) (rest := []) ⟨hx, hb, hml, hown, hts⟩ (c_X8_isInfinite l D cI cJ cZ H.size (g)) (va_cwS 1 hts gX8_timesOf_X8_isInfinite_94 rfl rfl rfl (by decide +kernel) ⟨Nat.le_of_ble_eq_true rfl, Nat.le_of_ble_eq_true rfl⟩) (sp_preS [.long g] hK (hP.sub (ws' := []) [] rfl) (hD.sub (ws' := []) [] (by decide) rfl)) rfl rfl hl.1 rfl (lv_room (Nat.le_of_ble_eq_true rfl)) dX8_timesOf_81 ⟨Nat.le_of_ble_eq_true rfl, Nat.le_of_ble_eq_true rfl⟩) (fun r27 u28 H locs hw29 hP hD hS => ?_)
                have hP : va_P D vwCl [] H := hP
                have hD : va_D A [] := hD
                refine lv_if_ne (tgt := 94) hx hb dX8_timesOf_84 (by decide) (fun c30 => ?_) (fun c30 => ?_)
                · skip
                  have c30i : ¬ (r27 : Int32).toInt = 0 := fun h => c30 (Int32.toInt_inj.mp h)
                  refine lv_iload hx hb dX8_timesOf_94 (lv_at hl 0 rfl) ?_
                  refine lv_ldc2 (v := 2139095040) hx hb hown (hts (.constantLong RX8 68 (2139095040)) (oX8_timesOf_in _ (List.mem_of_getElem? (i := 1) rfl))) dX8_timesOf_96 ?_
                  refine sp_callj (wr := []) (wc := []) hP hD hS hA [] [] rfl rfl (by decide) (by decide) (va_runS (As := [.int z25, .long 2139095040]) (rest := []) ⟨hx, hb, hml, hown, hts⟩ (c_X8_placeOf l D cI cJ cZ H.size (z25) (2139095040)) (va_cwS 2 hts gX8_timesOf_X8_placeOf_84 rfl rfl rfl (by decide +kernel) ⟨Nat.le_of_ble_eq_true rfl, Nat.le_of_ble_eq_true rfl⟩) (sp_preS [.int z25, .long 2139095040] hK (hP.sub (ws' := []) [] rfl) (hD.sub (ws' := []) [] (by decide) rfl)) rfl rfl hl.1 rfl (lv_room (Nat.le_of_ble_eq_true rfl)) dX8_timesOf_99 ⟨Nat.le_of_ble_eq_true rfl, Nat.le_of_ble_eq_true rfl⟩) (fun r31 u32 H locs hw33 hP hD hS => ?_)
                  have h34 : (r31 : Int64) = sq_mp (z25) (2139095040) := hw33
                  have hP : va_P D vwCl [] H := hP
                  have hD : va_D A [] := hD
                  refine W.widen (k := 0) (n := 0) (by decide) (by decide) ?_
                  exact sp_lret (u := ()) hx hb hr hlocks hS trivial (hP.sub [] rfl) (hD.sub [] (by decide) rfl) dX8_timesOf_102
                · skip
                  have c30i : (r27 : Int32).toInt = 0 := congrArg Int32.toInt c30
                  refine lv_lload_n hx hb dX8_timesOf_87 rfl (lv_at hl 2 rfl) ?_
                  refine sp_calli (wr := []) (wc := []) hP hD hS hA [] [] rfl rfl (by decide) (by decide) (va_runS (As := [.long q]) (rest := []) ⟨hx, hb, hml, hown, hts⟩ (c_X8_isInfinite l D cI cJ cZ H.size (q)) (va_cwS 1 hts gX8_timesOf_X8_isInfinite_94 rfl rfl rfl (by decide +kernel) ⟨Nat.le_of_ble_eq_true rfl, Nat.le_of_ble_eq_true rfl⟩) (sp_preS [.long q] hK (hP.sub (ws' := []) [] rfl) (hD.sub (ws' := []) [] (by decide) rfl)) rfl rfl hl.1 rfl (lv_room (Nat.le_of_ble_eq_true rfl)) dX8_timesOf_88 ⟨Nat.le_of_ble_eq_true rfl, Nat.le_of_ble_eq_true rfl⟩) (fun r35 u36 H locs hw37 hP hD hS => ?_)
                  have hP : va_P D vwCl [] H := hP
                  have hD : va_D A [] := hD
                  refine lv_if_eq (tgt := 103) hx hb dX8_timesOf_91 (by decide) (fun c38 => ?_) (fun c38 => ?_)
                  · skip
                    have c38i : (r35 : Int32).toInt = 0 := congrArg Int32.toInt c38
                    refine lv_iload hx hb dX8_timesOf_103 (lv_at hl 0 rfl) ?_
                    refine lv_lload_n hx hb dX8_timesOf_105 rfl (lv_at hl 1 rfl) ?_
                    refine sp_callj (wr := []) (wc := []) hP hD hS hA [] [] rfl rfl (by decide) (by decide) (va_runS (As := [.long g]) (rest := [.int z25]) ⟨hx, hb, hml, hown, hts⟩ (c_X8_digits l D cI cJ cZ H.size (g)) (va_cwS 1 hts gX8_timesOf_X8_digits_102 rfl rfl rfl (by decide +kernel) ⟨Nat.le_of_ble_eq_true rfl, Nat.le_of_ble_eq_true rfl⟩) (sp_preS [.long g] hK (hP.sub (ws' := []) [] rfl) (hD.sub (ws' := []) [] (by decide) rfl)) rfl rfl hl.1 rfl (lv_room (Nat.le_of_ble_eq_true rfl)) dX8_timesOf_106 ⟨Nat.le_of_ble_eq_true rfl, Nat.le_of_ble_eq_true rfl⟩) (fun r39 u40 H locs hw41 hP hD hS => ?_)
                    have h42 : 0 ≤ (r39 : Int64).toInt ∧ (¬ ((g : Int64).toInt = 0 ∨ (g : Int64).toInt = -1) → 1 ≤ (r39 : Int64).toInt) := hw41
                    have hP : va_P D vwCl [] H := hP
                    have hD : va_D A [] := hD
                    refine lv_lload_n hx hb dX8_timesOf_109 rfl (lv_at hl 2 rfl) ?_
                    refine sp_callj (wr := []) (wc := []) hP hD hS hA [] [] rfl rfl (by decide) (by decide) (va_runS (As := [.long q]) (rest := [.long r39, .int z25]) ⟨hx, hb, hml, hown, hts⟩ (c_X8_digits l D cI cJ cZ H.size (q)) (va_cwS 1 hts gX8_timesOf_X8_digits_102 rfl rfl rfl (by decide +kernel) ⟨Nat.le_of_ble_eq_true rfl, Nat.le_of_ble_eq_true rfl⟩) (sp_preS [.long q] hK (hP.sub (ws' := []) [] rfl) (hD.sub (ws' := []) [] (by decide) rfl)) rfl rfl hl.1 rfl (lv_room (Nat.le_of_ble_eq_true rfl)) dX8_timesOf_110 ⟨Nat.le_of_ble_eq_true rfl, Nat.le_of_ble_eq_true rfl⟩) (fun r43 u44 H locs hw45 hP hD hS => ?_)
                    have h46 : 0 ≤ (r43 : Int64).toInt ∧ (¬ ((q : Int64).toInt = 0 ∨ (q : Int64).toInt = -1) → 1 ≤ (r43 : Int64).toInt) := hw45
                    have hP : va_P D vwCl [] H := hP
                    have hD : va_D A [] := hD
                    refine lv_lmul hx hb dX8_timesOf_113 ?_
                    refine lv_lload_n hx hb dX8_timesOf_114 rfl (lv_at hl 1 rfl) ?_
                    refine sp_calli (wr := []) (wc := []) hP hD hS hA [] [] rfl rfl (by decide) (by decide) (va_runS (As := [.long g]) (rest := [.long (r39 * r43), .int z25]) ⟨hx, hb, hml, hown, hts⟩ (c_X8_power l D cI cJ cZ H.size (g)) (va_cwS 1 hts gX8_timesOf_X8_power_98 rfl rfl rfl (by decide +kernel) ⟨Nat.le_of_ble_eq_true rfl, Nat.le_of_ble_eq_true rfl⟩) (sp_preS [.long g] hK (hP.sub (ws' := []) [] rfl) (hD.sub (ws' := []) [] (by decide) rfl)) rfl rfl hl.1 rfl (lv_room (Nat.le_of_ble_eq_true rfl)) dX8_timesOf_115 ⟨Nat.le_of_ble_eq_true rfl, Nat.le_of_ble_eq_true rfl⟩) (fun r47 u48 H locs hw49 hP hD hS => ?_)
                    have hP : va_P D vwCl [] H := hP
                    have hD : va_D A [] := hD
                    refine lv_lload_n hx hb dX8_timesOf_118 rfl (lv_at hl 2 rfl) ?_
                    refine sp_calli (wr := []) (wc := []) hP hD hS hA [] [] rfl rfl (by decide) (by decide) (va_runS (As := [.long q]) (rest := [.int r47, .long (r39 * r43), .int z25]) ⟨hx, hb, hml, hown, hts⟩ (c_X8_power l D cI cJ cZ H.size (q)) (va_cwS 1 hts gX8_timesOf_X8_power_98 rfl rfl rfl (by decide +kernel) ⟨Nat.le_of_ble_eq_true rfl, Nat.le_of_ble_eq_true rfl⟩) (sp_preS [.long q] hK (hP.sub (ws' := []) [] rfl) (hD.sub (ws' := []) [] (by decide) rfl)) rfl rfl hl.1 rfl (lv_room (Nat.le_of_ble_eq_true rfl)) dX8_timesOf_119 ⟨Nat.le_of_ble_eq_true rfl, Nat.le_of_ble_eq_true rfl⟩) (fun r50 u51 H locs hw52 hP hD hS => ?_)
                    have hP : va_P D vwCl [] H := hP
                    have hD : va_D A [] := hD
                    refine lv_iadd hx hb dX8_timesOf_122 ?_
                    refine lv_iconst (v := 0) hx hb dX8_timesOf_123 (by decide) ?_
                    refine sp_callj (wr := []) (wc := []) hP hD hS hA [] [] rfl rfl (by decide) (by decide) (va_runS (As := [.int z25, .long (r39 * r43), .int (r47 + r50), .int 0]) (rest := []) ⟨hx, hb, hml, hown, hts⟩ (c_X8_pack l D cI cJ cZ H.size (z25) ((r39 * r43)) ((r47 + r50)) (0)) (va_cwS 4 hts gX8_timesOf_X8_pack_105 rfl rfl rfl (by decide +kernel) ⟨Nat.le_of_ble_eq_true rfl, Nat.le_of_ble_eq_true rfl⟩) (sp_preS [.int z25, .long (r39 * r43), .int (r47 + r50), .int 0] hK (hP.sub (ws' := []) [] rfl) (hD.sub (ws' := []) [] (by decide) rfl)) rfl rfl hl.1 rfl (lv_room (Nat.le_of_ble_eq_true rfl)) dX8_timesOf_124 ⟨Nat.le_of_ble_eq_true rfl, Nat.le_of_ble_eq_true rfl⟩) (fun r53 u54 H locs hw55 hP hD hS => ?_)
                    have hP : va_P D vwCl [] H := hP
                    have hD : va_D A [] := hD
                    refine W.widen (k := 0) (n := 0) (by decide) (by decide) ?_
                    exact sp_lret (u := ()) hx hb hr hlocks hS trivial (hP.sub [] rfl) (hD.sub [] (by decide) rfl) dX8_timesOf_127
                  · skip
                    have c38i : ¬ (r35 : Int32).toInt = 0 := fun h => c38 (Int32.toInt_inj.mp h)
                    refine lv_iload hx hb dX8_timesOf_94 (lv_at hl 0 rfl) ?_
                    refine lv_ldc2 (v := 2139095040) hx hb hown (hts (.constantLong RX8 68 (2139095040)) (oX8_timesOf_in _ (List.mem_of_getElem? (i := 1) rfl))) dX8_timesOf_96 ?_
                    refine sp_callj (wr := []) (wc := []) hP hD hS hA [] [] rfl rfl (by decide) (by decide) (va_runS (As := [.int z25, .long 2139095040]) (rest := []) ⟨hx, hb, hml, hown, hts⟩ (c_X8_placeOf l D cI cJ cZ H.size (z25) (2139095040)) (va_cwS 2 hts gX8_timesOf_X8_placeOf_84 rfl rfl rfl (by decide +kernel) ⟨Nat.le_of_ble_eq_true rfl, Nat.le_of_ble_eq_true rfl⟩) (sp_preS [.int z25, .long 2139095040] hK (hP.sub (ws' := []) [] rfl) (hD.sub (ws' := []) [] (by decide) rfl)) rfl rfl hl.1 rfl (lv_room (Nat.le_of_ble_eq_true rfl)) dX8_timesOf_99 ⟨Nat.le_of_ble_eq_true rfl, Nat.le_of_ble_eq_true rfl⟩) (fun r56 u57 H locs hw58 hP hD hS => ?_)
                    have h59 : (r56 : Int64) = sq_mp (z25) (2139095040) := hw58
                    have hP : va_P D vwCl [] H := hP
                    have hD : va_D A [] := hD
                    refine W.widen (k := 0) (n := 0) (by decide) (by decide) ?_
                    exact sp_lret (u := ()) hx hb hr hlocks hS trivial (hP.sub [] rfl) (hD.sub [] (by decide) rfl) dX8_timesOf_102
              refine lv_icmp_eq (tgt := 77) hx hb dX8_timesOf_70 (by decide) (fun c22 => ?_) (fun c22 => ?_)
              · skip
                have c22i : (z15 : Int32).toInt = (z20 : Int32).toInt := congrArg Int32.toInt c22
                refine lv_iconst (v := 0) hx hb dX8_timesOf_77 (by decide) ?_
                exact hj26 (0) _ _ _ (hP.sub [] rfl) (hD.sub [] (by decide) rfl) hS (lv_sub hl [0, 1] rfl)
              · skip
                have c22i : ¬ (z15 : Int32).toInt = (z20 : Int32).toInt := fun h => c22 (Int32.toInt_inj.mp h)
                refine lv_iconst (v := 1) hx hb dX8_timesOf_73 (by decide) ?_
                refine lv_goto (tgt := 78) hx hb dX8_timesOf_74 (by decide) ?_
                exact hj26 (1) _ _ _ (hP.sub [] rfl) (hD.sub [] (by decide) rfl) hS (lv_sub hl [0, 1] rfl)
            refine lv_if_ge (tgt := 69) hx hb dX8_timesOf_62 (by decide) (fun c17 => ?_) (fun c17 => ?_)
            · skip
              have c17 := (lg_cmp_ge _ _).mp c17
              have c17i : 0 ≤ (q : Int64).toInt := Int64.le_iff_toInt_le.mp c17
              refine lv_iconst (v := 0) hx hb dX8_timesOf_69 (by decide) ?_
              exact hj21 (0) _ _ _ (hP.sub [] rfl) (hD.sub [] (by decide) rfl) hS (lv_sub hl [0, 1] rfl)
            · skip
              have c17 := fun h => c17 ((lg_cmp_ge _ _).mpr h)
              have c17i : ¬ 0 ≤ (q : Int64).toInt := fun h => c17 (Int64.le_iff_toInt_le.mpr h)
              refine lv_iconst (v := 1) hx hb dX8_timesOf_65 (by decide) ?_
              refine lv_goto (tgt := 70) hx hb dX8_timesOf_66 (by decide) ?_
              exact hj21 (1) _ _ _ (hP.sub [] rfl) (hD.sub [] (by decide) rfl) hS (lv_sub hl [0, 1] rfl)
          refine lv_if_ge (tgt := 58) hx hb dX8_timesOf_51 (by decide) (fun c12 => ?_) (fun c12 => ?_)
          · skip
            have c12 := (lg_cmp_ge _ _).mp c12
            have c12i : 0 ≤ (g : Int64).toInt := Int64.le_iff_toInt_le.mp c12
            refine lv_iconst (v := 0) hx hb dX8_timesOf_58 (by decide) ?_
            exact hj16 (0) _ _ _ (hP.sub [] rfl) (hD.sub [] (by decide) rfl) hS (lv_sub hl [0, 1] rfl)
          · skip
            have c12 := fun h => c12 ((lg_cmp_ge _ _).mpr h)
            have c12i : ¬ 0 ≤ (g : Int64).toInt := fun h => c12 (Int64.le_iff_toInt_le.mpr h)
            refine lv_iconst (v := 1) hx hb dX8_timesOf_54 (by decide) ?_
            refine lv_goto (tgt := 59) hx hb dX8_timesOf_55 (by decide) ?_
            exact hj16 (1) _ _ _ (hP.sub [] rfl) (hD.sub [] (by decide) rfl) hS (lv_sub hl [0, 1] rfl)
        · skip
          have c11i : ¬ (r7 : Int32).toInt = 0 := fun h => c11 (Int32.toInt_inj.mp h)
          refine lv_lload_n hx hb dX8_timesOf_37 rfl (lv_at hl 1 rfl) ?_
          refine sp_calli (wr := []) (wc := []) hP hD hS hA [] [] rfl rfl (by decide) (by decide) (va_runS (As := [.long q]) (rest := []) ⟨hx, hb, hml, hown, hts⟩ (c_X8_isInfinite l D cI cJ cZ H.size (q)) (va_cwS 1 hts gX8_timesOf_X8_isInfinite_94 rfl rfl rfl (by decide +kernel) ⟨Nat.le_of_ble_eq_true rfl, Nat.le_of_ble_eq_true rfl⟩) (sp_preS [.long q] hK (hP.sub (ws' := []) [] rfl) (hD.sub (ws' := []) [] (by decide) rfl)) rfl rfl hl.1 rfl (lv_room (Nat.le_of_ble_eq_true rfl)) dX8_timesOf_38 ⟨Nat.le_of_ble_eq_true rfl, Nat.le_of_ble_eq_true rfl⟩) (fun r60 u61 H locs hw62 hP hD hS => ?_)
          have hP : va_P D vwCl [] H := hP
          have hD : va_D A [] := hD
          refine lv_if_eq (tgt := 48) hx hb dX8_timesOf_41 (by decide) (fun c63 => ?_) (fun c63 => ?_)
          · skip
            have c63i : (r60 : Int32).toInt = 0 := congrArg Int32.toInt c63
            refine lv_lload_n hx hb dX8_timesOf_48 rfl (lv_at hl 0 rfl) ?_
            refine lv_lconst (v := 0) hx hb dX8_timesOf_49 (by decide) ?_
            refine W.lcmp hx hb dX8_timesOf_50 ?_
            have hj68 : ∀ (z67 : Int32) (H : Heap) (locs : List Loc) (ls : Array Slot), va_P D vwCl [] H → va_D A [] → va_S A s.heap H locs → lv_has ls 5 [(0, .long g), (2, .long q)] → W p l e ({ frames := 2, cells := 0, slots := 0, locals := 51 }) s m (([.long g, .long q] : List Value).toArray) below meth c H locs 0 0 (MQ below (va_Ql (fun (r : Int64) (_ : Unit) => True) (sp_B D vwCl A (fun (_ : Unit) => [])) A) ([.long g, .long q] : List Value).toArray s 0 0 A) (F0 m 59 ls [.int z67]) := by
              intro z67 H locs ls  hP hD hS hl
              refine lv_lload_n hx hb dX8_timesOf_59 rfl (lv_at hl 1 rfl) ?_
              refine lv_lconst (v := 0) hx hb dX8_timesOf_60 (by decide) ?_
              refine W.lcmp hx hb dX8_timesOf_61 ?_
              have hj73 : ∀ (z72 : Int32) (H : Heap) (locs : List Loc) (ls : Array Slot), va_P D vwCl [] H → va_D A [] → va_S A s.heap H locs → lv_has ls 5 [(0, .long g), (2, .long q)] → W p l e ({ frames := 2, cells := 0, slots := 0, locals := 51 }) s m (([.long g, .long q] : List Value).toArray) below meth c H locs 0 0 (MQ below (va_Ql (fun (r : Int64) (_ : Unit) => True) (sp_B D vwCl A (fun (_ : Unit) => [])) A) ([.long g, .long q] : List Value).toArray s 0 0 A) (F0 m 70 ls [.int z72, .int z67]) := by
                intro z72 H locs ls  hP hD hS hl
                have hj78 : ∀ (z77 : Int32) (H : Heap) (locs : List Loc) (ls : Array Slot), va_P D vwCl [] H → va_D A [] → va_S A s.heap H locs → lv_has ls 5 [(0, .long g), (2, .long q)] → W p l e ({ frames := 2, cells := 0, slots := 0, locals := 51 }) s m (([.long g, .long q] : List Value).toArray) below meth c H locs 0 0 (MQ below (va_Ql (fun (r : Int64) (_ : Unit) => True) (sp_B D vwCl A (fun (_ : Unit) => [])) A) ([.long g, .long q] : List Value).toArray s 0 0 A) (F0 m 78 ls [.int z77]) := by
                  intro z77 H locs ls  hP hD hS hl
                  refine lv_istore (lv' := [(4, .int z77), (0, .long g), (2, .long q)]) hx hb dX8_timesOf_78 hl (by decide) rfl (fun ls hl => ?_)
                  refine lv_lload_n hx hb dX8_timesOf_80 rfl (lv_at hl 1 rfl) ?_
                  refine sp_calli (wr := []) (wc := []) hP hD hS hA [] [] rfl rfl (by decide) (by decide) (va_runS (As := [.long g]) (rest := []) ⟨hx, hb, hml, hown, hts⟩ (c_X8_isInfinite l D cI cJ cZ H.size (g)) (va_cwS 1 hts gX8_timesOf_X8_isInfinite_94 rfl rfl rfl (by decide +kernel) ⟨Nat.le_of_ble_eq_true rfl, Nat.le_of_ble_eq_true rfl⟩) (sp_preS [.long g] hK (hP.sub (ws' := []) [] rfl) (hD.sub (ws' := []) [] (by decide) rfl)) rfl rfl hl.1 rfl (lv_room (Nat.le_of_ble_eq_true rfl)) dX8_timesOf_81 ⟨Nat.le_of_ble_eq_true rfl, Nat.le_of_ble_eq_true rfl⟩) (fun r79 u80 H locs hw81 hP hD hS => ?_)
                  have hP : va_P D vwCl [] H := hP
                  have hD : va_D A [] := hD
                  refine lv_if_ne (tgt := 94) hx hb dX8_timesOf_84 (by decide) (fun c82 => ?_) (fun c82 => ?_)
                  · skip
                    have c82i : ¬ (r79 : Int32).toInt = 0 := fun h => c82 (Int32.toInt_inj.mp h)
                    refine lv_iload hx hb dX8_timesOf_94 (lv_at hl 0 rfl) ?_
                    refine lv_ldc2 (v := 2139095040) hx hb hown (hts (.constantLong RX8 68 (2139095040)) (oX8_timesOf_in _ (List.mem_of_getElem? (i := 1) rfl))) dX8_timesOf_96 ?_
                    refine sp_callj (wr := []) (wc := []) hP hD hS hA [] [] rfl rfl (by decide) (by decide) (va_runS (As := [.int z77, .long 2139095040]) (rest := []) ⟨hx, hb, hml, hown, hts⟩ (c_X8_placeOf l D cI cJ cZ H.size (z77) (2139095040)) (va_cwS 2 hts gX8_timesOf_X8_placeOf_84 rfl rfl rfl (by decide +kernel) ⟨Nat.le_of_ble_eq_true rfl, Nat.le_of_ble_eq_true rfl⟩) (sp_preS [.int z77, .long 2139095040] hK (hP.sub (ws' := []) [] rfl) (hD.sub (ws' := []) [] (by decide) rfl)) rfl rfl hl.1 rfl (lv_room (Nat.le_of_ble_eq_true rfl)) dX8_timesOf_99 ⟨Nat.le_of_ble_eq_true rfl, Nat.le_of_ble_eq_true rfl⟩) (fun r83 u84 H locs hw85 hP hD hS => ?_)
                    have h86 : (r83 : Int64) = sq_mp (z77) (2139095040) := hw85
                    have hP : va_P D vwCl [] H := hP
                    have hD : va_D A [] := hD
                    refine W.widen (k := 0) (n := 0) (by decide) (by decide) ?_
                    exact sp_lret (u := ()) hx hb hr hlocks hS trivial (hP.sub [] rfl) (hD.sub [] (by decide) rfl) dX8_timesOf_102
                  · skip
                    have c82i : (r79 : Int32).toInt = 0 := congrArg Int32.toInt c82
                    refine lv_lload_n hx hb dX8_timesOf_87 rfl (lv_at hl 2 rfl) ?_
                    refine sp_calli (wr := []) (wc := []) hP hD hS hA [] [] rfl rfl (by decide) (by decide) (va_runS (As := [.long q]) (rest := []) ⟨hx, hb, hml, hown, hts⟩ (c_X8_isInfinite l D cI cJ cZ H.size (q)) (va_cwS 1 hts gX8_timesOf_X8_isInfinite_94 rfl rfl rfl (by decide +kernel) ⟨Nat.le_of_ble_eq_true rfl, Nat.le_of_ble_eq_true rfl⟩) (sp_preS [.long q] hK (hP.sub (ws' := []) [] rfl) (hD.sub (ws' := []) [] (by decide) rfl)) rfl rfl hl.1 rfl (lv_room (Nat.le_of_ble_eq_true rfl)) dX8_timesOf_88 ⟨Nat.le_of_ble_eq_true rfl, Nat.le_of_ble_eq_true rfl⟩) (fun r87 u88 H locs hw89 hP hD hS => ?_)
                    have hP : va_P D vwCl [] H := hP
                    have hD : va_D A [] := hD
                    refine lv_if_eq (tgt := 103) hx hb dX8_timesOf_91 (by decide) (fun c90 => ?_) (fun c90 => ?_)
                    · skip
                      have c90i : (r87 : Int32).toInt = 0 := congrArg Int32.toInt c90
                      refine lv_iload hx hb dX8_timesOf_103 (lv_at hl 0 rfl) ?_
                      refine lv_lload_n hx hb dX8_timesOf_105 rfl (lv_at hl 1 rfl) ?_
                      refine sp_callj (wr := []) (wc := []) hP hD hS hA [] [] rfl rfl (by decide) (by decide) (va_runS (As := [.long g]) (rest := [.int z77]) ⟨hx, hb, hml, hown, hts⟩ (c_X8_digits l D cI cJ cZ H.size (g)) (va_cwS 1 hts gX8_timesOf_X8_digits_102 rfl rfl rfl (by decide +kernel) ⟨Nat.le_of_ble_eq_true rfl, Nat.le_of_ble_eq_true rfl⟩) (sp_preS [.long g] hK (hP.sub (ws' := []) [] rfl) (hD.sub (ws' := []) [] (by decide) rfl)) rfl rfl hl.1 rfl (lv_room (Nat.le_of_ble_eq_true rfl)) dX8_timesOf_106 ⟨Nat.le_of_ble_eq_true rfl, Nat.le_of_ble_eq_true rfl⟩) (fun r91 u92 H locs hw93 hP hD hS => ?_)
                      have h94 : 0 ≤ (r91 : Int64).toInt ∧ (¬ ((g : Int64).toInt = 0 ∨ (g : Int64).toInt = -1) → 1 ≤ (r91 : Int64).toInt) := hw93
                      have hP : va_P D vwCl [] H := hP
                      have hD : va_D A [] := hD
                      refine lv_lload_n hx hb dX8_timesOf_109 rfl (lv_at hl 2 rfl) ?_
                      refine sp_callj (wr := []) (wc := []) hP hD hS hA [] [] rfl rfl (by decide) (by decide) (va_runS (As := [.long q]) (rest := [.long r91, .int z77]) ⟨hx, hb, hml, hown, hts⟩ (c_X8_digits l D cI cJ cZ H.size (q)) (va_cwS 1 hts gX8_timesOf_X8_digits_102 rfl rfl rfl (by decide +kernel) ⟨Nat.le_of_ble_eq_true rfl, Nat.le_of_ble_eq_true rfl⟩) (sp_preS [.long q] hK (hP.sub (ws' := []) [] rfl) (hD.sub (ws' := []) [] (by decide) rfl)) rfl rfl hl.1 rfl (lv_room (Nat.le_of_ble_eq_true rfl)) dX8_timesOf_110 ⟨Nat.le_of_ble_eq_true rfl, Nat.le_of_ble_eq_true rfl⟩) (fun r95 u96 H locs hw97 hP hD hS => ?_)
                      have h98 : 0 ≤ (r95 : Int64).toInt ∧ (¬ ((q : Int64).toInt = 0 ∨ (q : Int64).toInt = -1) → 1 ≤ (r95 : Int64).toInt) := hw97
                      have hP : va_P D vwCl [] H := hP
                      have hD : va_D A [] := hD
                      refine lv_lmul hx hb dX8_timesOf_113 ?_
                      refine lv_lload_n hx hb dX8_timesOf_114 rfl (lv_at hl 1 rfl) ?_
                      refine sp_calli (wr := []) (wc := []) hP hD hS hA [] [] rfl rfl (by decide) (by decide) (va_runS (As := [.long g]) (rest := [.long (r91 * r95), .int z77]) ⟨hx, hb, hml, hown, hts⟩ (c_X8_power l D cI cJ cZ H.size (g)) (va_cwS 1 hts gX8_timesOf_X8_power_98 rfl rfl rfl (by decide +kernel) ⟨Nat.le_of_ble_eq_true rfl, Nat.le_of_ble_eq_true rfl⟩) (sp_preS [.long g] hK (hP.sub (ws' := []) [] rfl) (hD.sub (ws' := []) [] (by decide) rfl)) rfl rfl hl.1 rfl (lv_room (Nat.le_of_ble_eq_true rfl)) dX8_timesOf_115 ⟨Nat.le_of_ble_eq_true rfl, Nat.le_of_ble_eq_true rfl⟩) (fun r99 u100 H locs hw101 hP hD hS => ?_)
                      have hP : va_P D vwCl [] H := hP
                      have hD : va_D A [] := hD
                      refine lv_lload_n hx hb dX8_timesOf_118 rfl (lv_at hl 2 rfl) ?_
                      refine sp_calli (wr := []) (wc := []) hP hD hS hA [] [] rfl rfl (by decide) (by decide) (va_runS (As := [.long q]) (rest := [.int r99, .long (r91 * r95), .int z77]) ⟨hx, hb, hml, hown, hts⟩ (c_X8_power l D cI cJ cZ H.size (q)) (va_cwS 1 hts gX8_timesOf_X8_power_98 rfl rfl rfl (by decide +kernel) ⟨Nat.le_of_ble_eq_true rfl, Nat.le_of_ble_eq_true rfl⟩) (sp_preS [.long q] hK (hP.sub (ws' := []) [] rfl) (hD.sub (ws' := []) [] (by decide) rfl)) rfl rfl hl.1 rfl (lv_room (Nat.le_of_ble_eq_true rfl)) dX8_timesOf_119 ⟨Nat.le_of_ble_eq_true rfl, Nat.le_of_ble_eq_true rfl⟩) (fun r102 u103 H locs hw104 hP hD hS => ?_)
                      have hP : va_P D vwCl [] H := hP
                      have hD : va_D A [] := hD
                      refine lv_iadd hx hb dX8_timesOf_122 ?_
                      refine lv_iconst (v := 0) hx hb dX8_timesOf_123 (by decide) ?_
                      refine sp_callj (wr := []) (wc := []) hP hD hS hA [] [] rfl rfl (by decide) (by decide) (va_runS (As := [.int z77, .long (r91 * r95), .int (r99 + r102), .int 0]) (rest := []) ⟨hx, hb, hml, hown, hts⟩ (c_X8_pack l D cI cJ cZ H.size (z77) ((r91 * r95)) ((r99 + r102)) (0)) (va_cwS 4 hts gX8_timesOf_X8_pack_105 rfl rfl rfl (by decide +kernel) ⟨Nat.le_of_ble_eq_true rfl, Nat.le_of_ble_eq_true rfl⟩) (sp_preS [.int z77, .long (r91 * r95), .int (r99 + r102), .int 0] hK (hP.sub (ws' := []) [] rfl) (hD.sub (ws' := []) [] (by decide) rfl)) rfl rfl hl.1 rfl (lv_room (Nat.le_of_ble_eq_true rfl)) dX8_timesOf_124 ⟨Nat.le_of_ble_eq_true rfl, Nat.le_of_ble_eq_true rfl⟩) (fun r105 u106 H locs hw107 hP hD hS => ?_)
                      have hP : va_P D vwCl [] H := hP
                      have hD : va_D A [] := hD
                      refine W.widen (k := 0) (n := 0) (by decide) (by decide) ?_
                      exact sp_lret (u := ()) hx hb hr hlocks hS trivial (hP.sub [] rfl) (hD.sub [] (by decide) rfl) dX8_timesOf_127
                    · skip
                      have c90i : ¬ (r87 : Int32).toInt = 0 := fun h => c90 (Int32.toInt_inj.mp h)
                      refine lv_iload hx hb dX8_timesOf_94 (lv_at hl 0 rfl) ?_
                      refine lv_ldc2 (v := 2139095040) hx hb hown (hts (.constantLong RX8 68 (2139095040)) (oX8_timesOf_in _ (List.mem_of_getElem? (i := 1) rfl))) dX8_timesOf_96 ?_
                      refine sp_callj (wr := []) (wc := []) hP hD hS hA [] [] rfl rfl (by decide) (by decide) (va_runS (As := [.int z77, .long 2139095040]) (rest := []) ⟨hx, hb, hml, hown, hts⟩ (c_X8_placeOf l D cI cJ cZ H.size (z77) (2139095040)) (va_cwS 2 hts gX8_timesOf_X8_placeOf_84 rfl rfl rfl (by decide +kernel) ⟨Nat.le_of_ble_eq_true rfl, Nat.le_of_ble_eq_true rfl⟩) (sp_preS [.int z77, .long 2139095040] hK (hP.sub (ws' := []) [] rfl) (hD.sub (ws' := []) [] (by decide) rfl)) rfl rfl hl.1 rfl (lv_room (Nat.le_of_ble_eq_true rfl)) dX8_timesOf_99 ⟨Nat.le_of_ble_eq_true rfl, Nat.le_of_ble_eq_true rfl⟩) (fun r108 u109 H locs hw110 hP hD hS => ?_)
                      have h111 : (r108 : Int64) = sq_mp (z77) (2139095040) := hw110
                      have hP : va_P D vwCl [] H := hP
                      have hD : va_D A [] := hD
                      refine W.widen (k := 0) (n := 0) (by decide) (by decide) ?_
                      exact sp_lret (u := ()) hx hb hr hlocks hS trivial (hP.sub [] rfl) (hD.sub [] (by decide) rfl) dX8_timesOf_102
                refine lv_icmp_eq (tgt := 77) hx hb dX8_timesOf_70 (by decide) (fun c74 => ?_) (fun c74 => ?_)
                · skip
                  have c74i : (z67 : Int32).toInt = (z72 : Int32).toInt := congrArg Int32.toInt c74
                  refine lv_iconst (v := 0) hx hb dX8_timesOf_77 (by decide) ?_
                  exact hj78 (0) _ _ _ (hP.sub [] rfl) (hD.sub [] (by decide) rfl) hS (lv_sub hl [0, 1] rfl)
                · skip
                  have c74i : ¬ (z67 : Int32).toInt = (z72 : Int32).toInt := fun h => c74 (Int32.toInt_inj.mp h)
                  refine lv_iconst (v := 1) hx hb dX8_timesOf_73 (by decide) ?_
                  refine lv_goto (tgt := 78) hx hb dX8_timesOf_74 (by decide) ?_
                  exact hj78 (1) _ _ _ (hP.sub [] rfl) (hD.sub [] (by decide) rfl) hS (lv_sub hl [0, 1] rfl)
              refine lv_if_ge (tgt := 69) hx hb dX8_timesOf_62 (by decide) (fun c69 => ?_) (fun c69 => ?_)
              · skip
                have c69 := (lg_cmp_ge _ _).mp c69
                have c69i : 0 ≤ (q : Int64).toInt := Int64.le_iff_toInt_le.mp c69
                refine lv_iconst (v := 0) hx hb dX8_timesOf_69 (by decide) ?_
                exact hj73 (0) _ _ _ (hP.sub [] rfl) (hD.sub [] (by decide) rfl) hS (lv_sub hl [0, 1] rfl)
              · skip
                have c69 := fun h => c69 ((lg_cmp_ge _ _).mpr h)
                have c69i : ¬ 0 ≤ (q : Int64).toInt := fun h => c69 (Int64.le_iff_toInt_le.mpr h)
                refine lv_iconst (v := 1) hx hb dX8_timesOf_65 (by decide) ?_
                refine lv_goto (tgt := 70) hx hb dX8_timesOf_66 (by decide) ?_
                exact hj73 (1) _ _ _ (hP.sub [] rfl) (hD.sub [] (by decide) rfl) hS (lv_sub hl [0, 1] rfl)
            refine lv_if_ge (tgt := 58) hx hb dX8_timesOf_51 (by decide) (fun c64 => ?_) (fun c64 => ?_)
            · skip
              have c64 := (lg_cmp_ge _ _).mp c64
              have c64i : 0 ≤ (g : Int64).toInt := Int64.le_iff_toInt_le.mp c64
              refine lv_iconst (v := 0) hx hb dX8_timesOf_58 (by decide) ?_
              exact hj68 (0) _ _ _ (hP.sub [] rfl) (hD.sub [] (by decide) rfl) hS (lv_sub hl [0, 1] rfl)
            · skip
              have c64 := fun h => c64 ((lg_cmp_ge _ _).mpr h)
              have c64i : ¬ 0 ≤ (g : Int64).toInt := fun h => c64 (Int64.le_iff_toInt_le.mpr h)
              refine lv_iconst (v := 1) hx hb dX8_timesOf_54 (by decide) ?_
              refine lv_goto (tgt := 59) hx hb dX8_timesOf_55 (by decide) ?_
              exact hj68 (1) _ _ _ (hP.sub [] rfl) (hD.sub [] (by decide) rfl) hS (lv_sub hl [0, 1] rfl)
          · skip
            have c63i : ¬ (r60 : Int32).toInt = 0 := fun h => c63 (Int32.toInt_inj.mp h)
            refine lv_ldc2 (v := 9000000000) hx hb hown (hts (.constantLong RX8 82 (9000000000)) (oX8_timesOf_in _ (List.mem_of_getElem? (i := 0) rfl))) dX8_timesOf_44 ?_
            refine W.widen (k := 0) (n := 0) (by decide) (by decide) ?_
            exact sp_lret (u := ()) hx hb hr hlocks hS trivial (hP.sub [] rfl) (hD.sub [] (by decide) rfl) dX8_timesOf_47
      · skip
        have c6i : ¬ (r3 : Int32).toInt = 0 := fun h => c6 (Int32.toInt_inj.mp h)
        refine lv_lload_n hx hb dX8_timesOf_23 rfl (lv_at hl 1 rfl) ?_
        refine sp_calli (wr := []) (wc := []) hP hD hS hA [] [] rfl rfl (by decide) (by decide) (va_runS (As := [.long q]) (rest := []) ⟨hx, hb, hml, hown, hts⟩ (c_X8_isZero l D cI cJ cZ H.size (q)) (va_cwS 1 hts gX8_timesOf_X8_isZero_109 rfl rfl rfl (by decide +kernel) ⟨Nat.le_of_ble_eq_true rfl, Nat.le_of_ble_eq_true rfl⟩) (sp_preS [.long q] hK (hP.sub (ws' := []) [] rfl) (hD.sub (ws' := []) [] (by decide) rfl)) rfl rfl hl.1 rfl (lv_room (Nat.le_of_ble_eq_true rfl)) dX8_timesOf_24 ⟨Nat.le_of_ble_eq_true rfl, Nat.le_of_ble_eq_true rfl⟩) (fun r112 u113 H locs hw114 hP hD hS => ?_)
        have h115 : ((r112 : Int32).toInt = 1 ∧ ((q : Int64).toInt = 0 ∨ (q : Int64).toInt = -1)) ∨ ((r112 : Int32).toInt = 0 ∧ ¬ ((q : Int64).toInt = 0 ∨ (q : Int64).toInt = -1)) := sp_bool hw114
        have hP : va_P D vwCl [] H := hP
        have hD : va_D A [] := hD
        refine lv_if_ne (tgt := 44) hx hb dX8_timesOf_27 (by decide) (fun c116 => ?_) (fun c116 => ?_)
        · skip
          have c116i : ¬ (r112 : Int32).toInt = 0 := fun h => c116 (Int32.toInt_inj.mp h)
          refine lv_ldc2 (v := 9000000000) hx hb hown (hts (.constantLong RX8 82 (9000000000)) (oX8_timesOf_in _ (List.mem_of_getElem? (i := 0) rfl))) dX8_timesOf_44 ?_
          refine W.widen (k := 0) (n := 0) (by decide) (by decide) ?_
          exact sp_lret (u := ()) hx hb hr hlocks hS trivial (hP.sub [] rfl) (hD.sub [] (by decide) rfl) dX8_timesOf_47
        · skip
          have c116i : (r112 : Int32).toInt = 0 := congrArg Int32.toInt c116
          refine lv_lload_n hx hb dX8_timesOf_30 rfl (lv_at hl 0 rfl) ?_
          refine sp_calli (wr := []) (wc := []) hP hD hS hA [] [] rfl rfl (by decide) (by decide) (va_runS (As := [.long g]) (rest := []) ⟨hx, hb, hml, hown, hts⟩ (c_X8_isZero l D cI cJ cZ H.size (g)) (va_cwS 1 hts gX8_timesOf_X8_isZero_109 rfl rfl rfl (by decide +kernel) ⟨Nat.le_of_ble_eq_true rfl, Nat.le_of_ble_eq_true rfl⟩) (sp_preS [.long g] hK (hP.sub (ws' := []) [] rfl) (hD.sub (ws' := []) [] (by decide) rfl)) rfl rfl hl.1 rfl (lv_room (Nat.le_of_ble_eq_true rfl)) dX8_timesOf_31 ⟨Nat.le_of_ble_eq_true rfl, Nat.le_of_ble_eq_true rfl⟩) (fun r117 u118 H locs hw119 hP hD hS => ?_)
          have h120 : ((r117 : Int32).toInt = 1 ∧ ((g : Int64).toInt = 0 ∨ (g : Int64).toInt = -1)) ∨ ((r117 : Int32).toInt = 0 ∧ ¬ ((g : Int64).toInt = 0 ∨ (g : Int64).toInt = -1)) := sp_bool hw119
          have hP : va_P D vwCl [] H := hP
          have hD : va_D A [] := hD
          refine lv_if_eq (tgt := 48) hx hb dX8_timesOf_34 (by decide) (fun c121 => ?_) (fun c121 => ?_)
          · skip
            have c121i : (r117 : Int32).toInt = 0 := congrArg Int32.toInt c121
            refine lv_lload_n hx hb dX8_timesOf_48 rfl (lv_at hl 0 rfl) ?_
            refine lv_lconst (v := 0) hx hb dX8_timesOf_49 (by decide) ?_
            refine W.lcmp hx hb dX8_timesOf_50 ?_
            have hj126 : ∀ (z125 : Int32) (H : Heap) (locs : List Loc) (ls : Array Slot), va_P D vwCl [] H → va_D A [] → va_S A s.heap H locs → lv_has ls 5 [(0, .long g), (2, .long q)] → W p l e ({ frames := 2, cells := 0, slots := 0, locals := 51 }) s m (([.long g, .long q] : List Value).toArray) below meth c H locs 0 0 (MQ below (va_Ql (fun (r : Int64) (_ : Unit) => True) (sp_B D vwCl A (fun (_ : Unit) => [])) A) ([.long g, .long q] : List Value).toArray s 0 0 A) (F0 m 59 ls [.int z125]) := by
              intro z125 H locs ls  hP hD hS hl
              refine lv_lload_n hx hb dX8_timesOf_59 rfl (lv_at hl 1 rfl) ?_
              refine lv_lconst (v := 0) hx hb dX8_timesOf_60 (by decide) ?_
              refine W.lcmp hx hb dX8_timesOf_61 ?_
              have hj131 : ∀ (z130 : Int32) (H : Heap) (locs : List Loc) (ls : Array Slot), va_P D vwCl [] H → va_D A [] → va_S A s.heap H locs → lv_has ls 5 [(0, .long g), (2, .long q)] → W p l e ({ frames := 2, cells := 0, slots := 0, locals := 51 }) s m (([.long g, .long q] : List Value).toArray) below meth c H locs 0 0 (MQ below (va_Ql (fun (r : Int64) (_ : Unit) => True) (sp_B D vwCl A (fun (_ : Unit) => [])) A) ([.long g, .long q] : List Value).toArray s 0 0 A) (F0 m 70 ls [.int z130, .int z125]) := by
                intro z130 H locs ls  hP hD hS hl
                have hj136 : ∀ (z135 : Int32) (H : Heap) (locs : List Loc) (ls : Array Slot), va_P D vwCl [] H → va_D A [] → va_S A s.heap H locs → lv_has ls 5 [(0, .long g), (2, .long q)] → W p l e ({ frames := 2, cells := 0, slots := 0, locals := 51 }) s m (([.long g, .long q] : List Value).toArray) below meth c H locs 0 0 (MQ below (va_Ql (fun (r : Int64) (_ : Unit) => True) (sp_B D vwCl A (fun (_ : Unit) => [])) A) ([.long g, .long q] : List Value).toArray s 0 0 A) (F0 m 78 ls [.int z135]) := by
                  intro z135 H locs ls  hP hD hS hl
                  refine lv_istore (lv' := [(4, .int z135), (0, .long g), (2, .long q)]) hx hb dX8_timesOf_78 hl (by decide) rfl (fun ls hl => ?_)
                  refine lv_lload_n hx hb dX8_timesOf_80 rfl (lv_at hl 1 rfl) ?_
                  refine sp_calli (wr := []) (wc := []) hP hD hS hA [] [] rfl rfl (by decide) (by decide) (va_runS (As := [.long g]) (rest := []) ⟨hx, hb, hml, hown, hts⟩ (c_X8_isInfinite l D cI cJ cZ H.size (g)) (va_cwS 1 hts gX8_timesOf_X8_isInfinite_94 rfl rfl rfl (by decide +kernel) ⟨Nat.le_of_ble_eq_true rfl, Nat.le_of_ble_eq_true rfl⟩) (sp_preS [.long g] hK (hP.sub (ws' := []) [] rfl) (hD.sub (ws' := []) [] (by decide) rfl)) rfl rfl hl.1 rfl (lv_room (Nat.le_of_ble_eq_true rfl)) dX8_timesOf_81 ⟨Nat.le_of_ble_eq_true rfl, Nat.le_of_ble_eq_true rfl⟩) (fun r137 u138 H locs hw139 hP hD hS => ?_)
                  have hP : va_P D vwCl [] H := hP
                  have hD : va_D A [] := hD
                  refine lv_if_ne (tgt := 94) hx hb dX8_timesOf_84 (by decide) (fun c140 => ?_) (fun c140 => ?_)
                  · skip
                    have c140i : ¬ (r137 : Int32).toInt = 0 := fun h => c140 (Int32.toInt_inj.mp h)
                    refine lv_iload hx hb dX8_timesOf_94 (lv_at hl 0 rfl) ?_
                    refine lv_ldc2 (v := 2139095040) hx hb hown (hts (.constantLong RX8 68 (2139095040)) (oX8_timesOf_in _ (List.mem_of_getElem? (i := 1) rfl))) dX8_timesOf_96 ?_
                    refine sp_callj (wr := []) (wc := []) hP hD hS hA [] [] rfl rfl (by decide) (by decide) (va_runS (As := [.int z135, .long 2139095040]) (rest := []) ⟨hx, hb, hml, hown, hts⟩ (c_X8_placeOf l D cI cJ cZ H.size (z135) (2139095040)) (va_cwS 2 hts gX8_timesOf_X8_placeOf_84 rfl rfl rfl (by decide +kernel) ⟨Nat.le_of_ble_eq_true rfl, Nat.le_of_ble_eq_true rfl⟩) (sp_preS [.int z135, .long 2139095040] hK (hP.sub (ws' := []) [] rfl) (hD.sub (ws' := []) [] (by decide) rfl)) rfl rfl hl.1 rfl (lv_room (Nat.le_of_ble_eq_true rfl)) dX8_timesOf_99 ⟨Nat.le_of_ble_eq_true rfl, Nat.le_of_ble_eq_true rfl⟩) (fun r141 u142 H locs hw143 hP hD hS => ?_)
                    have h144 : (r141 : Int64) = sq_mp (z135) (2139095040) := hw143
                    have hP : va_P D vwCl [] H := hP
                    have hD : va_D A [] := hD
                    refine W.widen (k := 0) (n := 0) (by decide) (by decide) ?_
                    exact sp_lret (u := ()) hx hb hr hlocks hS trivial (hP.sub [] rfl) (hD.sub [] (by decide) rfl) dX8_timesOf_102
                  · skip
                    have c140i : (r137 : Int32).toInt = 0 := congrArg Int32.toInt c140
                    refine lv_lload_n hx hb dX8_timesOf_87 rfl (lv_at hl 2 rfl) ?_
                    refine sp_calli (wr := []) (wc := []) hP hD hS hA [] [] rfl rfl (by decide) (by decide) (va_runS (As := [.long q]) (rest := []) ⟨hx, hb, hml, hown, hts⟩ (c_X8_isInfinite l D cI cJ cZ H.size (q)) (va_cwS 1 hts gX8_timesOf_X8_isInfinite_94 rfl rfl rfl (by decide +kernel) ⟨Nat.le_of_ble_eq_true rfl, Nat.le_of_ble_eq_true rfl⟩) (sp_preS [.long q] hK (hP.sub (ws' := []) [] rfl) (hD.sub (ws' := []) [] (by decide) rfl)) rfl rfl hl.1 rfl (lv_room (Nat.le_of_ble_eq_true rfl)) dX8_timesOf_88 ⟨Nat.le_of_ble_eq_true rfl, Nat.le_of_ble_eq_true rfl⟩) (fun r145 u146 H locs hw147 hP hD hS => ?_)
                    have hP : va_P D vwCl [] H := hP
                    have hD : va_D A [] := hD
                    refine lv_if_eq (tgt := 103) hx hb dX8_timesOf_91 (by decide) (fun c148 => ?_) (fun c148 => ?_)
                    · skip
                      have c148i : (r145 : Int32).toInt = 0 := congrArg Int32.toInt c148
                      refine lv_iload hx hb dX8_timesOf_103 (lv_at hl 0 rfl) ?_
                      refine lv_lload_n hx hb dX8_timesOf_105 rfl (lv_at hl 1 rfl) ?_
                      refine sp_callj (wr := []) (wc := []) hP hD hS hA [] [] rfl rfl (by decide) (by decide) (va_runS (As := [.long g]) (rest := [.int z135]) ⟨hx, hb, hml, hown, hts⟩ (c_X8_digits l D cI cJ cZ H.size (g)) (va_cwS 1 hts gX8_timesOf_X8_digits_102 rfl rfl rfl (by decide +kernel) ⟨Nat.le_of_ble_eq_true rfl, Nat.le_of_ble_eq_true rfl⟩) (sp_preS [.long g] hK (hP.sub (ws' := []) [] rfl) (hD.sub (ws' := []) [] (by decide) rfl)) rfl rfl hl.1 rfl (lv_room (Nat.le_of_ble_eq_true rfl)) dX8_timesOf_106 ⟨Nat.le_of_ble_eq_true rfl, Nat.le_of_ble_eq_true rfl⟩) (fun r149 u150 H locs hw151 hP hD hS => ?_)
                      have h152 : 0 ≤ (r149 : Int64).toInt ∧ (¬ ((g : Int64).toInt = 0 ∨ (g : Int64).toInt = -1) → 1 ≤ (r149 : Int64).toInt) := hw151
                      have hP : va_P D vwCl [] H := hP
                      have hD : va_D A [] := hD
                      refine lv_lload_n hx hb dX8_timesOf_109 rfl (lv_at hl 2 rfl) ?_
                      refine sp_callj (wr := []) (wc := []) hP hD hS hA [] [] rfl rfl (by decide) (by decide) (va_runS (As := [.long q]) (rest := [.long r149, .int z135]) ⟨hx, hb, hml, hown, hts⟩ (c_X8_digits l D cI cJ cZ H.size (q)) (va_cwS 1 hts gX8_timesOf_X8_digits_102 rfl rfl rfl (by decide +kernel) ⟨Nat.le_of_ble_eq_true rfl, Nat.le_of_ble_eq_true rfl⟩) (sp_preS [.long q] hK (hP.sub (ws' := []) [] rfl) (hD.sub (ws' := []) [] (by decide) rfl)) rfl rfl hl.1 rfl (lv_room (Nat.le_of_ble_eq_true rfl)) dX8_timesOf_110 ⟨Nat.le_of_ble_eq_true rfl, Nat.le_of_ble_eq_true rfl⟩) (fun r153 u154 H locs hw155 hP hD hS => ?_)
                      have h156 : 0 ≤ (r153 : Int64).toInt ∧ (¬ ((q : Int64).toInt = 0 ∨ (q : Int64).toInt = -1) → 1 ≤ (r153 : Int64).toInt) := hw155
                      have hP : va_P D vwCl [] H := hP
                      have hD : va_D A [] := hD
                      refine lv_lmul hx hb dX8_timesOf_113 ?_
                      refine lv_lload_n hx hb dX8_timesOf_114 rfl (lv_at hl 1 rfl) ?_
                      refine sp_calli (wr := []) (wc := []) hP hD hS hA [] [] rfl rfl (by decide) (by decide) (va_runS (As := [.long g]) (rest := [.long (r149 * r153), .int z135]) ⟨hx, hb, hml, hown, hts⟩ (c_X8_power l D cI cJ cZ H.size (g)) (va_cwS 1 hts gX8_timesOf_X8_power_98 rfl rfl rfl (by decide +kernel) ⟨Nat.le_of_ble_eq_true rfl, Nat.le_of_ble_eq_true rfl⟩) (sp_preS [.long g] hK (hP.sub (ws' := []) [] rfl) (hD.sub (ws' := []) [] (by decide) rfl)) rfl rfl hl.1 rfl (lv_room (Nat.le_of_ble_eq_true rfl)) dX8_timesOf_115 ⟨Nat.le_of_ble_eq_true rfl, Nat.le_of_ble_eq_true rfl⟩) (fun r157 u158 H locs hw159 hP hD hS => ?_)
                      have hP : va_P D vwCl [] H := hP
                      have hD : va_D A [] := hD
                      refine lv_lload_n hx hb dX8_timesOf_118 rfl (lv_at hl 2 rfl) ?_
                      refine sp_calli (wr := []) (wc := []) hP hD hS hA [] [] rfl rfl (by decide) (by decide) (va_runS (As := [.long q]) (rest := [.int r157, .long (r149 * r153), .int z135]) ⟨hx, hb, hml, hown, hts⟩ (c_X8_power l D cI cJ cZ H.size (q)) (va_cwS 1 hts gX8_timesOf_X8_power_98 rfl rfl rfl (by decide +kernel) ⟨Nat.le_of_ble_eq_true rfl, Nat.le_of_ble_eq_true rfl⟩) (sp_preS [.long q] hK (hP.sub (ws' := []) [] rfl) (hD.sub (ws' := []) [] (by decide) rfl)) rfl rfl hl.1 rfl (lv_room (Nat.le_of_ble_eq_true rfl)) dX8_timesOf_119 ⟨Nat.le_of_ble_eq_true rfl, Nat.le_of_ble_eq_true rfl⟩) (fun r160 u161 H locs hw162 hP hD hS => ?_)
                      have hP : va_P D vwCl [] H := hP
                      have hD : va_D A [] := hD
                      refine lv_iadd hx hb dX8_timesOf_122 ?_
                      refine lv_iconst (v := 0) hx hb dX8_timesOf_123 (by decide) ?_
                      refine sp_callj (wr := []) (wc := []) hP hD hS hA [] [] rfl rfl (by decide) (by decide) (va_runS (As := [.int z135, .long (r149 * r153), .int (r157 + r160), .int 0]) (rest := []) ⟨hx, hb, hml, hown, hts⟩ (c_X8_pack l D cI cJ cZ H.size (z135) ((r149 * r153)) ((r157 + r160)) (0)) (va_cwS 4 hts gX8_timesOf_X8_pack_105 rfl rfl rfl (by decide +kernel) ⟨Nat.le_of_ble_eq_true rfl, Nat.le_of_ble_eq_true rfl⟩) (sp_preS [.int z135, .long (r149 * r153), .int (r157 + r160), .int 0] hK (hP.sub (ws' := []) [] rfl) (hD.sub (ws' := []) [] (by decide) rfl)) rfl rfl hl.1 rfl (lv_room (Nat.le_of_ble_eq_true rfl)) dX8_timesOf_124 ⟨Nat.le_of_ble_eq_true rfl, Nat.le_of_ble_eq_true rfl⟩) (fun r163 u164 H locs hw165 hP hD hS => ?_)
                      have hP : va_P D vwCl [] H := hP
                      have hD : va_D A [] := hD
                      refine W.widen (k := 0) (n := 0) (by decide) (by decide) ?_
                      exact sp_lret (u := ()) hx hb hr hlocks hS trivial (hP.sub [] rfl) (hD.sub [] (by decide) rfl) dX8_timesOf_127
                    · skip
                      have c148i : ¬ (r145 : Int32).toInt = 0 := fun h => c148 (Int32.toInt_inj.mp h)
                      refine lv_iload hx hb dX8_timesOf_94 (lv_at hl 0 rfl) ?_
                      refine lv_ldc2 (v := 2139095040) hx hb hown (hts (.constantLong RX8 68 (2139095040)) (oX8_timesOf_in _ (List.mem_of_getElem? (i := 1) rfl))) dX8_timesOf_96 ?_
                      refine sp_callj (wr := []) (wc := []) hP hD hS hA [] [] rfl rfl (by decide) (by decide) (va_runS (As := [.int z135, .long 2139095040]) (rest := []) ⟨hx, hb, hml, hown, hts⟩ (c_X8_placeOf l D cI cJ cZ H.size (z135) (2139095040)) (va_cwS 2 hts gX8_timesOf_X8_placeOf_84 rfl rfl rfl (by decide +kernel) ⟨Nat.le_of_ble_eq_true rfl, Nat.le_of_ble_eq_true rfl⟩) (sp_preS [.int z135, .long 2139095040] hK (hP.sub (ws' := []) [] rfl) (hD.sub (ws' := []) [] (by decide) rfl)) rfl rfl hl.1 rfl (lv_room (Nat.le_of_ble_eq_true rfl)) dX8_timesOf_99 ⟨Nat.le_of_ble_eq_true rfl, Nat.le_of_ble_eq_true rfl⟩) (fun r166 u167 H locs hw168 hP hD hS => ?_)
                      have h169 : (r166 : Int64) = sq_mp (z135) (2139095040) := hw168
                      have hP : va_P D vwCl [] H := hP
                      have hD : va_D A [] := hD
                      refine W.widen (k := 0) (n := 0) (by decide) (by decide) ?_
                      exact sp_lret (u := ()) hx hb hr hlocks hS trivial (hP.sub [] rfl) (hD.sub [] (by decide) rfl) dX8_timesOf_102
                refine lv_icmp_eq (tgt := 77) hx hb dX8_timesOf_70 (by decide) (fun c132 => ?_) (fun c132 => ?_)
                · skip
                  have c132i : (z125 : Int32).toInt = (z130 : Int32).toInt := congrArg Int32.toInt c132
                  refine lv_iconst (v := 0) hx hb dX8_timesOf_77 (by decide) ?_
                  exact hj136 (0) _ _ _ (hP.sub [] rfl) (hD.sub [] (by decide) rfl) hS (lv_sub hl [0, 1] rfl)
                · skip
                  have c132i : ¬ (z125 : Int32).toInt = (z130 : Int32).toInt := fun h => c132 (Int32.toInt_inj.mp h)
                  refine lv_iconst (v := 1) hx hb dX8_timesOf_73 (by decide) ?_
                  refine lv_goto (tgt := 78) hx hb dX8_timesOf_74 (by decide) ?_
                  exact hj136 (1) _ _ _ (hP.sub [] rfl) (hD.sub [] (by decide) rfl) hS (lv_sub hl [0, 1] rfl)
              refine lv_if_ge (tgt := 69) hx hb dX8_timesOf_62 (by decide) (fun c127 => ?_) (fun c127 => ?_)
              · skip
                have c127 := (lg_cmp_ge _ _).mp c127
                have c127i : 0 ≤ (q : Int64).toInt := Int64.le_iff_toInt_le.mp c127
                refine lv_iconst (v := 0) hx hb dX8_timesOf_69 (by decide) ?_
                exact hj131 (0) _ _ _ (hP.sub [] rfl) (hD.sub [] (by decide) rfl) hS (lv_sub hl [0, 1] rfl)
              · skip
                have c127 := fun h => c127 ((lg_cmp_ge _ _).mpr h)
                have c127i : ¬ 0 ≤ (q : Int64).toInt := fun h => c127 (Int64.le_iff_toInt_le.mpr h)
                refine lv_iconst (v := 1) hx hb dX8_timesOf_65 (by decide) ?_
                refine lv_goto (tgt := 70) hx hb dX8_timesOf_66 (by decide) ?_
                exact hj131 (1) _ _ _ (hP.sub [] rfl) (hD.sub [] (by decide) rfl) hS (lv_sub hl [0, 1] rfl)
            refine lv_if_ge (tgt := 58) hx hb dX8_timesOf_51 (by decide) (fun c122 => ?_) (fun c122 => ?_)
            · skip
              have c122 := (lg_cmp_ge _ _).mp c122
              have c122i : 0 ≤ (g : Int64).toInt := Int64.le_iff_toInt_le.mp c122
              refine lv_iconst (v := 0) hx hb dX8_timesOf_58 (by decide) ?_
              exact hj126 (0) _ _ _ (hP.sub [] rfl) (hD.sub [] (by decide) rfl) hS (lv_sub hl [0, 1] rfl)
            · skip
              have c122 := fun h => c122 ((lg_cmp_ge _ _).mpr h)
              have c122i : ¬ 0 ≤ (g : Int64).toInt := fun h => c122 (Int64.le_iff_toInt_le.mpr h)
              refine lv_iconst (v := 1) hx hb dX8_timesOf_54 (by decide) ?_
              refine lv_goto (tgt := 59) hx hb dX8_timesOf_55 (by decide) ?_
              exact hj126 (1) _ _ _ (hP.sub [] rfl) (hD.sub [] (by decide) rfl) hS (lv_sub hl [0, 1] rfl)
          · skip
            have c121i : ¬ (r117 : Int32).toInt = 0 := fun h => c121 (Int32.toInt_inj.mp h)
            refine lv_lload_n hx hb dX8_timesOf_37 rfl (lv_at hl 1 rfl) ?_
            refine sp_calli (wr := []) (wc := []) hP hD hS hA [] [] rfl rfl (by decide) (by decide) (va_runS (As := [.long q]) (rest := []) ⟨hx, hb, hml, hown, hts⟩ (c_X8_isInfinite l D cI cJ cZ H.size (q)) (va_cwS 1 hts gX8_timesOf_X8_isInfinite_94 rfl rfl rfl (by decide +kernel) ⟨Nat.le_of_ble_eq_true rfl, Nat.le_of_ble_eq_true rfl⟩) (sp_preS [.long q] hK (hP.sub (ws' := []) [] rfl) (hD.sub (ws' := []) [] (by decide) rfl)) rfl rfl hl.1 rfl (lv_room (Nat.le_of_ble_eq_true rfl)) dX8_timesOf_38 ⟨Nat.le_of_ble_eq_true rfl, Nat.le_of_ble_eq_true rfl⟩) (fun r170 u171 H locs hw172 hP hD hS => ?_)
            have hP : va_P D vwCl [] H := hP
            have hD : va_D A [] := hD
            refine lv_if_eq (tgt := 48) hx hb dX8_timesOf_41 (by decide) (fun c173 => ?_) (fun c173 => ?_)
            · skip
              have c173i : (r170 : Int32).toInt = 0 := congrArg Int32.toInt c173
              refine lv_lload_n hx hb dX8_timesOf_48 rfl (lv_at hl 0 rfl) ?_
              refine lv_lconst (v := 0) hx hb dX8_timesOf_49 (by decide) ?_
              refine W.lcmp hx hb dX8_timesOf_50 ?_
              have hj178 : ∀ (z177 : Int32) (H : Heap) (locs : List Loc) (ls : Array Slot), va_P D vwCl [] H → va_D A [] → va_S A s.heap H locs → lv_has ls 5 [(0, .long g), (2, .long q)] → W p l e ({ frames := 2, cells := 0, slots := 0, locals := 51 }) s m (([.long g, .long q] : List Value).toArray) below meth c H locs 0 0 (MQ below (va_Ql (fun (r : Int64) (_ : Unit) => True) (sp_B D vwCl A (fun (_ : Unit) => [])) A) ([.long g, .long q] : List Value).toArray s 0 0 A) (F0 m 59 ls [.int z177]) := by
                intro z177 H locs ls  hP hD hS hl
                refine lv_lload_n hx hb dX8_timesOf_59 rfl (lv_at hl 1 rfl) ?_
                refine lv_lconst (v := 0) hx hb dX8_timesOf_60 (by decide) ?_
                refine W.lcmp hx hb dX8_timesOf_61 ?_
                have hj183 : ∀ (z182 : Int32) (H : Heap) (locs : List Loc) (ls : Array Slot), va_P D vwCl [] H → va_D A [] → va_S A s.heap H locs → lv_has ls 5 [(0, .long g), (2, .long q)] → W p l e ({ frames := 2, cells := 0, slots := 0, locals := 51 }) s m (([.long g, .long q] : List Value).toArray) below meth c H locs 0 0 (MQ below (va_Ql (fun (r : Int64) (_ : Unit) => True) (sp_B D vwCl A (fun (_ : Unit) => [])) A) ([.long g, .long q] : List Value).toArray s 0 0 A) (F0 m 70 ls [.int z182, .int z177]) := by
                  intro z182 H locs ls  hP hD hS hl
                  have hj188 : ∀ (z187 : Int32) (H : Heap) (locs : List Loc) (ls : Array Slot), va_P D vwCl [] H → va_D A [] → va_S A s.heap H locs → lv_has ls 5 [(0, .long g), (2, .long q)] → W p l e ({ frames := 2, cells := 0, slots := 0, locals := 51 }) s m (([.long g, .long q] : List Value).toArray) below meth c H locs 0 0 (MQ below (va_Ql (fun (r : Int64) (_ : Unit) => True) (sp_B D vwCl A (fun (_ : Unit) => [])) A) ([.long g, .long q] : List Value).toArray s 0 0 A) (F0 m 78 ls [.int z187]) := by
                    intro z187 H locs ls  hP hD hS hl
                    refine lv_istore (lv' := [(4, .int z187), (0, .long g), (2, .long q)]) hx hb dX8_timesOf_78 hl (by decide) rfl (fun ls hl => ?_)
                    refine lv_lload_n hx hb dX8_timesOf_80 rfl (lv_at hl 1 rfl) ?_
                    refine sp_calli (wr := []) (wc := []) hP hD hS hA [] [] rfl rfl (by decide) (by decide) (va_runS (As := [.long g]) (rest := []) ⟨hx, hb, hml, hown, hts⟩ (c_X8_isInfinite l D cI cJ cZ H.size (g)) (va_cwS 1 hts gX8_timesOf_X8_isInfinite_94 rfl rfl rfl (by decide +kernel) ⟨Nat.le_of_ble_eq_true rfl, Nat.le_of_ble_eq_true rfl⟩) (sp_preS [.long g] hK (hP.sub (ws' := []) [] rfl) (hD.sub (ws' := []) [] (by decide) rfl)) rfl rfl hl.1 rfl (lv_room (Nat.le_of_ble_eq_true rfl)) dX8_timesOf_81 ⟨Nat.le_of_ble_eq_true rfl, Nat.le_of_ble_eq_true rfl⟩) (fun r189 u190 H locs hw191 hP hD hS => ?_)
                    have hP : va_P D vwCl [] H := hP
                    have hD : va_D A [] := hD
                    refine lv_if_ne (tgt := 94) hx hb dX8_timesOf_84 (by decide) (fun c192 => ?_) (fun c192 => ?_)
                    · skip
                      have c192i : ¬ (r189 : Int32).toInt = 0 := fun h => c192 (Int32.toInt_inj.mp h)
                      refine lv_iload hx hb dX8_timesOf_94 (lv_at hl 0 rfl) ?_
                      refine lv_ldc2 (v := 2139095040) hx hb hown (hts (.constantLong RX8 68 (2139095040)) (oX8_timesOf_in _ (List.mem_of_getElem? (i := 1) rfl))) dX8_timesOf_96 ?_
                      refine sp_callj (wr := []) (wc := []) hP hD hS hA [] [] rfl rfl (by decide) (by decide) (va_runS (As := [.int z187, .long 2139095040]) (rest := []) ⟨hx, hb, hml, hown, hts⟩ (c_X8_placeOf l D cI cJ cZ H.size (z187) (2139095040)) (va_cwS 2 hts gX8_timesOf_X8_placeOf_84 rfl rfl rfl (by decide +kernel) ⟨Nat.le_of_ble_eq_true rfl, Nat.le_of_ble_eq_true rfl⟩) (sp_preS [.int z187, .long 2139095040] hK (hP.sub (ws' := []) [] rfl) (hD.sub (ws' := []) [] (by decide) rfl)) rfl rfl hl.1 rfl (lv_room (Nat.le_of_ble_eq_true rfl)) dX8_timesOf_99 ⟨Nat.le_of_ble_eq_true rfl, Nat.le_of_ble_eq_true rfl⟩) (fun r193 u194 H locs hw195 hP hD hS => ?_)
                      have h196 : (r193 : Int64) = sq_mp (z187) (2139095040) := hw195
                      have hP : va_P D vwCl [] H := hP
                      have hD : va_D A [] := hD
                      refine W.widen (k := 0) (n := 0) (by decide) (by decide) ?_
                      exact sp_lret (u := ()) hx hb hr hlocks hS trivial (hP.sub [] rfl) (hD.sub [] (by decide) rfl) dX8_timesOf_102
                    · skip
                      have c192i : (r189 : Int32).toInt = 0 := congrArg Int32.toInt c192
                      refine lv_lload_n hx hb dX8_timesOf_87 rfl (lv_at hl 2 rfl) ?_
                      refine sp_calli (wr := []) (wc := []) hP hD hS hA [] [] rfl rfl (by decide) (by decide) (va_runS (As := [.long q]) (rest := []) ⟨hx, hb, hml, hown, hts⟩ (c_X8_isInfinite l D cI cJ cZ H.size (q)) (va_cwS 1 hts gX8_timesOf_X8_isInfinite_94 rfl rfl rfl (by decide +kernel) ⟨Nat.le_of_ble_eq_true rfl, Nat.le_of_ble_eq_true rfl⟩) (sp_preS [.long q] hK (hP.sub (ws' := []) [] rfl) (hD.sub (ws' := []) [] (by decide) rfl)) rfl rfl hl.1 rfl (lv_room (Nat.le_of_ble_eq_true rfl)) dX8_timesOf_88 ⟨Nat.le_of_ble_eq_true rfl, Nat.le_of_ble_eq_true rfl⟩) (fun r197 u198 H locs hw199 hP hD hS => ?_)
                      have hP : va_P D vwCl [] H := hP
                      have hD : va_D A [] := hD
                      refine lv_if_eq (tgt := 103) hx hb dX8_timesOf_91 (by decide) (fun c200 => ?_) (fun c200 => ?_)
                      · skip
                        have c200i : (r197 : Int32).toInt = 0 := congrArg Int32.toInt c200
                        refine lv_iload hx hb dX8_timesOf_103 (lv_at hl 0 rfl) ?_
                        refine lv_lload_n hx hb dX8_timesOf_105 rfl (lv_at hl 1 rfl) ?_
                        refine sp_callj (wr := []) (wc := []) hP hD hS hA [] [] rfl rfl (by decide) (by decide) (va_runS (As := [.long g]) (rest := [.int z187]) ⟨hx, hb, hml, hown, hts⟩ (c_X8_digits l D cI cJ cZ H.size (g)) (va_cwS 1 hts gX8_timesOf_X8_digits_102 rfl rfl rfl (by decide +kernel) ⟨Nat.le_of_ble_eq_true rfl, Nat.le_of_ble_eq_true rfl⟩) (sp_preS [.long g] hK (hP.sub (ws' := []) [] rfl) (hD.sub (ws' := []) [] (by decide) rfl)) rfl rfl hl.1 rfl (lv_room (Nat.le_of_ble_eq_true rfl)) dX8_timesOf_106 ⟨Nat.le_of_ble_eq_true rfl, Nat.le_of_ble_eq_true rfl⟩) (fun r201 u202 H locs hw203 hP hD hS => ?_)
                        have h204 : 0 ≤ (r201 : Int64).toInt ∧ (¬ ((g : Int64).toInt = 0 ∨ (g : Int64).toInt = -1) → 1 ≤ (r201 : Int64).toInt) := hw203
                        have hP : va_P D vwCl [] H := hP
                        have hD : va_D A [] := hD
                        refine lv_lload_n hx hb dX8_timesOf_109 rfl (lv_at hl 2 rfl) ?_
                        refine sp_callj (wr := []) (wc := []) hP hD hS hA [] [] rfl rfl (by decide) (by decide) (va_runS (As := [.long q]) (rest := [.long r201, .int z187]) ⟨hx, hb, hml, hown, hts⟩ (c_X8_digits l D cI cJ cZ H.size (q)) (va_cwS 1 hts gX8_timesOf_X8_digits_102 rfl rfl rfl (by decide +kernel) ⟨Nat.le_of_ble_eq_true rfl, Nat.le_of_ble_eq_true rfl⟩) (sp_preS [.long q] hK (hP.sub (ws' := []) [] rfl) (hD.sub (ws' := []) [] (by decide) rfl)) rfl rfl hl.1 rfl (lv_room (Nat.le_of_ble_eq_true rfl)) dX8_timesOf_110 ⟨Nat.le_of_ble_eq_true rfl, Nat.le_of_ble_eq_true rfl⟩) (fun r205 u206 H locs hw207 hP hD hS => ?_)
                        have h208 : 0 ≤ (r205 : Int64).toInt ∧ (¬ ((q : Int64).toInt = 0 ∨ (q : Int64).toInt = -1) → 1 ≤ (r205 : Int64).toInt) := hw207
                        have hP : va_P D vwCl [] H := hP
                        have hD : va_D A [] := hD
                        refine lv_lmul hx hb dX8_timesOf_113 ?_
                        refine lv_lload_n hx hb dX8_timesOf_114 rfl (lv_at hl 1 rfl) ?_
                        refine sp_calli (wr := []) (wc := []) hP hD hS hA [] [] rfl rfl (by decide) (by decide) (va_runS (As := [.long g]) (rest := [.long (r201 * r205), .int z187]) ⟨hx, hb, hml, hown, hts⟩ (c_X8_power l D cI cJ cZ H.size (g)) (va_cwS 1 hts gX8_timesOf_X8_power_98 rfl rfl rfl (by decide +kernel) ⟨Nat.le_of_ble_eq_true rfl, Nat.le_of_ble_eq_true rfl⟩) (sp_preS [.long g] hK (hP.sub (ws' := []) [] rfl) (hD.sub (ws' := []) [] (by decide) rfl)) rfl rfl hl.1 rfl (lv_room (Nat.le_of_ble_eq_true rfl)) dX8_timesOf_115 ⟨Nat.le_of_ble_eq_true rfl, Nat.le_of_ble_eq_true rfl⟩) (fun r209 u210 H locs hw211 hP hD hS => ?_)
                        have hP : va_P D vwCl [] H := hP
                        have hD : va_D A [] := hD
                        refine lv_lload_n hx hb dX8_timesOf_118 rfl (lv_at hl 2 rfl) ?_
                        refine sp_calli (wr := []) (wc := []) hP hD hS hA [] [] rfl rfl (by decide) (by decide) (va_runS (As := [.long q]) (rest := [.int r209, .long (r201 * r205), .int z187]) ⟨hx, hb, hml, hown, hts⟩ (c_X8_power l D cI cJ cZ H.size (q)) (va_cwS 1 hts gX8_timesOf_X8_power_98 rfl rfl rfl (by decide +kernel) ⟨Nat.le_of_ble_eq_true rfl, Nat.le_of_ble_eq_true rfl⟩) (sp_preS [.long q] hK (hP.sub (ws' := []) [] rfl) (hD.sub (ws' := []) [] (by decide) rfl)) rfl rfl hl.1 rfl (lv_room (Nat.le_of_ble_eq_true rfl)) dX8_timesOf_119 ⟨Nat.le_of_ble_eq_true rfl, Nat.le_of_ble_eq_true rfl⟩) (fun r212 u213 H locs hw214 hP hD hS => ?_)
                        have hP : va_P D vwCl [] H := hP
                        have hD : va_D A [] := hD
                        refine lv_iadd hx hb dX8_timesOf_122 ?_
                        refine lv_iconst (v := 0) hx hb dX8_timesOf_123 (by decide) ?_
                        refine sp_callj (wr := []) (wc := []) hP hD hS hA [] [] rfl rfl (by decide) (by decide) (va_runS (As := [.int z187, .long (r201 * r205), .int (r209 + r212), .int 0]) (rest := []) ⟨hx, hb, hml, hown, hts⟩ (c_X8_pack l D cI cJ cZ H.size (z187) ((r201 * r205)) ((r209 + r212)) (0)) (va_cwS 4 hts gX8_timesOf_X8_pack_105 rfl rfl rfl (by decide +kernel) ⟨Nat.le_of_ble_eq_true rfl, Nat.le_of_ble_eq_true rfl⟩) (sp_preS [.int z187, .long (r201 * r205), .int (r209 + r212), .int 0] hK (hP.sub (ws' := []) [] rfl) (hD.sub (ws' := []) [] (by decide) rfl)) rfl rfl hl.1 rfl (lv_room (Nat.le_of_ble_eq_true rfl)) dX8_timesOf_124 ⟨Nat.le_of_ble_eq_true rfl, Nat.le_of_ble_eq_true rfl⟩) (fun r215 u216 H locs hw217 hP hD hS => ?_)
                        have hP : va_P D vwCl [] H := hP
                        have hD : va_D A [] := hD
                        refine W.widen (k := 0) (n := 0) (by decide) (by decide) ?_
                        exact sp_lret (u := ()) hx hb hr hlocks hS trivial (hP.sub [] rfl) (hD.sub [] (by decide) rfl) dX8_timesOf_127
                      · skip
                        have c200i : ¬ (r197 : Int32).toInt = 0 := fun h => c200 (Int32.toInt_inj.mp h)
                        refine lv_iload hx hb dX8_timesOf_94 (lv_at hl 0 rfl) ?_
                        refine lv_ldc2 (v := 2139095040) hx hb hown (hts (.constantLong RX8 68 (2139095040)) (oX8_timesOf_in _ (List.mem_of_getElem? (i := 1) rfl))) dX8_timesOf_96 ?_
                        refine sp_callj (wr := []) (wc := []) hP hD hS hA [] [] rfl rfl (by decide) (by decide) (va_runS (As := [.int z187, .long 2139095040]) (rest := []) ⟨hx, hb, hml, hown, hts⟩ (c_X8_placeOf l D cI cJ cZ H.size (z187) (2139095040)) (va_cwS 2 hts gX8_timesOf_X8_placeOf_84 rfl rfl rfl (by decide +kernel) ⟨Nat.le_of_ble_eq_true rfl, Nat.le_of_ble_eq_true rfl⟩) (sp_preS [.int z187, .long 2139095040] hK (hP.sub (ws' := []) [] rfl) (hD.sub (ws' := []) [] (by decide) rfl)) rfl rfl hl.1 rfl (lv_room (Nat.le_of_ble_eq_true rfl)) dX8_timesOf_99 ⟨Nat.le_of_ble_eq_true rfl, Nat.le_of_ble_eq_true rfl⟩) (fun r218 u219 H locs hw220 hP hD hS => ?_)
                        have h221 : (r218 : Int64) = sq_mp (z187) (2139095040) := hw220
                        have hP : va_P D vwCl [] H := hP
                        have hD : va_D A [] := hD
                        refine W.widen (k := 0) (n := 0) (by decide) (by decide) ?_
                        exact sp_lret (u := ()) hx hb hr hlocks hS trivial (hP.sub [] rfl) (hD.sub [] (by decide) rfl) dX8_timesOf_102
                  refine lv_icmp_eq (tgt := 77) hx hb dX8_timesOf_70 (by decide) (fun c184 => ?_) (fun c184 => ?_)
                  · skip
                    have c184i : (z177 : Int32).toInt = (z182 : Int32).toInt := congrArg Int32.toInt c184
                    refine lv_iconst (v := 0) hx hb dX8_timesOf_77 (by decide) ?_
                    exact hj188 (0) _ _ _ (hP.sub [] rfl) (hD.sub [] (by decide) rfl) hS (lv_sub hl [0, 1] rfl)
                  · skip
                    have c184i : ¬ (z177 : Int32).toInt = (z182 : Int32).toInt := fun h => c184 (Int32.toInt_inj.mp h)
                    refine lv_iconst (v := 1) hx hb dX8_timesOf_73 (by decide) ?_
                    refine lv_goto (tgt := 78) hx hb dX8_timesOf_74 (by decide) ?_
                    exact hj188 (1) _ _ _ (hP.sub [] rfl) (hD.sub [] (by decide) rfl) hS (lv_sub hl [0, 1] rfl)
                refine lv_if_ge (tgt := 69) hx hb dX8_timesOf_62 (by decide) (fun c179 => ?_) (fun c179 => ?_)
                · skip
                  have c179 := (lg_cmp_ge _ _).mp c179
                  have c179i : 0 ≤ (q : Int64).toInt := Int64.le_iff_toInt_le.mp c179
                  refine lv_iconst (v := 0) hx hb dX8_timesOf_69 (by decide) ?_
                  exact hj183 (0) _ _ _ (hP.sub [] rfl) (hD.sub [] (by decide) rfl) hS (lv_sub hl [0, 1] rfl)
                · skip
                  have c179 := fun h => c179 ((lg_cmp_ge _ _).mpr h)
                  have c179i : ¬ 0 ≤ (q : Int64).toInt := fun h => c179 (Int64.le_iff_toInt_le.mpr h)
                  refine lv_iconst (v := 1) hx hb dX8_timesOf_65 (by decide) ?_
                  refine lv_goto (tgt := 70) hx hb dX8_timesOf_66 (by decide) ?_
                  exact hj183 (1) _ _ _ (hP.sub [] rfl) (hD.sub [] (by decide) rfl) hS (lv_sub hl [0, 1] rfl)
              refine lv_if_ge (tgt := 58) hx hb dX8_timesOf_51 (by decide) (fun c174 => ?_) (fun c174 => ?_)
              · skip
                have c174 := (lg_cmp_ge _ _).mp c174
                have c174i : 0 ≤ (g : Int64).toInt := Int64.le_iff_toInt_le.mp c174
                refine lv_iconst (v := 0) hx hb dX8_timesOf_58 (by decide) ?_
                exact hj178 (0) _ _ _ (hP.sub [] rfl) (hD.sub [] (by decide) rfl) hS (lv_sub hl [0, 1] rfl)
              · skip
                have c174 := fun h => c174 ((lg_cmp_ge _ _).mpr h)
                have c174i : ¬ 0 ≤ (g : Int64).toInt := fun h => c174 (Int64.le_iff_toInt_le.mpr h)
                refine lv_iconst (v := 1) hx hb dX8_timesOf_54 (by decide) ?_
                refine lv_goto (tgt := 59) hx hb dX8_timesOf_55 (by decide) ?_
                exact hj178 (1) _ _ _ (hP.sub [] rfl) (hD.sub [] (by decide) rfl) hS (lv_sub hl [0, 1] rfl)
            · skip
              have c173i : ¬ (r170 : Int32).toInt = 0 := fun h => c173 (Int32.toInt_inj.mp h)
              refine lv_ldc2 (v := 9000000000) hx hb hown (hts (.constantLong RX8 82 (9000000000)) (oX8_timesOf_in _ (List.mem_of_getElem? (i := 0) rfl))) dX8_timesOf_44 ?_
              refine W.widen (k := 0) (n := 0) (by decide) (by decide) ?_
              exact sp_lret (u := ()) hx hb hr hlocks hS trivial (hP.sub [] rfl) (hD.sub [] (by decide) rfl) dX8_timesOf_47
def oX8_byOf : List Cond := [.constantLong RX8 80 (8388608), .constantLong RX8 90 (2), .constantLong RX8 82 (9000000000), .constantLong RX8 68 (2139095040)]
def wpX8_byOf : List Cond := .code yX8_byOf cX8_byOf 12 (some .long) :: (oX8_byOf ++ ((va_wsS RX8 102 yX8_digits wpX8_digits) ++ ((va_wsS RX8 98 yX8_power wpX8_power) ++ ((va_wsS RX8 105 yX8_pack wpX8_pack) ++ ((va_wsS RX8 94 yX8_isInfinite wpX8_isInfinite) ++ ((va_wsS RX8 109 yX8_isZero wpX8_isZero) ++ ((va_wsS RX8 84 yX8_placeOf wpX8_placeOf) ++ ([] : List Cond))))))))
theorem oX8_byOf_in : ∀ w ∈ oX8_byOf, w ∈ wpX8_byOf := fun w h => List.mem_cons_of_mem _ (List.mem_append_left _ h)
theorem gwoX8_byOf : ∀ w ∈ oX8_byOf, goodWord w = true := by decide +kernel
theorem gwX8_byOf : ∀ w ∈ wpX8_byOf, goodWord w = true := by
  unfold wpX8_byOf
  exact List.forall_mem_cons.mpr ⟨rfl, List.forall_mem_append.mpr ⟨gwoX8_byOf, List.forall_mem_append.mpr ⟨(sp_gS gwX8_digits), List.forall_mem_append.mpr ⟨(sp_gS gwX8_power), List.forall_mem_append.mpr ⟨(sp_gS gwX8_pack), List.forall_mem_append.mpr ⟨(sp_gS gwX8_isInfinite), List.forall_mem_append.mpr ⟨(sp_gS gwX8_isZero), List.forall_mem_append.mpr ⟨(sp_gS gwX8_placeOf), fun _ h => absurd h List.not_mem_nil⟩⟩⟩⟩⟩⟩⟩⟩
set_option maxRecDepth 100000 in
theorem toX8_byOf : ∀ w ∈ oX8_byOf, w ∈ lw_tbl := by
  unfold oX8_byOf
  exact List.forall_mem_cons.mpr ⟨(List.mem_of_getElem? (i := 843) (by decide +kernel)), List.forall_mem_cons.mpr ⟨(List.mem_of_getElem? (i := 770) (by decide +kernel)), List.forall_mem_cons.mpr ⟨(List.mem_of_getElem? (i := 804) (by decide +kernel)), List.forall_mem_cons.mpr ⟨(List.mem_of_getElem? (i := 682) (by decide +kernel)), fun _ h => absurd h List.not_mem_nil⟩⟩⟩⟩
set_option maxRecDepth 100000 in
theorem tX8_byOf : ∀ w ∈ wpX8_byOf, w ∈ lw_tbl := by
  unfold wpX8_byOf
  exact List.forall_mem_cons.mpr ⟨(List.mem_of_getElem? (i := 863) (by rfl)), List.forall_mem_append.mpr ⟨toX8_byOf, List.forall_mem_append.mpr ⟨(sp_tS (List.mem_of_getElem? (i := 844) (by decide +kernel)) (List.mem_of_getElem? (i := 845) (by decide +kernel)) (List.mem_of_getElem? (i := 45) (by decide +kernel)) tX8_digits), List.forall_mem_append.mpr ⟨(sp_tS (List.mem_of_getElem? (i := 840) (by decide +kernel)) (List.mem_of_getElem? (i := 841) (by decide +kernel)) (List.mem_of_getElem? (i := 45) (by decide +kernel)) tX8_power), List.forall_mem_append.mpr ⟨(sp_tS (List.mem_of_getElem? (i := 847) (by decide +kernel)) (List.mem_of_getElem? (i := 848) (by decide +kernel)) (List.mem_of_getElem? (i := 45) (by decide +kernel)) tX8_pack), List.forall_mem_append.mpr ⟨(sp_tS (List.mem_of_getElem? (i := 834) (by decide +kernel)) (List.mem_of_getElem? (i := 835) (by decide +kernel)) (List.mem_of_getElem? (i := 45) (by decide +kernel)) tX8_isInfinite), List.forall_mem_append.mpr ⟨(sp_tS (List.mem_of_getElem? (i := 858) (by decide +kernel)) (List.mem_of_getElem? (i := 859) (by decide +kernel)) (List.mem_of_getElem? (i := 45) (by decide +kernel)) tX8_isZero), List.forall_mem_append.mpr ⟨(sp_tS (List.mem_of_getElem? (i := 805) (by decide +kernel)) (List.mem_of_getElem? (i := 806) (by decide +kernel)) (List.mem_of_getElem? (i := 45) (by decide +kernel)) tX8_placeOf), fun _ h => absurd h List.not_mem_nil⟩⟩⟩⟩⟩⟩⟩⟩
theorem gX8_byOf_X8_digits_102 : GoodIn wpX8_byOf (va_wsS RX8 102 yX8_digits wpX8_digits) := fun w h => ⟨List.mem_cons_of_mem _ (List.mem_append_right _ (List.mem_append_left _ h)), good_of_word (sp_gS gwX8_digits w h)⟩
theorem gX8_byOf_X8_power_98 : GoodIn wpX8_byOf (va_wsS RX8 98 yX8_power wpX8_power) := fun w h => ⟨List.mem_cons_of_mem _ (List.mem_append_right _ (List.mem_append_right _ (List.mem_append_left _ h))), good_of_word (sp_gS gwX8_power w h)⟩
theorem gX8_byOf_X8_pack_105 : GoodIn wpX8_byOf (va_wsS RX8 105 yX8_pack wpX8_pack) := fun w h => ⟨List.mem_cons_of_mem _ (List.mem_append_right _ (List.mem_append_right _ (List.mem_append_right _ (List.mem_append_left _ h)))), good_of_word (sp_gS gwX8_pack w h)⟩
theorem gX8_byOf_X8_isInfinite_94 : GoodIn wpX8_byOf (va_wsS RX8 94 yX8_isInfinite wpX8_isInfinite) := fun w h => ⟨List.mem_cons_of_mem _ (List.mem_append_right _ (List.mem_append_right _ (List.mem_append_right _ (List.mem_append_right _ (List.mem_append_left _ h))))), good_of_word (sp_gS gwX8_isInfinite w h)⟩
theorem gX8_byOf_X8_isZero_109 : GoodIn wpX8_byOf (va_wsS RX8 109 yX8_isZero wpX8_isZero) := fun w h => ⟨List.mem_cons_of_mem _ (List.mem_append_right _ (List.mem_append_right _ (List.mem_append_right _ (List.mem_append_right _ (List.mem_append_right _ (List.mem_append_left _ h)))))), good_of_word (sp_gS gwX8_isZero w h)⟩
theorem gX8_byOf_X8_placeOf_84 : GoodIn wpX8_byOf (va_wsS RX8 84 yX8_placeOf wpX8_placeOf) := fun w h => ⟨List.mem_cons_of_mem _ (List.mem_append_right _ (List.mem_append_right _ (List.mem_append_right _ (List.mem_append_right _ (List.mem_append_right _ (List.mem_append_right _ (List.mem_append_left _ h))))))), good_of_word (sp_gS gwX8_placeOf w h)⟩
set_option maxHeartbeats 4000000 in
set_option maxRecDepth 100000 in
theorem lp_X8_byOf_136 {p : Program} {e : Env} {s : State} {m : MethodId} {below : List Frame} {meth : Method} {c : Code} {A : Nat → Prop} (l : Launch) (D : va_G) (cI cJ cZ : ClassId) (g : Int64) (q : Int64) (C0 : sp_C cX8_byOf (some .long) 12 wpX8_byOf yX8_byOf.cls yX8_byOf.name p s m ([.long g, .long q] : List Value).toArray meth c) (hA : ∀ q : Nat, s.heap.size ≤ q → A q) (hK : va_K D vwCl [(cI, .int), (cJ, .long), (cZ, .boolean)] s) :
    ∀ (fuel : Nat) (mi : Int32) (mm : Int64) (ee : Int32) (H : Heap) (locs : List Loc) (ls : Array Slot), (¬ ((q : Int64).toInt = 0 ∨ (q : Int64).toInt = -1)) → (1 ≤ (mm : Int64).toInt) → ((if (mm : Int64).toInt < 8388608 then 8388608 - (mm : Int64).toInt else 0) < (fuel : Int)) → va_P D vwCl [] H → va_D A [] → va_S A s.heap H locs → lv_has ls 12 [(0, .long g), (2, .long q), (4, .int mi), (5, .long mm), (7, .int ee)] → W p l e ({ frames := 2, cells := 0, slots := 0, locals := 51 }) s m (([.long g, .long q] : List Value).toArray) below meth c H locs 0 0 (MQ below (va_Ql (fun (r : Int64) (_ : Unit) => True) (sp_B D vwCl A (fun (_ : Unit) => [])) A) ([.long g, .long q] : List Value).toArray s 0 0 A) (F0 m 136 ls []) := by
  obtain ⟨hx, hb, hr, hts, hown, hlocks, hml, hin⟩ := id C0
  have hown : s.vm.findClass RX8 = some m.cls := hown
  intro fuel
  induction fuel with
  | zero =>
    intro mi mm ee H locs ls hqz h1 hm
    exact absurd hm (by omega)
  | succ fuel ih =>
    intro mi mm ee H locs ls hqz h1 hm hP hD hS hl
    refine lv_lload hx hb dX8_byOf_136 (lv_at hl 3 rfl) ?_
    refine lv_ldc2 (v := 8388608) hx hb hown (hts (.constantLong RX8 80 (8388608)) (oX8_byOf_in _ (List.mem_of_getElem? (i := 0) rfl))) dX8_byOf_138 ?_
    refine W.lcmp hx hb dX8_byOf_141 ?_
    refine lv_if_ge (tgt := 159) hx hb dX8_byOf_142 (by decide) (fun c1 => ?_) (fun c1 => ?_)
    · skip
      have c1 := (lg_cmp_ge _ _).mp c1
      have c1i : 8388608 ≤ (mm : Int64).toInt := Int64.le_iff_toInt_le.mp c1
      refine lv_lload_n hx hb dX8_byOf_159 rfl (lv_at hl 1 rfl) ?_
      refine sp_callj (wr := []) (wc := []) hP hD hS hA [] [] rfl rfl (by decide) (by decide) (va_runS (As := [.long q]) (rest := []) ⟨hx, hb, hml, hown, hts⟩ (c_X8_digits l D cI cJ cZ H.size (q)) (va_cwS 1 hts gX8_byOf_X8_digits_102 rfl rfl rfl (by decide +kernel) ⟨Nat.le_of_ble_eq_true rfl, Nat.le_of_ble_eq_true rfl⟩) (sp_preS [.long q] hK (hP.sub (ws' := []) [] rfl) (hD.sub (ws' := []) [] (by decide) rfl)) rfl rfl hl.1 rfl (lv_room (Nat.le_of_ble_eq_true rfl)) dX8_byOf_160 ⟨Nat.le_of_ble_eq_true rfl, Nat.le_of_ble_eq_true rfl⟩) (fun r5 u6 H locs hw7 hP hD hS => ?_)
      have h8 : 0 ≤ (r5 : Int64).toInt ∧ (¬ ((q : Int64).toInt = 0 ∨ (q : Int64).toInt = -1) → 1 ≤ (r5 : Int64).toInt) := hw7
      have hP : va_P D vwCl [] H := hP
      have hD : va_D A [] := hD
      refine lv_lstore (lv' := [(8, .long r5), (0, .long g), (2, .long q), (4, .int mi), (5, .long mm), (7, .int ee)]) hx hb dX8_byOf_163 hl (by decide) rfl (fun ls hl => ?_)
      refine lv_lload hx hb dX8_byOf_165 (lv_at hl 4 rfl) ?_
      refine lv_bipush (v := 38) hx hb dX8_byOf_167 (by decide) ?_
      refine lv_lshl (v := _) hx hb dX8_byOf_169 rfl ?_
      refine lv_lstore (lv' := [(10, .long (mm <<< ((38 : Int32).toInt64 &&& 63))), (8, .long r5), (0, .long g), (2, .long q), (4, .int mi), (5, .long mm), (7, .int ee)]) hx hb dX8_byOf_170 hl (by decide) rfl (fun ls hl => ?_)
      refine lv_iload hx hb dX8_byOf_172 (lv_at hl 4 rfl) ?_
      refine lv_lload hx hb dX8_byOf_174 (lv_at hl 0 rfl) ?_
      refine lv_lload hx hb dX8_byOf_176 (lv_at hl 1 rfl) ?_
      refine lv_ldiv hx hb dX8_byOf_178 (fun q => absurd (congrArg Int64.toInt q) (by show ¬ (r5 : Int64).toInt = 0; omega)) ?_
      refine lv_iload hx hb dX8_byOf_179 (lv_at hl 6 rfl) ?_
      refine lv_bipush (v := 38) hx hb dX8_byOf_181 (by decide) ?_
      refine lv_isub hx hb dX8_byOf_183 ?_
      refine lv_lload_n hx hb dX8_byOf_184 rfl (lv_at hl 3 rfl) ?_
      refine sp_calli (wr := []) (wc := []) hP hD hS hA [] [] rfl rfl (by decide) (by decide) (va_runS (As := [.long q]) (rest := [.int (ee - 38), .long ((mm <<< ((38 : Int32).toInt64 &&& 63)) / r5), .int mi]) ⟨hx, hb, hml, hown, hts⟩ (c_X8_power l D cI cJ cZ H.size (q)) (va_cwS 1 hts gX8_byOf_X8_power_98 rfl rfl rfl (by decide +kernel) ⟨Nat.le_of_ble_eq_true rfl, Nat.le_of_ble_eq_true rfl⟩) (sp_preS [.long q] hK (hP.sub (ws' := []) [] rfl) (hD.sub (ws' := []) [] (by decide) rfl)) rfl rfl hl.1 rfl (lv_room (Nat.le_of_ble_eq_true rfl)) dX8_byOf_185 ⟨Nat.le_of_ble_eq_true rfl, Nat.le_of_ble_eq_true rfl⟩) (fun r9 u10 H locs hw11 hP hD hS => ?_)
      have hP : va_P D vwCl [] H := hP
      have hD : va_D A [] := hD
      refine lv_isub hx hb dX8_byOf_188 ?_
      refine lv_lload hx hb dX8_byOf_189 (lv_at hl 0 rfl) ?_
      refine lv_lload hx hb dX8_byOf_191 (lv_at hl 1 rfl) ?_
      refine lv_lrem hx hb dX8_byOf_193 (fun q => absurd (congrArg Int64.toInt q) (by show ¬ (r5 : Int64).toInt = 0; omega)) ?_
      refine lv_lconst (v := 0) hx hb dX8_byOf_194 (by decide) ?_
      refine W.lcmp hx hb dX8_byOf_195 ?_
      have hj16 : ∀ (z15 : Int32) (H : Heap) (locs : List Loc) (ls : Array Slot), va_P D vwCl [] H → va_D A [] → va_S A s.heap H locs → lv_has ls 12 [(10, .long (mm <<< ((38 : Int32).toInt64 &&& 63))), (8, .long r5), (0, .long g), (2, .long q), (4, .int mi), (5, .long mm), (7, .int ee)] → W p l e ({ frames := 2, cells := 0, slots := 0, locals := 51 }) s m (([.long g, .long q] : List Value).toArray) below meth c H locs 0 0 (MQ below (va_Ql (fun (r : Int64) (_ : Unit) => True) (sp_B D vwCl A (fun (_ : Unit) => [])) A) ([.long g, .long q] : List Value).toArray s 0 0 A) (F0 m 204 ls [.int z15, .int ((ee - 38) - r9), .long ((mm <<< ((38 : Int32).toInt64 &&& 63)) / r5), .int mi]) := by
        intro z15 H locs ls  hP hD hS hl
        refine sp_callj (wr := []) (wc := []) hP hD hS hA [] [] rfl rfl (by decide) (by decide) (va_runS (As := [.int mi, .long ((mm <<< ((38 : Int32).toInt64 &&& 63)) / r5), .int ((ee - 38) - r9), .int z15]) (rest := []) ⟨hx, hb, hml, hown, hts⟩ (c_X8_pack l D cI cJ cZ H.size (mi) (((mm <<< ((38 : Int32).toInt64 &&& 63)) / r5)) (((ee - 38) - r9)) (z15)) (va_cwS 4 hts gX8_byOf_X8_pack_105 rfl rfl rfl (by decide +kernel) ⟨Nat.le_of_ble_eq_true rfl, Nat.le_of_ble_eq_true rfl⟩) (sp_preS [.int mi, .long ((mm <<< ((38 : Int32).toInt64 &&& 63)) / r5), .int ((ee - 38) - r9), .int z15] hK (hP.sub (ws' := []) [] rfl) (hD.sub (ws' := []) [] (by decide) rfl)) rfl rfl hl.1 rfl (lv_room (Nat.le_of_ble_eq_true rfl)) dX8_byOf_204 ⟨Nat.le_of_ble_eq_true rfl, Nat.le_of_ble_eq_true rfl⟩) (fun r17 u18 H locs hw19 hP hD hS => ?_)
        have hP : va_P D vwCl [] H := hP
        have hD : va_D A [] := hD
        refine W.widen (k := 0) (n := 0) (by decide) (by decide) ?_
        exact sp_lret (u := ()) hx hb hr hlocks hS trivial (hP.sub [] rfl) (hD.sub [] (by decide) rfl) dX8_byOf_207
      refine lv_if_eq (tgt := 203) hx hb dX8_byOf_196 (by decide) (fun c12 => ?_) (fun c12 => ?_)
      · skip
        have c12 := (lg_cmp_eq _ _).mp c12
        have c12i : (((mm <<< ((38 : Int32).toInt64 &&& 63)) - (mm <<< ((38 : Int32).toInt64 &&& 63)) / r5 * r5) : Int64).toInt = 0 := congrArg Int64.toInt c12
        refine lv_iconst (v := 0) hx hb dX8_byOf_203 (by decide) ?_
        exact hj16 (0) _ _ _ (hP.sub [] rfl) (hD.sub [] (by decide) rfl) hS (lv_sub hl [0, 1, 2, 3, 4, 5, 6] rfl)
      · skip
        have c12 := fun h => c12 ((lg_cmp_eq _ _).mpr h)
        have c12i : ¬ (((mm <<< ((38 : Int32).toInt64 &&& 63)) - (mm <<< ((38 : Int32).toInt64 &&& 63)) / r5 * r5) : Int64).toInt = 0 := fun h => c12 (Int64.toInt_inj.mp h)
        refine lv_iconst (v := 1) hx hb dX8_byOf_199 (by decide) ?_
        refine lv_goto (tgt := 204) hx hb dX8_byOf_200 (by decide) ?_
        exact hj16 (1) _ _ _ (hP.sub [] rfl) (hD.sub [] (by decide) rfl) hS (lv_sub hl [0, 1, 2, 3, 4, 5, 6] rfl)
    · skip
      have c1 := fun h => c1 ((lg_cmp_ge _ _).mpr h)
      have c1i : ¬ 8388608 ≤ (mm : Int64).toInt := fun h => c1 (Int64.le_iff_toInt_le.mpr h)
      refine lv_lload hx hb dX8_byOf_145 (lv_at hl 3 rfl) ?_
      refine lv_ldc2 (v := 2) hx hb hown (hts (.constantLong RX8 90 (2)) (oX8_byOf_in _ (List.mem_of_getElem? (i := 1) rfl))) dX8_byOf_147 ?_
      refine lv_lmul hx hb dX8_byOf_150 ?_
      refine lv_lstore (lv' := [(5, .long (mm * 2)), (0, .long g), (2, .long q), (4, .int mi), (7, .int ee)]) hx hb dX8_byOf_151 hl (by decide) rfl (fun ls hl => ?_)
      obtain ⟨y3, e4⟩ : ∃ y : Int32, y = ee + (-1) := ⟨_, rfl⟩
      refine lv_iinc (v := y3) (lv' := [(7, .int y3), (5, .long (mm * 2)), (0, .long g), (2, .long q), (4, .int mi)]) hx hb dX8_byOf_153 hl (k := 4) rfl (by rw [e4]; rfl) (by decide) rfl (fun ls hl => ?_)
      refine lv_goto (tgt := 136) hx hb dX8_byOf_156 (by decide) ?_
      have hd := px_dbl (x := mm) (by omega) (by omega)
      exact ih (mi) ((mm * 2)) (y3) _ _ _ (by first | assumption | omega) (by first | assumption | omega) (by omega) (hP.sub [] rfl) (hD.sub [] (by decide) rfl) hS (lv_sub hl [2, 3, 4, 1, 0] rfl)
set_option maxHeartbeats 4000000 in
set_option maxRecDepth 100000 in
theorem c_X8_byOf (l : Launch) (D : va_G) (cI cJ cZ : ClassId) (sz : Nat) (g : Int64) (q : Int64) : Met l yX8_byOf wpX8_byOf ({ frames := 2, cells := 0, slots := 0, locals := 51 }) (va_Pc ([.long g, .long q] : List Value) (sp_pre D vwCl (sp_ty cI cJ cZ) [] sz)) (va_Ql (fun (r : Int64) (_ : Unit) => True) (sp_B D vwCl (va_A [] sz) (fun (_ : Unit) => [])) (va_A [] sz)) 0 0 (va_A [] sz) := by
  refine sp_ofW (Qc := fun A => va_Ql (fun (r : Int64) (_ : Unit) => True) (sp_B D vwCl A (fun (_ : Unit) => [])) A) (by decide) rfl (Nat.le_of_ble_eq_true rfl) (fun p e s m below meth c A ls H locs C0 hA hS hP hK hD hl => ?_)
  obtain ⟨hx, hb, hr, hts, hown, hlocks, hml, hin⟩ := id C0
  have hown : s.vm.findClass RX8 = some m.cls := hown
  have hl : lv_has ls 12 [(0, .long g), (2, .long q)] := hl
  have hK : va_K D vwCl [(cI, .int), (cJ, .long), (cZ, .boolean)] s := hK
  refine lv_lload_n hx hb dX8_byOf_0 rfl (lv_at hl 0 rfl) ?_
  refine lv_ldc2 (v := 9000000000) hx hb hown (hts (.constantLong RX8 82 (9000000000)) (oX8_byOf_in _ (List.mem_of_getElem? (i := 2) rfl))) dX8_byOf_1 ?_
  refine W.lcmp hx hb dX8_byOf_4 ?_
  refine lv_if_eq (tgt := 44) hx hb dX8_byOf_5 (by decide) (fun c1 => ?_) (fun c1 => ?_)
  · skip
    have c1 := (lg_cmp_eq _ _).mp c1
    have c1i : (g : Int64).toInt = 9000000000 := congrArg Int64.toInt c1
    refine lv_ldc2 (v := 9000000000) hx hb hown (hts (.constantLong RX8 82 (9000000000)) (oX8_byOf_in _ (List.mem_of_getElem? (i := 2) rfl))) dX8_byOf_44 ?_
    refine W.widen (k := 0) (n := 0) (by decide) (by decide) ?_
    exact sp_lret (u := ()) hx hb hr hlocks hS trivial (hP.sub [] rfl) (hD.sub [] (by decide) rfl) dX8_byOf_47
  · skip
    have c1 := fun h => c1 ((lg_cmp_eq _ _).mpr h)
    have c1i : ¬ (g : Int64).toInt = 9000000000 := fun h => c1 (Int64.toInt_inj.mp h)
    refine lv_lload_n hx hb dX8_byOf_8 rfl (lv_at hl 1 rfl) ?_
    refine lv_ldc2 (v := 9000000000) hx hb hown (hts (.constantLong RX8 82 (9000000000)) (oX8_byOf_in _ (List.mem_of_getElem? (i := 2) rfl))) dX8_byOf_9 ?_
    refine W.lcmp hx hb dX8_byOf_12 ?_
    refine lv_if_eq (tgt := 44) hx hb dX8_byOf_13 (by decide) (fun c2 => ?_) (fun c2 => ?_)
    · skip
      have c2 := (lg_cmp_eq _ _).mp c2
      have c2i : (q : Int64).toInt = 9000000000 := congrArg Int64.toInt c2
      refine lv_ldc2 (v := 9000000000) hx hb hown (hts (.constantLong RX8 82 (9000000000)) (oX8_byOf_in _ (List.mem_of_getElem? (i := 2) rfl))) dX8_byOf_44 ?_
      refine W.widen (k := 0) (n := 0) (by decide) (by decide) ?_
      exact sp_lret (u := ()) hx hb hr hlocks hS trivial (hP.sub [] rfl) (hD.sub [] (by decide) rfl) dX8_byOf_47
    · skip
      have c2 := fun h => c2 ((lg_cmp_eq _ _).mpr h)
      have c2i : ¬ (q : Int64).toInt = 9000000000 := fun h => c2 (Int64.toInt_inj.mp h)
      refine lv_lload_n hx hb dX8_byOf_16 rfl (lv_at hl 0 rfl) ?_
      refine sp_calli (wr := []) (wc := []) hP hD hS hA [] [] rfl rfl (by decide) (by decide) (va_runS (As := [.long g]) (rest := []) ⟨hx, hb, hml, hown, hts⟩ (c_X8_isInfinite l D cI cJ cZ H.size (g)) (va_cwS 1 hts gX8_byOf_X8_isInfinite_94 rfl rfl rfl (by decide +kernel) ⟨Nat.le_of_ble_eq_true rfl, Nat.le_of_ble_eq_true rfl⟩) (sp_preS [.long g] hK (hP.sub (ws' := []) [] rfl) (hD.sub (ws' := []) [] (by decide) rfl)) rfl rfl hl.1 rfl (lv_room (Nat.le_of_ble_eq_true rfl)) dX8_byOf_17 ⟨Nat.le_of_ble_eq_true rfl, Nat.le_of_ble_eq_true rfl⟩) (fun r3 u4 H locs hw5 hP hD hS => ?_)
      have hP : va_P D vwCl [] H := hP
      have hD : va_D A [] := hD
      refine lv_if_eq (tgt := 30) hx hb dX8_byOf_20 (by decide) (fun c6 => ?_) (fun c6 => ?_)
      · skip
        have c6i : (r3 : Int32).toInt = 0 := congrArg Int32.toInt c6
        refine lv_lload_n hx hb dX8_byOf_30 rfl (lv_at hl 0 rfl) ?_
        refine sp_calli (wr := []) (wc := []) hP hD hS hA [] [] rfl rfl (by decide) (by decide) (va_runS (As := [.long g]) (rest := []) ⟨hx, hb, hml, hown, hts⟩ (c_X8_isZero l D cI cJ cZ H.size (g)) (va_cwS 1 hts gX8_byOf_X8_isZero_109 rfl rfl rfl (by decide +kernel) ⟨Nat.le_of_ble_eq_true rfl, Nat.le_of_ble_eq_true rfl⟩) (sp_preS [.long g] hK (hP.sub (ws' := []) [] rfl) (hD.sub (ws' := []) [] (by decide) rfl)) rfl rfl hl.1 rfl (lv_room (Nat.le_of_ble_eq_true rfl)) dX8_byOf_31 ⟨Nat.le_of_ble_eq_true rfl, Nat.le_of_ble_eq_true rfl⟩) (fun r7 u8 H locs hw9 hP hD hS => ?_)
        have h10 : ((r7 : Int32).toInt = 1 ∧ ((g : Int64).toInt = 0 ∨ (g : Int64).toInt = -1)) ∨ ((r7 : Int32).toInt = 0 ∧ ¬ ((g : Int64).toInt = 0 ∨ (g : Int64).toInt = -1)) := sp_bool hw9
        have hP : va_P D vwCl [] H := hP
        have hD : va_D A [] := hD
        refine lv_if_eq (tgt := 48) hx hb dX8_byOf_34 (by decide) (fun c11 => ?_) (fun c11 => ?_)
        · skip
          have c11i : (r7 : Int32).toInt = 0 := congrArg Int32.toInt c11
          refine lv_lload_n hx hb dX8_byOf_48 rfl (lv_at hl 0 rfl) ?_
          refine lv_lconst (v := 0) hx hb dX8_byOf_49 (by decide) ?_
          refine W.lcmp hx hb dX8_byOf_50 ?_
          have hj16 : ∀ (z15 : Int32) (H : Heap) (locs : List Loc) (ls : Array Slot), va_P D vwCl [] H → va_D A [] → va_S A s.heap H locs → lv_has ls 12 [(0, .long g), (2, .long q)] → W p l e ({ frames := 2, cells := 0, slots := 0, locals := 51 }) s m (([.long g, .long q] : List Value).toArray) below meth c H locs 0 0 (MQ below (va_Ql (fun (r : Int64) (_ : Unit) => True) (sp_B D vwCl A (fun (_ : Unit) => [])) A) ([.long g, .long q] : List Value).toArray s 0 0 A) (F0 m 59 ls [.int z15]) := by
            intro z15 H locs ls  hP hD hS hl
            refine lv_lload_n hx hb dX8_byOf_59 rfl (lv_at hl 1 rfl) ?_
            refine lv_lconst (v := 0) hx hb dX8_byOf_60 (by decide) ?_
            refine W.lcmp hx hb dX8_byOf_61 ?_
            have hj21 : ∀ (z20 : Int32) (H : Heap) (locs : List Loc) (ls : Array Slot), va_P D vwCl [] H → va_D A [] → va_S A s.heap H locs → lv_has ls 12 [(0, .long g), (2, .long q)] → W p l e ({ frames := 2, cells := 0, slots := 0, locals := 51 }) s m (([.long g, .long q] : List Value).toArray) below meth c H locs 0 0 (MQ below (va_Ql (fun (r : Int64) (_ : Unit) => True) (sp_B D vwCl A (fun (_ : Unit) => [])) A) ([.long g, .long q] : List Value).toArray s 0 0 A) (F0 m 70 ls [.int z20, .int z15]) := by
              intro z20 H locs ls  hP hD hS hl
              have hj26 : ∀ (z25 : Int32) (H : Heap) (locs : List Loc) (ls : Array Slot), va_P D vwCl [] H → va_D A [] → va_S A s.heap H locs → lv_has ls 12 [(0, .long g), (2, .long q)] → W p l e ({ frames := 2, cells := 0, slots := 0, locals := 51 }) s m (([.long g, .long q] : List Value).toArray) below meth c H locs 0 0 (MQ below (va_Ql (fun (r : Int64) (_ : Unit) => True) (sp_B D vwCl A (fun (_ : Unit) => [])) A) ([.long g, .long q] : List Value).toArray s 0 0 A) (F0 m 78 ls [.int z25]) := by
                intro z25 H locs ls  hP hD hS hl
                refine lv_istore (lv' := [(4, .int z25), (0, .long g), (2, .long q)]) hx hb dX8_byOf_78 hl (by decide) rfl (fun ls hl => ?_)
                refine lv_lload_n hx hb dX8_byOf_80 rfl (lv_at hl 1 rfl) ?_
                refine sp_calli (wr := []) (wc := []) hP hD hS hA [] [] rfl rfl (by decide) (by decide) (va_runS (As := [.long g]) (rest := []) ⟨hx, hb, hml, hown, hts⟩ (c_X8_isInfinite l D cI cJ cZ H.size (g)) (va_cwS 1 hts gX8_byOf_X8_isInfinite_94 rfl rfl rfl (by decide +kernel) ⟨Nat.le_of_ble_eq_true rfl, Nat.le_of_ble_eq_true rfl⟩) (sp_preS [.long g] hK (hP.sub (ws' := []) [] rfl) (hD.sub (ws' := []) [] (by decide) rfl)) rfl rfl hl.1 rfl (lv_room (Nat.le_of_ble_eq_true rfl)) dX8_byOf_81 ⟨Nat.le_of_ble_eq_true rfl, Nat.le_of_ble_eq_true rfl⟩) (fun r27 u28 H locs hw29 hP hD hS => ?_)
                have hP : va_P D vwCl [] H := hP
                have hD : va_D A [] := hD
                refine lv_if_ne (tgt := 94) hx hb dX8_byOf_84 (by decide) (fun c30 => ?_) (fun c30 => ?_)
                · skip
                  have c30i : ¬ (r27 : Int32).toInt = 0 := fun h => c30 (Int32.toInt_inj.mp h)
                  refine lv_iload hx hb dX8_byOf_94 (lv_at hl 0 rfl) ?_
                  refine lv_ldc2 (v := 2139095040) hx hb hown (hts (.constantLong RX8 68 (2139095040)) (oX8_byOf_in _ (List.mem_of_getElem? (i := 3) rfl))) dX8_byOf_96 ?_
                  refine sp_callj (wr := []) (wc := []) hP hD hS hA [] [] rfl rfl (by decide) (by decide) (va_runS (As := [.int z25, .long 2139095040]) (rest := []) ⟨hx, hb, hml, hown, hts⟩ (c_X8_placeOf l D cI cJ cZ H.size (z25) (2139095040)) (va_cwS 2 hts gX8_byOf_X8_placeOf_84 rfl rfl rfl (by decide +kernel) ⟨Nat.le_of_ble_eq_true rfl, Nat.le_of_ble_eq_true rfl⟩) (sp_preS [.int z25, .long 2139095040] hK (hP.sub (ws' := []) [] rfl) (hD.sub (ws' := []) [] (by decide) rfl)) rfl rfl hl.1 rfl (lv_room (Nat.le_of_ble_eq_true rfl)) dX8_byOf_99 ⟨Nat.le_of_ble_eq_true rfl, Nat.le_of_ble_eq_true rfl⟩) (fun r31 u32 H locs hw33 hP hD hS => ?_)
                  have h34 : (r31 : Int64) = sq_mp (z25) (2139095040) := hw33
                  have hP : va_P D vwCl [] H := hP
                  have hD : va_D A [] := hD
                  refine W.widen (k := 0) (n := 0) (by decide) (by decide) ?_
                  exact sp_lret (u := ()) hx hb hr hlocks hS trivial (hP.sub [] rfl) (hD.sub [] (by decide) rfl) dX8_byOf_102
                · skip
                  have c30i : (r27 : Int32).toInt = 0 := congrArg Int32.toInt c30
                  refine lv_lload_n hx hb dX8_byOf_87 rfl (lv_at hl 2 rfl) ?_
                  refine sp_calli (wr := []) (wc := []) hP hD hS hA [] [] rfl rfl (by decide) (by decide) (va_runS (As := [.long q]) (rest := []) ⟨hx, hb, hml, hown, hts⟩ (c_X8_isZero l D cI cJ cZ H.size (q)) (va_cwS 1 hts gX8_byOf_X8_isZero_109 rfl rfl rfl (by decide +kernel) ⟨Nat.le_of_ble_eq_true rfl, Nat.le_of_ble_eq_true rfl⟩) (sp_preS [.long q] hK (hP.sub (ws' := []) [] rfl) (hD.sub (ws' := []) [] (by decide) rfl)) rfl rfl hl.1 rfl (lv_room (Nat.le_of_ble_eq_true rfl)) dX8_byOf_88 ⟨Nat.le_of_ble_eq_true rfl, Nat.le_of_ble_eq_true rfl⟩) (fun r35 u36 H locs hw37 hP hD hS => ?_)
                  have h38 : ((r35 : Int32).toInt = 1 ∧ ((q : Int64).toInt = 0 ∨ (q : Int64).toInt = -1)) ∨ ((r35 : Int32).toInt = 0 ∧ ¬ ((q : Int64).toInt = 0 ∨ (q : Int64).toInt = -1)) := sp_bool hw37
                  have hP : va_P D vwCl [] H := hP
                  have hD : va_D A [] := hD
                  refine lv_if_eq (tgt := 103) hx hb dX8_byOf_91 (by decide) (fun c39 => ?_) (fun c39 => ?_)
                  · skip
                    have c39i : (r35 : Int32).toInt = 0 := congrArg Int32.toInt c39
                    refine lv_lload_n hx hb dX8_byOf_103 rfl (lv_at hl 1 rfl) ?_
                    refine sp_calli (wr := []) (wc := []) hP hD hS hA [] [] rfl rfl (by decide) (by decide) (va_runS (As := [.long g]) (rest := []) ⟨hx, hb, hml, hown, hts⟩ (c_X8_isZero l D cI cJ cZ H.size (g)) (va_cwS 1 hts gX8_byOf_X8_isZero_109 rfl rfl rfl (by decide +kernel) ⟨Nat.le_of_ble_eq_true rfl, Nat.le_of_ble_eq_true rfl⟩) (sp_preS [.long g] hK (hP.sub (ws' := []) [] rfl) (hD.sub (ws' := []) [] (by decide) rfl)) rfl rfl hl.1 rfl (lv_room (Nat.le_of_ble_eq_true rfl)) dX8_byOf_104 ⟨Nat.le_of_ble_eq_true rfl, Nat.le_of_ble_eq_true rfl⟩) (fun r40 u41 H locs hw42 hP hD hS => ?_)
                    have h43 : ((r40 : Int32).toInt = 1 ∧ ((g : Int64).toInt = 0 ∨ (g : Int64).toInt = -1)) ∨ ((r40 : Int32).toInt = 0 ∧ ¬ ((g : Int64).toInt = 0 ∨ (g : Int64).toInt = -1)) := sp_bool hw42
                    have hP : va_P D vwCl [] H := hP
                    have hD : va_D A [] := hD
                    refine lv_if_ne (tgt := 117) hx hb dX8_byOf_107 (by decide) (fun c44 => ?_) (fun c44 => ?_)
                    · skip
                      have c44i : ¬ (r40 : Int32).toInt = 0 := fun h => c44 (Int32.toInt_inj.mp h)
                      refine lv_iload hx hb dX8_byOf_117 (lv_at hl 0 rfl) ?_
                      refine lv_lconst (v := 0) hx hb dX8_byOf_119 (by decide) ?_
                      refine sp_callj (wr := []) (wc := []) hP hD hS hA [] [] rfl rfl (by decide) (by decide) (va_runS (As := [.int z25, .long 0]) (rest := []) ⟨hx, hb, hml, hown, hts⟩ (c_X8_placeOf l D cI cJ cZ H.size (z25) (0)) (va_cwS 2 hts gX8_byOf_X8_placeOf_84 rfl rfl rfl (by decide +kernel) ⟨Nat.le_of_ble_eq_true rfl, Nat.le_of_ble_eq_true rfl⟩) (sp_preS [.int z25, .long 0] hK (hP.sub (ws' := []) [] rfl) (hD.sub (ws' := []) [] (by decide) rfl)) rfl rfl hl.1 rfl (lv_room (Nat.le_of_ble_eq_true rfl)) dX8_byOf_120 ⟨Nat.le_of_ble_eq_true rfl, Nat.le_of_ble_eq_true rfl⟩) (fun r45 u46 H locs hw47 hP hD hS => ?_)
                      have h48 : (r45 : Int64) = sq_mp (z25) (0) := hw47
                      have hP : va_P D vwCl [] H := hP
                      have hD : va_D A [] := hD
                      refine W.widen (k := 0) (n := 0) (by decide) (by decide) ?_
                      exact sp_lret (u := ()) hx hb hr hlocks hS trivial (hP.sub [] rfl) (hD.sub [] (by decide) rfl) dX8_byOf_123
                    · skip
                      have c44i : (r40 : Int32).toInt = 0 := congrArg Int32.toInt c44
                      refine lv_lload_n hx hb dX8_byOf_110 rfl (lv_at hl 2 rfl) ?_
                      refine sp_calli (wr := []) (wc := []) hP hD hS hA [] [] rfl rfl (by decide) (by decide) (va_runS (As := [.long q]) (rest := []) ⟨hx, hb, hml, hown, hts⟩ (c_X8_isInfinite l D cI cJ cZ H.size (q)) (va_cwS 1 hts gX8_byOf_X8_isInfinite_94 rfl rfl rfl (by decide +kernel) ⟨Nat.le_of_ble_eq_true rfl, Nat.le_of_ble_eq_true rfl⟩) (sp_preS [.long q] hK (hP.sub (ws' := []) [] rfl) (hD.sub (ws' := []) [] (by decide) rfl)) rfl rfl hl.1 rfl (lv_room (Nat.le_of_ble_eq_true rfl)) dX8_byOf_111 ⟨Nat.le_of_ble_eq_true rfl, Nat.le_of_ble_eq_true rfl⟩) (fun r49 u50 H locs hw51 hP hD hS => ?_)
                      have hP : va_P D vwCl [] H := hP
                      have hD : va_D A [] := hD
                      refine lv_if_eq (tgt := 124) hx hb dX8_byOf_114 (by decide) (fun c52 => ?_) (fun c52 => ?_)
                      · skip
                        have c52i : (r49 : Int32).toInt = 0 := congrArg Int32.toInt c52
                        refine lv_lload_n hx hb dX8_byOf_124 rfl (lv_at hl 1 rfl) ?_
                        refine sp_callj (wr := []) (wc := []) hP hD hS hA [] [] rfl rfl (by decide) (by decide) (va_runS (As := [.long g]) (rest := []) ⟨hx, hb, hml, hown, hts⟩ (c_X8_digits l D cI cJ cZ H.size (g)) (va_cwS 1 hts gX8_byOf_X8_digits_102 rfl rfl rfl (by decide +kernel) ⟨Nat.le_of_ble_eq_true rfl, Nat.le_of_ble_eq_true rfl⟩) (sp_preS [.long g] hK (hP.sub (ws' := []) [] rfl) (hD.sub (ws' := []) [] (by decide) rfl)) rfl rfl hl.1 rfl (lv_room (Nat.le_of_ble_eq_true rfl)) dX8_byOf_125 ⟨Nat.le_of_ble_eq_true rfl, Nat.le_of_ble_eq_true rfl⟩) (fun r53 u54 H locs hw55 hP hD hS => ?_)
                        have h56 : 0 ≤ (r53 : Int64).toInt ∧ (¬ ((g : Int64).toInt = 0 ∨ (g : Int64).toInt = -1) → 1 ≤ (r53 : Int64).toInt) := hw55
                        have hP : va_P D vwCl [] H := hP
                        have hD : va_D A [] := hD
                        refine lv_lstore (lv' := [(5, .long r53), (4, .int z25), (0, .long g), (2, .long q)]) hx hb dX8_byOf_128 hl (by decide) rfl (fun ls hl => ?_)
                        refine lv_lload_n hx hb dX8_byOf_130 rfl (lv_at hl 2 rfl) ?_
                        refine sp_calli (wr := []) (wc := []) hP hD hS hA [] [] rfl rfl (by decide) (by decide) (va_runS (As := [.long g]) (rest := []) ⟨hx, hb, hml, hown, hts⟩ (c_X8_power l D cI cJ cZ H.size (g)) (va_cwS 1 hts gX8_byOf_X8_power_98 rfl rfl rfl (by decide +kernel) ⟨Nat.le_of_ble_eq_true rfl, Nat.le_of_ble_eq_true rfl⟩) (sp_preS [.long g] hK (hP.sub (ws' := []) [] rfl) (hD.sub (ws' := []) [] (by decide) rfl)) rfl rfl hl.1 rfl (lv_room (Nat.le_of_ble_eq_true rfl)) dX8_byOf_131 ⟨Nat.le_of_ble_eq_true rfl, Nat.le_of_ble_eq_true rfl⟩) (fun r57 u58 H locs hw59 hP hD hS => ?_)
                        have hP : va_P D vwCl [] H := hP
                        have hD : va_D A [] := hD
                        refine lv_istore (lv' := [(7, .int r57), (5, .long r53), (4, .int z25), (0, .long g), (2, .long q)]) hx hb dX8_byOf_134 hl (by decide) rfl (fun ls hl => ?_)
                        exact lp_X8_byOf_136 l D cI cJ cZ g q C0 hA hK 8388610 (z25) (r53) (r57) _ _ _ (by first | assumption | omega) (by first | assumption | omega) (by omega) (hP.sub [] rfl) (hD.sub [] (by decide) rfl) hS (lv_sub hl [3, 4, 2, 1, 0] rfl)
                      · skip
                        have c52i : ¬ (r49 : Int32).toInt = 0 := fun h => c52 (Int32.toInt_inj.mp h)
                        refine lv_iload hx hb dX8_byOf_117 (lv_at hl 0 rfl) ?_
                        refine lv_lconst (v := 0) hx hb dX8_byOf_119 (by decide) ?_
                        refine sp_callj (wr := []) (wc := []) hP hD hS hA [] [] rfl rfl (by decide) (by decide) (va_runS (As := [.int z25, .long 0]) (rest := []) ⟨hx, hb, hml, hown, hts⟩ (c_X8_placeOf l D cI cJ cZ H.size (z25) (0)) (va_cwS 2 hts gX8_byOf_X8_placeOf_84 rfl rfl rfl (by decide +kernel) ⟨Nat.le_of_ble_eq_true rfl, Nat.le_of_ble_eq_true rfl⟩) (sp_preS [.int z25, .long 0] hK (hP.sub (ws' := []) [] rfl) (hD.sub (ws' := []) [] (by decide) rfl)) rfl rfl hl.1 rfl (lv_room (Nat.le_of_ble_eq_true rfl)) dX8_byOf_120 ⟨Nat.le_of_ble_eq_true rfl, Nat.le_of_ble_eq_true rfl⟩) (fun r60 u61 H locs hw62 hP hD hS => ?_)
                        have h63 : (r60 : Int64) = sq_mp (z25) (0) := hw62
                        have hP : va_P D vwCl [] H := hP
                        have hD : va_D A [] := hD
                        refine W.widen (k := 0) (n := 0) (by decide) (by decide) ?_
                        exact sp_lret (u := ()) hx hb hr hlocks hS trivial (hP.sub [] rfl) (hD.sub [] (by decide) rfl) dX8_byOf_123
                  · skip
                    have c39i : ¬ (r35 : Int32).toInt = 0 := fun h => c39 (Int32.toInt_inj.mp h)
                    refine lv_iload hx hb dX8_byOf_94 (lv_at hl 0 rfl) ?_
                    refine lv_ldc2 (v := 2139095040) hx hb hown (hts (.constantLong RX8 68 (2139095040)) (oX8_byOf_in _ (List.mem_of_getElem? (i := 3) rfl))) dX8_byOf_96 ?_
                    refine sp_callj (wr := []) (wc := []) hP hD hS hA [] [] rfl rfl (by decide) (by decide) (va_runS (As := [.int z25, .long 2139095040]) (rest := []) ⟨hx, hb, hml, hown, hts⟩ (c_X8_placeOf l D cI cJ cZ H.size (z25) (2139095040)) (va_cwS 2 hts gX8_byOf_X8_placeOf_84 rfl rfl rfl (by decide +kernel) ⟨Nat.le_of_ble_eq_true rfl, Nat.le_of_ble_eq_true rfl⟩) (sp_preS [.int z25, .long 2139095040] hK (hP.sub (ws' := []) [] rfl) (hD.sub (ws' := []) [] (by decide) rfl)) rfl rfl hl.1 rfl (lv_room (Nat.le_of_ble_eq_true rfl)) dX8_byOf_99 ⟨Nat.le_of_ble_eq_true rfl, Nat.le_of_ble_eq_true rfl⟩) (fun r64 u65 H locs hw66 hP hD hS => ?_)
                    have h67 : (r64 : Int64) = sq_mp (z25) (2139095040) := hw66
                    have hP : va_P D vwCl [] H := hP
                    have hD : va_D A [] := hD
                    refine W.widen (k := 0) (n := 0) (by decide) (by decide) ?_
                    exact sp_lret (u := ()) hx hb hr hlocks hS trivial (hP.sub [] rfl) (hD.sub [] (by decide) rfl) dX8_byOf_102
              refine lv_icmp_eq (tgt := 77) hx hb dX8_byOf_70 (by decide) (fun c22 => ?_) (fun c22 => ?_)
              · skip
                have c22i : (z15 : Int32).toInt = (z20 : Int32).toInt := congrArg Int32.toInt c22
                refine lv_iconst (v := 0) hx hb dX8_byOf_77 (by decide) ?_
                exact hj26 (0) _ _ _ (hP.sub [] rfl) (hD.sub [] (by decide) rfl) hS (lv_sub hl [0, 1] rfl)
              · skip
                have c22i : ¬ (z15 : Int32).toInt = (z20 : Int32).toInt := fun h => c22 (Int32.toInt_inj.mp h)
                refine lv_iconst (v := 1) hx hb dX8_byOf_73 (by decide) ?_
                refine lv_goto (tgt := 78) hx hb dX8_byOf_74 (by decide) ?_
                exact hj26 (1) _ _ _ (hP.sub [] rfl) (hD.sub [] (by decide) rfl) hS (lv_sub hl [0, 1] rfl)
            refine lv_if_ge (tgt := 69) hx hb dX8_byOf_62 (by decide) (fun c17 => ?_) (fun c17 => ?_)
            · skip
              have c17 := (lg_cmp_ge _ _).mp c17
              have c17i : 0 ≤ (q : Int64).toInt := Int64.le_iff_toInt_le.mp c17
              refine lv_iconst (v := 0) hx hb dX8_byOf_69 (by decide) ?_
              exact hj21 (0) _ _ _ (hP.sub [] rfl) (hD.sub [] (by decide) rfl) hS (lv_sub hl [0, 1] rfl)
            · skip
              have c17 := fun h => c17 ((lg_cmp_ge _ _).mpr h)
              have c17i : ¬ 0 ≤ (q : Int64).toInt := fun h => c17 (Int64.le_iff_toInt_le.mpr h)
              refine lv_iconst (v := 1) hx hb dX8_byOf_65 (by decide) ?_
              refine lv_goto (tgt := 70) hx hb dX8_byOf_66 (by decide) ?_
              exact hj21 (1) _ _ _ (hP.sub [] rfl) (hD.sub [] (by decide) rfl) hS (lv_sub hl [0, 1] rfl)
          refine lv_if_ge (tgt := 58) hx hb dX8_byOf_51 (by decide) (fun c12 => ?_) (fun c12 => ?_)
          · skip
            have c12 := (lg_cmp_ge _ _).mp c12
            have c12i : 0 ≤ (g : Int64).toInt := Int64.le_iff_toInt_le.mp c12
            refine lv_iconst (v := 0) hx hb dX8_byOf_58 (by decide) ?_
            exact hj16 (0) _ _ _ (hP.sub [] rfl) (hD.sub [] (by decide) rfl) hS (lv_sub hl [0, 1] rfl)
          · skip
            have c12 := fun h => c12 ((lg_cmp_ge _ _).mpr h)
            have c12i : ¬ 0 ≤ (g : Int64).toInt := fun h => c12 (Int64.le_iff_toInt_le.mpr h)
            refine lv_iconst (v := 1) hx hb dX8_byOf_54 (by decide) ?_
            refine lv_goto (tgt := 59) hx hb dX8_byOf_55 (by decide) ?_
            exact hj16 (1) _ _ _ (hP.sub [] rfl) (hD.sub [] (by decide) rfl) hS (lv_sub hl [0, 1] rfl)
        · skip
          have c11i : ¬ (r7 : Int32).toInt = 0 := fun h => c11 (Int32.toInt_inj.mp h)
          refine lv_lload_n hx hb dX8_byOf_37 rfl (lv_at hl 1 rfl) ?_
          refine sp_calli (wr := []) (wc := []) hP hD hS hA [] [] rfl rfl (by decide) (by decide) (va_runS (As := [.long q]) (rest := []) ⟨hx, hb, hml, hown, hts⟩ (c_X8_isZero l D cI cJ cZ H.size (q)) (va_cwS 1 hts gX8_byOf_X8_isZero_109 rfl rfl rfl (by decide +kernel) ⟨Nat.le_of_ble_eq_true rfl, Nat.le_of_ble_eq_true rfl⟩) (sp_preS [.long q] hK (hP.sub (ws' := []) [] rfl) (hD.sub (ws' := []) [] (by decide) rfl)) rfl rfl hl.1 rfl (lv_room (Nat.le_of_ble_eq_true rfl)) dX8_byOf_38 ⟨Nat.le_of_ble_eq_true rfl, Nat.le_of_ble_eq_true rfl⟩) (fun r68 u69 H locs hw70 hP hD hS => ?_)
          have h71 : ((r68 : Int32).toInt = 1 ∧ ((q : Int64).toInt = 0 ∨ (q : Int64).toInt = -1)) ∨ ((r68 : Int32).toInt = 0 ∧ ¬ ((q : Int64).toInt = 0 ∨ (q : Int64).toInt = -1)) := sp_bool hw70
          have hP : va_P D vwCl [] H := hP
          have hD : va_D A [] := hD
          refine lv_if_eq (tgt := 48) hx hb dX8_byOf_41 (by decide) (fun c72 => ?_) (fun c72 => ?_)
          · skip
            have c72i : (r68 : Int32).toInt = 0 := congrArg Int32.toInt c72
            refine lv_lload_n hx hb dX8_byOf_48 rfl (lv_at hl 0 rfl) ?_
            refine lv_lconst (v := 0) hx hb dX8_byOf_49 (by decide) ?_
            refine W.lcmp hx hb dX8_byOf_50 ?_
            have hj77 : ∀ (z76 : Int32) (H : Heap) (locs : List Loc) (ls : Array Slot), va_P D vwCl [] H → va_D A [] → va_S A s.heap H locs → lv_has ls 12 [(0, .long g), (2, .long q)] → W p l e ({ frames := 2, cells := 0, slots := 0, locals := 51 }) s m (([.long g, .long q] : List Value).toArray) below meth c H locs 0 0 (MQ below (va_Ql (fun (r : Int64) (_ : Unit) => True) (sp_B D vwCl A (fun (_ : Unit) => [])) A) ([.long g, .long q] : List Value).toArray s 0 0 A) (F0 m 59 ls [.int z76]) := by
              intro z76 H locs ls  hP hD hS hl
              refine lv_lload_n hx hb dX8_byOf_59 rfl (lv_at hl 1 rfl) ?_
              refine lv_lconst (v := 0) hx hb dX8_byOf_60 (by decide) ?_
              refine W.lcmp hx hb dX8_byOf_61 ?_
              have hj82 : ∀ (z81 : Int32) (H : Heap) (locs : List Loc) (ls : Array Slot), va_P D vwCl [] H → va_D A [] → va_S A s.heap H locs → lv_has ls 12 [(0, .long g), (2, .long q)] → W p l e ({ frames := 2, cells := 0, slots := 0, locals := 51 }) s m (([.long g, .long q] : List Value).toArray) below meth c H locs 0 0 (MQ below (va_Ql (fun (r : Int64) (_ : Unit) => True) (sp_B D vwCl A (fun (_ : Unit) => [])) A) ([.long g, .long q] : List Value).toArray s 0 0 A) (F0 m 70 ls [.int z81, .int z76]) := by
                intro z81 H locs ls  hP hD hS hl
                have hj87 : ∀ (z86 : Int32) (H : Heap) (locs : List Loc) (ls : Array Slot), va_P D vwCl [] H → va_D A [] → va_S A s.heap H locs → lv_has ls 12 [(0, .long g), (2, .long q)] → W p l e ({ frames := 2, cells := 0, slots := 0, locals := 51 }) s m (([.long g, .long q] : List Value).toArray) below meth c H locs 0 0 (MQ below (va_Ql (fun (r : Int64) (_ : Unit) => True) (sp_B D vwCl A (fun (_ : Unit) => [])) A) ([.long g, .long q] : List Value).toArray s 0 0 A) (F0 m 78 ls [.int z86]) := by
                  intro z86 H locs ls  hP hD hS hl
                  refine lv_istore (lv' := [(4, .int z86), (0, .long g), (2, .long q)]) hx hb dX8_byOf_78 hl (by decide) rfl (fun ls hl => ?_)
                  refine lv_lload_n hx hb dX8_byOf_80 rfl (lv_at hl 1 rfl) ?_
                  refine sp_calli (wr := []) (wc := []) hP hD hS hA [] [] rfl rfl (by decide) (by decide) (va_runS (As := [.long g]) (rest := []) ⟨hx, hb, hml, hown, hts⟩ (c_X8_isInfinite l D cI cJ cZ H.size (g)) (va_cwS 1 hts gX8_byOf_X8_isInfinite_94 rfl rfl rfl (by decide +kernel) ⟨Nat.le_of_ble_eq_true rfl, Nat.le_of_ble_eq_true rfl⟩) (sp_preS [.long g] hK (hP.sub (ws' := []) [] rfl) (hD.sub (ws' := []) [] (by decide) rfl)) rfl rfl hl.1 rfl (lv_room (Nat.le_of_ble_eq_true rfl)) dX8_byOf_81 ⟨Nat.le_of_ble_eq_true rfl, Nat.le_of_ble_eq_true rfl⟩) (fun r88 u89 H locs hw90 hP hD hS => ?_)
                  have hP : va_P D vwCl [] H := hP
                  have hD : va_D A [] := hD
                  refine lv_if_ne (tgt := 94) hx hb dX8_byOf_84 (by decide) (fun c91 => ?_) (fun c91 => ?_)
                  · skip
                    have c91i : ¬ (r88 : Int32).toInt = 0 := fun h => c91 (Int32.toInt_inj.mp h)
                    refine lv_iload hx hb dX8_byOf_94 (lv_at hl 0 rfl) ?_
                    refine lv_ldc2 (v := 2139095040) hx hb hown (hts (.constantLong RX8 68 (2139095040)) (oX8_byOf_in _ (List.mem_of_getElem? (i := 3) rfl))) dX8_byOf_96 ?_
                    refine sp_callj (wr := []) (wc := []) hP hD hS hA [] [] rfl rfl (by decide) (by decide) (va_runS (As := [.int z86, .long 2139095040]) (rest := []) ⟨hx, hb, hml, hown, hts⟩ (c_X8_placeOf l D cI cJ cZ H.size (z86) (2139095040)) (va_cwS 2 hts gX8_byOf_X8_placeOf_84 rfl rfl rfl (by decide +kernel) ⟨Nat.le_of_ble_eq_true rfl, Nat.le_of_ble_eq_true rfl⟩) (sp_preS [.int z86, .long 2139095040] hK (hP.sub (ws' := []) [] rfl) (hD.sub (ws' := []) [] (by decide) rfl)) rfl rfl hl.1 rfl (lv_room (Nat.le_of_ble_eq_true rfl)) dX8_byOf_99 ⟨Nat.le_of_ble_eq_true rfl, Nat.le_of_ble_eq_true rfl⟩) (fun r92 u93 H locs hw94 hP hD hS => ?_)
                    have h95 : (r92 : Int64) = sq_mp (z86) (2139095040) := hw94
                    have hP : va_P D vwCl [] H := hP
                    have hD : va_D A [] := hD
                    refine W.widen (k := 0) (n := 0) (by decide) (by decide) ?_
                    exact sp_lret (u := ()) hx hb hr hlocks hS trivial (hP.sub [] rfl) (hD.sub [] (by decide) rfl) dX8_byOf_102
                  · skip
                    have c91i : (r88 : Int32).toInt = 0 := congrArg Int32.toInt c91
                    refine lv_lload_n hx hb dX8_byOf_87 rfl (lv_at hl 2 rfl) ?_
                    refine sp_calli (wr := []) (wc := []) hP hD hS hA [] [] rfl rfl (by decide) (by decide) (va_runS (As := [.long q]) (rest := []) ⟨hx, hb, hml, hown, hts⟩ (c_X8_isZero l D cI cJ cZ H.size (q)) (va_cwS 1 hts gX8_byOf_X8_isZero_109 rfl rfl rfl (by decide +kernel) ⟨Nat.le_of_ble_eq_true rfl, Nat.le_of_ble_eq_true rfl⟩) (sp_preS [.long q] hK (hP.sub (ws' := []) [] rfl) (hD.sub (ws' := []) [] (by decide) rfl)) rfl rfl hl.1 rfl (lv_room (Nat.le_of_ble_eq_true rfl)) dX8_byOf_88 ⟨Nat.le_of_ble_eq_true rfl, Nat.le_of_ble_eq_true rfl⟩) (fun r96 u97 H locs hw98 hP hD hS => ?_)
                    have h99 : ((r96 : Int32).toInt = 1 ∧ ((q : Int64).toInt = 0 ∨ (q : Int64).toInt = -1)) ∨ ((r96 : Int32).toInt = 0 ∧ ¬ ((q : Int64).toInt = 0 ∨ (q : Int64).toInt = -1)) := sp_bool hw98
                    have hP : va_P D vwCl [] H := hP
                    have hD : va_D A [] := hD
                    refine lv_if_eq (tgt := 103) hx hb dX8_byOf_91 (by decide) (fun c100 => ?_) (fun c100 => ?_)
                    · skip
                      have c100i : (r96 : Int32).toInt = 0 := congrArg Int32.toInt c100
                      refine lv_lload_n hx hb dX8_byOf_103 rfl (lv_at hl 1 rfl) ?_
                      refine sp_calli (wr := []) (wc := []) hP hD hS hA [] [] rfl rfl (by decide) (by decide) (va_runS (As := [.long g]) (rest := []) ⟨hx, hb, hml, hown, hts⟩ (c_X8_isZero l D cI cJ cZ H.size (g)) (va_cwS 1 hts gX8_byOf_X8_isZero_109 rfl rfl rfl (by decide +kernel) ⟨Nat.le_of_ble_eq_true rfl, Nat.le_of_ble_eq_true rfl⟩) (sp_preS [.long g] hK (hP.sub (ws' := []) [] rfl) (hD.sub (ws' := []) [] (by decide) rfl)) rfl rfl hl.1 rfl (lv_room (Nat.le_of_ble_eq_true rfl)) dX8_byOf_104 ⟨Nat.le_of_ble_eq_true rfl, Nat.le_of_ble_eq_true rfl⟩) (fun r101 u102 H locs hw103 hP hD hS => ?_)
                      have h104 : ((r101 : Int32).toInt = 1 ∧ ((g : Int64).toInt = 0 ∨ (g : Int64).toInt = -1)) ∨ ((r101 : Int32).toInt = 0 ∧ ¬ ((g : Int64).toInt = 0 ∨ (g : Int64).toInt = -1)) := sp_bool hw103
                      have hP : va_P D vwCl [] H := hP
                      have hD : va_D A [] := hD
                      refine lv_if_ne (tgt := 117) hx hb dX8_byOf_107 (by decide) (fun c105 => ?_) (fun c105 => ?_)
                      · skip
                        have c105i : ¬ (r101 : Int32).toInt = 0 := fun h => c105 (Int32.toInt_inj.mp h)
                        refine lv_iload hx hb dX8_byOf_117 (lv_at hl 0 rfl) ?_
                        refine lv_lconst (v := 0) hx hb dX8_byOf_119 (by decide) ?_
                        refine sp_callj (wr := []) (wc := []) hP hD hS hA [] [] rfl rfl (by decide) (by decide) (va_runS (As := [.int z86, .long 0]) (rest := []) ⟨hx, hb, hml, hown, hts⟩ (c_X8_placeOf l D cI cJ cZ H.size (z86) (0)) (va_cwS 2 hts gX8_byOf_X8_placeOf_84 rfl rfl rfl (by decide +kernel) ⟨Nat.le_of_ble_eq_true rfl, Nat.le_of_ble_eq_true rfl⟩) (sp_preS [.int z86, .long 0] hK (hP.sub (ws' := []) [] rfl) (hD.sub (ws' := []) [] (by decide) rfl)) rfl rfl hl.1 rfl (lv_room (Nat.le_of_ble_eq_true rfl)) dX8_byOf_120 ⟨Nat.le_of_ble_eq_true rfl, Nat.le_of_ble_eq_true rfl⟩) (fun r106 u107 H locs hw108 hP hD hS => ?_)
                        have h109 : (r106 : Int64) = sq_mp (z86) (0) := hw108
                        have hP : va_P D vwCl [] H := hP
                        have hD : va_D A [] := hD
                        refine W.widen (k := 0) (n := 0) (by decide) (by decide) ?_
                        exact sp_lret (u := ()) hx hb hr hlocks hS trivial (hP.sub [] rfl) (hD.sub [] (by decide) rfl) dX8_byOf_123
                      · skip
                        have c105i : (r101 : Int32).toInt = 0 := congrArg Int32.toInt c105
                        refine lv_lload_n hx hb dX8_byOf_110 rfl (lv_at hl 2 rfl) ?_
                        refine sp_calli (wr := []) (wc := []) hP hD hS hA [] [] rfl rfl (by decide) (by decide) (va_runS (As := [.long q]) (rest := []) ⟨hx, hb, hml, hown, hts⟩ (c_X8_isInfinite l D cI cJ cZ H.size (q)) (va_cwS 1 hts gX8_byOf_X8_isInfinite_94 rfl rfl rfl (by decide +kernel) ⟨Nat.le_of_ble_eq_true rfl, Nat.le_of_ble_eq_true rfl⟩) (sp_preS [.long q] hK (hP.sub (ws' := []) [] rfl) (hD.sub (ws' := []) [] (by decide) rfl)) rfl rfl hl.1 rfl (lv_room (Nat.le_of_ble_eq_true rfl)) dX8_byOf_111 ⟨Nat.le_of_ble_eq_true rfl, Nat.le_of_ble_eq_true rfl⟩) (fun r110 u111 H locs hw112 hP hD hS => ?_)
                        have hP : va_P D vwCl [] H := hP
                        have hD : va_D A [] := hD
                        refine lv_if_eq (tgt := 124) hx hb dX8_byOf_114 (by decide) (fun c113 => ?_) (fun c113 => ?_)
                        · skip
                          have c113i : (r110 : Int32).toInt = 0 := congrArg Int32.toInt c113
                          refine lv_lload_n hx hb dX8_byOf_124 rfl (lv_at hl 1 rfl) ?_
                          refine sp_callj (wr := []) (wc := []) hP hD hS hA [] [] rfl rfl (by decide) (by decide) (va_runS (As := [.long g]) (rest := []) ⟨hx, hb, hml, hown, hts⟩ (c_X8_digits l D cI cJ cZ H.size (g)) (va_cwS 1 hts gX8_byOf_X8_digits_102 rfl rfl rfl (by decide +kernel) ⟨Nat.le_of_ble_eq_true rfl, Nat.le_of_ble_eq_true rfl⟩) (sp_preS [.long g] hK (hP.sub (ws' := []) [] rfl) (hD.sub (ws' := []) [] (by decide) rfl)) rfl rfl hl.1 rfl (lv_room (Nat.le_of_ble_eq_true rfl)) dX8_byOf_125 ⟨Nat.le_of_ble_eq_true rfl, Nat.le_of_ble_eq_true rfl⟩) (fun r114 u115 H locs hw116 hP hD hS => ?_)
                          have h117 : 0 ≤ (r114 : Int64).toInt ∧ (¬ ((g : Int64).toInt = 0 ∨ (g : Int64).toInt = -1) → 1 ≤ (r114 : Int64).toInt) := hw116
                          have hP : va_P D vwCl [] H := hP
                          have hD : va_D A [] := hD
                          refine lv_lstore (lv' := [(5, .long r114), (4, .int z86), (0, .long g), (2, .long q)]) hx hb dX8_byOf_128 hl (by decide) rfl (fun ls hl => ?_)
                          refine lv_lload_n hx hb dX8_byOf_130 rfl (lv_at hl 2 rfl) ?_
                          refine sp_calli (wr := []) (wc := []) hP hD hS hA [] [] rfl rfl (by decide) (by decide) (va_runS (As := [.long g]) (rest := []) ⟨hx, hb, hml, hown, hts⟩ (c_X8_power l D cI cJ cZ H.size (g)) (va_cwS 1 hts gX8_byOf_X8_power_98 rfl rfl rfl (by decide +kernel) ⟨Nat.le_of_ble_eq_true rfl, Nat.le_of_ble_eq_true rfl⟩) (sp_preS [.long g] hK (hP.sub (ws' := []) [] rfl) (hD.sub (ws' := []) [] (by decide) rfl)) rfl rfl hl.1 rfl (lv_room (Nat.le_of_ble_eq_true rfl)) dX8_byOf_131 ⟨Nat.le_of_ble_eq_true rfl, Nat.le_of_ble_eq_true rfl⟩) (fun r118 u119 H locs hw120 hP hD hS => ?_)
                          have hP : va_P D vwCl [] H := hP
                          have hD : va_D A [] := hD
                          refine lv_istore (lv' := [(7, .int r118), (5, .long r114), (4, .int z86), (0, .long g), (2, .long q)]) hx hb dX8_byOf_134 hl (by decide) rfl (fun ls hl => ?_)
                          exact lp_X8_byOf_136 l D cI cJ cZ g q C0 hA hK 8388610 (z86) (r114) (r118) _ _ _ (by first | assumption | omega) (by first | assumption | omega) (by omega) (hP.sub [] rfl) (hD.sub [] (by decide) rfl) hS (lv_sub hl [3, 4, 2, 1, 0] rfl)
                        · skip
                          have c113i : ¬ (r110 : Int32).toInt = 0 := fun h => c113 (Int32.toInt_inj.mp h)
                          refine lv_iload hx hb dX8_byOf_117 (lv_at hl 0 rfl) ?_
                          refine lv_lconst (v := 0) hx hb dX8_byOf_119 (by decide) ?_
                          refine sp_callj (wr := []) (wc := []) hP hD hS hA [] [] rfl rfl (by decide) (by decide) (va_runS (As := [.int z86, .long 0]) (rest := []) ⟨hx, hb, hml, hown, hts⟩ (c_X8_placeOf l D cI cJ cZ H.size (z86) (0)) (va_cwS 2 hts gX8_byOf_X8_placeOf_84 rfl rfl rfl (by decide +kernel) ⟨Nat.le_of_ble_eq_true rfl, Nat.le_of_ble_eq_true rfl⟩) (sp_preS [.int z86, .long 0] hK (hP.sub (ws' := []) [] rfl) (hD.sub (ws' := []) [] (by decide) rfl)) rfl rfl hl.1 rfl (lv_room (Nat.le_of_ble_eq_true rfl)) dX8_byOf_120 ⟨Nat.le_of_ble_eq_true rfl, Nat.le_of_ble_eq_true rfl⟩) (fun r121 u122 H locs hw123 hP hD hS => ?_)
                          have h124 : (r121 : Int64) = sq_mp (z86) (0) := hw123
                          have hP : va_P D vwCl [] H := hP
                          have hD : va_D A [] := hD
                          refine W.widen (k := 0) (n := 0) (by decide) (by decide) ?_
                          exact sp_lret (u := ()) hx hb hr hlocks hS trivial (hP.sub [] rfl) (hD.sub [] (by decide) rfl) dX8_byOf_123
                    · skip
                      have c100i : ¬ (r96 : Int32).toInt = 0 := fun h => c100 (Int32.toInt_inj.mp h)
                      refine lv_iload hx hb dX8_byOf_94 (lv_at hl 0 rfl) ?_
                      refine lv_ldc2 (v := 2139095040) hx hb hown (hts (.constantLong RX8 68 (2139095040)) (oX8_byOf_in _ (List.mem_of_getElem? (i := 3) rfl))) dX8_byOf_96 ?_
                      refine sp_callj (wr := []) (wc := []) hP hD hS hA [] [] rfl rfl (by decide) (by decide) (va_runS (As := [.int z86, .long 2139095040]) (rest := []) ⟨hx, hb, hml, hown, hts⟩ (c_X8_placeOf l D cI cJ cZ H.size (z86) (2139095040)) (va_cwS 2 hts gX8_byOf_X8_placeOf_84 rfl rfl rfl (by decide +kernel) ⟨Nat.le_of_ble_eq_true rfl, Nat.le_of_ble_eq_true rfl⟩) (sp_preS [.int z86, .long 2139095040] hK (hP.sub (ws' := []) [] rfl) (hD.sub (ws' := []) [] (by decide) rfl)) rfl rfl hl.1 rfl (lv_room (Nat.le_of_ble_eq_true rfl)) dX8_byOf_99 ⟨Nat.le_of_ble_eq_true rfl, Nat.le_of_ble_eq_true rfl⟩) (fun r125 u126 H locs hw127 hP hD hS => ?_)
                      have h128 : (r125 : Int64) = sq_mp (z86) (2139095040) := hw127
                      have hP : va_P D vwCl [] H := hP
                      have hD : va_D A [] := hD
                      refine W.widen (k := 0) (n := 0) (by decide) (by decide) ?_
                      exact sp_lret (u := ()) hx hb hr hlocks hS trivial (hP.sub [] rfl) (hD.sub [] (by decide) rfl) dX8_byOf_102
                refine lv_icmp_eq (tgt := 77) hx hb dX8_byOf_70 (by decide) (fun c83 => ?_) (fun c83 => ?_)
                · skip
                  have c83i : (z76 : Int32).toInt = (z81 : Int32).toInt := congrArg Int32.toInt c83
                  refine lv_iconst (v := 0) hx hb dX8_byOf_77 (by decide) ?_
                  exact hj87 (0) _ _ _ (hP.sub [] rfl) (hD.sub [] (by decide) rfl) hS (lv_sub hl [0, 1] rfl)
                · skip
                  have c83i : ¬ (z76 : Int32).toInt = (z81 : Int32).toInt := fun h => c83 (Int32.toInt_inj.mp h)
                  refine lv_iconst (v := 1) hx hb dX8_byOf_73 (by decide) ?_
                  refine lv_goto (tgt := 78) hx hb dX8_byOf_74 (by decide) ?_
                  exact hj87 (1) _ _ _ (hP.sub [] rfl) (hD.sub [] (by decide) rfl) hS (lv_sub hl [0, 1] rfl)
              refine lv_if_ge (tgt := 69) hx hb dX8_byOf_62 (by decide) (fun c78 => ?_) (fun c78 => ?_)
              · skip
                have c78 := (lg_cmp_ge _ _).mp c78
                have c78i : 0 ≤ (q : Int64).toInt := Int64.le_iff_toInt_le.mp c78
                refine lv_iconst (v := 0) hx hb dX8_byOf_69 (by decide) ?_
                exact hj82 (0) _ _ _ (hP.sub [] rfl) (hD.sub [] (by decide) rfl) hS (lv_sub hl [0, 1] rfl)
              · skip
                have c78 := fun h => c78 ((lg_cmp_ge _ _).mpr h)
                have c78i : ¬ 0 ≤ (q : Int64).toInt := fun h => c78 (Int64.le_iff_toInt_le.mpr h)
                refine lv_iconst (v := 1) hx hb dX8_byOf_65 (by decide) ?_
                refine lv_goto (tgt := 70) hx hb dX8_byOf_66 (by decide) ?_
                exact hj82 (1) _ _ _ (hP.sub [] rfl) (hD.sub [] (by decide) rfl) hS (lv_sub hl [0, 1] rfl)
            refine lv_if_ge (tgt := 58) hx hb dX8_byOf_51 (by decide) (fun c73 => ?_) (fun c73 => ?_)
            · skip
              have c73 := (lg_cmp_ge _ _).mp c73
              have c73i : 0 ≤ (g : Int64).toInt := Int64.le_iff_toInt_le.mp c73
              refine lv_iconst (v := 0) hx hb dX8_byOf_58 (by decide) ?_
              exact hj77 (0) _ _ _ (hP.sub [] rfl) (hD.sub [] (by decide) rfl) hS (lv_sub hl [0, 1] rfl)
            · skip
              have c73 := fun h => c73 ((lg_cmp_ge _ _).mpr h)
              have c73i : ¬ 0 ≤ (g : Int64).toInt := fun h => c73 (Int64.le_iff_toInt_le.mpr h)
              refine lv_iconst (v := 1) hx hb dX8_byOf_54 (by decide) ?_
              refine lv_goto (tgt := 59) hx hb dX8_byOf_55 (by decide) ?_
              exact hj77 (1) _ _ _ (hP.sub [] rfl) (hD.sub [] (by decide) rfl) hS (lv_sub hl [0, 1] rfl)
          · skip
            have c72i : ¬ (r68 : Int32).toInt = 0 := fun h => c72 (Int32.toInt_inj.mp h)
            refine lv_ldc2 (v := 9000000000) hx hb hown (hts (.constantLong RX8 82 (9000000000)) (oX8_byOf_in _ (List.mem_of_getElem? (i := 2) rfl))) dX8_byOf_44 ?_
            refine W.widen (k := 0) (n := 0) (by decide) (by decide) ?_
            exact sp_lret (u := ()) hx hb hr hlocks hS trivial (hP.sub [] rfl) (hD.sub [] (by decide) rfl) dX8_byOf_47
      · skip
        have c6i : ¬ (r3 : Int32).toInt = 0 := fun h => c6 (Int32.toInt_inj.mp h)
        refine lv_lload_n hx hb dX8_byOf_23 rfl (lv_at hl 1 rfl) ?_
        refine sp_calli (wr := []) (wc := []) hP hD hS hA [] [] rfl rfl (by decide) (by decide) (va_runS (As := [.long q]) (rest := []) ⟨hx, hb, hml, hown, hts⟩ (c_X8_isInfinite l D cI cJ cZ H.size (q)) (va_cwS 1 hts gX8_byOf_X8_isInfinite_94 rfl rfl rfl (by decide +kernel) ⟨Nat.le_of_ble_eq_true rfl, Nat.le_of_ble_eq_true rfl⟩) (sp_preS [.long q] hK (hP.sub (ws' := []) [] rfl) (hD.sub (ws' := []) [] (by decide) rfl)) rfl rfl hl.1 rfl (lv_room (Nat.le_of_ble_eq_true rfl)) dX8_byOf_24 ⟨Nat.le_of_ble_eq_true rfl, Nat.le_of_ble_eq_true rfl⟩) (fun r129 u130 H locs hw131 hP hD hS => ?_)
        have hP : va_P D vwCl [] H := hP
        have hD : va_D A [] := hD
        refine lv_if_ne (tgt := 44) hx hb dX8_byOf_27 (by decide) (fun c132 => ?_) (fun c132 => ?_)
        · skip
          have c132i : ¬ (r129 : Int32).toInt = 0 := fun h => c132 (Int32.toInt_inj.mp h)
          refine lv_ldc2 (v := 9000000000) hx hb hown (hts (.constantLong RX8 82 (9000000000)) (oX8_byOf_in _ (List.mem_of_getElem? (i := 2) rfl))) dX8_byOf_44 ?_
          refine W.widen (k := 0) (n := 0) (by decide) (by decide) ?_
          exact sp_lret (u := ()) hx hb hr hlocks hS trivial (hP.sub [] rfl) (hD.sub [] (by decide) rfl) dX8_byOf_47
        · skip
          have c132i : (r129 : Int32).toInt = 0 := congrArg Int32.toInt c132
          refine lv_lload_n hx hb dX8_byOf_30 rfl (lv_at hl 0 rfl) ?_
          refine sp_calli (wr := []) (wc := []) hP hD hS hA [] [] rfl rfl (by decide) (by decide) (va_runS (As := [.long g]) (rest := []) ⟨hx, hb, hml, hown, hts⟩ (c_X8_isZero l D cI cJ cZ H.size (g)) (va_cwS 1 hts gX8_byOf_X8_isZero_109 rfl rfl rfl (by decide +kernel) ⟨Nat.le_of_ble_eq_true rfl, Nat.le_of_ble_eq_true rfl⟩) (sp_preS [.long g] hK (hP.sub (ws' := []) [] rfl) (hD.sub (ws' := []) [] (by decide) rfl)) rfl rfl hl.1 rfl (lv_room (Nat.le_of_ble_eq_true rfl)) dX8_byOf_31 ⟨Nat.le_of_ble_eq_true rfl, Nat.le_of_ble_eq_true rfl⟩) (fun r133 u134 H locs hw135 hP hD hS => ?_)
          have h136 : ((r133 : Int32).toInt = 1 ∧ ((g : Int64).toInt = 0 ∨ (g : Int64).toInt = -1)) ∨ ((r133 : Int32).toInt = 0 ∧ ¬ ((g : Int64).toInt = 0 ∨ (g : Int64).toInt = -1)) := sp_bool hw135
          have hP : va_P D vwCl [] H := hP
          have hD : va_D A [] := hD
          refine lv_if_eq (tgt := 48) hx hb dX8_byOf_34 (by decide) (fun c137 => ?_) (fun c137 => ?_)
          · skip
            have c137i : (r133 : Int32).toInt = 0 := congrArg Int32.toInt c137
            refine lv_lload_n hx hb dX8_byOf_48 rfl (lv_at hl 0 rfl) ?_
            refine lv_lconst (v := 0) hx hb dX8_byOf_49 (by decide) ?_
            refine W.lcmp hx hb dX8_byOf_50 ?_
            have hj142 : ∀ (z141 : Int32) (H : Heap) (locs : List Loc) (ls : Array Slot), va_P D vwCl [] H → va_D A [] → va_S A s.heap H locs → lv_has ls 12 [(0, .long g), (2, .long q)] → W p l e ({ frames := 2, cells := 0, slots := 0, locals := 51 }) s m (([.long g, .long q] : List Value).toArray) below meth c H locs 0 0 (MQ below (va_Ql (fun (r : Int64) (_ : Unit) => True) (sp_B D vwCl A (fun (_ : Unit) => [])) A) ([.long g, .long q] : List Value).toArray s 0 0 A) (F0 m 59 ls [.int z141]) := by
              intro z141 H locs ls  hP hD hS hl
              refine lv_lload_n hx hb dX8_byOf_59 rfl (lv_at hl 1 rfl) ?_
              refine lv_lconst (v := 0) hx hb dX8_byOf_60 (by decide) ?_
              refine W.lcmp hx hb dX8_byOf_61 ?_
              have hj147 : ∀ (z146 : Int32) (H : Heap) (locs : List Loc) (ls : Array Slot), va_P D vwCl [] H → va_D A [] → va_S A s.heap H locs → lv_has ls 12 [(0, .long g), (2, .long q)] → W p l e ({ frames := 2, cells := 0, slots := 0, locals := 51 }) s m (([.long g, .long q] : List Value).toArray) below meth c H locs 0 0 (MQ below (va_Ql (fun (r : Int64) (_ : Unit) => True) (sp_B D vwCl A (fun (_ : Unit) => [])) A) ([.long g, .long q] : List Value).toArray s 0 0 A) (F0 m 70 ls [.int z146, .int z141]) := by
                intro z146 H locs ls  hP hD hS hl
                have hj152 : ∀ (z151 : Int32) (H : Heap) (locs : List Loc) (ls : Array Slot), va_P D vwCl [] H → va_D A [] → va_S A s.heap H locs → lv_has ls 12 [(0, .long g), (2, .long q)] → W p l e ({ frames := 2, cells := 0, slots := 0, locals := 51 }) s m (([.long g, .long q] : List Value).toArray) below meth c H locs 0 0 (MQ below (va_Ql (fun (r : Int64) (_ : Unit) => True) (sp_B D vwCl A (fun (_ : Unit) => [])) A) ([.long g, .long q] : List Value).toArray s 0 0 A) (F0 m 78 ls [.int z151]) := by
                  intro z151 H locs ls  hP hD hS hl
                  refine lv_istore (lv' := [(4, .int z151), (0, .long g), (2, .long q)]) hx hb dX8_byOf_78 hl (by decide) rfl (fun ls hl => ?_)
                  refine lv_lload_n hx hb dX8_byOf_80 rfl (lv_at hl 1 rfl) ?_
                  refine sp_calli (wr := []) (wc := []) hP hD hS hA [] [] rfl rfl (by decide) (by decide) (va_runS (As := [.long g]) (rest := []) ⟨hx, hb, hml, hown, hts⟩ (c_X8_isInfinite l D cI cJ cZ H.size (g)) (va_cwS 1 hts gX8_byOf_X8_isInfinite_94 rfl rfl rfl (by decide +kernel) ⟨Nat.le_of_ble_eq_true rfl, Nat.le_of_ble_eq_true rfl⟩) (sp_preS [.long g] hK (hP.sub (ws' := []) [] rfl) (hD.sub (ws' := []) [] (by decide) rfl)) rfl rfl hl.1 rfl (lv_room (Nat.le_of_ble_eq_true rfl)) dX8_byOf_81 ⟨Nat.le_of_ble_eq_true rfl, Nat.le_of_ble_eq_true rfl⟩) (fun r153 u154 H locs hw155 hP hD hS => ?_)
                  have hP : va_P D vwCl [] H := hP
                  have hD : va_D A [] := hD
                  refine lv_if_ne (tgt := 94) hx hb dX8_byOf_84 (by decide) (fun c156 => ?_) (fun c156 => ?_)
                  · skip
                    have c156i : ¬ (r153 : Int32).toInt = 0 := fun h => c156 (Int32.toInt_inj.mp h)
                    refine lv_iload hx hb dX8_byOf_94 (lv_at hl 0 rfl) ?_
                    refine lv_ldc2 (v := 2139095040) hx hb hown (hts (.constantLong RX8 68 (2139095040)) (oX8_byOf_in _ (List.mem_of_getElem? (i := 3) rfl))) dX8_byOf_96 ?_
                    refine sp_callj (wr := []) (wc := []) hP hD hS hA [] [] rfl rfl (by decide) (by decide) (va_runS (As := [.int z151, .long 2139095040]) (rest := []) ⟨hx, hb, hml, hown, hts⟩ (c_X8_placeOf l D cI cJ cZ H.size (z151) (2139095040)) (va_cwS 2 hts gX8_byOf_X8_placeOf_84 rfl rfl rfl (by decide +kernel) ⟨Nat.le_of_ble_eq_true rfl, Nat.le_of_ble_eq_true rfl⟩) (sp_preS [.int z151, .long 2139095040] hK (hP.sub (ws' := []) [] rfl) (hD.sub (ws' := []) [] (by decide) rfl)) rfl rfl hl.1 rfl (lv_room (Nat.le_of_ble_eq_true rfl)) dX8_byOf_99 ⟨Nat.le_of_ble_eq_true rfl, Nat.le_of_ble_eq_true rfl⟩) (fun r157 u158 H locs hw159 hP hD hS => ?_)
                    have h160 : (r157 : Int64) = sq_mp (z151) (2139095040) := hw159
                    have hP : va_P D vwCl [] H := hP
                    have hD : va_D A [] := hD
                    refine W.widen (k := 0) (n := 0) (by decide) (by decide) ?_
                    exact sp_lret (u := ()) hx hb hr hlocks hS trivial (hP.sub [] rfl) (hD.sub [] (by decide) rfl) dX8_byOf_102
                  · skip
                    have c156i : (r153 : Int32).toInt = 0 := congrArg Int32.toInt c156
                    refine lv_lload_n hx hb dX8_byOf_87 rfl (lv_at hl 2 rfl) ?_
                    refine sp_calli (wr := []) (wc := []) hP hD hS hA [] [] rfl rfl (by decide) (by decide) (va_runS (As := [.long q]) (rest := []) ⟨hx, hb, hml, hown, hts⟩ (c_X8_isZero l D cI cJ cZ H.size (q)) (va_cwS 1 hts gX8_byOf_X8_isZero_109 rfl rfl rfl (by decide +kernel) ⟨Nat.le_of_ble_eq_true rfl, Nat.le_of_ble_eq_true rfl⟩) (sp_preS [.long q] hK (hP.sub (ws' := []) [] rfl) (hD.sub (ws' := []) [] (by decide) rfl)) rfl rfl hl.1 rfl (lv_room (Nat.le_of_ble_eq_true rfl)) dX8_byOf_88 ⟨Nat.le_of_ble_eq_true rfl, Nat.le_of_ble_eq_true rfl⟩) (fun r161 u162 H locs hw163 hP hD hS => ?_)
                    have h164 : ((r161 : Int32).toInt = 1 ∧ ((q : Int64).toInt = 0 ∨ (q : Int64).toInt = -1)) ∨ ((r161 : Int32).toInt = 0 ∧ ¬ ((q : Int64).toInt = 0 ∨ (q : Int64).toInt = -1)) := sp_bool hw163
                    have hP : va_P D vwCl [] H := hP
                    have hD : va_D A [] := hD
                    refine lv_if_eq (tgt := 103) hx hb dX8_byOf_91 (by decide) (fun c165 => ?_) (fun c165 => ?_)
                    · skip
                      have c165i : (r161 : Int32).toInt = 0 := congrArg Int32.toInt c165
                      refine lv_lload_n hx hb dX8_byOf_103 rfl (lv_at hl 1 rfl) ?_
                      refine sp_calli (wr := []) (wc := []) hP hD hS hA [] [] rfl rfl (by decide) (by decide) (va_runS (As := [.long g]) (rest := []) ⟨hx, hb, hml, hown, hts⟩ (c_X8_isZero l D cI cJ cZ H.size (g)) (va_cwS 1 hts gX8_byOf_X8_isZero_109 rfl rfl rfl (by decide +kernel) ⟨Nat.le_of_ble_eq_true rfl, Nat.le_of_ble_eq_true rfl⟩) (sp_preS [.long g] hK (hP.sub (ws' := []) [] rfl) (hD.sub (ws' := []) [] (by decide) rfl)) rfl rfl hl.1 rfl (lv_room (Nat.le_of_ble_eq_true rfl)) dX8_byOf_104 ⟨Nat.le_of_ble_eq_true rfl, Nat.le_of_ble_eq_true rfl⟩) (fun r166 u167 H locs hw168 hP hD hS => ?_)
                      have h169 : ((r166 : Int32).toInt = 1 ∧ ((g : Int64).toInt = 0 ∨ (g : Int64).toInt = -1)) ∨ ((r166 : Int32).toInt = 0 ∧ ¬ ((g : Int64).toInt = 0 ∨ (g : Int64).toInt = -1)) := sp_bool hw168
                      have hP : va_P D vwCl [] H := hP
                      have hD : va_D A [] := hD
                      refine lv_if_ne (tgt := 117) hx hb dX8_byOf_107 (by decide) (fun c170 => ?_) (fun c170 => ?_)
                      · skip
                        have c170i : ¬ (r166 : Int32).toInt = 0 := fun h => c170 (Int32.toInt_inj.mp h)
                        refine lv_iload hx hb dX8_byOf_117 (lv_at hl 0 rfl) ?_
                        refine lv_lconst (v := 0) hx hb dX8_byOf_119 (by decide) ?_
                        refine sp_callj (wr := []) (wc := []) hP hD hS hA [] [] rfl rfl (by decide) (by decide) (va_runS (As := [.int z151, .long 0]) (rest := []) ⟨hx, hb, hml, hown, hts⟩ (c_X8_placeOf l D cI cJ cZ H.size (z151) (0)) (va_cwS 2 hts gX8_byOf_X8_placeOf_84 rfl rfl rfl (by decide +kernel) ⟨Nat.le_of_ble_eq_true rfl, Nat.le_of_ble_eq_true rfl⟩) (sp_preS [.int z151, .long 0] hK (hP.sub (ws' := []) [] rfl) (hD.sub (ws' := []) [] (by decide) rfl)) rfl rfl hl.1 rfl (lv_room (Nat.le_of_ble_eq_true rfl)) dX8_byOf_120 ⟨Nat.le_of_ble_eq_true rfl, Nat.le_of_ble_eq_true rfl⟩) (fun r171 u172 H locs hw173 hP hD hS => ?_)
                        have h174 : (r171 : Int64) = sq_mp (z151) (0) := hw173
                        have hP : va_P D vwCl [] H := hP
                        have hD : va_D A [] := hD
                        refine W.widen (k := 0) (n := 0) (by decide) (by decide) ?_
                        exact sp_lret (u := ()) hx hb hr hlocks hS trivial (hP.sub [] rfl) (hD.sub [] (by decide) rfl) dX8_byOf_123
                      · skip
                        have c170i : (r166 : Int32).toInt = 0 := congrArg Int32.toInt c170
                        refine lv_lload_n hx hb dX8_byOf_110 rfl (lv_at hl 2 rfl) ?_
                        refine sp_calli (wr := []) (wc := []) hP hD hS hA [] [] rfl rfl (by decide) (by decide) (va_runS (As := [.long q]) (rest := []) ⟨hx, hb, hml, hown, hts⟩ (c_X8_isInfinite l D cI cJ cZ H.size (q)) (va_cwS 1 hts gX8_byOf_X8_isInfinite_94 rfl rfl rfl (by decide +kernel) ⟨Nat.le_of_ble_eq_true rfl, Nat.le_of_ble_eq_true rfl⟩) (sp_preS [.long q] hK (hP.sub (ws' := []) [] rfl) (hD.sub (ws' := []) [] (by decide) rfl)) rfl rfl hl.1 rfl (lv_room (Nat.le_of_ble_eq_true rfl)) dX8_byOf_111 ⟨Nat.le_of_ble_eq_true rfl, Nat.le_of_ble_eq_true rfl⟩) (fun r175 u176 H locs hw177 hP hD hS => ?_)
                        have hP : va_P D vwCl [] H := hP
                        have hD : va_D A [] := hD
                        refine lv_if_eq (tgt := 124) hx hb dX8_byOf_114 (by decide) (fun c178 => ?_) (fun c178 => ?_)
                        · skip
                          have c178i : (r175 : Int32).toInt = 0 := congrArg Int32.toInt c178
                          refine lv_lload_n hx hb dX8_byOf_124 rfl (lv_at hl 1 rfl) ?_
                          refine sp_callj (wr := []) (wc := []) hP hD hS hA [] [] rfl rfl (by decide) (by decide) (va_runS (As := [.long g]) (rest := []) ⟨hx, hb, hml, hown, hts⟩ (c_X8_digits l D cI cJ cZ H.size (g)) (va_cwS 1 hts gX8_byOf_X8_digits_102 rfl rfl rfl (by decide +kernel) ⟨Nat.le_of_ble_eq_true rfl, Nat.le_of_ble_eq_true rfl⟩) (sp_preS [.long g] hK (hP.sub (ws' := []) [] rfl) (hD.sub (ws' := []) [] (by decide) rfl)) rfl rfl hl.1 rfl (lv_room (Nat.le_of_ble_eq_true rfl)) dX8_byOf_125 ⟨Nat.le_of_ble_eq_true rfl, Nat.le_of_ble_eq_true rfl⟩) (fun r179 u180 H locs hw181 hP hD hS => ?_)
                          have h182 : 0 ≤ (r179 : Int64).toInt ∧ (¬ ((g : Int64).toInt = 0 ∨ (g : Int64).toInt = -1) → 1 ≤ (r179 : Int64).toInt) := hw181
                          have hP : va_P D vwCl [] H := hP
                          have hD : va_D A [] := hD
                          refine lv_lstore (lv' := [(5, .long r179), (4, .int z151), (0, .long g), (2, .long q)]) hx hb dX8_byOf_128 hl (by decide) rfl (fun ls hl => ?_)
                          refine lv_lload_n hx hb dX8_byOf_130 rfl (lv_at hl 2 rfl) ?_
                          refine sp_calli (wr := []) (wc := []) hP hD hS hA [] [] rfl rfl (by decide) (by decide) (va_runS (As := [.long g]) (rest := []) ⟨hx, hb, hml, hown, hts⟩ (c_X8_power l D cI cJ cZ H.size (g)) (va_cwS 1 hts gX8_byOf_X8_power_98 rfl rfl rfl (by decide +kernel) ⟨Nat.le_of_ble_eq_true rfl, Nat.le_of_ble_eq_true rfl⟩) (sp_preS [.long g] hK (hP.sub (ws' := []) [] rfl) (hD.sub (ws' := []) [] (by decide) rfl)) rfl rfl hl.1 rfl (lv_room (Nat.le_of_ble_eq_true rfl)) dX8_byOf_131 ⟨Nat.le_of_ble_eq_true rfl, Nat.le_of_ble_eq_true rfl⟩) (fun r183 u184 H locs hw185 hP hD hS => ?_)
                          have hP : va_P D vwCl [] H := hP
                          have hD : va_D A [] := hD
                          refine lv_istore (lv' := [(7, .int r183), (5, .long r179), (4, .int z151), (0, .long g), (2, .long q)]) hx hb dX8_byOf_134 hl (by decide) rfl (fun ls hl => ?_)
                          exact lp_X8_byOf_136 l D cI cJ cZ g q C0 hA hK 8388610 (z151) (r179) (r183) _ _ _ (by first | assumption | omega) (by first | assumption | omega) (by omega) (hP.sub [] rfl) (hD.sub [] (by decide) rfl) hS (lv_sub hl [3, 4, 2, 1, 0] rfl)
                        · skip
                          have c178i : ¬ (r175 : Int32).toInt = 0 := fun h => c178 (Int32.toInt_inj.mp h)
                          refine lv_iload hx hb dX8_byOf_117 (lv_at hl 0 rfl) ?_
                          refine lv_lconst (v := 0) hx hb dX8_byOf_119 (by decide) ?_
                          refine sp_callj (wr := []) (wc := []) hP hD hS hA [] [] rfl rfl (by decide) (by decide) (va_runS (As := [.int z151, .long 0]) (rest := []) ⟨hx, hb, hml, hown, hts⟩ (c_X8_placeOf l D cI cJ cZ H.size (z151) (0)) (va_cwS 2 hts gX8_byOf_X8_placeOf_84 rfl rfl rfl (by decide +kernel) ⟨Nat.le_of_ble_eq_true rfl, Nat.le_of_ble_eq_true rfl⟩) (sp_preS [.int z151, .long 0] hK (hP.sub (ws' := []) [] rfl) (hD.sub (ws' := []) [] (by decide) rfl)) rfl rfl hl.1 rfl (lv_room (Nat.le_of_ble_eq_true rfl)) dX8_byOf_120 ⟨Nat.le_of_ble_eq_true rfl, Nat.le_of_ble_eq_true rfl⟩) (fun r186 u187 H locs hw188 hP hD hS => ?_)
                          have h189 : (r186 : Int64) = sq_mp (z151) (0) := hw188
                          have hP : va_P D vwCl [] H := hP
                          have hD : va_D A [] := hD
                          refine W.widen (k := 0) (n := 0) (by decide) (by decide) ?_
                          exact sp_lret (u := ()) hx hb hr hlocks hS trivial (hP.sub [] rfl) (hD.sub [] (by decide) rfl) dX8_byOf_123
                    · skip
                      have c165i : ¬ (r161 : Int32).toInt = 0 := fun h => c165 (Int32.toInt_inj.mp h)
                      refine lv_iload hx hb dX8_byOf_94 (lv_at hl 0 rfl) ?_
                      refine lv_ldc2 (v := 2139095040) hx hb hown (hts (.constantLong RX8 68 (2139095040)) (oX8_byOf_in _ (List.mem_of_getElem? (i := 3) rfl))) dX8_byOf_96 ?_
                      refine sp_callj (wr := []) (wc := []) hP hD hS hA [] [] rfl rfl (by decide) (by decide) (va_runS (As := [.int z151, .long 2139095040]) (rest := []) ⟨hx, hb, hml, hown, hts⟩ (c_X8_placeOf l D cI cJ cZ H.size (z151) (2139095040)) (va_cwS 2 hts gX8_byOf_X8_placeOf_84 rfl rfl rfl (by decide +kernel) ⟨Nat.le_of_ble_eq_true rfl, Nat.le_of_ble_eq_true rfl⟩) (sp_preS [.int z151, .long 2139095040] hK (hP.sub (ws' := []) [] rfl) (hD.sub (ws' := []) [] (by decide) rfl)) rfl rfl hl.1 rfl (lv_room (Nat.le_of_ble_eq_true rfl)) dX8_byOf_99 ⟨Nat.le_of_ble_eq_true rfl, Nat.le_of_ble_eq_true rfl⟩) (fun r190 u191 H locs hw192 hP hD hS => ?_)
                      have h193 : (r190 : Int64) = sq_mp (z151) (2139095040) := hw192
                      have hP : va_P D vwCl [] H := hP
                      have hD : va_D A [] := hD
                      refine W.widen (k := 0) (n := 0) (by decide) (by decide) ?_
                      exact sp_lret (u := ()) hx hb hr hlocks hS trivial (hP.sub [] rfl) (hD.sub [] (by decide) rfl) dX8_byOf_102
                refine lv_icmp_eq (tgt := 77) hx hb dX8_byOf_70 (by decide) (fun c148 => ?_) (fun c148 => ?_)
                · skip
                  have c148i : (z141 : Int32).toInt = (z146 : Int32).toInt := congrArg Int32.toInt c148
                  refine lv_iconst (v := 0) hx hb dX8_byOf_77 (by decide) ?_
                  exact hj152 (0) _ _ _ (hP.sub [] rfl) (hD.sub [] (by decide) rfl) hS (lv_sub hl [0, 1] rfl)
                · skip
                  have c148i : ¬ (z141 : Int32).toInt = (z146 : Int32).toInt := fun h => c148 (Int32.toInt_inj.mp h)
                  refine lv_iconst (v := 1) hx hb dX8_byOf_73 (by decide) ?_
                  refine lv_goto (tgt := 78) hx hb dX8_byOf_74 (by decide) ?_
                  exact hj152 (1) _ _ _ (hP.sub [] rfl) (hD.sub [] (by decide) rfl) hS (lv_sub hl [0, 1] rfl)
              refine lv_if_ge (tgt := 69) hx hb dX8_byOf_62 (by decide) (fun c143 => ?_) (fun c143 => ?_)
              · skip
                have c143 := (lg_cmp_ge _ _).mp c143
                have c143i : 0 ≤ (q : Int64).toInt := Int64.le_iff_toInt_le.mp c143
                refine lv_iconst (v := 0) hx hb dX8_byOf_69 (by decide) ?_
                exact hj147 (0) _ _ _ (hP.sub [] rfl) (hD.sub [] (by decide) rfl) hS (lv_sub hl [0, 1] rfl)
              · skip
                have c143 := fun h => c143 ((lg_cmp_ge _ _).mpr h)
                have c143i : ¬ 0 ≤ (q : Int64).toInt := fun h => c143 (Int64.le_iff_toInt_le.mpr h)
                refine lv_iconst (v := 1) hx hb dX8_byOf_65 (by decide) ?_
                refine lv_goto (tgt := 70) hx hb dX8_byOf_66 (by decide) ?_
                exact hj147 (1) _ _ _ (hP.sub [] rfl) (hD.sub [] (by decide) rfl) hS (lv_sub hl [0, 1] rfl)
            refine lv_if_ge (tgt := 58) hx hb dX8_byOf_51 (by decide) (fun c138 => ?_) (fun c138 => ?_)
            · skip
              have c138 := (lg_cmp_ge _ _).mp c138
              have c138i : 0 ≤ (g : Int64).toInt := Int64.le_iff_toInt_le.mp c138
              refine lv_iconst (v := 0) hx hb dX8_byOf_58 (by decide) ?_
              exact hj142 (0) _ _ _ (hP.sub [] rfl) (hD.sub [] (by decide) rfl) hS (lv_sub hl [0, 1] rfl)
            · skip
              have c138 := fun h => c138 ((lg_cmp_ge _ _).mpr h)
              have c138i : ¬ 0 ≤ (g : Int64).toInt := fun h => c138 (Int64.le_iff_toInt_le.mpr h)
              refine lv_iconst (v := 1) hx hb dX8_byOf_54 (by decide) ?_
              refine lv_goto (tgt := 59) hx hb dX8_byOf_55 (by decide) ?_
              exact hj142 (1) _ _ _ (hP.sub [] rfl) (hD.sub [] (by decide) rfl) hS (lv_sub hl [0, 1] rfl)
          · skip
            have c137i : ¬ (r133 : Int32).toInt = 0 := fun h => c137 (Int32.toInt_inj.mp h)
            refine lv_lload_n hx hb dX8_byOf_37 rfl (lv_at hl 1 rfl) ?_
            refine sp_calli (wr := []) (wc := []) hP hD hS hA [] [] rfl rfl (by decide) (by decide) (va_runS (As := [.long q]) (rest := []) ⟨hx, hb, hml, hown, hts⟩ (c_X8_isZero l D cI cJ cZ H.size (q)) (va_cwS 1 hts gX8_byOf_X8_isZero_109 rfl rfl rfl (by decide +kernel) ⟨Nat.le_of_ble_eq_true rfl, Nat.le_of_ble_eq_true rfl⟩) (sp_preS [.long q] hK (hP.sub (ws' := []) [] rfl) (hD.sub (ws' := []) [] (by decide) rfl)) rfl rfl hl.1 rfl (lv_room (Nat.le_of_ble_eq_true rfl)) dX8_byOf_38 ⟨Nat.le_of_ble_eq_true rfl, Nat.le_of_ble_eq_true rfl⟩) (fun r194 u195 H locs hw196 hP hD hS => ?_)
            have h197 : ((r194 : Int32).toInt = 1 ∧ ((q : Int64).toInt = 0 ∨ (q : Int64).toInt = -1)) ∨ ((r194 : Int32).toInt = 0 ∧ ¬ ((q : Int64).toInt = 0 ∨ (q : Int64).toInt = -1)) := sp_bool hw196
            have hP : va_P D vwCl [] H := hP
            have hD : va_D A [] := hD
            refine lv_if_eq (tgt := 48) hx hb dX8_byOf_41 (by decide) (fun c198 => ?_) (fun c198 => ?_)
            · skip
              have c198i : (r194 : Int32).toInt = 0 := congrArg Int32.toInt c198
              refine lv_lload_n hx hb dX8_byOf_48 rfl (lv_at hl 0 rfl) ?_
              refine lv_lconst (v := 0) hx hb dX8_byOf_49 (by decide) ?_
              refine W.lcmp hx hb dX8_byOf_50 ?_
              have hj203 : ∀ (z202 : Int32) (H : Heap) (locs : List Loc) (ls : Array Slot), va_P D vwCl [] H → va_D A [] → va_S A s.heap H locs → lv_has ls 12 [(0, .long g), (2, .long q)] → W p l e ({ frames := 2, cells := 0, slots := 0, locals := 51 }) s m (([.long g, .long q] : List Value).toArray) below meth c H locs 0 0 (MQ below (va_Ql (fun (r : Int64) (_ : Unit) => True) (sp_B D vwCl A (fun (_ : Unit) => [])) A) ([.long g, .long q] : List Value).toArray s 0 0 A) (F0 m 59 ls [.int z202]) := by
                intro z202 H locs ls  hP hD hS hl
                refine lv_lload_n hx hb dX8_byOf_59 rfl (lv_at hl 1 rfl) ?_
                refine lv_lconst (v := 0) hx hb dX8_byOf_60 (by decide) ?_
                refine W.lcmp hx hb dX8_byOf_61 ?_
                have hj208 : ∀ (z207 : Int32) (H : Heap) (locs : List Loc) (ls : Array Slot), va_P D vwCl [] H → va_D A [] → va_S A s.heap H locs → lv_has ls 12 [(0, .long g), (2, .long q)] → W p l e ({ frames := 2, cells := 0, slots := 0, locals := 51 }) s m (([.long g, .long q] : List Value).toArray) below meth c H locs 0 0 (MQ below (va_Ql (fun (r : Int64) (_ : Unit) => True) (sp_B D vwCl A (fun (_ : Unit) => [])) A) ([.long g, .long q] : List Value).toArray s 0 0 A) (F0 m 70 ls [.int z207, .int z202]) := by
                  intro z207 H locs ls  hP hD hS hl
                  have hj213 : ∀ (z212 : Int32) (H : Heap) (locs : List Loc) (ls : Array Slot), va_P D vwCl [] H → va_D A [] → va_S A s.heap H locs → lv_has ls 12 [(0, .long g), (2, .long q)] → W p l e ({ frames := 2, cells := 0, slots := 0, locals := 51 }) s m (([.long g, .long q] : List Value).toArray) below meth c H locs 0 0 (MQ below (va_Ql (fun (r : Int64) (_ : Unit) => True) (sp_B D vwCl A (fun (_ : Unit) => [])) A) ([.long g, .long q] : List Value).toArray s 0 0 A) (F0 m 78 ls [.int z212]) := by
                    intro z212 H locs ls  hP hD hS hl
                    refine lv_istore (lv' := [(4, .int z212), (0, .long g), (2, .long q)]) hx hb dX8_byOf_78 hl (by decide) rfl (fun ls hl => ?_)
                    refine lv_lload_n hx hb dX8_byOf_80 rfl (lv_at hl 1 rfl) ?_
                    refine sp_calli (wr := []) (wc := []) hP hD hS hA [] [] rfl rfl (by decide) (by decide) (va_runS (As := [.long g]) (rest := []) ⟨hx, hb, hml, hown, hts⟩ (c_X8_isInfinite l D cI cJ cZ H.size (g)) (va_cwS 1 hts gX8_byOf_X8_isInfinite_94 rfl rfl rfl (by decide +kernel) ⟨Nat.le_of_ble_eq_true rfl, Nat.le_of_ble_eq_true rfl⟩) (sp_preS [.long g] hK (hP.sub (ws' := []) [] rfl) (hD.sub (ws' := []) [] (by decide) rfl)) rfl rfl hl.1 rfl (lv_room (Nat.le_of_ble_eq_true rfl)) dX8_byOf_81 ⟨Nat.le_of_ble_eq_true rfl, Nat.le_of_ble_eq_true rfl⟩) (fun r214 u215 H locs hw216 hP hD hS => ?_)
                    have hP : va_P D vwCl [] H := hP
                    have hD : va_D A [] := hD
                    refine lv_if_ne (tgt := 94) hx hb dX8_byOf_84 (by decide) (fun c217 => ?_) (fun c217 => ?_)
                    · skip
                      have c217i : ¬ (r214 : Int32).toInt = 0 := fun h => c217 (Int32.toInt_inj.mp h)
                      refine lv_iload hx hb dX8_byOf_94 (lv_at hl 0 rfl) ?_
                      refine lv_ldc2 (v := 2139095040) hx hb hown (hts (.constantLong RX8 68 (2139095040)) (oX8_byOf_in _ (List.mem_of_getElem? (i := 3) rfl))) dX8_byOf_96 ?_
                      refine sp_callj (wr := []) (wc := []) hP hD hS hA [] [] rfl rfl (by decide) (by decide) (va_runS (As := [.int z212, .long 2139095040]) (rest := []) ⟨hx, hb, hml, hown, hts⟩ (c_X8_placeOf l D cI cJ cZ H.size (z212) (2139095040)) (va_cwS 2 hts gX8_byOf_X8_placeOf_84 rfl rfl rfl (by decide +kernel) ⟨Nat.le_of_ble_eq_true rfl, Nat.le_of_ble_eq_true rfl⟩) (sp_preS [.int z212, .long 2139095040] hK (hP.sub (ws' := []) [] rfl) (hD.sub (ws' := []) [] (by decide) rfl)) rfl rfl hl.1 rfl (lv_room (Nat.le_of_ble_eq_true rfl)) dX8_byOf_99 ⟨Nat.le_of_ble_eq_true rfl, Nat.le_of_ble_eq_true rfl⟩) (fun r218 u219 H locs hw220 hP hD hS => ?_)
                      have h221 : (r218 : Int64) = sq_mp (z212) (2139095040) := hw220
                      have hP : va_P D vwCl [] H := hP
                      have hD : va_D A [] := hD
                      refine W.widen (k := 0) (n := 0) (by decide) (by decide) ?_
                      exact sp_lret (u := ()) hx hb hr hlocks hS trivial (hP.sub [] rfl) (hD.sub [] (by decide) rfl) dX8_byOf_102
                    · skip
                      have c217i : (r214 : Int32).toInt = 0 := congrArg Int32.toInt c217
                      refine lv_lload_n hx hb dX8_byOf_87 rfl (lv_at hl 2 rfl) ?_
                      refine sp_calli (wr := []) (wc := []) hP hD hS hA [] [] rfl rfl (by decide) (by decide) (va_runS (As := [.long q]) (rest := []) ⟨hx, hb, hml, hown, hts⟩ (c_X8_isZero l D cI cJ cZ H.size (q)) (va_cwS 1 hts gX8_byOf_X8_isZero_109 rfl rfl rfl (by decide +kernel) ⟨Nat.le_of_ble_eq_true rfl, Nat.le_of_ble_eq_true rfl⟩) (sp_preS [.long q] hK (hP.sub (ws' := []) [] rfl) (hD.sub (ws' := []) [] (by decide) rfl)) rfl rfl hl.1 rfl (lv_room (Nat.le_of_ble_eq_true rfl)) dX8_byOf_88 ⟨Nat.le_of_ble_eq_true rfl, Nat.le_of_ble_eq_true rfl⟩) (fun r222 u223 H locs hw224 hP hD hS => ?_)
                      have h225 : ((r222 : Int32).toInt = 1 ∧ ((q : Int64).toInt = 0 ∨ (q : Int64).toInt = -1)) ∨ ((r222 : Int32).toInt = 0 ∧ ¬ ((q : Int64).toInt = 0 ∨ (q : Int64).toInt = -1)) := sp_bool hw224
                      have hP : va_P D vwCl [] H := hP
                      have hD : va_D A [] := hD
                      refine lv_if_eq (tgt := 103) hx hb dX8_byOf_91 (by decide) (fun c226 => ?_) (fun c226 => ?_)
                      · skip
                        have c226i : (r222 : Int32).toInt = 0 := congrArg Int32.toInt c226
                        refine lv_lload_n hx hb dX8_byOf_103 rfl (lv_at hl 1 rfl) ?_
                        refine sp_calli (wr := []) (wc := []) hP hD hS hA [] [] rfl rfl (by decide) (by decide) (va_runS (As := [.long g]) (rest := []) ⟨hx, hb, hml, hown, hts⟩ (c_X8_isZero l D cI cJ cZ H.size (g)) (va_cwS 1 hts gX8_byOf_X8_isZero_109 rfl rfl rfl (by decide +kernel) ⟨Nat.le_of_ble_eq_true rfl, Nat.le_of_ble_eq_true rfl⟩) (sp_preS [.long g] hK (hP.sub (ws' := []) [] rfl) (hD.sub (ws' := []) [] (by decide) rfl)) rfl rfl hl.1 rfl (lv_room (Nat.le_of_ble_eq_true rfl)) dX8_byOf_104 ⟨Nat.le_of_ble_eq_true rfl, Nat.le_of_ble_eq_true rfl⟩) (fun r227 u228 H locs hw229 hP hD hS => ?_)
                        have h230 : ((r227 : Int32).toInt = 1 ∧ ((g : Int64).toInt = 0 ∨ (g : Int64).toInt = -1)) ∨ ((r227 : Int32).toInt = 0 ∧ ¬ ((g : Int64).toInt = 0 ∨ (g : Int64).toInt = -1)) := sp_bool hw229
                        have hP : va_P D vwCl [] H := hP
                        have hD : va_D A [] := hD
                        refine lv_if_ne (tgt := 117) hx hb dX8_byOf_107 (by decide) (fun c231 => ?_) (fun c231 => ?_)
                        · skip
                          have c231i : ¬ (r227 : Int32).toInt = 0 := fun h => c231 (Int32.toInt_inj.mp h)
                          refine lv_iload hx hb dX8_byOf_117 (lv_at hl 0 rfl) ?_
                          refine lv_lconst (v := 0) hx hb dX8_byOf_119 (by decide) ?_
                          refine sp_callj (wr := []) (wc := []) hP hD hS hA [] [] rfl rfl (by decide) (by decide) (va_runS (As := [.int z212, .long 0]) (rest := []) ⟨hx, hb, hml, hown, hts⟩ (c_X8_placeOf l D cI cJ cZ H.size (z212) (0)) (va_cwS 2 hts gX8_byOf_X8_placeOf_84 rfl rfl rfl (by decide +kernel) ⟨Nat.le_of_ble_eq_true rfl, Nat.le_of_ble_eq_true rfl⟩) (sp_preS [.int z212, .long 0] hK (hP.sub (ws' := []) [] rfl) (hD.sub (ws' := []) [] (by decide) rfl)) rfl rfl hl.1 rfl (lv_room (Nat.le_of_ble_eq_true rfl)) dX8_byOf_120 ⟨Nat.le_of_ble_eq_true rfl, Nat.le_of_ble_eq_true rfl⟩) (fun r232 u233 H locs hw234 hP hD hS => ?_)
                          have h235 : (r232 : Int64) = sq_mp (z212) (0) := hw234
                          have hP : va_P D vwCl [] H := hP
                          have hD : va_D A [] := hD
                          refine W.widen (k := 0) (n := 0) (by decide) (by decide) ?_
                          exact sp_lret (u := ()) hx hb hr hlocks hS trivial (hP.sub [] rfl) (hD.sub [] (by decide) rfl) dX8_byOf_123
                        · skip
                          have c231i : (r227 : Int32).toInt = 0 := congrArg Int32.toInt c231
                          refine lv_lload_n hx hb dX8_byOf_110 rfl (lv_at hl 2 rfl) ?_
                          refine sp_calli (wr := []) (wc := []) hP hD hS hA [] [] rfl rfl (by decide) (by decide) (va_runS (As := [.long q]) (rest := []) ⟨hx, hb, hml, hown, hts⟩ (c_X8_isInfinite l D cI cJ cZ H.size (q)) (va_cwS 1 hts gX8_byOf_X8_isInfinite_94 rfl rfl rfl (by decide +kernel) ⟨Nat.le_of_ble_eq_true rfl, Nat.le_of_ble_eq_true rfl⟩) (sp_preS [.long q] hK (hP.sub (ws' := []) [] rfl) (hD.sub (ws' := []) [] (by decide) rfl)) rfl rfl hl.1 rfl (lv_room (Nat.le_of_ble_eq_true rfl)) dX8_byOf_111 ⟨Nat.le_of_ble_eq_true rfl, Nat.le_of_ble_eq_true rfl⟩) (fun r236 u237 H locs hw238 hP hD hS => ?_)
                          have hP : va_P D vwCl [] H := hP
                          have hD : va_D A [] := hD
                          refine lv_if_eq (tgt := 124) hx hb dX8_byOf_114 (by decide) (fun c239 => ?_) (fun c239 => ?_)
                          · skip
                            have c239i : (r236 : Int32).toInt = 0 := congrArg Int32.toInt c239
                            refine lv_lload_n hx hb dX8_byOf_124 rfl (lv_at hl 1 rfl) ?_
                            refine sp_callj (wr := []) (wc := []) hP hD hS hA [] [] rfl rfl (by decide) (by decide) (va_runS (As := [.long g]) (rest := []) ⟨hx, hb, hml, hown, hts⟩ (c_X8_digits l D cI cJ cZ H.size (g)) (va_cwS 1 hts gX8_byOf_X8_digits_102 rfl rfl rfl (by decide +kernel) ⟨Nat.le_of_ble_eq_true rfl, Nat.le_of_ble_eq_true rfl⟩) (sp_preS [.long g] hK (hP.sub (ws' := []) [] rfl) (hD.sub (ws' := []) [] (by decide) rfl)) rfl rfl hl.1 rfl (lv_room (Nat.le_of_ble_eq_true rfl)) dX8_byOf_125 ⟨Nat.le_of_ble_eq_true rfl, Nat.le_of_ble_eq_true rfl⟩) (fun r240 u241 H locs hw242 hP hD hS => ?_)
                            have h243 : 0 ≤ (r240 : Int64).toInt ∧ (¬ ((g : Int64).toInt = 0 ∨ (g : Int64).toInt = -1) → 1 ≤ (r240 : Int64).toInt) := hw242
                            have hP : va_P D vwCl [] H := hP
                            have hD : va_D A [] := hD
                            refine lv_lstore (lv' := [(5, .long r240), (4, .int z212), (0, .long g), (2, .long q)]) hx hb dX8_byOf_128 hl (by decide) rfl (fun ls hl => ?_)
                            refine lv_lload_n hx hb dX8_byOf_130 rfl (lv_at hl 2 rfl) ?_
                            refine sp_calli (wr := []) (wc := []) hP hD hS hA [] [] rfl rfl (by decide) (by decide) (va_runS (As := [.long g]) (rest := []) ⟨hx, hb, hml, hown, hts⟩ (c_X8_power l D cI cJ cZ H.size (g)) (va_cwS 1 hts gX8_byOf_X8_power_98 rfl rfl rfl (by decide +kernel) ⟨Nat.le_of_ble_eq_true rfl, Nat.le_of_ble_eq_true rfl⟩) (sp_preS [.long g] hK (hP.sub (ws' := []) [] rfl) (hD.sub (ws' := []) [] (by decide) rfl)) rfl rfl hl.1 rfl (lv_room (Nat.le_of_ble_eq_true rfl)) dX8_byOf_131 ⟨Nat.le_of_ble_eq_true rfl, Nat.le_of_ble_eq_true rfl⟩) (fun r244 u245 H locs hw246 hP hD hS => ?_)
                            have hP : va_P D vwCl [] H := hP
                            have hD : va_D A [] := hD
                            refine lv_istore (lv' := [(7, .int r244), (5, .long r240), (4, .int z212), (0, .long g), (2, .long q)]) hx hb dX8_byOf_134 hl (by decide) rfl (fun ls hl => ?_)
                            exact lp_X8_byOf_136 l D cI cJ cZ g q C0 hA hK 8388610 (z212) (r240) (r244) _ _ _ (by first | assumption | omega) (by first | assumption | omega) (by omega) (hP.sub [] rfl) (hD.sub [] (by decide) rfl) hS (lv_sub hl [3, 4, 2, 1, 0] rfl)
                          · skip
                            have c239i : ¬ (r236 : Int32).toInt = 0 := fun h => c239 (Int32.toInt_inj.mp h)
                            refine lv_iload hx hb dX8_byOf_117 (lv_at hl 0 rfl) ?_
                            refine lv_lconst (v := 0) hx hb dX8_byOf_119 (by decide) ?_
                            refine sp_callj (wr := []) (wc := []) hP hD hS hA [] [] rfl rfl (by decide) (by decide) (va_runS (As := [.int z212, .long 0]) (rest := []) ⟨hx, hb, hml, hown, hts⟩ (c_X8_placeOf l D cI cJ cZ H.size (z212) (0)) (va_cwS 2 hts gX8_byOf_X8_placeOf_84 rfl rfl rfl (by decide +kernel) ⟨Nat.le_of_ble_eq_true rfl, Nat.le_of_ble_eq_true rfl⟩) (sp_preS [.int z212, .long 0] hK (hP.sub (ws' := []) [] rfl) (hD.sub (ws' := []) [] (by decide) rfl)) rfl rfl hl.1 rfl (lv_room (Nat.le_of_ble_eq_true rfl)) dX8_byOf_120 ⟨Nat.le_of_ble_eq_true rfl, Nat.le_of_ble_eq_true rfl⟩) (fun r247 u248 H locs hw249 hP hD hS => ?_)
                            have h250 : (r247 : Int64) = sq_mp (z212) (0) := hw249
                            have hP : va_P D vwCl [] H := hP
                            have hD : va_D A [] := hD
                            refine W.widen (k := 0) (n := 0) (by decide) (by decide) ?_
                            exact sp_lret (u := ()) hx hb hr hlocks hS trivial (hP.sub [] rfl) (hD.sub [] (by decide) rfl) dX8_byOf_123
                      · skip
                        have c226i : ¬ (r222 : Int32).toInt = 0 := fun h => c226 (Int32.toInt_inj.mp h)
                        refine lv_iload hx hb dX8_byOf_94 (lv_at hl 0 rfl) ?_
                        refine lv_ldc2 (v := 2139095040) hx hb hown (hts (.constantLong RX8 68 (2139095040)) (oX8_byOf_in _ (List.mem_of_getElem? (i := 3) rfl))) dX8_byOf_96 ?_
                        refine sp_callj (wr := []) (wc := []) hP hD hS hA [] [] rfl rfl (by decide) (by decide) (va_runS (As := [.int z212, .long 2139095040]) (rest := []) ⟨hx, hb, hml, hown, hts⟩ (c_X8_placeOf l D cI cJ cZ H.size (z212) (2139095040)) (va_cwS 2 hts gX8_byOf_X8_placeOf_84 rfl rfl rfl (by decide +kernel) ⟨Nat.le_of_ble_eq_true rfl, Nat.le_of_ble_eq_true rfl⟩) (sp_preS [.int z212, .long 2139095040] hK (hP.sub (ws' := []) [] rfl) (hD.sub (ws' := []) [] (by decide) rfl)) rfl rfl hl.1 rfl (lv_room (Nat.le_of_ble_eq_true rfl)) dX8_byOf_99 ⟨Nat.le_of_ble_eq_true rfl, Nat.le_of_ble_eq_true rfl⟩) (fun r251 u252 H locs hw253 hP hD hS => ?_)
                        have h254 : (r251 : Int64) = sq_mp (z212) (2139095040) := hw253
                        have hP : va_P D vwCl [] H := hP
                        have hD : va_D A [] := hD
                        refine W.widen (k := 0) (n := 0) (by decide) (by decide) ?_
                        exact sp_lret (u := ()) hx hb hr hlocks hS trivial (hP.sub [] rfl) (hD.sub [] (by decide) rfl) dX8_byOf_102
                  refine lv_icmp_eq (tgt := 77) hx hb dX8_byOf_70 (by decide) (fun c209 => ?_) (fun c209 => ?_)
                  · skip
                    have c209i : (z202 : Int32).toInt = (z207 : Int32).toInt := congrArg Int32.toInt c209
                    refine lv_iconst (v := 0) hx hb dX8_byOf_77 (by decide) ?_
                    exact hj213 (0) _ _ _ (hP.sub [] rfl) (hD.sub [] (by decide) rfl) hS (lv_sub hl [0, 1] rfl)
                  · skip
                    have c209i : ¬ (z202 : Int32).toInt = (z207 : Int32).toInt := fun h => c209 (Int32.toInt_inj.mp h)
                    refine lv_iconst (v := 1) hx hb dX8_byOf_73 (by decide) ?_
                    refine lv_goto (tgt := 78) hx hb dX8_byOf_74 (by decide) ?_
                    exact hj213 (1) _ _ _ (hP.sub [] rfl) (hD.sub [] (by decide) rfl) hS (lv_sub hl [0, 1] rfl)
                refine lv_if_ge (tgt := 69) hx hb dX8_byOf_62 (by decide) (fun c204 => ?_) (fun c204 => ?_)
                · skip
                  have c204 := (lg_cmp_ge _ _).mp c204
                  have c204i : 0 ≤ (q : Int64).toInt := Int64.le_iff_toInt_le.mp c204
                  refine lv_iconst (v := 0) hx hb dX8_byOf_69 (by decide) ?_
                  exact hj208 (0) _ _ _ (hP.sub [] rfl) (hD.sub [] (by decide) rfl) hS (lv_sub hl [0, 1] rfl)
                · skip
                  have c204 := fun h => c204 ((lg_cmp_ge _ _).mpr h)
                  have c204i : ¬ 0 ≤ (q : Int64).toInt := fun h => c204 (Int64.le_iff_toInt_le.mpr h)
                  refine lv_iconst (v := 1) hx hb dX8_byOf_65 (by decide) ?_
                  refine lv_goto (tgt := 70) hx hb dX8_byOf_66 (by decide) ?_
                  exact hj208 (1) _ _ _ (hP.sub [] rfl) (hD.sub [] (by decide) rfl) hS (lv_sub hl [0, 1] rfl)
              refine lv_if_ge (tgt := 58) hx hb dX8_byOf_51 (by decide) (fun c199 => ?_) (fun c199 => ?_)
              · skip
                have c199 := (lg_cmp_ge _ _).mp c199
                have c199i : 0 ≤ (g : Int64).toInt := Int64.le_iff_toInt_le.mp c199
                refine lv_iconst (v := 0) hx hb dX8_byOf_58 (by decide) ?_
                exact hj203 (0) _ _ _ (hP.sub [] rfl) (hD.sub [] (by decide) rfl) hS (lv_sub hl [0, 1] rfl)
              · skip
                have c199 := fun h => c199 ((lg_cmp_ge _ _).mpr h)
                have c199i : ¬ 0 ≤ (g : Int64).toInt := fun h => c199 (Int64.le_iff_toInt_le.mpr h)
                refine lv_iconst (v := 1) hx hb dX8_byOf_54 (by decide) ?_
                refine lv_goto (tgt := 59) hx hb dX8_byOf_55 (by decide) ?_
                exact hj203 (1) _ _ _ (hP.sub [] rfl) (hD.sub [] (by decide) rfl) hS (lv_sub hl [0, 1] rfl)
            · skip
              have c198i : ¬ (r194 : Int32).toInt = 0 := fun h => c198 (Int32.toInt_inj.mp h)
              refine lv_ldc2 (v := 9000000000) hx hb hown (hts (.constantLong RX8 82 (9000000000)) (oX8_byOf_in _ (List.mem_of_getElem? (i := 2) rfl))) dX8_byOf_44 ?_
              refine W.widen (k := 0) (n := 0) (by decide) (by decide) ?_
              exact sp_lret (u := ()) hx hb hr hlocks hS trivial (hP.sub [] rfl) (hD.sub [] (by decide) rfl) dX8_byOf_47
def oX8_restOf : List Cond := [.constantLong RX8 90 (2), .constantLong RX8 82 (9000000000)]
def wpX8_restOf : List Cond := .code yX8_restOf cX8_restOf 9 (some .long) :: (oX8_restOf ++ ((va_wsS RX8 98 yX8_power wpX8_power) ++ ((va_wsS RX8 105 yX8_pack wpX8_pack) ++ ((va_wsS RX8 94 yX8_isInfinite wpX8_isInfinite) ++ ((va_wsS RX8 109 yX8_isZero wpX8_isZero) ++ ((va_wsS RX8 102 yX8_digits wpX8_digits) ++ ([] : List Cond)))))))
theorem oX8_restOf_in : ∀ w ∈ oX8_restOf, w ∈ wpX8_restOf := fun w h => List.mem_cons_of_mem _ (List.mem_append_left _ h)
theorem gwoX8_restOf : ∀ w ∈ oX8_restOf, goodWord w = true := by decide +kernel
theorem gwX8_restOf : ∀ w ∈ wpX8_restOf, goodWord w = true := by
  unfold wpX8_restOf
  exact List.forall_mem_cons.mpr ⟨rfl, List.forall_mem_append.mpr ⟨gwoX8_restOf, List.forall_mem_append.mpr ⟨(sp_gS gwX8_power), List.forall_mem_append.mpr ⟨(sp_gS gwX8_pack), List.forall_mem_append.mpr ⟨(sp_gS gwX8_isInfinite), List.forall_mem_append.mpr ⟨(sp_gS gwX8_isZero), List.forall_mem_append.mpr ⟨(sp_gS gwX8_digits), fun _ h => absurd h List.not_mem_nil⟩⟩⟩⟩⟩⟩⟩
set_option maxRecDepth 100000 in
theorem toX8_restOf : ∀ w ∈ oX8_restOf, w ∈ lw_tbl := by
  unfold oX8_restOf
  exact List.forall_mem_cons.mpr ⟨(List.mem_of_getElem? (i := 770) (by decide +kernel)), List.forall_mem_cons.mpr ⟨(List.mem_of_getElem? (i := 804) (by decide +kernel)), fun _ h => absurd h List.not_mem_nil⟩⟩
set_option maxRecDepth 100000 in
theorem tX8_restOf : ∀ w ∈ wpX8_restOf, w ∈ lw_tbl := by
  unfold wpX8_restOf
  exact List.forall_mem_cons.mpr ⟨(List.mem_of_getElem? (i := 874) (by rfl)), List.forall_mem_append.mpr ⟨toX8_restOf, List.forall_mem_append.mpr ⟨(sp_tS (List.mem_of_getElem? (i := 840) (by decide +kernel)) (List.mem_of_getElem? (i := 841) (by decide +kernel)) (List.mem_of_getElem? (i := 45) (by decide +kernel)) tX8_power), List.forall_mem_append.mpr ⟨(sp_tS (List.mem_of_getElem? (i := 847) (by decide +kernel)) (List.mem_of_getElem? (i := 848) (by decide +kernel)) (List.mem_of_getElem? (i := 45) (by decide +kernel)) tX8_pack), List.forall_mem_append.mpr ⟨(sp_tS (List.mem_of_getElem? (i := 834) (by decide +kernel)) (List.mem_of_getElem? (i := 835) (by decide +kernel)) (List.mem_of_getElem? (i := 45) (by decide +kernel)) tX8_isInfinite), List.forall_mem_append.mpr ⟨(sp_tS (List.mem_of_getElem? (i := 858) (by decide +kernel)) (List.mem_of_getElem? (i := 859) (by decide +kernel)) (List.mem_of_getElem? (i := 45) (by decide +kernel)) tX8_isZero), List.forall_mem_append.mpr ⟨(sp_tS (List.mem_of_getElem? (i := 844) (by decide +kernel)) (List.mem_of_getElem? (i := 845) (by decide +kernel)) (List.mem_of_getElem? (i := 45) (by decide +kernel)) tX8_digits), fun _ h => absurd h List.not_mem_nil⟩⟩⟩⟩⟩⟩⟩
theorem gX8_restOf_X8_power_98 : GoodIn wpX8_restOf (va_wsS RX8 98 yX8_power wpX8_power) := fun w h => ⟨List.mem_cons_of_mem _ (List.mem_append_right _ (List.mem_append_left _ h)), good_of_word (sp_gS gwX8_power w h)⟩
theorem gX8_restOf_X8_pack_105 : GoodIn wpX8_restOf (va_wsS RX8 105 yX8_pack wpX8_pack) := fun w h => ⟨List.mem_cons_of_mem _ (List.mem_append_right _ (List.mem_append_right _ (List.mem_append_left _ h))), good_of_word (sp_gS gwX8_pack w h)⟩
theorem gX8_restOf_X8_isInfinite_94 : GoodIn wpX8_restOf (va_wsS RX8 94 yX8_isInfinite wpX8_isInfinite) := fun w h => ⟨List.mem_cons_of_mem _ (List.mem_append_right _ (List.mem_append_right _ (List.mem_append_right _ (List.mem_append_left _ h)))), good_of_word (sp_gS gwX8_isInfinite w h)⟩
theorem gX8_restOf_X8_isZero_109 : GoodIn wpX8_restOf (va_wsS RX8 109 yX8_isZero wpX8_isZero) := fun w h => ⟨List.mem_cons_of_mem _ (List.mem_append_right _ (List.mem_append_right _ (List.mem_append_right _ (List.mem_append_right _ (List.mem_append_left _ h))))), good_of_word (sp_gS gwX8_isZero w h)⟩
theorem gX8_restOf_X8_digits_102 : GoodIn wpX8_restOf (va_wsS RX8 102 yX8_digits wpX8_digits) := fun w h => ⟨List.mem_cons_of_mem _ (List.mem_append_right _ (List.mem_append_right _ (List.mem_append_right _ (List.mem_append_right _ (List.mem_append_right _ (List.mem_append_left _ h)))))), good_of_word (sp_gS gwX8_digits w h)⟩
set_option maxHeartbeats 4000000 in
set_option maxRecDepth 100000 in
theorem lp_X8_restOf_87 {p : Program} {e : Env} {s : State} {m : MethodId} {below : List Frame} {meth : Method} {c : Code} {A : Nat → Prop} (l : Launch) (D : va_G) (cI cJ cZ : ClassId) (g : Int64) (q : Int64) (C0 : sp_C cX8_restOf (some .long) 9 wpX8_restOf yX8_restOf.cls yX8_restOf.name p s m ([.long g, .long q] : List Value).toArray meth c) (hA : ∀ q : Nat, s.heap.size ≤ q → A q) (hK : va_K D vwCl [(cI, .int), (cJ, .long), (cZ, .boolean)] s) :
    ∀ (fuel : Nat) (nn : Int64) (rr : Int64) (kk : Int32) (H : Heap) (locs : List Loc) (ls : Array Slot), (¬ (nn : Int64).toInt = 0) → ((if (kk : Int32).toInt < 0 then 0 else (kk : Int32).toInt) < (fuel : Int)) → va_P D vwCl [] H → va_D A [] → va_S A s.heap H locs → lv_has ls 9 [(0, .long g), (2, .long q), (4, .long nn), (6, .long rr), (8, .int kk)] → W p l e ({ frames := 2, cells := 0, slots := 0, locals := 51 }) s m (([.long g, .long q] : List Value).toArray) below meth c H locs 0 0 (MQ below (va_Ql (fun (r : Int64) (_ : Unit) => True) (sp_B D vwCl A (fun (_ : Unit) => [])) A) ([.long g, .long q] : List Value).toArray s 0 0 A) (F0 m 87 ls []) := by
  obtain ⟨hx, hb, hr, hts, hown, hlocks, hml, hin⟩ := id C0
  have hown : s.vm.findClass RX8 = some m.cls := hown
  intro fuel
  induction fuel with
  | zero =>
    intro nn rr kk H locs ls h1 hm
    exact absurd hm (by omega)
  | succ fuel ih =>
    intro nn rr kk H locs ls h1 hm hP hD hS hl
    have hrk := px_rng kk
    refine lv_iload hx hb dX8_restOf_87 (lv_at hl 4 rfl) ?_
    refine lv_if_le (tgt := 109) hx hb dX8_restOf_89 (by decide) (fun c1 => ?_) (fun c1 => ?_)
    · skip
      have c1i : (kk : Int32).toInt ≤ 0 := Int32.le_iff_toInt_le.mp c1
      refine lv_lload_n hx hb dX8_restOf_109 rfl (lv_at hl 0 rfl) ?_
      refine lv_lconst (v := 0) hx hb dX8_restOf_110 (by decide) ?_
      refine W.lcmp hx hb dX8_restOf_111 ?_
      have hj9 : ∀ (z8 : Int32) (H : Heap) (locs : List Loc) (ls : Array Slot), va_P D vwCl [] H → va_D A [] → va_S A s.heap H locs → lv_has ls 9 [(0, .long g), (2, .long q), (4, .long nn), (6, .long rr), (8, .int kk)] → W p l e ({ frames := 2, cells := 0, slots := 0, locals := 51 }) s m (([.long g, .long q] : List Value).toArray) below meth c H locs 0 0 (MQ below (va_Ql (fun (r : Int64) (_ : Unit) => True) (sp_B D vwCl A (fun (_ : Unit) => [])) A) ([.long g, .long q] : List Value).toArray s 0 0 A) (F0 m 120 ls [.int z8]) := by
        intro z8 H locs ls  hP hD hS hl
        refine lv_lload hx hb dX8_restOf_120 (lv_at hl 3 rfl) ?_
        refine lv_lload_n hx hb dX8_restOf_122 rfl (lv_at hl 1 rfl) ?_
        refine sp_calli (wr := []) (wc := []) hP hD hS hA [] [] rfl rfl (by decide) (by decide) (va_runS (As := [.long q]) (rest := [.long rr, .int z8]) ⟨hx, hb, hml, hown, hts⟩ (c_X8_power l D cI cJ cZ H.size (q)) (va_cwS 1 hts gX8_restOf_X8_power_98 rfl rfl rfl (by decide +kernel) ⟨Nat.le_of_ble_eq_true rfl, Nat.le_of_ble_eq_true rfl⟩) (sp_preS [.long q] hK (hP.sub (ws' := []) [] rfl) (hD.sub (ws' := []) [] (by decide) rfl)) rfl rfl hl.1 rfl (lv_room (Nat.le_of_ble_eq_true rfl)) dX8_restOf_123 ⟨Nat.le_of_ble_eq_true rfl, Nat.le_of_ble_eq_true rfl⟩) (fun r10 u11 H locs hw12 hP hD hS => ?_)
        have hP : va_P D vwCl [] H := hP
        have hD : va_D A [] := hD
        refine lv_iconst (v := 0) hx hb dX8_restOf_126 (by decide) ?_
        refine sp_callj (wr := []) (wc := []) hP hD hS hA [] [] rfl rfl (by decide) (by decide) (va_runS (As := [.int z8, .long rr, .int r10, .int 0]) (rest := []) ⟨hx, hb, hml, hown, hts⟩ (c_X8_pack l D cI cJ cZ H.size (z8) (rr) (r10) (0)) (va_cwS 4 hts gX8_restOf_X8_pack_105 rfl rfl rfl (by decide +kernel) ⟨Nat.le_of_ble_eq_true rfl, Nat.le_of_ble_eq_true rfl⟩) (sp_preS [.int z8, .long rr, .int r10, .int 0] hK (hP.sub (ws' := []) [] rfl) (hD.sub (ws' := []) [] (by decide) rfl)) rfl rfl hl.1 rfl (lv_room (Nat.le_of_ble_eq_true rfl)) dX8_restOf_127 ⟨Nat.le_of_ble_eq_true rfl, Nat.le_of_ble_eq_true rfl⟩) (fun r13 u14 H locs hw15 hP hD hS => ?_)
        have hP : va_P D vwCl [] H := hP
        have hD : va_D A [] := hD
        refine W.widen (k := 0) (n := 0) (by decide) (by decide) ?_
        exact sp_lret (u := ()) hx hb hr hlocks hS trivial (hP.sub [] rfl) (hD.sub [] (by decide) rfl) dX8_restOf_130
      refine lv_if_ge (tgt := 119) hx hb dX8_restOf_112 (by decide) (fun c5 => ?_) (fun c5 => ?_)
      · skip
        have c5 := (lg_cmp_ge _ _).mp c5
        have c5i : 0 ≤ (g : Int64).toInt := Int64.le_iff_toInt_le.mp c5
        refine lv_iconst (v := 0) hx hb dX8_restOf_119 (by decide) ?_
        exact hj9 (0) _ _ _ (hP.sub [] rfl) (hD.sub [] (by decide) rfl) hS (lv_sub hl [0, 1, 2, 3, 4] rfl)
      · skip
        have c5 := fun h => c5 ((lg_cmp_ge _ _).mpr h)
        have c5i : ¬ 0 ≤ (g : Int64).toInt := fun h => c5 (Int64.le_iff_toInt_le.mpr h)
        refine lv_iconst (v := 1) hx hb dX8_restOf_115 (by decide) ?_
        refine lv_goto (tgt := 120) hx hb dX8_restOf_116 (by decide) ?_
        exact hj9 (1) _ _ _ (hP.sub [] rfl) (hD.sub [] (by decide) rfl) hS (lv_sub hl [0, 1, 2, 3, 4] rfl)
    · skip
      have c1i : ¬ (kk : Int32).toInt ≤ 0 := fun h => c1 (Int32.le_iff_toInt_le.mpr h)
      refine lv_lload hx hb dX8_restOf_92 (lv_at hl 3 rfl) ?_
      refine lv_ldc2 (v := 2) hx hb hown (hts (.constantLong RX8 90 (2)) (oX8_restOf_in _ (List.mem_of_getElem? (i := 0) rfl))) dX8_restOf_94 ?_
      refine lv_lmul hx hb dX8_restOf_97 ?_
      refine lv_lload hx hb dX8_restOf_98 (lv_at hl 2 rfl) ?_
      refine lv_lrem hx hb dX8_restOf_100 (fun q => absurd (congrArg Int64.toInt q) (by show ¬ (nn : Int64).toInt = 0; omega)) ?_
      refine lv_lstore (lv' := [(6, .long ((rr * 2) - (rr * 2) / nn * nn)), (0, .long g), (2, .long q), (4, .long nn), (8, .int kk)]) hx hb dX8_restOf_101 hl (by decide) rfl (fun ls hl => ?_)
      obtain ⟨y3, e4⟩ : ∃ y : Int32, y = kk + (-1) := ⟨_, rfl⟩
      refine lv_iinc (v := y3) (lv' := [(8, .int y3), (6, .long ((rr * 2) - (rr * 2) / nn * nn)), (0, .long g), (2, .long q), (4, .long nn)]) hx hb dX8_restOf_103 hl (k := 4) rfl (by rw [e4]; rfl) (by decide) rfl (fun ls hl => ?_)
      have iy3 : (y3 : Int32).toInt = (kk : Int32).toInt + (-1) := by rw [e4]; exact px_iadd (show -2147483648 ≤ (kk : Int32).toInt + (-1) by omega) (show (kk : Int32).toInt + (-1) < 2147483648 by omega)
      refine lv_goto (tgt := 87) hx hb dX8_restOf_106 (by decide) ?_
      have hq2 := px_rng (y3)
      exact ih (nn) (((rr * 2) - (rr * 2) / nn * nn)) (y3) _ _ _ (by first | assumption | omega) (by omega) (hP.sub [] rfl) (hD.sub [] (by decide) rfl) hS (lv_sub hl [2, 3, 4, 1, 0] rfl)
set_option maxHeartbeats 4000000 in
set_option maxRecDepth 100000 in
theorem c_X8_restOf (l : Launch) (D : va_G) (cI cJ cZ : ClassId) (sz : Nat) (g : Int64) (q : Int64) : Met l yX8_restOf wpX8_restOf ({ frames := 2, cells := 0, slots := 0, locals := 51 }) (va_Pc ([.long g, .long q] : List Value) (sp_pre D vwCl (sp_ty cI cJ cZ) [] sz)) (va_Ql (fun (r : Int64) (_ : Unit) => True) (sp_B D vwCl (va_A [] sz) (fun (_ : Unit) => [])) (va_A [] sz)) 0 0 (va_A [] sz) := by
  refine sp_ofW (Qc := fun A => va_Ql (fun (r : Int64) (_ : Unit) => True) (sp_B D vwCl A (fun (_ : Unit) => [])) A) (by decide) rfl (Nat.le_of_ble_eq_true rfl) (fun p e s m below meth c A ls H locs C0 hA hS hP hK hD hl => ?_)
  obtain ⟨hx, hb, hr, hts, hown, hlocks, hml, hin⟩ := id C0
  have hown : s.vm.findClass RX8 = some m.cls := hown
  have hl : lv_has ls 9 [(0, .long g), (2, .long q)] := hl
  have hK : va_K D vwCl [(cI, .int), (cJ, .long), (cZ, .boolean)] s := hK
  refine lv_lload_n hx hb dX8_restOf_0 rfl (lv_at hl 0 rfl) ?_
  refine lv_ldc2 (v := 9000000000) hx hb hown (hts (.constantLong RX8 82 (9000000000)) (oX8_restOf_in _ (List.mem_of_getElem? (i := 1) rfl))) dX8_restOf_1 ?_
  refine W.lcmp hx hb dX8_restOf_4 ?_
  refine lv_if_eq (tgt := 30) hx hb dX8_restOf_5 (by decide) (fun c1 => ?_) (fun c1 => ?_)
  · skip
    have c1 := (lg_cmp_eq _ _).mp c1
    have c1i : (g : Int64).toInt = 9000000000 := congrArg Int64.toInt c1
    refine lv_ldc2 (v := 9000000000) hx hb hown (hts (.constantLong RX8 82 (9000000000)) (oX8_restOf_in _ (List.mem_of_getElem? (i := 1) rfl))) dX8_restOf_30 ?_
    refine W.widen (k := 0) (n := 0) (by decide) (by decide) ?_
    exact sp_lret (u := ()) hx hb hr hlocks hS trivial (hP.sub [] rfl) (hD.sub [] (by decide) rfl) dX8_restOf_33
  · skip
    have c1 := fun h => c1 ((lg_cmp_eq _ _).mpr h)
    have c1i : ¬ (g : Int64).toInt = 9000000000 := fun h => c1 (Int64.toInt_inj.mp h)
    refine lv_lload_n hx hb dX8_restOf_8 rfl (lv_at hl 1 rfl) ?_
    refine lv_ldc2 (v := 9000000000) hx hb hown (hts (.constantLong RX8 82 (9000000000)) (oX8_restOf_in _ (List.mem_of_getElem? (i := 1) rfl))) dX8_restOf_9 ?_
    refine W.lcmp hx hb dX8_restOf_12 ?_
    refine lv_if_eq (tgt := 30) hx hb dX8_restOf_13 (by decide) (fun c2 => ?_) (fun c2 => ?_)
    · skip
      have c2 := (lg_cmp_eq _ _).mp c2
      have c2i : (q : Int64).toInt = 9000000000 := congrArg Int64.toInt c2
      refine lv_ldc2 (v := 9000000000) hx hb hown (hts (.constantLong RX8 82 (9000000000)) (oX8_restOf_in _ (List.mem_of_getElem? (i := 1) rfl))) dX8_restOf_30 ?_
      refine W.widen (k := 0) (n := 0) (by decide) (by decide) ?_
      exact sp_lret (u := ()) hx hb hr hlocks hS trivial (hP.sub [] rfl) (hD.sub [] (by decide) rfl) dX8_restOf_33
    · skip
      have c2 := fun h => c2 ((lg_cmp_eq _ _).mpr h)
      have c2i : ¬ (q : Int64).toInt = 9000000000 := fun h => c2 (Int64.toInt_inj.mp h)
      refine lv_lload_n hx hb dX8_restOf_16 rfl (lv_at hl 0 rfl) ?_
      refine sp_calli (wr := []) (wc := []) hP hD hS hA [] [] rfl rfl (by decide) (by decide) (va_runS (As := [.long g]) (rest := []) ⟨hx, hb, hml, hown, hts⟩ (c_X8_isInfinite l D cI cJ cZ H.size (g)) (va_cwS 1 hts gX8_restOf_X8_isInfinite_94 rfl rfl rfl (by decide +kernel) ⟨Nat.le_of_ble_eq_true rfl, Nat.le_of_ble_eq_true rfl⟩) (sp_preS [.long g] hK (hP.sub (ws' := []) [] rfl) (hD.sub (ws' := []) [] (by decide) rfl)) rfl rfl hl.1 rfl (lv_room (Nat.le_of_ble_eq_true rfl)) dX8_restOf_17 ⟨Nat.le_of_ble_eq_true rfl, Nat.le_of_ble_eq_true rfl⟩) (fun r3 u4 H locs hw5 hP hD hS => ?_)
      have hP : va_P D vwCl [] H := hP
      have hD : va_D A [] := hD
      refine lv_if_ne (tgt := 30) hx hb dX8_restOf_20 (by decide) (fun c6 => ?_) (fun c6 => ?_)
      · skip
        have c6i : ¬ (r3 : Int32).toInt = 0 := fun h => c6 (Int32.toInt_inj.mp h)
        refine lv_ldc2 (v := 9000000000) hx hb hown (hts (.constantLong RX8 82 (9000000000)) (oX8_restOf_in _ (List.mem_of_getElem? (i := 1) rfl))) dX8_restOf_30 ?_
        refine W.widen (k := 0) (n := 0) (by decide) (by decide) ?_
        exact sp_lret (u := ()) hx hb hr hlocks hS trivial (hP.sub [] rfl) (hD.sub [] (by decide) rfl) dX8_restOf_33
      · skip
        have c6i : (r3 : Int32).toInt = 0 := congrArg Int32.toInt c6
        refine lv_lload_n hx hb dX8_restOf_23 rfl (lv_at hl 1 rfl) ?_
        refine sp_calli (wr := []) (wc := []) hP hD hS hA [] [] rfl rfl (by decide) (by decide) (va_runS (As := [.long q]) (rest := []) ⟨hx, hb, hml, hown, hts⟩ (c_X8_isZero l D cI cJ cZ H.size (q)) (va_cwS 1 hts gX8_restOf_X8_isZero_109 rfl rfl rfl (by decide +kernel) ⟨Nat.le_of_ble_eq_true rfl, Nat.le_of_ble_eq_true rfl⟩) (sp_preS [.long q] hK (hP.sub (ws' := []) [] rfl) (hD.sub (ws' := []) [] (by decide) rfl)) rfl rfl hl.1 rfl (lv_room (Nat.le_of_ble_eq_true rfl)) dX8_restOf_24 ⟨Nat.le_of_ble_eq_true rfl, Nat.le_of_ble_eq_true rfl⟩) (fun r7 u8 H locs hw9 hP hD hS => ?_)
        have h10 : ((r7 : Int32).toInt = 1 ∧ ((q : Int64).toInt = 0 ∨ (q : Int64).toInt = -1)) ∨ ((r7 : Int32).toInt = 0 ∧ ¬ ((q : Int64).toInt = 0 ∨ (q : Int64).toInt = -1)) := sp_bool hw9
        have hP : va_P D vwCl [] H := hP
        have hD : va_D A [] := hD
        refine lv_if_eq (tgt := 34) hx hb dX8_restOf_27 (by decide) (fun c11 => ?_) (fun c11 => ?_)
        · skip
          have c11i : (r7 : Int32).toInt = 0 := congrArg Int32.toInt c11
          refine lv_lload_n hx hb dX8_restOf_34 rfl (lv_at hl 1 rfl) ?_
          refine sp_calli (wr := []) (wc := []) hP hD hS hA [] [] rfl rfl (by decide) (by decide) (va_runS (As := [.long q]) (rest := []) ⟨hx, hb, hml, hown, hts⟩ (c_X8_isInfinite l D cI cJ cZ H.size (q)) (va_cwS 1 hts gX8_restOf_X8_isInfinite_94 rfl rfl rfl (by decide +kernel) ⟨Nat.le_of_ble_eq_true rfl, Nat.le_of_ble_eq_true rfl⟩) (sp_preS [.long q] hK (hP.sub (ws' := []) [] rfl) (hD.sub (ws' := []) [] (by decide) rfl)) rfl rfl hl.1 rfl (lv_room (Nat.le_of_ble_eq_true rfl)) dX8_restOf_35 ⟨Nat.le_of_ble_eq_true rfl, Nat.le_of_ble_eq_true rfl⟩) (fun r12 u13 H locs hw14 hP hD hS => ?_)
          have hP : va_P D vwCl [] H := hP
          have hD : va_D A [] := hD
          refine lv_if_ne (tgt := 59) hx hb dX8_restOf_38 (by decide) (fun c15 => ?_) (fun c15 => ?_)
          · skip
            have c15i : ¬ (r12 : Int32).toInt = 0 := fun h => c15 (Int32.toInt_inj.mp h)
            refine lv_lload_n hx hb dX8_restOf_59 rfl (lv_at hl 0 rfl) ?_
            refine W.widen (k := 0) (n := 0) (by decide) (by decide) ?_
            exact sp_lret (u := ()) hx hb hr hlocks hS trivial (hP.sub [] rfl) (hD.sub [] (by decide) rfl) dX8_restOf_60
          · skip
            have c15i : (r12 : Int32).toInt = 0 := congrArg Int32.toInt c15
            refine lv_lload_n hx hb dX8_restOf_41 rfl (lv_at hl 0 rfl) ?_
            refine sp_calli (wr := []) (wc := []) hP hD hS hA [] [] rfl rfl (by decide) (by decide) (va_runS (As := [.long g]) (rest := []) ⟨hx, hb, hml, hown, hts⟩ (c_X8_isZero l D cI cJ cZ H.size (g)) (va_cwS 1 hts gX8_restOf_X8_isZero_109 rfl rfl rfl (by decide +kernel) ⟨Nat.le_of_ble_eq_true rfl, Nat.le_of_ble_eq_true rfl⟩) (sp_preS [.long g] hK (hP.sub (ws' := []) [] rfl) (hD.sub (ws' := []) [] (by decide) rfl)) rfl rfl hl.1 rfl (lv_room (Nat.le_of_ble_eq_true rfl)) dX8_restOf_42 ⟨Nat.le_of_ble_eq_true rfl, Nat.le_of_ble_eq_true rfl⟩) (fun r16 u17 H locs hw18 hP hD hS => ?_)
            have h19 : ((r16 : Int32).toInt = 1 ∧ ((g : Int64).toInt = 0 ∨ (g : Int64).toInt = -1)) ∨ ((r16 : Int32).toInt = 0 ∧ ¬ ((g : Int64).toInt = 0 ∨ (g : Int64).toInt = -1)) := sp_bool hw18
            have hP : va_P D vwCl [] H := hP
            have hD : va_D A [] := hD
            refine lv_if_ne (tgt := 59) hx hb dX8_restOf_45 (by decide) (fun c20 => ?_) (fun c20 => ?_)
            · skip
              have c20i : ¬ (r16 : Int32).toInt = 0 := fun h => c20 (Int32.toInt_inj.mp h)
              refine lv_lload_n hx hb dX8_restOf_59 rfl (lv_at hl 0 rfl) ?_
              refine W.widen (k := 0) (n := 0) (by decide) (by decide) ?_
              exact sp_lret (u := ()) hx hb hr hlocks hS trivial (hP.sub [] rfl) (hD.sub [] (by decide) rfl) dX8_restOf_60
            · skip
              have c20i : (r16 : Int32).toInt = 0 := congrArg Int32.toInt c20
              refine lv_lload_n hx hb dX8_restOf_48 rfl (lv_at hl 0 rfl) ?_
              refine sp_calli (wr := []) (wc := []) hP hD hS hA [] [] rfl rfl (by decide) (by decide) (va_runS (As := [.long g]) (rest := []) ⟨hx, hb, hml, hown, hts⟩ (c_X8_power l D cI cJ cZ H.size (g)) (va_cwS 1 hts gX8_restOf_X8_power_98 rfl rfl rfl (by decide +kernel) ⟨Nat.le_of_ble_eq_true rfl, Nat.le_of_ble_eq_true rfl⟩) (sp_preS [.long g] hK (hP.sub (ws' := []) [] rfl) (hD.sub (ws' := []) [] (by decide) rfl)) rfl rfl hl.1 rfl (lv_room (Nat.le_of_ble_eq_true rfl)) dX8_restOf_49 ⟨Nat.le_of_ble_eq_true rfl, Nat.le_of_ble_eq_true rfl⟩) (fun r21 u22 H locs hw23 hP hD hS => ?_)
              have hP : va_P D vwCl [] H := hP
              have hD : va_D A [] := hD
              refine lv_lload_n hx hb dX8_restOf_52 rfl (lv_at hl 1 rfl) ?_
              refine sp_calli (wr := []) (wc := []) hP hD hS hA [] [] rfl rfl (by decide) (by decide) (va_runS (As := [.long q]) (rest := [.int r21]) ⟨hx, hb, hml, hown, hts⟩ (c_X8_power l D cI cJ cZ H.size (q)) (va_cwS 1 hts gX8_restOf_X8_power_98 rfl rfl rfl (by decide +kernel) ⟨Nat.le_of_ble_eq_true rfl, Nat.le_of_ble_eq_true rfl⟩) (sp_preS [.long q] hK (hP.sub (ws' := []) [] rfl) (hD.sub (ws' := []) [] (by decide) rfl)) rfl rfl hl.1 rfl (lv_room (Nat.le_of_ble_eq_true rfl)) dX8_restOf_53 ⟨Nat.le_of_ble_eq_true rfl, Nat.le_of_ble_eq_true rfl⟩) (fun r24 u25 H locs hw26 hP hD hS => ?_)
              have hP : va_P D vwCl [] H := hP
              have hD : va_D A [] := hD
              refine lv_icmp_ge (tgt := 61) hx hb dX8_restOf_56 (by decide) (fun c27 => ?_) (fun c27 => ?_)
              · skip
                have c27i : (r24 : Int32).toInt ≤ (r21 : Int32).toInt := Int32.le_iff_toInt_le.mp c27
                refine lv_lload_n hx hb dX8_restOf_61 rfl (lv_at hl 1 rfl) ?_
                refine sp_callj (wr := []) (wc := []) hP hD hS hA [] [] rfl rfl (by decide) (by decide) (va_runS (As := [.long q]) (rest := []) ⟨hx, hb, hml, hown, hts⟩ (c_X8_digits l D cI cJ cZ H.size (q)) (va_cwS 1 hts gX8_restOf_X8_digits_102 rfl rfl rfl (by decide +kernel) ⟨Nat.le_of_ble_eq_true rfl, Nat.le_of_ble_eq_true rfl⟩) (sp_preS [.long q] hK (hP.sub (ws' := []) [] rfl) (hD.sub (ws' := []) [] (by decide) rfl)) rfl rfl hl.1 rfl (lv_room (Nat.le_of_ble_eq_true rfl)) dX8_restOf_62 ⟨Nat.le_of_ble_eq_true rfl, Nat.le_of_ble_eq_true rfl⟩) (fun r28 u29 H locs hw30 hP hD hS => ?_)
                have h31 : 0 ≤ (r28 : Int64).toInt ∧ (¬ ((q : Int64).toInt = 0 ∨ (q : Int64).toInt = -1) → 1 ≤ (r28 : Int64).toInt) := hw30
                have hP : va_P D vwCl [] H := hP
                have hD : va_D A [] := hD
                refine lv_lstore (lv' := [(4, .long r28), (0, .long g), (2, .long q)]) hx hb dX8_restOf_65 hl (by decide) rfl (fun ls hl => ?_)
                refine lv_lload_n hx hb dX8_restOf_67 rfl (lv_at hl 1 rfl) ?_
                refine sp_callj (wr := []) (wc := []) hP hD hS hA [] [] rfl rfl (by decide) (by decide) (va_runS (As := [.long g]) (rest := []) ⟨hx, hb, hml, hown, hts⟩ (c_X8_digits l D cI cJ cZ H.size (g)) (va_cwS 1 hts gX8_restOf_X8_digits_102 rfl rfl rfl (by decide +kernel) ⟨Nat.le_of_ble_eq_true rfl, Nat.le_of_ble_eq_true rfl⟩) (sp_preS [.long g] hK (hP.sub (ws' := []) [] rfl) (hD.sub (ws' := []) [] (by decide) rfl)) rfl rfl hl.1 rfl (lv_room (Nat.le_of_ble_eq_true rfl)) dX8_restOf_68 ⟨Nat.le_of_ble_eq_true rfl, Nat.le_of_ble_eq_true rfl⟩) (fun r32 u33 H locs hw34 hP hD hS => ?_)
                have h35 : 0 ≤ (r32 : Int64).toInt ∧ (¬ ((g : Int64).toInt = 0 ∨ (g : Int64).toInt = -1) → 1 ≤ (r32 : Int64).toInt) := hw34
                have hP : va_P D vwCl [] H := hP
                have hD : va_D A [] := hD
                refine lv_lload hx hb dX8_restOf_71 (lv_at hl 0 rfl) ?_
                refine lv_lrem hx hb dX8_restOf_73 (fun q => absurd (congrArg Int64.toInt q) (by show ¬ (r28 : Int64).toInt = 0; omega)) ?_
                refine lv_lstore (lv' := [(6, .long (r32 - r32 / r28 * r28)), (4, .long r28), (0, .long g), (2, .long q)]) hx hb dX8_restOf_74 hl (by decide) rfl (fun ls hl => ?_)
                refine lv_lload_n hx hb dX8_restOf_76 rfl (lv_at hl 2 rfl) ?_
                refine sp_calli (wr := []) (wc := []) hP hD hS hA [] [] rfl rfl (by decide) (by decide) (va_runS (As := [.long g]) (rest := []) ⟨hx, hb, hml, hown, hts⟩ (c_X8_power l D cI cJ cZ H.size (g)) (va_cwS 1 hts gX8_restOf_X8_power_98 rfl rfl rfl (by decide +kernel) ⟨Nat.le_of_ble_eq_true rfl, Nat.le_of_ble_eq_true rfl⟩) (sp_preS [.long g] hK (hP.sub (ws' := []) [] rfl) (hD.sub (ws' := []) [] (by decide) rfl)) rfl rfl hl.1 rfl (lv_room (Nat.le_of_ble_eq_true rfl)) dX8_restOf_77 ⟨Nat.le_of_ble_eq_true rfl, Nat.le_of_ble_eq_true rfl⟩) (fun r36 u37 H locs hw38 hP hD hS => ?_)
                have hP : va_P D vwCl [] H := hP
                have hD : va_D A [] := hD
                refine lv_lload_n hx hb dX8_restOf_80 rfl (lv_at hl 3 rfl) ?_
                refine sp_calli (wr := []) (wc := []) hP hD hS hA [] [] rfl rfl (by decide) (by decide) (va_runS (As := [.long q]) (rest := [.int r36]) ⟨hx, hb, hml, hown, hts⟩ (c_X8_power l D cI cJ cZ H.size (q)) (va_cwS 1 hts gX8_restOf_X8_power_98 rfl rfl rfl (by decide +kernel) ⟨Nat.le_of_ble_eq_true rfl, Nat.le_of_ble_eq_true rfl⟩) (sp_preS [.long q] hK (hP.sub (ws' := []) [] rfl) (hD.sub (ws' := []) [] (by decide) rfl)) rfl rfl hl.1 rfl (lv_room (Nat.le_of_ble_eq_true rfl)) dX8_restOf_81 ⟨Nat.le_of_ble_eq_true rfl, Nat.le_of_ble_eq_true rfl⟩) (fun r39 u40 H locs hw41 hP hD hS => ?_)
                have hP : va_P D vwCl [] H := hP
                have hD : va_D A [] := hD
                refine lv_isub hx hb dX8_restOf_84 ?_
                refine lv_istore (lv' := [(8, .int (r36 - r39)), (6, .long (r32 - r32 / r28 * r28)), (4, .long r28), (0, .long g), (2, .long q)]) hx hb dX8_restOf_85 hl (by decide) rfl (fun ls hl => ?_)
                have hq2 := px_rng ((r36 - r39))
                exact lp_X8_restOf_87 l D cI cJ cZ g q C0 hA hK 2147483650 (r28) ((r32 - r32 / r28 * r28)) ((r36 - r39)) _ _ _ (by first | assumption | omega) (by omega) (hP.sub [] rfl) (hD.sub [] (by decide) rfl) hS (lv_sub hl [3, 4, 2, 1, 0] rfl)
              · skip
                have c27i : ¬ (r24 : Int32).toInt ≤ (r21 : Int32).toInt := fun h => c27 (Int32.le_iff_toInt_le.mpr h)
                refine lv_lload_n hx hb dX8_restOf_59 rfl (lv_at hl 0 rfl) ?_
                refine W.widen (k := 0) (n := 0) (by decide) (by decide) ?_
                exact sp_lret (u := ()) hx hb hr hlocks hS trivial (hP.sub [] rfl) (hD.sub [] (by decide) rfl) dX8_restOf_60
        · skip
          have c11i : ¬ (r7 : Int32).toInt = 0 := fun h => c11 (Int32.toInt_inj.mp h)
          refine lv_ldc2 (v := 9000000000) hx hb hown (hts (.constantLong RX8 82 (9000000000)) (oX8_restOf_in _ (List.mem_of_getElem? (i := 1) rfl))) dX8_restOf_30 ?_
          refine W.widen (k := 0) (n := 0) (by decide) (by decide) ?_
          exact sp_lret (u := ()) hx hb hr hlocks hS trivial (hP.sub [] rfl) (hD.sub [] (by decide) rfl) dX8_restOf_33
def oX8_rootOf : List Cond := [.constantLong RX8 80 (8388608), .constantLong RX8 90 (2), .constantLong RX8 112 (2147483648), .constantLong RX8 82 (9000000000), .constantLong RX8 74 (-1)]
def wpX8_rootOf : List Cond := .code yX8_rootOf cX8_rootOf 10 (some .long) :: (oX8_rootOf ++ ((va_wsS RX8 105 yX8_pack wpX8_pack) ++ ((va_wsS RX8 109 yX8_isZero wpX8_isZero) ++ ((va_wsS RX8 94 yX8_isInfinite wpX8_isInfinite) ++ ((va_wsS RX8 102 yX8_digits wpX8_digits) ++ ((va_wsS RX8 98 yX8_power wpX8_power) ++ ([] : List Cond)))))))
theorem oX8_rootOf_in : ∀ w ∈ oX8_rootOf, w ∈ wpX8_rootOf := fun w h => List.mem_cons_of_mem _ (List.mem_append_left _ h)
theorem gwoX8_rootOf : ∀ w ∈ oX8_rootOf, goodWord w = true := by decide +kernel
theorem gwX8_rootOf : ∀ w ∈ wpX8_rootOf, goodWord w = true := by
  unfold wpX8_rootOf
  exact List.forall_mem_cons.mpr ⟨rfl, List.forall_mem_append.mpr ⟨gwoX8_rootOf, List.forall_mem_append.mpr ⟨(sp_gS gwX8_pack), List.forall_mem_append.mpr ⟨(sp_gS gwX8_isZero), List.forall_mem_append.mpr ⟨(sp_gS gwX8_isInfinite), List.forall_mem_append.mpr ⟨(sp_gS gwX8_digits), List.forall_mem_append.mpr ⟨(sp_gS gwX8_power), fun _ h => absurd h List.not_mem_nil⟩⟩⟩⟩⟩⟩⟩
set_option maxRecDepth 100000 in
theorem toX8_rootOf : ∀ w ∈ oX8_rootOf, w ∈ lw_tbl := by
  unfold oX8_rootOf
  exact List.forall_mem_cons.mpr ⟨(List.mem_of_getElem? (i := 843) (by decide +kernel)), List.forall_mem_cons.mpr ⟨(List.mem_of_getElem? (i := 770) (by decide +kernel)), List.forall_mem_cons.mpr ⟨(List.mem_of_getElem? (i := 818) (by decide +kernel)), List.forall_mem_cons.mpr ⟨(List.mem_of_getElem? (i := 804) (by decide +kernel)), List.forall_mem_cons.mpr ⟨(List.mem_of_getElem? (i := 808) (by decide +kernel)), fun _ h => absurd h List.not_mem_nil⟩⟩⟩⟩⟩
set_option maxRecDepth 100000 in
theorem tX8_rootOf : ∀ w ∈ wpX8_rootOf, w ∈ lw_tbl := by
  unfold wpX8_rootOf
  exact List.forall_mem_cons.mpr ⟨(List.mem_of_getElem? (i := 877) (by rfl)), List.forall_mem_append.mpr ⟨toX8_rootOf, List.forall_mem_append.mpr ⟨(sp_tS (List.mem_of_getElem? (i := 847) (by decide +kernel)) (List.mem_of_getElem? (i := 848) (by decide +kernel)) (List.mem_of_getElem? (i := 45) (by decide +kernel)) tX8_pack), List.forall_mem_append.mpr ⟨(sp_tS (List.mem_of_getElem? (i := 858) (by decide +kernel)) (List.mem_of_getElem? (i := 859) (by decide +kernel)) (List.mem_of_getElem? (i := 45) (by decide +kernel)) tX8_isZero), List.forall_mem_append.mpr ⟨(sp_tS (List.mem_of_getElem? (i := 834) (by decide +kernel)) (List.mem_of_getElem? (i := 835) (by decide +kernel)) (List.mem_of_getElem? (i := 45) (by decide +kernel)) tX8_isInfinite), List.forall_mem_append.mpr ⟨(sp_tS (List.mem_of_getElem? (i := 844) (by decide +kernel)) (List.mem_of_getElem? (i := 845) (by decide +kernel)) (List.mem_of_getElem? (i := 45) (by decide +kernel)) tX8_digits), List.forall_mem_append.mpr ⟨(sp_tS (List.mem_of_getElem? (i := 840) (by decide +kernel)) (List.mem_of_getElem? (i := 841) (by decide +kernel)) (List.mem_of_getElem? (i := 45) (by decide +kernel)) tX8_power), fun _ h => absurd h List.not_mem_nil⟩⟩⟩⟩⟩⟩⟩
theorem gX8_rootOf_X8_pack_105 : GoodIn wpX8_rootOf (va_wsS RX8 105 yX8_pack wpX8_pack) := fun w h => ⟨List.mem_cons_of_mem _ (List.mem_append_right _ (List.mem_append_left _ h)), good_of_word (sp_gS gwX8_pack w h)⟩
theorem gX8_rootOf_X8_isZero_109 : GoodIn wpX8_rootOf (va_wsS RX8 109 yX8_isZero wpX8_isZero) := fun w h => ⟨List.mem_cons_of_mem _ (List.mem_append_right _ (List.mem_append_right _ (List.mem_append_left _ h))), good_of_word (sp_gS gwX8_isZero w h)⟩
theorem gX8_rootOf_X8_isInfinite_94 : GoodIn wpX8_rootOf (va_wsS RX8 94 yX8_isInfinite wpX8_isInfinite) := fun w h => ⟨List.mem_cons_of_mem _ (List.mem_append_right _ (List.mem_append_right _ (List.mem_append_right _ (List.mem_append_left _ h)))), good_of_word (sp_gS gwX8_isInfinite w h)⟩
theorem gX8_rootOf_X8_digits_102 : GoodIn wpX8_rootOf (va_wsS RX8 102 yX8_digits wpX8_digits) := fun w h => ⟨List.mem_cons_of_mem _ (List.mem_append_right _ (List.mem_append_right _ (List.mem_append_right _ (List.mem_append_right _ (List.mem_append_left _ h))))), good_of_word (sp_gS gwX8_digits w h)⟩
theorem gX8_rootOf_X8_power_98 : GoodIn wpX8_rootOf (va_wsS RX8 98 yX8_power wpX8_power) := fun w h => ⟨List.mem_cons_of_mem _ (List.mem_append_right _ (List.mem_append_right _ (List.mem_append_right _ (List.mem_append_right _ (List.mem_append_right _ (List.mem_append_left _ h)))))), good_of_word (sp_gS gwX8_power w h)⟩
set_option maxHeartbeats 4000000 in
set_option maxRecDepth 100000 in
theorem lp_X8_rootOf_106 {p : Program} {e : Env} {s : State} {m : MethodId} {below : List Frame} {meth : Method} {c : Code} {A : Nat → Prop} (l : Launch) (D : va_G) (cI cJ cZ : ClassId) (g : Int64) (C0 : sp_C cX8_rootOf (some .long) 10 wpX8_rootOf yX8_rootOf.cls yX8_rootOf.name p s m ([.long g] : List Value).toArray meth c) (hA : ∀ q : Nat, s.heap.size ≤ q → A q) (hK : va_K D vwCl [(cI, .int), (cJ, .long), (cZ, .boolean)] s) :
    ∀ (fuel : Nat) (mm : Int64) (ee : Int32) (rr : Int64) (bb : Int64) (H : Heap) (locs : List Loc) (ls : Array Slot), (0 ≤ (bb : Int64).toInt) → ((bb : Int64).toInt < (fuel : Int)) → va_P D vwCl [] H → va_D A [] → va_S A s.heap H locs → lv_has ls 10 [(2, .long mm), (4, .int ee), (6, .long rr), (8, .long bb)] → W p l e ({ frames := 2, cells := 0, slots := 0, locals := 51 }) s m (([.long g] : List Value).toArray) below meth c H locs 0 0 (MQ below (va_Ql (fun (r : Int64) (_ : Unit) => True) (sp_B D vwCl A (fun (_ : Unit) => [])) A) ([.long g] : List Value).toArray s 0 0 A) (F0 m 106 ls []) := by
  obtain ⟨hx, hb, hr, hts, hown, hlocks, hml, hin⟩ := id C0
  have hown : s.vm.findClass RX8 = some m.cls := hown
  intro fuel
  induction fuel with
  | zero =>
    intro mm ee rr bb H locs ls h0 hm
    exact absurd hm (by omega)
  | succ fuel ih =>
    intro mm ee rr bb H locs ls h0 hm hP hD hS hl
    refine lv_lload hx hb dX8_rootOf_106 (lv_at hl 3 rfl) ?_
    refine lv_lconst (v := 0) hx hb dX8_rootOf_108 (by decide) ?_
    refine W.lcmp hx hb dX8_rootOf_109 ?_
    refine lv_if_le (tgt := 149) hx hb dX8_rootOf_110 (by decide) (fun c1 => ?_) (fun c1 => ?_)
    · skip
      have c1 := (lg_cmp_le _ _).mp c1
      have c1i : (bb : Int64).toInt ≤ 0 := Int64.le_iff_toInt_le.mp c1
      refine lv_iconst (v := 0) hx hb dX8_rootOf_149 (by decide) ?_
      refine lv_lload hx hb dX8_rootOf_150 (lv_at hl 2 rfl) ?_
      refine lv_iload hx hb dX8_rootOf_152 (lv_at hl 1 rfl) ?_
      refine lv_iconst (v := 2) hx hb dX8_rootOf_154 (by decide) ?_
      refine lv_idiv hx hb dX8_rootOf_155 (by decide) ?_
      refine lv_lload hx hb dX8_rootOf_156 (lv_at hl 2 rfl) ?_
      refine lv_lload hx hb dX8_rootOf_158 (lv_at hl 2 rfl) ?_
      refine lv_lmul hx hb dX8_rootOf_160 ?_
      refine lv_lload_n hx hb dX8_rootOf_161 rfl (lv_at hl 0 rfl) ?_
      refine W.lcmp hx hb dX8_rootOf_162 ?_
      have hj12 : ∀ (z11 : Int32) (H : Heap) (locs : List Loc) (ls : Array Slot), va_P D vwCl [] H → va_D A [] → va_S A s.heap H locs → lv_has ls 10 [(2, .long mm), (4, .int ee), (6, .long rr), (8, .long bb)] → W p l e ({ frames := 2, cells := 0, slots := 0, locals := 51 }) s m (([.long g] : List Value).toArray) below meth c H locs 0 0 (MQ below (va_Ql (fun (r : Int64) (_ : Unit) => True) (sp_B D vwCl A (fun (_ : Unit) => [])) A) ([.long g] : List Value).toArray s 0 0 A) (F0 m 171 ls [.int z11, .int (ee / 2), .long rr, .int 0]) := by
        intro z11 H locs ls  hP hD hS hl
        refine sp_callj (wr := []) (wc := []) hP hD hS hA [] [] rfl rfl (by decide) (by decide) (va_runS (As := [.int 0, .long rr, .int (ee / 2), .int z11]) (rest := []) ⟨hx, hb, hml, hown, hts⟩ (c_X8_pack l D cI cJ cZ H.size (0) (rr) ((ee / 2)) (z11)) (va_cwS 4 hts gX8_rootOf_X8_pack_105 rfl rfl rfl (by decide +kernel) ⟨Nat.le_of_ble_eq_true rfl, Nat.le_of_ble_eq_true rfl⟩) (sp_preS [.int 0, .long rr, .int (ee / 2), .int z11] hK (hP.sub (ws' := []) [] rfl) (hD.sub (ws' := []) [] (by decide) rfl)) rfl rfl hl.1 rfl (lv_room (Nat.le_of_ble_eq_true rfl)) dX8_rootOf_171 ⟨Nat.le_of_ble_eq_true rfl, Nat.le_of_ble_eq_true rfl⟩) (fun r13 u14 H locs hw15 hP hD hS => ?_)
        have hP : va_P D vwCl [] H := hP
        have hD : va_D A [] := hD
        refine W.widen (k := 0) (n := 0) (by decide) (by decide) ?_
        exact sp_lret (u := ()) hx hb hr hlocks hS trivial (hP.sub [] rfl) (hD.sub [] (by decide) rfl) dX8_rootOf_174
      refine lv_if_eq (tgt := 170) hx hb dX8_rootOf_163 (by decide) (fun c8 => ?_) (fun c8 => ?_)
      · skip
        have c8 := (lg_cmp_eq _ _).mp c8
        have c8i : ((rr * rr) : Int64).toInt = (mm : Int64).toInt := congrArg Int64.toInt c8
        refine lv_iconst (v := 0) hx hb dX8_rootOf_170 (by decide) ?_
        exact hj12 (0) _ _ _ (hP.sub [] rfl) (hD.sub [] (by decide) rfl) hS (lv_sub hl [0, 1, 2, 3] rfl)
      · skip
        have c8 := fun h => c8 ((lg_cmp_eq _ _).mpr h)
        have c8i : ¬ ((rr * rr) : Int64).toInt = (mm : Int64).toInt := fun h => c8 (Int64.toInt_inj.mp h)
        refine lv_iconst (v := 1) hx hb dX8_rootOf_166 (by decide) ?_
        refine lv_goto (tgt := 171) hx hb dX8_rootOf_167 (by decide) ?_
        exact hj12 (1) _ _ _ (hP.sub [] rfl) (hD.sub [] (by decide) rfl) hS (lv_sub hl [0, 1, 2, 3] rfl)
    · skip
      have c1 := fun h => c1 ((lg_cmp_le _ _).mpr h)
      have c1i : ¬ (bb : Int64).toInt ≤ 0 := fun h => c1 (Int64.le_iff_toInt_le.mpr h)
      refine lv_lload hx hb dX8_rootOf_113 (lv_at hl 2 rfl) ?_
      refine lv_lload hx hb dX8_rootOf_115 (lv_at hl 2 rfl) ?_
      refine lv_lload hx hb dX8_rootOf_117 (lv_at hl 3 rfl) ?_
      refine lv_ladd hx hb dX8_rootOf_119 ?_
      refine lv_lload hx hb dX8_rootOf_120 (lv_at hl 2 rfl) ?_
      refine lv_lload hx hb dX8_rootOf_122 (lv_at hl 3 rfl) ?_
      refine lv_ladd hx hb dX8_rootOf_124 ?_
      refine lv_lmul hx hb dX8_rootOf_125 ?_
      refine lv_lload_n hx hb dX8_rootOf_126 rfl (lv_at hl 0 rfl) ?_
      refine W.lcmp hx hb dX8_rootOf_127 ?_
      have hj7 : ∀ (z6 : Int64) (H : Heap) (locs : List Loc) (ls : Array Slot), va_P D vwCl [] H → va_D A [] → va_S A s.heap H locs → lv_has ls 10 [(2, .long mm), (4, .int ee), (6, .long rr), (8, .long bb)] → W p l e ({ frames := 2, cells := 0, slots := 0, locals := 51 }) s m (([.long g] : List Value).toArray) below meth c H locs 0 0 (MQ below (va_Ql (fun (r : Int64) (_ : Unit) => True) (sp_B D vwCl A (fun (_ : Unit) => [])) A) ([.long g] : List Value).toArray s 0 0 A) (F0 m 137 ls [.long z6, .long rr]) := by
        intro z6 H locs ls  hP hD hS hl
        refine lv_ladd hx hb dX8_rootOf_137 ?_
        refine lv_lstore (lv' := [(6, .long (rr + z6)), (2, .long mm), (4, .int ee), (8, .long bb)]) hx hb dX8_rootOf_138 hl (by decide) rfl (fun ls hl => ?_)
        refine lv_lload hx hb dX8_rootOf_140 (lv_at hl 3 rfl) ?_
        refine lv_iconst (v := 1) hx hb dX8_rootOf_142 (by decide) ?_
        refine lv_lshr (v := _) hx hb dX8_rootOf_143 rfl ?_
        refine lv_lstore (lv' := [(8, .long (bb >>> ((1 : Int32).toInt64 &&& 63))), (6, .long (rr + z6)), (2, .long mm), (4, .int ee)]) hx hb dX8_rootOf_144 hl (by decide) rfl (fun ls hl => ?_)
        refine lv_goto (tgt := 106) hx hb dX8_rootOf_146 (by decide) ?_
        have hs := px_shr1 (x := bb) (by omega)
        exact ih (mm) (ee) ((rr + z6)) ((bb >>> ((1 : Int32).toInt64 &&& 63))) _ _ _ (by first | assumption | omega) (by omega) (hP.sub [] rfl) (hD.sub [] (by decide) rfl) hS (lv_sub hl [2, 3, 1, 0] rfl)
      refine lv_if_gt (tgt := 136) hx hb dX8_rootOf_128 (by decide) (fun c3 => ?_) (fun c3 => ?_)
      · skip
        have c3 := (lg_cmp_gt _ _).mp c3
        have c3i : (mm : Int64).toInt < (((rr + bb) * (rr + bb)) : Int64).toInt := Int64.lt_iff_toInt_lt.mp c3
        refine lv_lconst (v := 0) hx hb dX8_rootOf_136 (by decide) ?_
        exact hj7 (0) _ _ _ (hP.sub [] rfl) (hD.sub [] (by decide) rfl) hS (lv_sub hl [0, 1, 2, 3] rfl)
      · skip
        have c3 := fun h => c3 ((lg_cmp_gt _ _).mpr h)
        have c3i : ¬ (mm : Int64).toInt < (((rr + bb) * (rr + bb)) : Int64).toInt := fun h => c3 (Int64.lt_iff_toInt_lt.mpr h)
        refine lv_lload hx hb dX8_rootOf_131 (lv_at hl 3 rfl) ?_
        refine lv_goto (tgt := 137) hx hb dX8_rootOf_133 (by decide) ?_
        exact hj7 (bb) _ _ _ (hP.sub [] rfl) (hD.sub [] (by decide) rfl) hS (lv_sub hl [0, 1, 2, 3] rfl)
set_option maxHeartbeats 4000000 in
set_option maxRecDepth 100000 in
theorem lp_X8_rootOf_47 {p : Program} {e : Env} {s : State} {m : MethodId} {below : List Frame} {meth : Method} {c : Code} {A : Nat → Prop} (l : Launch) (D : va_G) (cI cJ cZ : ClassId) (g : Int64) (C0 : sp_C cX8_rootOf (some .long) 10 wpX8_rootOf yX8_rootOf.cls yX8_rootOf.name p s m ([.long g] : List Value).toArray meth c) (hA : ∀ q : Nat, s.heap.size ≤ q → A q) (hK : va_K D vwCl [(cI, .int), (cJ, .long), (cZ, .boolean)] s) :
    ∀ (fuel : Nat) (mm : Int64) (ee : Int32) (H : Heap) (locs : List Loc) (ls : Array Slot), (1 ≤ (mm : Int64).toInt) → ((if (mm : Int64).toInt < 8388608 then 8388608 - (mm : Int64).toInt else 0) < (fuel : Int)) → va_P D vwCl [] H → va_D A [] → va_S A s.heap H locs → lv_has ls 10 [(0, .long g), (2, .long mm), (4, .int ee)] → W p l e ({ frames := 2, cells := 0, slots := 0, locals := 51 }) s m (([.long g] : List Value).toArray) below meth c H locs 0 0 (MQ below (va_Ql (fun (r : Int64) (_ : Unit) => True) (sp_B D vwCl A (fun (_ : Unit) => [])) A) ([.long g] : List Value).toArray s 0 0 A) (F0 m 47 ls []) := by
  obtain ⟨hx, hb, hr, hts, hown, hlocks, hml, hin⟩ := id C0
  have hown : s.vm.findClass RX8 = some m.cls := hown
  intro fuel
  induction fuel with
  | zero =>
    intro mm ee H locs ls h1 hm
    exact absurd hm (by omega)
  | succ fuel ih =>
    intro mm ee H locs ls h1 hm hP hD hS hl
    refine lv_lload_n hx hb dX8_rootOf_47 rfl (lv_at hl 1 rfl) ?_
    refine lv_ldc2 (v := 8388608) hx hb hown (hts (.constantLong RX8 80 (8388608)) (oX8_rootOf_in _ (List.mem_of_getElem? (i := 0) rfl))) dX8_rootOf_48 ?_
    refine W.lcmp hx hb dX8_rootOf_51 ?_
    refine lv_if_ge (tgt := 67) hx hb dX8_rootOf_52 (by decide) (fun c1 => ?_) (fun c1 => ?_)
    · skip
      have c1 := (lg_cmp_ge _ _).mp c1
      have c1i : 8388608 ≤ (mm : Int64).toInt := Int64.le_iff_toInt_le.mp c1
      refine lv_iload hx hb dX8_rootOf_67 (lv_at hl 2 rfl) ?_
      refine lv_bipush (v := 37) hx hb dX8_rootOf_69 (by decide) ?_
      refine lv_isub hx hb dX8_rootOf_71 ?_
      refine lv_iconst (v := 2) hx hb dX8_rootOf_72 (by decide) ?_
      refine lv_irem hx hb dX8_rootOf_73 (by decide) ?_
      have hj9 : ∀ (z8 : Int32) (H : Heap) (locs : List Loc) (ls : Array Slot), va_P D vwCl [] H → va_D A [] → va_S A s.heap H locs → lv_has ls 10 [(0, .long g), (2, .long mm), (4, .int ee)] → W p l e ({ frames := 2, cells := 0, slots := 0, locals := 51 }) s m (([.long g] : List Value).toArray) below meth c H locs 0 0 (MQ below (va_Ql (fun (r : Int64) (_ : Unit) => True) (sp_B D vwCl A (fun (_ : Unit) => [])) A) ([.long g] : List Value).toArray s 0 0 A) (F0 m 84 ls [.int z8]) := by
        intro z8 H locs ls  hP hD hS hl
        refine lv_istore (lv' := [(5, .int z8), (0, .long g), (2, .long mm), (4, .int ee)]) hx hb dX8_rootOf_84 hl (by decide) rfl (fun ls hl => ?_)
        refine lv_lload_n hx hb dX8_rootOf_86 rfl (lv_at hl 2 rfl) ?_
        refine lv_iload hx hb dX8_rootOf_87 (lv_at hl 0 rfl) ?_
        refine lv_lshl (v := _) hx hb dX8_rootOf_89 rfl ?_
        refine lv_lstore_n (lv' := [(2, .long (mm <<< ((z8 : Int32).toInt64 &&& 63))), (5, .int z8), (0, .long g), (4, .int ee)]) hx hb dX8_rootOf_90 rfl hl (by decide) rfl (fun ls hl => ?_)
        refine lv_iload hx hb dX8_rootOf_91 (lv_at hl 3 rfl) ?_
        refine lv_iload hx hb dX8_rootOf_93 (lv_at hl 1 rfl) ?_
        refine lv_isub hx hb dX8_rootOf_95 ?_
        refine lv_istore (lv' := [(4, .int (ee - z8)), (2, .long (mm <<< ((z8 : Int32).toInt64 &&& 63))), (5, .int z8), (0, .long g)]) hx hb dX8_rootOf_96 hl (by decide) rfl (fun ls hl => ?_)
        refine lv_lconst (v := 0) hx hb dX8_rootOf_98 (by decide) ?_
        refine lv_lstore (lv' := [(6, .long 0), (4, .int (ee - z8)), (2, .long (mm <<< ((z8 : Int32).toInt64 &&& 63))), (5, .int z8), (0, .long g)]) hx hb dX8_rootOf_99 hl (by decide) rfl (fun ls hl => ?_)
        refine lv_ldc2 (v := 2147483648) hx hb hown (hts (.constantLong RX8 112 (2147483648)) (oX8_rootOf_in _ (List.mem_of_getElem? (i := 2) rfl))) dX8_rootOf_101 ?_
        refine lv_lstore (lv' := [(8, .long 2147483648), (6, .long 0), (4, .int (ee - z8)), (2, .long (mm <<< ((z8 : Int32).toInt64 &&& 63))), (5, .int z8), (0, .long g)]) hx hb dX8_rootOf_104 hl (by decide) rfl (fun ls hl => ?_)
        have kk10 : ((0) : Int64).toInt = (0) := by decide
        have kk11 : ((2147483648) : Int64).toInt = (2147483648) := by decide
        exact lp_X8_rootOf_106 l D cI cJ cZ g C0 hA hK 2147483650 ((mm <<< ((z8 : Int32).toInt64 &&& 63))) ((ee - z8)) (0) (2147483648) _ _ _ (by first | assumption | omega) (by omega) (hP.sub [] rfl) (hD.sub [] (by decide) rfl) hS (lv_sub hl [3, 2, 1, 0] rfl)
      refine lv_if_ne (tgt := 82) hx hb dX8_rootOf_74 (by decide) (fun c5 => ?_) (fun c5 => ?_)
      · skip
        have c5i : ¬ (((ee - 37) - (ee - 37) / 2 * 2) : Int32).toInt = 0 := fun h => c5 (Int32.toInt_inj.mp h)
        refine lv_bipush (v := 38) hx hb dX8_rootOf_82 (by decide) ?_
        exact hj9 (38) _ _ _ (hP.sub [] rfl) (hD.sub [] (by decide) rfl) hS (lv_sub hl [0, 1, 2] rfl)
      · skip
        have c5i : (((ee - 37) - (ee - 37) / 2 * 2) : Int32).toInt = 0 := congrArg Int32.toInt c5
        refine lv_bipush (v := 37) hx hb dX8_rootOf_77 (by decide) ?_
        refine lv_goto (tgt := 84) hx hb dX8_rootOf_79 (by decide) ?_
        exact hj9 (37) _ _ _ (hP.sub [] rfl) (hD.sub [] (by decide) rfl) hS (lv_sub hl [0, 1, 2] rfl)
    · skip
      have c1 := fun h => c1 ((lg_cmp_ge _ _).mpr h)
      have c1i : ¬ 8388608 ≤ (mm : Int64).toInt := fun h => c1 (Int64.le_iff_toInt_le.mpr h)
      refine lv_lload_n hx hb dX8_rootOf_55 rfl (lv_at hl 1 rfl) ?_
      refine lv_ldc2 (v := 2) hx hb hown (hts (.constantLong RX8 90 (2)) (oX8_rootOf_in _ (List.mem_of_getElem? (i := 1) rfl))) dX8_rootOf_56 ?_
      refine lv_lmul hx hb dX8_rootOf_59 ?_
      refine lv_lstore_n (lv' := [(2, .long (mm * 2)), (0, .long g), (4, .int ee)]) hx hb dX8_rootOf_60 rfl hl (by decide) rfl (fun ls hl => ?_)
      obtain ⟨y3, e4⟩ : ∃ y : Int32, y = ee + (-1) := ⟨_, rfl⟩
      refine lv_iinc (v := y3) (lv' := [(4, .int y3), (2, .long (mm * 2)), (0, .long g)]) hx hb dX8_rootOf_61 hl (k := 2) rfl (by rw [e4]; rfl) (by decide) rfl (fun ls hl => ?_)
      refine lv_goto (tgt := 47) hx hb dX8_rootOf_64 (by decide) ?_
      have hd := px_dbl (x := mm) (by omega) (by omega)
      exact ih ((mm * 2)) (y3) _ _ _ (by first | assumption | omega) (by omega) (hP.sub [] rfl) (hD.sub [] (by decide) rfl) hS (lv_sub hl [2, 1, 0] rfl)
set_option maxHeartbeats 4000000 in
set_option maxRecDepth 100000 in
theorem c_X8_rootOf (l : Launch) (D : va_G) (cI cJ cZ : ClassId) (sz : Nat) (g : Int64) : Met l yX8_rootOf wpX8_rootOf ({ frames := 2, cells := 0, slots := 0, locals := 51 }) (va_Pc ([.long g] : List Value) (sp_pre D vwCl (sp_ty cI cJ cZ) [] sz)) (va_Ql (fun (r : Int64) (_ : Unit) => True) (sp_B D vwCl (va_A [] sz) (fun (_ : Unit) => [])) (va_A [] sz)) 0 0 (va_A [] sz) := by
  refine sp_ofW (Qc := fun A => va_Ql (fun (r : Int64) (_ : Unit) => True) (sp_B D vwCl A (fun (_ : Unit) => [])) A) (by decide) rfl (Nat.le_of_ble_eq_true rfl) (fun p e s m below meth c A ls H locs C0 hA hS hP hK hD hl => ?_)
  obtain ⟨hx, hb, hr, hts, hown, hlocks, hml, hin⟩ := id C0
  have hown : s.vm.findClass RX8 = some m.cls := hown
  have hl : lv_has ls 10 [(0, .long g)] := hl
  have hK : va_K D vwCl [(cI, .int), (cJ, .long), (cZ, .boolean)] s := hK
  refine lv_lload_n hx hb dX8_rootOf_0 rfl (lv_at hl 0 rfl) ?_
  refine lv_ldc2 (v := 9000000000) hx hb hown (hts (.constantLong RX8 82 (9000000000)) (oX8_rootOf_in _ (List.mem_of_getElem? (i := 3) rfl))) dX8_rootOf_1 ?_
  refine W.lcmp hx hb dX8_rootOf_4 ?_
  refine lv_if_eq (tgt := 16) hx hb dX8_rootOf_5 (by decide) (fun c1 => ?_) (fun c1 => ?_)
  · skip
    have c1 := (lg_cmp_eq _ _).mp c1
    have c1i : (g : Int64).toInt = 9000000000 := congrArg Int64.toInt c1
    refine lv_ldc2 (v := 9000000000) hx hb hown (hts (.constantLong RX8 82 (9000000000)) (oX8_rootOf_in _ (List.mem_of_getElem? (i := 3) rfl))) dX8_rootOf_16 ?_
    refine W.widen (k := 0) (n := 0) (by decide) (by decide) ?_
    exact sp_lret (u := ()) hx hb hr hlocks hS trivial (hP.sub [] rfl) (hD.sub [] (by decide) rfl) dX8_rootOf_19
  · skip
    have c1 := fun h => c1 ((lg_cmp_eq _ _).mpr h)
    have c1i : ¬ (g : Int64).toInt = 9000000000 := fun h => c1 (Int64.toInt_inj.mp h)
    refine lv_lload_n hx hb dX8_rootOf_8 rfl (lv_at hl 0 rfl) ?_
    refine lv_ldc2 (v := (-1)) hx hb hown (hts (.constantLong RX8 74 (-1)) (oX8_rootOf_in _ (List.mem_of_getElem? (i := 4) rfl))) dX8_rootOf_9 ?_
    refine W.lcmp hx hb dX8_rootOf_12 ?_
    refine lv_if_ge (tgt := 20) hx hb dX8_rootOf_13 (by decide) (fun c2 => ?_) (fun c2 => ?_)
    · skip
      have c2 := (lg_cmp_ge _ _).mp c2
      have c2i : (-1) ≤ (g : Int64).toInt := Int64.le_iff_toInt_le.mp c2
      refine lv_lload_n hx hb dX8_rootOf_20 rfl (lv_at hl 0 rfl) ?_
      refine sp_calli (wr := []) (wc := []) hP hD hS hA [] [] rfl rfl (by decide) (by decide) (va_runS (As := [.long g]) (rest := []) ⟨hx, hb, hml, hown, hts⟩ (c_X8_isZero l D cI cJ cZ H.size (g)) (va_cwS 1 hts gX8_rootOf_X8_isZero_109 rfl rfl rfl (by decide +kernel) ⟨Nat.le_of_ble_eq_true rfl, Nat.le_of_ble_eq_true rfl⟩) (sp_preS [.long g] hK (hP.sub (ws' := []) [] rfl) (hD.sub (ws' := []) [] (by decide) rfl)) rfl rfl hl.1 rfl (lv_room (Nat.le_of_ble_eq_true rfl)) dX8_rootOf_21 ⟨Nat.le_of_ble_eq_true rfl, Nat.le_of_ble_eq_true rfl⟩) (fun r3 u4 H locs hw5 hP hD hS => ?_)
      have h6 : ((r3 : Int32).toInt = 1 ∧ ((g : Int64).toInt = 0 ∨ (g : Int64).toInt = -1)) ∨ ((r3 : Int32).toInt = 0 ∧ ¬ ((g : Int64).toInt = 0 ∨ (g : Int64).toInt = -1)) := sp_bool hw5
      have hP : va_P D vwCl [] H := hP
      have hD : va_D A [] := hD
      refine lv_if_ne (tgt := 34) hx hb dX8_rootOf_24 (by decide) (fun c7 => ?_) (fun c7 => ?_)
      · skip
        have c7i : ¬ (r3 : Int32).toInt = 0 := fun h => c7 (Int32.toInt_inj.mp h)
        refine lv_lload_n hx hb dX8_rootOf_34 rfl (lv_at hl 0 rfl) ?_
        refine W.widen (k := 0) (n := 0) (by decide) (by decide) ?_
        exact sp_lret (u := ()) hx hb hr hlocks hS trivial (hP.sub [] rfl) (hD.sub [] (by decide) rfl) dX8_rootOf_35
      · skip
        have c7i : (r3 : Int32).toInt = 0 := congrArg Int32.toInt c7
        refine lv_lload_n hx hb dX8_rootOf_27 rfl (lv_at hl 0 rfl) ?_
        refine sp_calli (wr := []) (wc := []) hP hD hS hA [] [] rfl rfl (by decide) (by decide) (va_runS (As := [.long g]) (rest := []) ⟨hx, hb, hml, hown, hts⟩ (c_X8_isInfinite l D cI cJ cZ H.size (g)) (va_cwS 1 hts gX8_rootOf_X8_isInfinite_94 rfl rfl rfl (by decide +kernel) ⟨Nat.le_of_ble_eq_true rfl, Nat.le_of_ble_eq_true rfl⟩) (sp_preS [.long g] hK (hP.sub (ws' := []) [] rfl) (hD.sub (ws' := []) [] (by decide) rfl)) rfl rfl hl.1 rfl (lv_room (Nat.le_of_ble_eq_true rfl)) dX8_rootOf_28 ⟨Nat.le_of_ble_eq_true rfl, Nat.le_of_ble_eq_true rfl⟩) (fun r8 u9 H locs hw10 hP hD hS => ?_)
        have hP : va_P D vwCl [] H := hP
        have hD : va_D A [] := hD
        refine lv_if_eq (tgt := 36) hx hb dX8_rootOf_31 (by decide) (fun c11 => ?_) (fun c11 => ?_)
        · skip
          have c11i : (r8 : Int32).toInt = 0 := congrArg Int32.toInt c11
          refine lv_lload_n hx hb dX8_rootOf_36 rfl (lv_at hl 0 rfl) ?_
          refine sp_callj (wr := []) (wc := []) hP hD hS hA [] [] rfl rfl (by decide) (by decide) (va_runS (As := [.long g]) (rest := []) ⟨hx, hb, hml, hown, hts⟩ (c_X8_digits l D cI cJ cZ H.size (g)) (va_cwS 1 hts gX8_rootOf_X8_digits_102 rfl rfl rfl (by decide +kernel) ⟨Nat.le_of_ble_eq_true rfl, Nat.le_of_ble_eq_true rfl⟩) (sp_preS [.long g] hK (hP.sub (ws' := []) [] rfl) (hD.sub (ws' := []) [] (by decide) rfl)) rfl rfl hl.1 rfl (lv_room (Nat.le_of_ble_eq_true rfl)) dX8_rootOf_37 ⟨Nat.le_of_ble_eq_true rfl, Nat.le_of_ble_eq_true rfl⟩) (fun r12 u13 H locs hw14 hP hD hS => ?_)
          have h15 : 0 ≤ (r12 : Int64).toInt ∧ (¬ ((g : Int64).toInt = 0 ∨ (g : Int64).toInt = -1) → 1 ≤ (r12 : Int64).toInt) := hw14
          have hP : va_P D vwCl [] H := hP
          have hD : va_D A [] := hD
          refine lv_lstore_n (lv' := [(2, .long r12), (0, .long g)]) hx hb dX8_rootOf_40 rfl hl (by decide) rfl (fun ls hl => ?_)
          refine lv_lload_n hx hb dX8_rootOf_41 rfl (lv_at hl 1 rfl) ?_
          refine sp_calli (wr := []) (wc := []) hP hD hS hA [] [] rfl rfl (by decide) (by decide) (va_runS (As := [.long g]) (rest := []) ⟨hx, hb, hml, hown, hts⟩ (c_X8_power l D cI cJ cZ H.size (g)) (va_cwS 1 hts gX8_rootOf_X8_power_98 rfl rfl rfl (by decide +kernel) ⟨Nat.le_of_ble_eq_true rfl, Nat.le_of_ble_eq_true rfl⟩) (sp_preS [.long g] hK (hP.sub (ws' := []) [] rfl) (hD.sub (ws' := []) [] (by decide) rfl)) rfl rfl hl.1 rfl (lv_room (Nat.le_of_ble_eq_true rfl)) dX8_rootOf_42 ⟨Nat.le_of_ble_eq_true rfl, Nat.le_of_ble_eq_true rfl⟩) (fun r16 u17 H locs hw18 hP hD hS => ?_)
          have hP : va_P D vwCl [] H := hP
          have hD : va_D A [] := hD
          refine lv_istore (lv' := [(4, .int r16), (2, .long r12), (0, .long g)]) hx hb dX8_rootOf_45 hl (by decide) rfl (fun ls hl => ?_)
          exact lp_X8_rootOf_47 l D cI cJ cZ g C0 hA hK 8388610 (r12) (r16) _ _ _ (by first | assumption | omega) (by omega) (hP.sub [] rfl) (hD.sub [] (by decide) rfl) hS (lv_sub hl [2, 1, 0] rfl)
        · skip
          have c11i : ¬ (r8 : Int32).toInt = 0 := fun h => c11 (Int32.toInt_inj.mp h)
          refine lv_lload_n hx hb dX8_rootOf_34 rfl (lv_at hl 0 rfl) ?_
          refine W.widen (k := 0) (n := 0) (by decide) (by decide) ?_
          exact sp_lret (u := ()) hx hb hr hlocks hS trivial (hP.sub [] rfl) (hD.sub [] (by decide) rfl) dX8_rootOf_35
    · skip
      have c2 := fun h => c2 ((lg_cmp_ge _ _).mpr h)
      have c2i : ¬ (-1) ≤ (g : Int64).toInt := fun h => c2 (Int64.le_iff_toInt_le.mpr h)
      refine lv_ldc2 (v := 9000000000) hx hb hown (hts (.constantLong RX8 82 (9000000000)) (oX8_rootOf_in _ (List.mem_of_getElem? (i := 3) rfl))) dX8_rootOf_16 ?_
      refine W.widen (k := 0) (n := 0) (by decide) (by decide) ?_
      exact sp_lret (u := ()) hx hb hr hlocks hS trivial (hP.sub [] rfl) (hD.sub [] (by decide) rfl) dX8_rootOf_19
def oX8_wholeOf : List Cond := [.constantLong RX8 82 (9000000000), .constantLong RX8 90 (2)]
def wpX8_wholeOf : List Cond := .code yX8_wholeOf cX8_wholeOf 13 (some .long) :: (oX8_wholeOf ++ ((va_wsS RX8 98 yX8_power wpX8_power) ++ ((va_wsS RX8 102 yX8_digits wpX8_digits) ++ ((va_wsS RX8 105 yX8_pack wpX8_pack) ++ ([] : List Cond)))))
theorem oX8_wholeOf_in : ∀ w ∈ oX8_wholeOf, w ∈ wpX8_wholeOf := fun w h => List.mem_cons_of_mem _ (List.mem_append_left _ h)
theorem gwoX8_wholeOf : ∀ w ∈ oX8_wholeOf, goodWord w = true := by decide +kernel
theorem gwX8_wholeOf : ∀ w ∈ wpX8_wholeOf, goodWord w = true := by
  unfold wpX8_wholeOf
  exact List.forall_mem_cons.mpr ⟨rfl, List.forall_mem_append.mpr ⟨gwoX8_wholeOf, List.forall_mem_append.mpr ⟨(sp_gS gwX8_power), List.forall_mem_append.mpr ⟨(sp_gS gwX8_digits), List.forall_mem_append.mpr ⟨(sp_gS gwX8_pack), fun _ h => absurd h List.not_mem_nil⟩⟩⟩⟩⟩
set_option maxRecDepth 100000 in
theorem toX8_wholeOf : ∀ w ∈ oX8_wholeOf, w ∈ lw_tbl := by
  unfold oX8_wholeOf
  exact List.forall_mem_cons.mpr ⟨(List.mem_of_getElem? (i := 804) (by decide +kernel)), List.forall_mem_cons.mpr ⟨(List.mem_of_getElem? (i := 770) (by decide +kernel)), fun _ h => absurd h List.not_mem_nil⟩⟩
set_option maxRecDepth 100000 in
theorem tX8_wholeOf : ∀ w ∈ wpX8_wholeOf, w ∈ lw_tbl := by
  unfold wpX8_wholeOf
  exact List.forall_mem_cons.mpr ⟨(List.mem_of_getElem? (i := 866) (by rfl)), List.forall_mem_append.mpr ⟨toX8_wholeOf, List.forall_mem_append.mpr ⟨(sp_tS (List.mem_of_getElem? (i := 840) (by decide +kernel)) (List.mem_of_getElem? (i := 841) (by decide +kernel)) (List.mem_of_getElem? (i := 45) (by decide +kernel)) tX8_power), List.forall_mem_append.mpr ⟨(sp_tS (List.mem_of_getElem? (i := 844) (by decide +kernel)) (List.mem_of_getElem? (i := 845) (by decide +kernel)) (List.mem_of_getElem? (i := 45) (by decide +kernel)) tX8_digits), List.forall_mem_append.mpr ⟨(sp_tS (List.mem_of_getElem? (i := 847) (by decide +kernel)) (List.mem_of_getElem? (i := 848) (by decide +kernel)) (List.mem_of_getElem? (i := 45) (by decide +kernel)) tX8_pack), fun _ h => absurd h List.not_mem_nil⟩⟩⟩⟩⟩
theorem gX8_wholeOf_X8_power_98 : GoodIn wpX8_wholeOf (va_wsS RX8 98 yX8_power wpX8_power) := fun w h => ⟨List.mem_cons_of_mem _ (List.mem_append_right _ (List.mem_append_left _ h)), good_of_word (sp_gS gwX8_power w h)⟩
theorem gX8_wholeOf_X8_digits_102 : GoodIn wpX8_wholeOf (va_wsS RX8 102 yX8_digits wpX8_digits) := fun w h => ⟨List.mem_cons_of_mem _ (List.mem_append_right _ (List.mem_append_right _ (List.mem_append_left _ h))), good_of_word (sp_gS gwX8_digits w h)⟩
theorem gX8_wholeOf_X8_pack_105 : GoodIn wpX8_wholeOf (va_wsS RX8 105 yX8_pack wpX8_pack) := fun w h => ⟨List.mem_cons_of_mem _ (List.mem_append_right _ (List.mem_append_right _ (List.mem_append_right _ (List.mem_append_left _ h)))), good_of_word (sp_gS gwX8_pack w h)⟩
set_option maxHeartbeats 4000000 in
set_option maxRecDepth 100000 in
theorem c_X8_wholeOf (l : Launch) (D : va_G) (cI cJ cZ : ClassId) (sz : Nat) (g : Int64) (hw9 : Int32) : Met l yX8_wholeOf wpX8_wholeOf ({ frames := 2, cells := 0, slots := 0, locals := 51 }) (va_Pc ([.long g, .int hw9] : List Value) (sp_pre D vwCl (sp_ty cI cJ cZ) [] sz)) (va_Ql (fun (r : Int64) (_ : Unit) => True) (sp_B D vwCl (va_A [] sz) (fun (_ : Unit) => [])) (va_A [] sz)) 0 0 (va_A [] sz) := by
  refine sp_ofW (Qc := fun A => va_Ql (fun (r : Int64) (_ : Unit) => True) (sp_B D vwCl A (fun (_ : Unit) => [])) A) (by decide) rfl (Nat.le_of_ble_eq_true rfl) (fun p e s m below meth c A ls H locs C0 hA hS hP hK hD hl => ?_)
  obtain ⟨hx, hb, hr, hts, hown, hlocks, hml, hin⟩ := id C0
  have hown : s.vm.findClass RX8 = some m.cls := hown
  have hl : lv_has ls 13 [(0, .long g), (2, .int hw9)] := hl
  have hK : va_K D vwCl [(cI, .int), (cJ, .long), (cZ, .boolean)] s := hK
  refine lv_lload_n hx hb dX8_wholeOf_0 rfl (lv_at hl 0 rfl) ?_
  refine lv_ldc2 (v := 9000000000) hx hb hown (hts (.constantLong RX8 82 (9000000000)) (oX8_wholeOf_in _ (List.mem_of_getElem? (i := 0) rfl))) dX8_wholeOf_1 ?_
  refine W.lcmp hx hb dX8_wholeOf_4 ?_
  refine lv_if_eq (tgt := 15) hx hb dX8_wholeOf_5 (by decide) (fun c1 => ?_) (fun c1 => ?_)
  · skip
    have c1 := (lg_cmp_eq _ _).mp c1
    have c1i : (g : Int64).toInt = 9000000000 := congrArg Int64.toInt c1
    refine lv_lload_n hx hb dX8_wholeOf_15 rfl (lv_at hl 0 rfl) ?_
    refine W.widen (k := 0) (n := 0) (by decide) (by decide) ?_
    exact sp_lret (u := ()) hx hb hr hlocks hS trivial (hP.sub [] rfl) (hD.sub [] (by decide) rfl) dX8_wholeOf_16
  · skip
    have c1 := fun h => c1 ((lg_cmp_eq _ _).mpr h)
    have c1i : ¬ (g : Int64).toInt = 9000000000 := fun h => c1 (Int64.toInt_inj.mp h)
    refine lv_lload_n hx hb dX8_wholeOf_8 rfl (lv_at hl 0 rfl) ?_
    refine sp_calli (wr := []) (wc := []) hP hD hS hA [] [] rfl rfl (by decide) (by decide) (va_runS (As := [.long g]) (rest := []) ⟨hx, hb, hml, hown, hts⟩ (c_X8_power l D cI cJ cZ H.size (g)) (va_cwS 1 hts gX8_wholeOf_X8_power_98 rfl rfl rfl (by decide +kernel) ⟨Nat.le_of_ble_eq_true rfl, Nat.le_of_ble_eq_true rfl⟩) (sp_preS [.long g] hK (hP.sub (ws' := []) [] rfl) (hD.sub (ws' := []) [] (by decide) rfl)) rfl rfl hl.1 rfl (lv_room (Nat.le_of_ble_eq_true rfl)) dX8_wholeOf_9 ⟨Nat.le_of_ble_eq_true rfl, Nat.le_of_ble_eq_true rfl⟩) (fun r2 u3 H locs hw4 hP hD hS => ?_)
    have hP : va_P D vwCl [] H := hP
    have hD : va_D A [] := hD
    refine lv_if_lt (tgt := 17) hx hb dX8_wholeOf_12 (by decide) (fun c5 => ?_) (fun c5 => ?_)
    · skip
      have c5i : (r2 : Int32).toInt < 0 := Int32.lt_iff_toInt_lt.mp c5
      refine lv_lload_n hx hb dX8_wholeOf_17 rfl (lv_at hl 0 rfl) ?_
      refine sp_calli (wr := []) (wc := []) hP hD hS hA [] [] rfl rfl (by decide) (by decide) (va_runS (As := [.long g]) (rest := []) ⟨hx, hb, hml, hown, hts⟩ (c_X8_power l D cI cJ cZ H.size (g)) (va_cwS 1 hts gX8_wholeOf_X8_power_98 rfl rfl rfl (by decide +kernel) ⟨Nat.le_of_ble_eq_true rfl, Nat.le_of_ble_eq_true rfl⟩) (sp_preS [.long g] hK (hP.sub (ws' := []) [] rfl) (hD.sub (ws' := []) [] (by decide) rfl)) rfl rfl hl.1 rfl (lv_room (Nat.le_of_ble_eq_true rfl)) dX8_wholeOf_18 ⟨Nat.le_of_ble_eq_true rfl, Nat.le_of_ble_eq_true rfl⟩) (fun r6 u7 H locs hw8 hP hD hS => ?_)
      have hP : va_P D vwCl [] H := hP
      have hD : va_D A [] := hD
      refine lv_ineg hx hb dX8_wholeOf_21 ?_
      refine lv_istore_n (lv' := [(3, .int (-r6)), (0, .long g), (2, .int hw9)]) hx hb dX8_wholeOf_22 rfl hl (by decide) rfl (fun ls hl => ?_)
      refine lv_iload_n hx hb dX8_wholeOf_23 rfl (lv_at hl 0 rfl) ?_
      refine lv_bipush (v := 40) hx hb dX8_wholeOf_24 (by decide) ?_
      have hj17 : ∀ (z16 : Int64) (H : Heap) (locs : List Loc) (ls : Array Slot), va_P D vwCl [] H → va_D A [] → va_S A s.heap H locs → lv_has ls 13 [(3, .int (-r6)), (0, .long g), (2, .int hw9)] → W p l e ({ frames := 2, cells := 0, slots := 0, locals := 51 }) s m (([.long g, .int hw9] : List Value).toArray) below meth c H locs 0 0 (MQ below (va_Ql (fun (r : Int64) (_ : Unit) => True) (sp_B D vwCl A (fun (_ : Unit) => [])) A) ([.long g, .int hw9] : List Value).toArray s 0 0 A) (F0 m 39 ls [.long z16]) := by
        intro z16 H locs ls  hP hD hS hl
        refine lv_lstore (lv' := [(4, .long z16), (3, .int (-r6)), (0, .long g), (2, .int hw9)]) hx hb dX8_wholeOf_39 hl (by decide) rfl (fun ls hl => ?_)
        refine lv_iload_n hx hb dX8_wholeOf_41 rfl (lv_at hl 1 rfl) ?_
        refine lv_bipush (v := 40) hx hb dX8_wholeOf_42 (by decide) ?_
        have hj40 : ∀ (z39 : Int32) (H : Heap) (locs : List Loc) (ls : Array Slot), va_P D vwCl [] H → va_D A [] → va_S A s.heap H locs → lv_has ls 13 [(4, .long z16), (3, .int (-r6)), (0, .long g), (2, .int hw9)] → W p l e ({ frames := 2, cells := 0, slots := 0, locals := 51 }) s m (([.long g, .int hw9] : List Value).toArray) below meth c H locs 0 0 (MQ below (va_Ql (fun (r : Int64) (_ : Unit) => True) (sp_B D vwCl A (fun (_ : Unit) => [])) A) ([.long g, .int hw9] : List Value).toArray s 0 0 A) (F0 m 81 ls [.int z39]) := by
          intro z39 H locs ls  hP hD hS hl
          refine lv_istore (lv' := [(6, .int z39), (4, .long z16), (3, .int (-r6)), (0, .long g), (2, .int hw9)]) hx hb dX8_wholeOf_81 hl (by decide) rfl (fun ls hl => ?_)
          refine lv_lload_n hx hb dX8_wholeOf_83 rfl (lv_at hl 3 rfl) ?_
          refine lv_lconst (v := 0) hx hb dX8_wholeOf_84 (by decide) ?_
          refine W.lcmp hx hb dX8_wholeOf_85 ?_
          have hj45 : ∀ (z44 : Int32) (H : Heap) (locs : List Loc) (ls : Array Slot), va_P D vwCl [] H → va_D A [] → va_S A s.heap H locs → lv_has ls 13 [(6, .int z39), (4, .long z16), (3, .int (-r6)), (0, .long g), (2, .int hw9)] → W p l e ({ frames := 2, cells := 0, slots := 0, locals := 51 }) s m (([.long g, .int hw9] : List Value).toArray) below meth c H locs 0 0 (MQ below (va_Ql (fun (r : Int64) (_ : Unit) => True) (sp_B D vwCl A (fun (_ : Unit) => [])) A) ([.long g, .int hw9] : List Value).toArray s 0 0 A) (F0 m 94 ls [.int z44]) := by
            intro z44 H locs ls  hP hD hS hl
            refine lv_istore (lv' := [(7, .int z44), (6, .int z39), (4, .long z16), (3, .int (-r6)), (0, .long g), (2, .int hw9)]) hx hb dX8_wholeOf_94 hl (by decide) rfl (fun ls hl => ?_)
            refine lv_iconst (v := 0) hx hb dX8_wholeOf_96 (by decide) ?_
            refine lv_istore (lv' := [(8, .int 0), (7, .int z44), (6, .int z39), (4, .long z16), (3, .int (-r6)), (0, .long g), (2, .int hw9)]) hx hb dX8_wholeOf_97 hl (by decide) rfl (fun ls hl => ?_)
            refine lv_iload_n hx hb dX8_wholeOf_99 rfl (lv_at hl 6 rfl) ?_
            refine lv_iconst (v := 2) hx hb dX8_wholeOf_100 (by decide) ?_
            have hj88 : ∀ (z87 : Int32) (H : Heap) (locs : List Loc) (ls : Array Slot), va_P D vwCl [] H → va_D A [] → va_S A s.heap H locs → lv_has ls 13 [(8, .int z87), (7, .int z44), (6, .int z39), (4, .long z16), (3, .int (-r6)), (0, .long g), (2, .int hw9)] → W p l e ({ frames := 2, cells := 0, slots := 0, locals := 51 }) s m (([.long g, .int hw9] : List Value).toArray) below meth c H locs 0 0 (MQ below (va_Ql (fun (r : Int64) (_ : Unit) => True) (sp_B D vwCl A (fun (_ : Unit) => [])) A) ([.long g, .int hw9] : List Value).toArray s 0 0 A) (F0 m 187 ls []) := by
              intro z87 H locs ls  hP hD hS hl
              refine lv_iload_n hx hb dX8_wholeOf_187 rfl (lv_at hl 6 rfl) ?_
              refine lv_iconst (v := 2) hx hb dX8_wholeOf_188 (by decide) ?_
              have hj108 : ∀ (z107 : Int32) (H : Heap) (locs : List Loc) (ls : Array Slot), va_P D vwCl [] H → va_D A [] → va_S A s.heap H locs → lv_has ls 13 [(8, .int z107), (7, .int z44), (6, .int z39), (4, .long z16), (3, .int (-r6)), (0, .long g), (2, .int hw9)] → W p l e ({ frames := 2, cells := 0, slots := 0, locals := 51 }) s m (([.long g, .int hw9] : List Value).toArray) below meth c H locs 0 0 (MQ below (va_Ql (fun (r : Int64) (_ : Unit) => True) (sp_B D vwCl A (fun (_ : Unit) => [])) A) ([.long g, .int hw9] : List Value).toArray s 0 0 A) (F0 m 218 ls []) := by
                intro z107 H locs ls  hP hD hS hl
                refine lv_iload hx hb dX8_wholeOf_218 (lv_at hl 1 rfl) ?_
                refine lv_iload hx hb dX8_wholeOf_220 (lv_at hl 0 rfl) ?_
                have hj113 : ∀ (z112 : Int64) (H : Heap) (locs : List Loc) (ls : Array Slot), va_P D vwCl [] H → va_D A [] → va_S A s.heap H locs → lv_has ls 13 [(8, .int z107), (7, .int z44), (6, .int z39), (4, .long z16), (3, .int (-r6)), (0, .long g), (2, .int hw9)] → W p l e ({ frames := 2, cells := 0, slots := 0, locals := 51 }) s m (([.long g, .int hw9] : List Value).toArray) below meth c H locs 0 0 (MQ below (va_Ql (fun (r : Int64) (_ : Unit) => True) (sp_B D vwCl A (fun (_ : Unit) => [])) A) ([.long g, .int hw9] : List Value).toArray s 0 0 A) (F0 m 234 ls [.long z112, .int z44]) := by
                  intro z112 H locs ls  hP hD hS hl
                  refine lv_iconst (v := 0) hx hb dX8_wholeOf_234 (by decide) ?_
                  refine lv_iconst (v := 0) hx hb dX8_wholeOf_235 (by decide) ?_
                  refine sp_callj (wr := []) (wc := []) hP hD hS hA [] [] rfl rfl (by decide) (by decide) (va_runS (As := [.int z44, .long z112, .int 0, .int 0]) (rest := []) ⟨hx, hb, hml, hown, hts⟩ (c_X8_pack l D cI cJ cZ H.size (z44) (z112) (0) (0)) (va_cwS 4 hts gX8_wholeOf_X8_pack_105 rfl rfl rfl (by decide +kernel) ⟨Nat.le_of_ble_eq_true rfl, Nat.le_of_ble_eq_true rfl⟩) (sp_preS [.int z44, .long z112, .int 0, .int 0] hK (hP.sub (ws' := []) [] rfl) (hD.sub (ws' := []) [] (by decide) rfl)) rfl rfl hl.1 rfl (lv_room (Nat.le_of_ble_eq_true rfl)) dX8_wholeOf_236 ⟨Nat.le_of_ble_eq_true rfl, Nat.le_of_ble_eq_true rfl⟩) (fun r114 u115 H locs hw116 hP hD hS => ?_)
                  have hP : va_P D vwCl [] H := hP
                  have hD : va_D A [] := hD
                  refine W.widen (k := 0) (n := 0) (by decide) (by decide) ?_
                  exact sp_lret (u := ()) hx hb hr hlocks hS trivial (hP.sub [] rfl) (hD.sub [] (by decide) rfl) dX8_wholeOf_239
                refine lv_if_eq (tgt := 232) hx hb dX8_wholeOf_222 (by decide) (fun c109 => ?_) (fun c109 => ?_)
                · skip
                  have c109i : (z107 : Int32).toInt = 0 := congrArg Int32.toInt c109
                  refine lv_lload hx hb dX8_wholeOf_232 (lv_at hl 3 rfl) ?_
                  exact hj113 (z16) _ _ _ (hP.sub [] rfl) (hD.sub [] (by decide) rfl) hS (lv_sub hl [0, 1, 2, 3, 4, 5, 6] rfl)
                · skip
                  have c109i : ¬ (z107 : Int32).toInt = 0 := fun h => c109 (Int32.toInt_inj.mp h)
                  refine lv_lload hx hb dX8_wholeOf_225 (lv_at hl 3 rfl) ?_
                  refine lv_lconst (v := 1) hx hb dX8_wholeOf_227 (by decide) ?_
                  refine lv_ladd hx hb dX8_wholeOf_228 ?_
                  refine lv_goto (tgt := 234) hx hb dX8_wholeOf_229 (by decide) ?_
                  exact hj113 ((z16 + 1)) _ _ _ (hP.sub [] rfl) (hD.sub [] (by decide) rfl) hS (lv_sub hl [0, 1, 2, 3, 4, 5, 6] rfl)
              refine lv_icmp_ge (tgt := 218) hx hb dX8_wholeOf_189 (by decide) (fun c89 => ?_) (fun c89 => ?_)
              · skip
                have c89i : 2 ≤ (hw9 : Int32).toInt := Int32.le_iff_toInt_le.mp c89
                exact hj108 (z87) _ _ _ (hP.sub [] rfl) (hD.sub [] (by decide) rfl) hS (lv_sub hl [0, 1, 2, 3, 4, 5, 6] rfl)
              · skip
                have c89i : ¬ 2 ≤ (hw9 : Int32).toInt := fun h => c89 (Int32.le_iff_toInt_le.mpr h)
                refine lv_iload hx hb dX8_wholeOf_192 (lv_at hl 2 rfl) ?_
                have hj105 : ∀ (z104 : Int32) (H : Heap) (locs : List Loc) (ls : Array Slot), va_P D vwCl [] H → va_D A [] → va_S A s.heap H locs → lv_has ls 13 [(8, .int z87), (7, .int z44), (6, .int z39), (4, .long z16), (3, .int (-r6)), (0, .long g), (2, .int hw9)] → W p l e ({ frames := 2, cells := 0, slots := 0, locals := 51 }) s m (([.long g, .int hw9] : List Value).toArray) below meth c H locs 0 0 (MQ below (va_Ql (fun (r : Int64) (_ : Unit) => True) (sp_B D vwCl A (fun (_ : Unit) => [])) A) ([.long g, .int hw9] : List Value).toArray s 0 0 A) (F0 m 216 ls [.int z104]) := by
                  intro z104 H locs ls  hP hD hS hl
                  refine lv_istore (lv' := [(8, .int z104), (7, .int z44), (6, .int z39), (4, .long z16), (3, .int (-r6)), (0, .long g), (2, .int hw9)]) hx hb dX8_wholeOf_216 hl (by decide) rfl (fun ls hl => ?_)
                  exact hj108 (z104) _ _ _ (hP.sub [] rfl) (hD.sub [] (by decide) rfl) hS (lv_sub hl [0, 1, 2, 3, 4, 5, 6] rfl)
                refine lv_if_ne (tgt := 215) hx hb dX8_wholeOf_194 (by decide) (fun c91 => ?_) (fun c91 => ?_)
                · skip
                  have c91i : ¬ (z39 : Int32).toInt = 0 := fun h => c91 (Int32.toInt_inj.mp h)
                  refine lv_iconst (v := 0) hx hb dX8_wholeOf_215 (by decide) ?_
                  exact hj105 (0) _ _ _ (hP.sub [] rfl) (hD.sub [] (by decide) rfl) hS (lv_sub hl [0, 1, 2, 3, 4, 5, 6] rfl)
                · skip
                  have c91i : (z39 : Int32).toInt = 0 := congrArg Int32.toInt c91
                  refine lv_iload hx hb dX8_wholeOf_197 (lv_at hl 1 rfl) ?_
                  refine lv_iload_n hx hb dX8_wholeOf_199 rfl (lv_at hl 6 rfl) ?_
                  have hj97 : ∀ (z96 : Int32) (H : Heap) (locs : List Loc) (ls : Array Slot), va_P D vwCl [] H → va_D A [] → va_S A s.heap H locs → lv_has ls 13 [(8, .int z87), (7, .int z44), (6, .int z39), (4, .long z16), (3, .int (-r6)), (0, .long g), (2, .int hw9)] → W p l e ({ frames := 2, cells := 0, slots := 0, locals := 51 }) s m (([.long g, .int hw9] : List Value).toArray) below meth c H locs 0 0 (MQ below (va_Ql (fun (r : Int64) (_ : Unit) => True) (sp_B D vwCl A (fun (_ : Unit) => [])) A) ([.long g, .int hw9] : List Value).toArray s 0 0 A) (F0 m 208 ls [.int z96, .int z44]) := by
                    intro z96 H locs ls  hP hD hS hl
                    have hj102 : ∀ (z101 : Int32) (H : Heap) (locs : List Loc) (ls : Array Slot), va_P D vwCl [] H → va_D A [] → va_S A s.heap H locs → lv_has ls 13 [(8, .int z87), (7, .int z44), (6, .int z39), (4, .long z16), (3, .int (-r6)), (0, .long g), (2, .int hw9)] → W p l e ({ frames := 2, cells := 0, slots := 0, locals := 51 }) s m (([.long g, .int hw9] : List Value).toArray) below meth c H locs 0 0 (MQ below (va_Ql (fun (r : Int64) (_ : Unit) => True) (sp_B D vwCl A (fun (_ : Unit) => [])) A) ([.long g, .int hw9] : List Value).toArray s 0 0 A) (F0 m 216 ls [.int z101]) := by
                      intro z101 H locs ls  hP hD hS hl
                      exact hj105 (z101) _ _ _ (hP.sub [] rfl) (hD.sub [] (by decide) rfl) hS (lv_sub hl [0, 1, 2, 3, 4, 5, 6] rfl)
                    refine lv_icmp_ne (tgt := 215) hx hb dX8_wholeOf_208 (by decide) (fun c98 => ?_) (fun c98 => ?_)
                    · skip
                      have c98i : ¬ (z44 : Int32).toInt = (z96 : Int32).toInt := fun h => c98 (Int32.toInt_inj.mp h)
                      refine lv_iconst (v := 0) hx hb dX8_wholeOf_215 (by decide) ?_
                      exact hj102 (0) _ _ _ (hP.sub [] rfl) (hD.sub [] (by decide) rfl) hS (lv_sub hl [0, 1, 2, 3, 4, 5, 6] rfl)
                    · skip
                      have c98i : (z44 : Int32).toInt = (z96 : Int32).toInt := congrArg Int32.toInt c98
                      refine lv_iconst (v := 1) hx hb dX8_wholeOf_211 (by decide) ?_
                      refine lv_goto (tgt := 216) hx hb dX8_wholeOf_212 (by decide) ?_
                      exact hj102 (1) _ _ _ (hP.sub [] rfl) (hD.sub [] (by decide) rfl) hS (lv_sub hl [0, 1, 2, 3, 4, 5, 6] rfl)
                  refine lv_if_ne (tgt := 207) hx hb dX8_wholeOf_200 (by decide) (fun c93 => ?_) (fun c93 => ?_)
                  · skip
                    have c93i : ¬ (hw9 : Int32).toInt = 0 := fun h => c93 (Int32.toInt_inj.mp h)
                    refine lv_iconst (v := 0) hx hb dX8_wholeOf_207 (by decide) ?_
                    exact hj97 (0) _ _ _ (hP.sub [] rfl) (hD.sub [] (by decide) rfl) hS (lv_sub hl [0, 1, 2, 3, 4, 5, 6] rfl)
                  · skip
                    have c93i : (hw9 : Int32).toInt = 0 := congrArg Int32.toInt c93
                    refine lv_iconst (v := 1) hx hb dX8_wholeOf_203 (by decide) ?_
                    refine lv_goto (tgt := 208) hx hb dX8_wholeOf_204 (by decide) ?_
                    exact hj97 (1) _ _ _ (hP.sub [] rfl) (hD.sub [] (by decide) rfl) hS (lv_sub hl [0, 1, 2, 3, 4, 5, 6] rfl)
            refine lv_icmp_ne (tgt := 187) hx hb dX8_wholeOf_101 (by decide) (fun c46 => ?_) (fun c46 => ?_)
            · skip
              have c46i : ¬ (hw9 : Int32).toInt = 2 := fun h => c46 (Int32.toInt_inj.mp h)
              exact hj88 (0) _ _ _ (hP.sub [] rfl) (hD.sub [] (by decide) rfl) hS (lv_sub hl [0, 1, 2, 3, 4, 5, 6] rfl)
            · skip
              have c46i : (hw9 : Int32).toInt = 2 := congrArg Int32.toInt c46
              refine lv_iload_n hx hb dX8_wholeOf_104 rfl (lv_at hl 4 rfl) ?_
              refine lv_bipush (v := 40) hx hb dX8_wholeOf_105 (by decide) ?_
              have hj85 : ∀ (z84 : Int32) (H : Heap) (locs : List Loc) (ls : Array Slot), va_P D vwCl [] H → va_D A [] → va_S A s.heap H locs → lv_has ls 13 [(8, .int z84), (7, .int z44), (6, .int z39), (4, .long z16), (3, .int (-r6)), (0, .long g), (2, .int hw9)] → W p l e ({ frames := 2, cells := 0, slots := 0, locals := 51 }) s m (([.long g, .int hw9] : List Value).toArray) below meth c H locs 0 0 (MQ below (va_Ql (fun (r : Int64) (_ : Unit) => True) (sp_B D vwCl A (fun (_ : Unit) => [])) A) ([.long g, .int hw9] : List Value).toArray s 0 0 A) (F0 m 187 ls []) := by
                intro z84 H locs ls  hP hD hS hl
                exact hj88 (z84) _ _ _ (hP.sub [] rfl) (hD.sub [] (by decide) rfl) hS (lv_sub hl [0, 1, 2, 3, 4, 5, 6] rfl)
              refine lv_icmp_gt (tgt := 187) hx hb dX8_wholeOf_107 (by decide) (fun c48 => ?_) (fun c48 => ?_)
              · skip
                have c48i : 40 < ((-r6) : Int32).toInt := Int32.lt_iff_toInt_lt.mp c48
                exact hj85 (0) _ _ _ (hP.sub [] rfl) (hD.sub [] (by decide) rfl) hS (lv_sub hl [0, 1, 2, 3, 4, 5, 6] rfl)
              · skip
                have c48i : ¬ 40 < ((-r6) : Int32).toInt := fun h => c48 (Int32.lt_iff_toInt_lt.mpr h)
                refine lv_lload_n hx hb dX8_wholeOf_110 rfl (lv_at hl 5 rfl) ?_
                refine sp_callj (wr := []) (wc := []) hP hD hS hA [] [] rfl rfl (by decide) (by decide) (va_runS (As := [.long g]) (rest := []) ⟨hx, hb, hml, hown, hts⟩ (c_X8_digits l D cI cJ cZ H.size (g)) (va_cwS 1 hts gX8_wholeOf_X8_digits_102 rfl rfl rfl (by decide +kernel) ⟨Nat.le_of_ble_eq_true rfl, Nat.le_of_ble_eq_true rfl⟩) (sp_preS [.long g] hK (hP.sub (ws' := []) [] rfl) (hD.sub (ws' := []) [] (by decide) rfl)) rfl rfl hl.1 rfl (lv_room (Nat.le_of_ble_eq_true rfl)) dX8_wholeOf_111 ⟨Nat.le_of_ble_eq_true rfl, Nat.le_of_ble_eq_true rfl⟩) (fun r50 u51 H locs hw52 hP hD hS => ?_)
                have h53 : 0 ≤ (r50 : Int64).toInt ∧ (¬ ((g : Int64).toInt = 0 ∨ (g : Int64).toInt = -1) → 1 ≤ (r50 : Int64).toInt) := hw52
                have hP : va_P D vwCl [] H := hP
                have hD : va_D A [] := hD
                refine lv_iload_n hx hb dX8_wholeOf_114 rfl (lv_at hl 4 rfl) ?_
                refine lv_iconst (v := 1) hx hb dX8_wholeOf_115 (by decide) ?_
                refine lv_isub hx hb dX8_wholeOf_116 ?_
                refine lv_lshr (v := _) hx hb dX8_wholeOf_117 rfl ?_
                refine lv_lstore (lv' := [(9, .long (r50 >>> ((((-r6) - 1) : Int32).toInt64 &&& 63))), (8, .int 0), (7, .int z44), (6, .int z39), (4, .long z16), (3, .int (-r6)), (0, .long g), (2, .int hw9)]) hx hb dX8_wholeOf_118 hl (by decide) rfl (fun ls hl => ?_)
                refine lv_lload hx hb dX8_wholeOf_120 (lv_at hl 0 rfl) ?_
                refine lv_ldc2 (v := 2) hx hb hown (hts (.constantLong RX8 90 (2)) (oX8_wholeOf_in _ (List.mem_of_getElem? (i := 1) rfl))) dX8_wholeOf_122 ?_
                refine lv_lrem hx hb dX8_wholeOf_125 (by decide) ?_
                refine lv_lconst (v := 1) hx hb dX8_wholeOf_126 (by decide) ?_
                refine W.lcmp hx hb dX8_wholeOf_127 ?_
                have hj58 : ∀ (z57 : Int32) (H : Heap) (locs : List Loc) (ls : Array Slot), va_P D vwCl [] H → va_D A [] → va_S A s.heap H locs → lv_has ls 13 [(9, .long (r50 >>> ((((-r6) - 1) : Int32).toInt64 &&& 63))), (8, .int 0), (7, .int z44), (6, .int z39), (4, .long z16), (3, .int (-r6)), (0, .long g), (2, .int hw9)] → W p l e ({ frames := 2, cells := 0, slots := 0, locals := 51 }) s m (([.long g, .int hw9] : List Value).toArray) below meth c H locs 0 0 (MQ below (va_Ql (fun (r : Int64) (_ : Unit) => True) (sp_B D vwCl A (fun (_ : Unit) => [])) A) ([.long g, .int hw9] : List Value).toArray s 0 0 A) (F0 m 136 ls [.int z57]) := by
                  intro z57 H locs ls  hP hD hS hl
                  refine lv_istore (lv' := [(11, .int z57), (9, .long (r50 >>> ((((-r6) - 1) : Int32).toInt64 &&& 63))), (8, .int 0), (7, .int z44), (6, .int z39), (4, .long z16), (3, .int (-r6)), (0, .long g), (2, .int hw9)]) hx hb dX8_wholeOf_136 hl (by decide) rfl (fun ls hl => ?_)
                  refine lv_lload hx hb dX8_wholeOf_138 (lv_at hl 1 rfl) ?_
                  refine lv_iload_n hx hb dX8_wholeOf_140 rfl (lv_at hl 6 rfl) ?_
                  refine lv_iconst (v := 1) hx hb dX8_wholeOf_141 (by decide) ?_
                  refine lv_isub hx hb dX8_wholeOf_142 ?_
                  refine lv_lshl (v := _) hx hb dX8_wholeOf_143 rfl ?_
                  refine lv_lload_n hx hb dX8_wholeOf_144 rfl (lv_at hl 7 rfl) ?_
                  refine sp_callj (wr := []) (wc := []) hP hD hS hA [] [] rfl rfl (by decide) (by decide) (va_runS (As := [.long g]) (rest := [.long ((r50 >>> ((((-r6) - 1) : Int32).toInt64 &&& 63)) <<< ((((-r6) - 1) : Int32).toInt64 &&& 63))]) ⟨hx, hb, hml, hown, hts⟩ (c_X8_digits l D cI cJ cZ H.size (g)) (va_cwS 1 hts gX8_wholeOf_X8_digits_102 rfl rfl rfl (by decide +kernel) ⟨Nat.le_of_ble_eq_true rfl, Nat.le_of_ble_eq_true rfl⟩) (sp_preS [.long g] hK (hP.sub (ws' := []) [] rfl) (hD.sub (ws' := []) [] (by decide) rfl)) rfl rfl hl.1 rfl (lv_room (Nat.le_of_ble_eq_true rfl)) dX8_wholeOf_145 ⟨Nat.le_of_ble_eq_true rfl, Nat.le_of_ble_eq_true rfl⟩) (fun r59 u60 H locs hw61 hP hD hS => ?_)
                  have h62 : 0 ≤ (r59 : Int64).toInt ∧ (¬ ((g : Int64).toInt = 0 ∨ (g : Int64).toInt = -1) → 1 ≤ (r59 : Int64).toInt) := hw61
                  have hP : va_P D vwCl [] H := hP
                  have hD : va_D A [] := hD
                  refine W.lcmp hx hb dX8_wholeOf_148 ?_
                  have hj67 : ∀ (z66 : Int32) (H : Heap) (locs : List Loc) (ls : Array Slot), va_P D vwCl [] H → va_D A [] → va_S A s.heap H locs → lv_has ls 13 [(11, .int z57), (9, .long (r50 >>> ((((-r6) - 1) : Int32).toInt64 &&& 63))), (8, .int 0), (7, .int z44), (6, .int z39), (4, .long z16), (3, .int (-r6)), (0, .long g), (2, .int hw9)] → W p l e ({ frames := 2, cells := 0, slots := 0, locals := 51 }) s m (([.long g, .int hw9] : List Value).toArray) below meth c H locs 0 0 (MQ below (va_Ql (fun (r : Int64) (_ : Unit) => True) (sp_B D vwCl A (fun (_ : Unit) => [])) A) ([.long g, .int hw9] : List Value).toArray s 0 0 A) (F0 m 157 ls [.int z66]) := by
                    intro z66 H locs ls  hP hD hS hl
                    refine lv_istore (lv' := [(12, .int z66), (11, .int z57), (9, .long (r50 >>> ((((-r6) - 1) : Int32).toInt64 &&& 63))), (8, .int 0), (7, .int z44), (6, .int z39), (4, .long z16), (3, .int (-r6)), (0, .long g), (2, .int hw9)]) hx hb dX8_wholeOf_157 hl (by decide) rfl (fun ls hl => ?_)
                    refine lv_iload hx hb dX8_wholeOf_159 (lv_at hl 1 rfl) ?_
                    have hj82 : ∀ (z81 : Int32) (H : Heap) (locs : List Loc) (ls : Array Slot), va_P D vwCl [] H → va_D A [] → va_S A s.heap H locs → lv_has ls 13 [(12, .int z66), (11, .int z57), (9, .long (r50 >>> ((((-r6) - 1) : Int32).toInt64 &&& 63))), (8, .int 0), (7, .int z44), (6, .int z39), (4, .long z16), (3, .int (-r6)), (0, .long g), (2, .int hw9)] → W p l e ({ frames := 2, cells := 0, slots := 0, locals := 51 }) s m (([.long g, .int hw9] : List Value).toArray) below meth c H locs 0 0 (MQ below (va_Ql (fun (r : Int64) (_ : Unit) => True) (sp_B D vwCl A (fun (_ : Unit) => [])) A) ([.long g, .int hw9] : List Value).toArray s 0 0 A) (F0 m 185 ls [.int z81]) := by
                      intro z81 H locs ls  hP hD hS hl
                      refine lv_istore (lv' := [(8, .int z81), (12, .int z66), (11, .int z57), (9, .long (r50 >>> ((((-r6) - 1) : Int32).toInt64 &&& 63))), (7, .int z44), (6, .int z39), (4, .long z16), (3, .int (-r6)), (0, .long g), (2, .int hw9)]) hx hb dX8_wholeOf_185 hl (by decide) rfl (fun ls hl => ?_)
                      exact hj85 (z81) _ _ _ (hP.sub [] rfl) (hD.sub [] (by decide) rfl) hS (lv_sub hl [0, 4, 5, 6, 7, 8, 9] rfl)
                    refine lv_if_eq (tgt := 184) hx hb dX8_wholeOf_161 (by decide) (fun c68 => ?_) (fun c68 => ?_)
                    · skip
                      have c68i : (z57 : Int32).toInt = 0 := congrArg Int32.toInt c68
                      refine lv_iconst (v := 0) hx hb dX8_wholeOf_184 (by decide) ?_
                      exact hj82 (0) _ _ _ (hP.sub [] rfl) (hD.sub [] (by decide) rfl) hS (lv_sub hl [0, 1, 2, 3, 4, 5, 6, 7, 8, 9] rfl)
                    · skip
                      have c68i : ¬ (z57 : Int32).toInt = 0 := fun h => c68 (Int32.toInt_inj.mp h)
                      refine lv_iload hx hb dX8_wholeOf_164 (lv_at hl 0 rfl) ?_
                      have hj79 : ∀ (z78 : Int32) (H : Heap) (locs : List Loc) (ls : Array Slot), va_P D vwCl [] H → va_D A [] → va_S A s.heap H locs → lv_has ls 13 [(12, .int z66), (11, .int z57), (9, .long (r50 >>> ((((-r6) - 1) : Int32).toInt64 &&& 63))), (8, .int 0), (7, .int z44), (6, .int z39), (4, .long z16), (3, .int (-r6)), (0, .long g), (2, .int hw9)] → W p l e ({ frames := 2, cells := 0, slots := 0, locals := 51 }) s m (([.long g, .int hw9] : List Value).toArray) below meth c H locs 0 0 (MQ below (va_Ql (fun (r : Int64) (_ : Unit) => True) (sp_B D vwCl A (fun (_ : Unit) => [])) A) ([.long g, .int hw9] : List Value).toArray s 0 0 A) (F0 m 185 ls [.int z78]) := by
                        intro z78 H locs ls  hP hD hS hl
                        exact hj82 (z78) _ _ _ (hP.sub [] rfl) (hD.sub [] (by decide) rfl) hS (lv_sub hl [0, 1, 2, 3, 4, 5, 6, 7, 8, 9] rfl)
                      refine lv_if_ne (tgt := 180) hx hb dX8_wholeOf_166 (by decide) (fun c70 => ?_) (fun c70 => ?_)
                      · skip
                        have c70i : ¬ (z66 : Int32).toInt = 0 := fun h => c70 (Int32.toInt_inj.mp h)
                        refine lv_iconst (v := 1) hx hb dX8_wholeOf_180 (by decide) ?_
                        refine lv_goto (tgt := 185) hx hb dX8_wholeOf_181 (by decide) ?_
                        exact hj79 (1) _ _ _ (hP.sub [] rfl) (hD.sub [] (by decide) rfl) hS (lv_sub hl [0, 1, 2, 3, 4, 5, 6, 7, 8, 9] rfl)
                      · skip
                        have c70i : (z66 : Int32).toInt = 0 := congrArg Int32.toInt c70
                        refine lv_lload hx hb dX8_wholeOf_169 (lv_at hl 6 rfl) ?_
                        refine lv_ldc2 (v := 2) hx hb hown (hts (.constantLong RX8 90 (2)) (oX8_wholeOf_in _ (List.mem_of_getElem? (i := 1) rfl))) dX8_wholeOf_171 ?_
                        refine lv_lrem hx hb dX8_wholeOf_174 (by decide) ?_
                        refine lv_lconst (v := 1) hx hb dX8_wholeOf_175 (by decide) ?_
                        refine W.lcmp hx hb dX8_wholeOf_176 ?_
                        have hj76 : ∀ (z75 : Int32) (H : Heap) (locs : List Loc) (ls : Array Slot), va_P D vwCl [] H → va_D A [] → va_S A s.heap H locs → lv_has ls 13 [(12, .int z66), (11, .int z57), (9, .long (r50 >>> ((((-r6) - 1) : Int32).toInt64 &&& 63))), (8, .int 0), (7, .int z44), (6, .int z39), (4, .long z16), (3, .int (-r6)), (0, .long g), (2, .int hw9)] → W p l e ({ frames := 2, cells := 0, slots := 0, locals := 51 }) s m (([.long g, .int hw9] : List Value).toArray) below meth c H locs 0 0 (MQ below (va_Ql (fun (r : Int64) (_ : Unit) => True) (sp_B D vwCl A (fun (_ : Unit) => [])) A) ([.long g, .int hw9] : List Value).toArray s 0 0 A) (F0 m 185 ls [.int z75]) := by
                          intro z75 H locs ls  hP hD hS hl
                          exact hj79 (z75) _ _ _ (hP.sub [] rfl) (hD.sub [] (by decide) rfl) hS (lv_sub hl [0, 1, 2, 3, 4, 5, 6, 7, 8, 9] rfl)
                        refine lv_if_ne (tgt := 184) hx hb dX8_wholeOf_177 (by decide) (fun c72 => ?_) (fun c72 => ?_)
                        · skip
                          have c72 := fun h => c72 ((lg_cmp_eq _ _).mpr h)
                          have c72i : ¬ ((z16 - z16 / 2 * 2) : Int64).toInt = 1 := fun h => c72 (Int64.toInt_inj.mp h)
                          refine lv_iconst (v := 0) hx hb dX8_wholeOf_184 (by decide) ?_
                          exact hj76 (0) _ _ _ (hP.sub [] rfl) (hD.sub [] (by decide) rfl) hS (lv_sub hl [0, 1, 2, 3, 4, 5, 6, 7, 8, 9] rfl)
                        · skip
                          have c72 := (lg_cmp_eq _ _).mp c72
                          have c72i : ((z16 - z16 / 2 * 2) : Int64).toInt = 1 := congrArg Int64.toInt c72
                          refine lv_iconst (v := 1) hx hb dX8_wholeOf_180 (by decide) ?_
                          refine lv_goto (tgt := 185) hx hb dX8_wholeOf_181 (by decide) ?_
                          exact hj76 (1) _ _ _ (hP.sub [] rfl) (hD.sub [] (by decide) rfl) hS (lv_sub hl [0, 1, 2, 3, 4, 5, 6, 7, 8, 9] rfl)
                  refine lv_if_eq (tgt := 156) hx hb dX8_wholeOf_149 (by decide) (fun c63 => ?_) (fun c63 => ?_)
                  · skip
                    have c63 := (lg_cmp_eq _ _).mp c63
                    have c63i : (((r50 >>> ((((-r6) - 1) : Int32).toInt64 &&& 63)) <<< ((((-r6) - 1) : Int32).toInt64 &&& 63)) : Int64).toInt = (r59 : Int64).toInt := congrArg Int64.toInt c63
                    refine lv_iconst (v := 0) hx hb dX8_wholeOf_156 (by decide) ?_
                    exact hj67 (0) _ _ _ (hP.sub [] rfl) (hD.sub [] (by decide) rfl) hS (lv_sub hl [0, 1, 2, 3, 4, 5, 6, 7, 8] rfl)
                  · skip
                    have c63 := fun h => c63 ((lg_cmp_eq _ _).mpr h)
                    have c63i : ¬ (((r50 >>> ((((-r6) - 1) : Int32).toInt64 &&& 63)) <<< ((((-r6) - 1) : Int32).toInt64 &&& 63)) : Int64).toInt = (r59 : Int64).toInt := fun h => c63 (Int64.toInt_inj.mp h)
                    refine lv_iconst (v := 1) hx hb dX8_wholeOf_152 (by decide) ?_
                    refine lv_goto (tgt := 157) hx hb dX8_wholeOf_153 (by decide) ?_
                    exact hj67 (1) _ _ _ (hP.sub [] rfl) (hD.sub [] (by decide) rfl) hS (lv_sub hl [0, 1, 2, 3, 4, 5, 6, 7, 8] rfl)
                refine lv_if_ne (tgt := 135) hx hb dX8_wholeOf_128 (by decide) (fun c54 => ?_) (fun c54 => ?_)
                · skip
                  have c54 := fun h => c54 ((lg_cmp_eq _ _).mpr h)
                  have c54i : ¬ (((r50 >>> ((((-r6) - 1) : Int32).toInt64 &&& 63)) - (r50 >>> ((((-r6) - 1) : Int32).toInt64 &&& 63)) / 2 * 2) : Int64).toInt = 1 := fun h => c54 (Int64.toInt_inj.mp h)
                  refine lv_iconst (v := 0) hx hb dX8_wholeOf_135 (by decide) ?_
                  exact hj58 (0) _ _ _ (hP.sub [] rfl) (hD.sub [] (by decide) rfl) hS (lv_sub hl [0, 1, 2, 3, 4, 5, 6, 7] rfl)
                · skip
                  have c54 := (lg_cmp_eq _ _).mp c54
                  have c54i : (((r50 >>> ((((-r6) - 1) : Int32).toInt64 &&& 63)) - (r50 >>> ((((-r6) - 1) : Int32).toInt64 &&& 63)) / 2 * 2) : Int64).toInt = 1 := congrArg Int64.toInt c54
                  refine lv_iconst (v := 1) hx hb dX8_wholeOf_131 (by decide) ?_
                  refine lv_goto (tgt := 136) hx hb dX8_wholeOf_132 (by decide) ?_
                  exact hj58 (1) _ _ _ (hP.sub [] rfl) (hD.sub [] (by decide) rfl) hS (lv_sub hl [0, 1, 2, 3, 4, 5, 6, 7] rfl)
          refine lv_if_ge (tgt := 93) hx hb dX8_wholeOf_86 (by decide) (fun c41 => ?_) (fun c41 => ?_)
          · skip
            have c41 := (lg_cmp_ge _ _).mp c41
            have c41i : 0 ≤ (g : Int64).toInt := Int64.le_iff_toInt_le.mp c41
            refine lv_iconst (v := 0) hx hb dX8_wholeOf_93 (by decide) ?_
            exact hj45 (0) _ _ _ (hP.sub [] rfl) (hD.sub [] (by decide) rfl) hS (lv_sub hl [0, 1, 2, 3, 4] rfl)
          · skip
            have c41 := fun h => c41 ((lg_cmp_ge _ _).mpr h)
            have c41i : ¬ 0 ≤ (g : Int64).toInt := fun h => c41 (Int64.le_iff_toInt_le.mpr h)
            refine lv_iconst (v := 1) hx hb dX8_wholeOf_89 (by decide) ?_
            refine lv_goto (tgt := 94) hx hb dX8_wholeOf_90 (by decide) ?_
            exact hj45 (1) _ _ _ (hP.sub [] rfl) (hD.sub [] (by decide) rfl) hS (lv_sub hl [0, 1, 2, 3, 4] rfl)
        refine lv_icmp_le (tgt := 64) hx hb dX8_wholeOf_44 (by decide) (fun c18 => ?_) (fun c18 => ?_)
        · skip
          have c18i : ((-r6) : Int32).toInt ≤ 40 := Int32.le_iff_toInt_le.mp c18
          refine lv_lload hx hb dX8_wholeOf_64 (lv_at hl 0 rfl) ?_
          refine lv_iload_n hx hb dX8_wholeOf_66 rfl (lv_at hl 1 rfl) ?_
          refine lv_lshl (v := _) hx hb dX8_wholeOf_67 rfl ?_
          refine lv_lload_n hx hb dX8_wholeOf_68 rfl (lv_at hl 2 rfl) ?_
          refine sp_callj (wr := []) (wc := []) hP hD hS hA [] [] rfl rfl (by decide) (by decide) (va_runS (As := [.long g]) (rest := [.long (z16 <<< (((-r6) : Int32).toInt64 &&& 63))]) ⟨hx, hb, hml, hown, hts⟩ (c_X8_digits l D cI cJ cZ H.size (g)) (va_cwS 1 hts gX8_wholeOf_X8_digits_102 rfl rfl rfl (by decide +kernel) ⟨Nat.le_of_ble_eq_true rfl, Nat.le_of_ble_eq_true rfl⟩) (sp_preS [.long g] hK (hP.sub (ws' := []) [] rfl) (hD.sub (ws' := []) [] (by decide) rfl)) rfl rfl hl.1 rfl (lv_room (Nat.le_of_ble_eq_true rfl)) dX8_wholeOf_69 ⟨Nat.le_of_ble_eq_true rfl, Nat.le_of_ble_eq_true rfl⟩) (fun r19 u20 H locs hw21 hP hD hS => ?_)
          have h22 : 0 ≤ (r19 : Int64).toInt ∧ (¬ ((g : Int64).toInt = 0 ∨ (g : Int64).toInt = -1) → 1 ≤ (r19 : Int64).toInt) := hw21
          have hP : va_P D vwCl [] H := hP
          have hD : va_D A [] := hD
          refine W.lcmp hx hb dX8_wholeOf_72 ?_
          have hj27 : ∀ (z26 : Int32) (H : Heap) (locs : List Loc) (ls : Array Slot), va_P D vwCl [] H → va_D A [] → va_S A s.heap H locs → lv_has ls 13 [(4, .long z16), (3, .int (-r6)), (0, .long g), (2, .int hw9)] → W p l e ({ frames := 2, cells := 0, slots := 0, locals := 51 }) s m (([.long g, .int hw9] : List Value).toArray) below meth c H locs 0 0 (MQ below (va_Ql (fun (r : Int64) (_ : Unit) => True) (sp_B D vwCl A (fun (_ : Unit) => [])) A) ([.long g, .int hw9] : List Value).toArray s 0 0 A) (F0 m 81 ls [.int z26]) := by
            intro z26 H locs ls  hP hD hS hl
            exact hj40 (z26) _ _ _ (hP.sub [] rfl) (hD.sub [] (by decide) rfl) hS (lv_sub hl [0, 1, 2, 3] rfl)
          refine lv_if_ne (tgt := 80) hx hb dX8_wholeOf_73 (by decide) (fun c23 => ?_) (fun c23 => ?_)
          · skip
            have c23 := fun h => c23 ((lg_cmp_eq _ _).mpr h)
            have c23i : ¬ ((z16 <<< (((-r6) : Int32).toInt64 &&& 63)) : Int64).toInt = (r19 : Int64).toInt := fun h => c23 (Int64.toInt_inj.mp h)
            refine lv_iconst (v := 0) hx hb dX8_wholeOf_80 (by decide) ?_
            exact hj27 (0) _ _ _ (hP.sub [] rfl) (hD.sub [] (by decide) rfl) hS (lv_sub hl [0, 1, 2, 3] rfl)
          · skip
            have c23 := (lg_cmp_eq _ _).mp c23
            have c23i : ((z16 <<< (((-r6) : Int32).toInt64 &&& 63)) : Int64).toInt = (r19 : Int64).toInt := congrArg Int64.toInt c23
            refine lv_iconst (v := 1) hx hb dX8_wholeOf_76 (by decide) ?_
            refine lv_goto (tgt := 81) hx hb dX8_wholeOf_77 (by decide) ?_
            exact hj27 (1) _ _ _ (hP.sub [] rfl) (hD.sub [] (by decide) rfl) hS (lv_sub hl [0, 1, 2, 3] rfl)
        · skip
          have c18i : ¬ ((-r6) : Int32).toInt ≤ 40 := fun h => c18 (Int32.le_iff_toInt_le.mpr h)
          refine lv_lload_n hx hb dX8_wholeOf_47 rfl (lv_at hl 2 rfl) ?_
          refine sp_callj (wr := []) (wc := []) hP hD hS hA [] [] rfl rfl (by decide) (by decide) (va_runS (As := [.long g]) (rest := []) ⟨hx, hb, hml, hown, hts⟩ (c_X8_digits l D cI cJ cZ H.size (g)) (va_cwS 1 hts gX8_wholeOf_X8_digits_102 rfl rfl rfl (by decide +kernel) ⟨Nat.le_of_ble_eq_true rfl, Nat.le_of_ble_eq_true rfl⟩) (sp_preS [.long g] hK (hP.sub (ws' := []) [] rfl) (hD.sub (ws' := []) [] (by decide) rfl)) rfl rfl hl.1 rfl (lv_room (Nat.le_of_ble_eq_true rfl)) dX8_wholeOf_48 ⟨Nat.le_of_ble_eq_true rfl, Nat.le_of_ble_eq_true rfl⟩) (fun r29 u30 H locs hw31 hP hD hS => ?_)
          have h32 : 0 ≤ (r29 : Int64).toInt ∧ (¬ ((g : Int64).toInt = 0 ∨ (g : Int64).toInt = -1) → 1 ≤ (r29 : Int64).toInt) := hw31
          have hP : va_P D vwCl [] H := hP
          have hD : va_D A [] := hD
          refine lv_lconst (v := 0) hx hb dX8_wholeOf_51 (by decide) ?_
          refine W.lcmp hx hb dX8_wholeOf_52 ?_
          have hj37 : ∀ (z36 : Int32) (H : Heap) (locs : List Loc) (ls : Array Slot), va_P D vwCl [] H → va_D A [] → va_S A s.heap H locs → lv_has ls 13 [(4, .long z16), (3, .int (-r6)), (0, .long g), (2, .int hw9)] → W p l e ({ frames := 2, cells := 0, slots := 0, locals := 51 }) s m (([.long g, .int hw9] : List Value).toArray) below meth c H locs 0 0 (MQ below (va_Ql (fun (r : Int64) (_ : Unit) => True) (sp_B D vwCl A (fun (_ : Unit) => [])) A) ([.long g, .int hw9] : List Value).toArray s 0 0 A) (F0 m 81 ls [.int z36]) := by
            intro z36 H locs ls  hP hD hS hl
            exact hj40 (z36) _ _ _ (hP.sub [] rfl) (hD.sub [] (by decide) rfl) hS (lv_sub hl [0, 1, 2, 3] rfl)
          refine lv_if_ne (tgt := 60) hx hb dX8_wholeOf_53 (by decide) (fun c33 => ?_) (fun c33 => ?_)
          · skip
            have c33 := fun h => c33 ((lg_cmp_eq _ _).mpr h)
            have c33i : ¬ (r29 : Int64).toInt = 0 := fun h => c33 (Int64.toInt_inj.mp h)
            refine lv_iconst (v := 0) hx hb dX8_wholeOf_60 (by decide) ?_
            refine lv_goto (tgt := 81) hx hb dX8_wholeOf_61 (by decide) ?_
            exact hj37 (0) _ _ _ (hP.sub [] rfl) (hD.sub [] (by decide) rfl) hS (lv_sub hl [0, 1, 2, 3] rfl)
          · skip
            have c33 := (lg_cmp_eq _ _).mp c33
            have c33i : (r29 : Int64).toInt = 0 := congrArg Int64.toInt c33
            refine lv_iconst (v := 1) hx hb dX8_wholeOf_56 (by decide) ?_
            refine lv_goto (tgt := 81) hx hb dX8_wholeOf_57 (by decide) ?_
            exact hj37 (1) _ _ _ (hP.sub [] rfl) (hD.sub [] (by decide) rfl) hS (lv_sub hl [0, 1, 2, 3] rfl)
      refine lv_icmp_le (tgt := 33) hx hb dX8_wholeOf_26 (by decide) (fun c9 => ?_) (fun c9 => ?_)
      · skip
        have c9i : ((-r6) : Int32).toInt ≤ 40 := Int32.le_iff_toInt_le.mp c9
        refine lv_lload_n hx hb dX8_wholeOf_33 rfl (lv_at hl 1 rfl) ?_
        refine sp_callj (wr := []) (wc := []) hP hD hS hA [] [] rfl rfl (by decide) (by decide) (va_runS (As := [.long g]) (rest := []) ⟨hx, hb, hml, hown, hts⟩ (c_X8_digits l D cI cJ cZ H.size (g)) (va_cwS 1 hts gX8_wholeOf_X8_digits_102 rfl rfl rfl (by decide +kernel) ⟨Nat.le_of_ble_eq_true rfl, Nat.le_of_ble_eq_true rfl⟩) (sp_preS [.long g] hK (hP.sub (ws' := []) [] rfl) (hD.sub (ws' := []) [] (by decide) rfl)) rfl rfl hl.1 rfl (lv_room (Nat.le_of_ble_eq_true rfl)) dX8_wholeOf_34 ⟨Nat.le_of_ble_eq_true rfl, Nat.le_of_ble_eq_true rfl⟩) (fun r10 u11 H locs hw12 hP hD hS => ?_)
        have h13 : 0 ≤ (r10 : Int64).toInt ∧ (¬ ((g : Int64).toInt = 0 ∨ (g : Int64).toInt = -1) → 1 ≤ (r10 : Int64).toInt) := hw12
        have hP : va_P D vwCl [] H := hP
        have hD : va_D A [] := hD
        refine lv_iload_n hx hb dX8_wholeOf_37 rfl (lv_at hl 0 rfl) ?_
        refine lv_lshr (v := _) hx hb dX8_wholeOf_38 rfl ?_
        exact hj17 ((r10 >>> (((-r6) : Int32).toInt64 &&& 63))) _ _ _ (hP.sub [] rfl) (hD.sub [] (by decide) rfl) hS (lv_sub hl [0, 1, 2] rfl)
      · skip
        have c9i : ¬ ((-r6) : Int32).toInt ≤ 40 := fun h => c9 (Int32.le_iff_toInt_le.mpr h)
        refine lv_lconst (v := 0) hx hb dX8_wholeOf_29 (by decide) ?_
        refine lv_goto (tgt := 39) hx hb dX8_wholeOf_30 (by decide) ?_
        exact hj17 (0) _ _ _ (hP.sub [] rfl) (hD.sub [] (by decide) rfl) hS (lv_sub hl [0, 1, 2] rfl)
    · skip
      have c5i : ¬ (r2 : Int32).toInt < 0 := fun h => c5 (Int32.lt_iff_toInt_lt.mpr h)
      refine lv_lload_n hx hb dX8_wholeOf_15 rfl (lv_at hl 0 rfl) ?_
      refine W.widen (k := 0) (n := 0) (by decide) (by decide) ?_
      exact sp_lret (u := ()) hx hb hr hlocks hS trivial (hP.sub [] rfl) (hD.sub [] (by decide) rfl) dX8_wholeOf_16
def oX8_intOf : List Cond := [.constantLong RX8 82 (9000000000), .constantLong RX8 118 (4294967296), .constantLong RX8 120 (2147483647), .constantLong RX8 112 (2147483648)]
def wpX8_intOf : List Cond := .code yX8_intOf cX8_intOf 12 (some .long) :: (oX8_intOf ++ ((va_wsS RX8 114 yX8_wholeOf wpX8_wholeOf) ++ ((va_wsS RX8 102 yX8_digits wpX8_digits) ++ ((va_wsS RX8 98 yX8_power wpX8_power) ++ ((va_wsS RX8 94 yX8_isInfinite wpX8_isInfinite) ++ ((va_wsS RX8 105 yX8_pack wpX8_pack) ++ ([] : List Cond)))))))
theorem oX8_intOf_in : ∀ w ∈ oX8_intOf, w ∈ wpX8_intOf := fun w h => List.mem_cons_of_mem _ (List.mem_append_left _ h)
theorem gwoX8_intOf : ∀ w ∈ oX8_intOf, goodWord w = true := by decide +kernel
theorem gwX8_intOf : ∀ w ∈ wpX8_intOf, goodWord w = true := by
  unfold wpX8_intOf
  exact List.forall_mem_cons.mpr ⟨rfl, List.forall_mem_append.mpr ⟨gwoX8_intOf, List.forall_mem_append.mpr ⟨(sp_gS gwX8_wholeOf), List.forall_mem_append.mpr ⟨(sp_gS gwX8_digits), List.forall_mem_append.mpr ⟨(sp_gS gwX8_power), List.forall_mem_append.mpr ⟨(sp_gS gwX8_isInfinite), List.forall_mem_append.mpr ⟨(sp_gS gwX8_pack), fun _ h => absurd h List.not_mem_nil⟩⟩⟩⟩⟩⟩⟩
set_option maxRecDepth 100000 in
theorem toX8_intOf : ∀ w ∈ oX8_intOf, w ∈ lw_tbl := by
  unfold oX8_intOf
  exact List.forall_mem_cons.mpr ⟨(List.mem_of_getElem? (i := 804) (by decide +kernel)), List.forall_mem_cons.mpr ⟨(List.mem_of_getElem? (i := 870) (by decide +kernel)), List.forall_mem_cons.mpr ⟨(List.mem_of_getElem? (i := 871) (by decide +kernel)), List.forall_mem_cons.mpr ⟨(List.mem_of_getElem? (i := 818) (by decide +kernel)), fun _ h => absurd h List.not_mem_nil⟩⟩⟩⟩
set_option maxRecDepth 100000 in
theorem tX8_intOf : ∀ w ∈ wpX8_intOf, w ∈ lw_tbl := by
  unfold wpX8_intOf
  exact List.forall_mem_cons.mpr ⟨(List.mem_of_getElem? (i := 869) (by rfl)), List.forall_mem_append.mpr ⟨toX8_intOf, List.forall_mem_append.mpr ⟨(sp_tS (List.mem_of_getElem? (i := 864) (by decide +kernel)) (List.mem_of_getElem? (i := 865) (by decide +kernel)) (List.mem_of_getElem? (i := 45) (by decide +kernel)) tX8_wholeOf), List.forall_mem_append.mpr ⟨(sp_tS (List.mem_of_getElem? (i := 844) (by decide +kernel)) (List.mem_of_getElem? (i := 845) (by decide +kernel)) (List.mem_of_getElem? (i := 45) (by decide +kernel)) tX8_digits), List.forall_mem_append.mpr ⟨(sp_tS (List.mem_of_getElem? (i := 840) (by decide +kernel)) (List.mem_of_getElem? (i := 841) (by decide +kernel)) (List.mem_of_getElem? (i := 45) (by decide +kernel)) tX8_power), List.forall_mem_append.mpr ⟨(sp_tS (List.mem_of_getElem? (i := 834) (by decide +kernel)) (List.mem_of_getElem? (i := 835) (by decide +kernel)) (List.mem_of_getElem? (i := 45) (by decide +kernel)) tX8_isInfinite), List.forall_mem_append.mpr ⟨(sp_tS (List.mem_of_getElem? (i := 847) (by decide +kernel)) (List.mem_of_getElem? (i := 848) (by decide +kernel)) (List.mem_of_getElem? (i := 45) (by decide +kernel)) tX8_pack), fun _ h => absurd h List.not_mem_nil⟩⟩⟩⟩⟩⟩⟩
theorem gX8_intOf_X8_wholeOf_114 : GoodIn wpX8_intOf (va_wsS RX8 114 yX8_wholeOf wpX8_wholeOf) := fun w h => ⟨List.mem_cons_of_mem _ (List.mem_append_right _ (List.mem_append_left _ h)), good_of_word (sp_gS gwX8_wholeOf w h)⟩
theorem gX8_intOf_X8_digits_102 : GoodIn wpX8_intOf (va_wsS RX8 102 yX8_digits wpX8_digits) := fun w h => ⟨List.mem_cons_of_mem _ (List.mem_append_right _ (List.mem_append_right _ (List.mem_append_left _ h))), good_of_word (sp_gS gwX8_digits w h)⟩
theorem gX8_intOf_X8_power_98 : GoodIn wpX8_intOf (va_wsS RX8 98 yX8_power wpX8_power) := fun w h => ⟨List.mem_cons_of_mem _ (List.mem_append_right _ (List.mem_append_right _ (List.mem_append_right _ (List.mem_append_left _ h)))), good_of_word (sp_gS gwX8_power w h)⟩
theorem gX8_intOf_X8_isInfinite_94 : GoodIn wpX8_intOf (va_wsS RX8 94 yX8_isInfinite wpX8_isInfinite) := fun w h => ⟨List.mem_cons_of_mem _ (List.mem_append_right _ (List.mem_append_right _ (List.mem_append_right _ (List.mem_append_right _ (List.mem_append_left _ h))))), good_of_word (sp_gS gwX8_isInfinite w h)⟩
theorem gX8_intOf_X8_pack_105 : GoodIn wpX8_intOf (va_wsS RX8 105 yX8_pack wpX8_pack) := fun w h => ⟨List.mem_cons_of_mem _ (List.mem_append_right _ (List.mem_append_right _ (List.mem_append_right _ (List.mem_append_right _ (List.mem_append_right _ (List.mem_append_left _ h)))))), good_of_word (sp_gS gwX8_pack w h)⟩
set_option maxHeartbeats 4000000 in
set_option maxRecDepth 100000 in
theorem c_X8_intOf (l : Launch) (D : va_G) (cI cJ cZ : ClassId) (sz : Nat) (g : Int64) : Met l yX8_intOf wpX8_intOf ({ frames := 3, cells := 0, slots := 0, locals := 83 }) (va_Pc ([.long g] : List Value) (sp_pre D vwCl (sp_ty cI cJ cZ) [] sz)) (va_Ql (fun (r : Int64) (_ : Unit) => True) (sp_B D vwCl (va_A [] sz) (fun (_ : Unit) => [])) (va_A [] sz)) 0 0 (va_A [] sz) := by
  refine sp_ofW (Qc := fun A => va_Ql (fun (r : Int64) (_ : Unit) => True) (sp_B D vwCl A (fun (_ : Unit) => [])) A) (by decide) rfl (Nat.le_of_ble_eq_true rfl) (fun p e s m below meth c A ls H locs C0 hA hS hP hK hD hl => ?_)
  obtain ⟨hx, hb, hr, hts, hown, hlocks, hml, hin⟩ := id C0
  have hown : s.vm.findClass RX8 = some m.cls := hown
  have hl : lv_has ls 12 [(0, .long g)] := hl
  have hK : va_K D vwCl [(cI, .int), (cJ, .long), (cZ, .boolean)] s := hK
  refine lv_lload_n hx hb dX8_intOf_0 rfl (lv_at hl 0 rfl) ?_
  refine lv_ldc2 (v := 9000000000) hx hb hown (hts (.constantLong RX8 82 (9000000000)) (oX8_intOf_in _ (List.mem_of_getElem? (i := 0) rfl))) dX8_intOf_1 ?_
  refine W.lcmp hx hb dX8_intOf_4 ?_
  refine lv_if_ne (tgt := 10) hx hb dX8_intOf_5 (by decide) (fun c1 => ?_) (fun c1 => ?_)
  · skip
    have c1 := fun h => c1 ((lg_cmp_eq _ _).mpr h)
    have c1i : ¬ (g : Int64).toInt = 9000000000 := fun h => c1 (Int64.toInt_inj.mp h)
    refine lv_lload_n hx hb dX8_intOf_10 rfl (lv_at hl 0 rfl) ?_
    refine lv_iconst (v := 3) hx hb dX8_intOf_11 (by decide) ?_
    refine sp_callj (wr := []) (wc := []) hP hD hS hA [] [] rfl rfl (by decide) (by decide) (va_runS (As := [.long g, .int 3]) (rest := []) ⟨hx, hb, hml, hown, hts⟩ (c_X8_wholeOf l D cI cJ cZ H.size (g) (3)) (va_cwS 2 hts gX8_intOf_X8_wholeOf_114 rfl rfl rfl (by decide +kernel) ⟨Nat.le_of_ble_eq_true rfl, Nat.le_of_ble_eq_true rfl⟩) (sp_preS [.long g, .int 3] hK (hP.sub (ws' := []) [] rfl) (hD.sub (ws' := []) [] (by decide) rfl)) rfl rfl hl.1 rfl (lv_room (Nat.le_of_ble_eq_true rfl)) dX8_intOf_12 ⟨Nat.le_of_ble_eq_true rfl, Nat.le_of_ble_eq_true rfl⟩) (fun r2 u3 H locs hw4 hP hD hS => ?_)
    have hP : va_P D vwCl [] H := hP
    have hD : va_D A [] := hD
    refine lv_lstore_n (lv' := [(2, .long r2), (0, .long g)]) hx hb dX8_intOf_15 rfl hl (by decide) rfl (fun ls hl => ?_)
    refine lv_lload_n hx hb dX8_intOf_16 rfl (lv_at hl 0 rfl) ?_
    refine sp_callj (wr := []) (wc := []) hP hD hS hA [] [] rfl rfl (by decide) (by decide) (va_runS (As := [.long r2]) (rest := []) ⟨hx, hb, hml, hown, hts⟩ (c_X8_digits l D cI cJ cZ H.size (r2)) (va_cwS 1 hts gX8_intOf_X8_digits_102 rfl rfl rfl (by decide +kernel) ⟨Nat.le_of_ble_eq_true rfl, Nat.le_of_ble_eq_true rfl⟩) (sp_preS [.long r2] hK (hP.sub (ws' := []) [] rfl) (hD.sub (ws' := []) [] (by decide) rfl)) rfl rfl hl.1 rfl (lv_room (Nat.le_of_ble_eq_true rfl)) dX8_intOf_17 ⟨Nat.le_of_ble_eq_true rfl, Nat.le_of_ble_eq_true rfl⟩) (fun r5 u6 H locs hw7 hP hD hS => ?_)
    have h8 : 0 ≤ (r5 : Int64).toInt ∧ (¬ ((r2 : Int64).toInt = 0 ∨ (r2 : Int64).toInt = -1) → 1 ≤ (r5 : Int64).toInt) := hw7
    have hP : va_P D vwCl [] H := hP
    have hD : va_D A [] := hD
    refine lv_lstore (lv' := [(4, .long r5), (2, .long r2), (0, .long g)]) hx hb dX8_intOf_20 hl (by decide) rfl (fun ls hl => ?_)
    refine lv_lload_n hx hb dX8_intOf_22 rfl (lv_at hl 1 rfl) ?_
    refine sp_calli (wr := []) (wc := []) hP hD hS hA [] [] rfl rfl (by decide) (by decide) (va_runS (As := [.long r2]) (rest := []) ⟨hx, hb, hml, hown, hts⟩ (c_X8_power l D cI cJ cZ H.size (r2)) (va_cwS 1 hts gX8_intOf_X8_power_98 rfl rfl rfl (by decide +kernel) ⟨Nat.le_of_ble_eq_true rfl, Nat.le_of_ble_eq_true rfl⟩) (sp_preS [.long r2] hK (hP.sub (ws' := []) [] rfl) (hD.sub (ws' := []) [] (by decide) rfl)) rfl rfl hl.1 rfl (lv_room (Nat.le_of_ble_eq_true rfl)) dX8_intOf_23 ⟨Nat.le_of_ble_eq_true rfl, Nat.le_of_ble_eq_true rfl⟩) (fun r9 u10 H locs hw11 hP hD hS => ?_)
    have hP : va_P D vwCl [] H := hP
    have hD : va_D A [] := hD
    refine lv_istore (lv' := [(6, .int r9), (4, .long r5), (2, .long r2), (0, .long g)]) hx hb dX8_intOf_26 hl (by decide) rfl (fun ls hl => ?_)
    refine lv_lload_n hx hb dX8_intOf_28 rfl (lv_at hl 2 rfl) ?_
    refine sp_calli (wr := []) (wc := []) hP hD hS hA [] [] rfl rfl (by decide) (by decide) (va_runS (As := [.long r2]) (rest := []) ⟨hx, hb, hml, hown, hts⟩ (c_X8_isInfinite l D cI cJ cZ H.size (r2)) (va_cwS 1 hts gX8_intOf_X8_isInfinite_94 rfl rfl rfl (by decide +kernel) ⟨Nat.le_of_ble_eq_true rfl, Nat.le_of_ble_eq_true rfl⟩) (sp_preS [.long r2] hK (hP.sub (ws' := []) [] rfl) (hD.sub (ws' := []) [] (by decide) rfl)) rfl rfl hl.1 rfl (lv_room (Nat.le_of_ble_eq_true rfl)) dX8_intOf_29 ⟨Nat.le_of_ble_eq_true rfl, Nat.le_of_ble_eq_true rfl⟩) (fun r12 u13 H locs hw14 hP hD hS => ?_)
    have hP : va_P D vwCl [] H := hP
    have hD : va_D A [] := hD
    have hj24 : ∀ (z23 : Int32) (H : Heap) (locs : List Loc) (ls : Array Slot), va_P D vwCl [] H → va_D A [] → va_S A s.heap H locs → lv_has ls 12 [(6, .int r9), (4, .long r5), (2, .long r2), (0, .long g)] → W p l e ({ frames := 3, cells := 0, slots := 0, locals := 83 }) s m (([.long g] : List Value).toArray) below meth c H locs 0 0 (MQ below (va_Ql (fun (r : Int64) (_ : Unit) => True) (sp_B D vwCl A (fun (_ : Unit) => [])) A) ([.long g] : List Value).toArray s 0 0 A) (F0 m 47 ls [.int z23]) := by
      intro z23 H locs ls  hP hD hS hl
      refine lv_istore (lv' := [(7, .int z23), (6, .int r9), (4, .long r5), (2, .long r2), (0, .long g)]) hx hb dX8_intOf_47 hl (by decide) rfl (fun ls hl => ?_)
      refine lv_iload hx hb dX8_intOf_49 (lv_at hl 0 rfl) ?_
      have hj39 : ∀ (z38 : Int64) (H : Heap) (locs : List Loc) (ls : Array Slot), va_P D vwCl [] H → va_D A [] → va_S A s.heap H locs → lv_has ls 12 [(7, .int z23), (6, .int r9), (4, .long r5), (2, .long r2), (0, .long g)] → W p l e ({ frames := 3, cells := 0, slots := 0, locals := 83 }) s m (([.long g] : List Value).toArray) below meth c H locs 0 0 (MQ below (va_Ql (fun (r : Int64) (_ : Unit) => True) (sp_B D vwCl A (fun (_ : Unit) => [])) A) ([.long g] : List Value).toArray s 0 0 A) (F0 m 91 ls [.long z38]) := by
        intro z38 H locs ls  hP hD hS hl
        refine lv_lstore (lv' := [(8, .long z38), (7, .int z23), (6, .int r9), (4, .long r5), (2, .long r2), (0, .long g)]) hx hb dX8_intOf_91 hl (by decide) rfl (fun ls hl => ?_)
        refine lv_lload_n hx hb dX8_intOf_93 rfl (lv_at hl 5 rfl) ?_
        refine lv_lconst (v := 0) hx hb dX8_intOf_94 (by decide) ?_
        refine W.lcmp hx hb dX8_intOf_95 ?_
        have hj44 : ∀ (z43 : Int64) (H : Heap) (locs : List Loc) (ls : Array Slot), va_P D vwCl [] H → va_D A [] → va_S A s.heap H locs → lv_has ls 12 [(8, .long z38), (7, .int z23), (6, .int r9), (4, .long r5), (2, .long r2), (0, .long g)] → W p l e ({ frames := 3, cells := 0, slots := 0, locals := 83 }) s m (([.long g] : List Value).toArray) below meth c H locs 0 0 (MQ below (va_Ql (fun (r : Int64) (_ : Unit) => True) (sp_B D vwCl A (fun (_ : Unit) => [])) A) ([.long g] : List Value).toArray s 0 0 A) (F0 m 108 ls [.long z43]) := by
          intro z43 H locs ls  hP hD hS hl
          refine lv_lstore (lv' := [(10, .long z43), (8, .long z38), (7, .int z23), (6, .int r9), (4, .long r5), (2, .long r2), (0, .long g)]) hx hb dX8_intOf_108 hl (by decide) rfl (fun ls hl => ?_)
          refine lv_lload hx hb dX8_intOf_110 (lv_at hl 1 rfl) ?_
          refine lv_lload hx hb dX8_intOf_112 (lv_at hl 0 rfl) ?_
          refine W.lcmp hx hb dX8_intOf_114 ?_
          have hj49 : ∀ (z48 : Int64) (H : Heap) (locs : List Loc) (ls : Array Slot), va_P D vwCl [] H → va_D A [] → va_S A s.heap H locs → lv_has ls 12 [(10, .long z43), (8, .long z38), (7, .int z23), (6, .int r9), (4, .long r5), (2, .long r2), (0, .long g)] → W p l e ({ frames := 3, cells := 0, slots := 0, locals := 83 }) s m (([.long g] : List Value).toArray) below meth c H locs 0 0 (MQ below (va_Ql (fun (r : Int64) (_ : Unit) => True) (sp_B D vwCl A (fun (_ : Unit) => [])) A) ([.long g] : List Value).toArray s 0 0 A) (F0 m 125 ls [.long z48]) := by
            intro z48 H locs ls  hP hD hS hl
            refine lv_lstore (lv' := [(8, .long z48), (10, .long z43), (7, .int z23), (6, .int r9), (4, .long r5), (2, .long r2), (0, .long g)]) hx hb dX8_intOf_125 hl (by decide) rfl (fun ls hl => ?_)
            refine lv_lload hx hb dX8_intOf_127 (lv_at hl 0 rfl) ?_
            refine lv_lconst (v := 0) hx hb dX8_intOf_129 (by decide) ?_
            refine W.lcmp hx hb dX8_intOf_130 ?_
            have hj62 : ∀ (z61 : Int64) (H : Heap) (locs : List Loc) (ls : Array Slot), va_P D vwCl [] H → va_D A [] → va_S A s.heap H locs → lv_has ls 12 [(8, .long z48), (10, .long z43), (7, .int z23), (6, .int r9), (4, .long r5), (2, .long r2), (0, .long g)] → W p l e ({ frames := 3, cells := 0, slots := 0, locals := 83 }) s m (([.long g] : List Value).toArray) below meth c H locs 0 0 (MQ below (va_Ql (fun (r : Int64) (_ : Unit) => True) (sp_B D vwCl A (fun (_ : Unit) => [])) A) ([.long g] : List Value).toArray s 0 0 A) (F0 m 156 ls [.long z61]) := by
              intro z61 H locs ls  hP hD hS hl
              refine W.widen (k := 0) (n := 0) (by decide) (by decide) ?_
              exact sp_lret (u := ()) hx hb hr hlocks hS trivial (hP.sub [] rfl) (hD.sub [] (by decide) rfl) dX8_intOf_156
            refine lv_if_ne (tgt := 138) hx hb dX8_intOf_131 (by decide) (fun c50 => ?_) (fun c50 => ?_)
            · skip
              have c50 := fun h => c50 ((lg_cmp_eq _ _).mpr h)
              have c50i : ¬ (z48 : Int64).toInt = 0 := fun h => c50 (Int64.toInt_inj.mp h)
              refine lv_lload_n hx hb dX8_intOf_138 rfl (lv_at hl 6 rfl) ?_
              refine lv_lconst (v := 0) hx hb dX8_intOf_139 (by decide) ?_
              refine W.lcmp hx hb dX8_intOf_140 ?_
              have hj55 : ∀ (z54 : Int32) (H : Heap) (locs : List Loc) (ls : Array Slot), va_P D vwCl [] H → va_D A [] → va_S A s.heap H locs → lv_has ls 12 [(8, .long z48), (10, .long z43), (7, .int z23), (6, .int r9), (4, .long r5), (2, .long r2), (0, .long g)] → W p l e ({ frames := 3, cells := 0, slots := 0, locals := 83 }) s m (([.long g] : List Value).toArray) below meth c H locs 0 0 (MQ below (va_Ql (fun (r : Int64) (_ : Unit) => True) (sp_B D vwCl A (fun (_ : Unit) => [])) A) ([.long g] : List Value).toArray s 0 0 A) (F0 m 149 ls [.int z54]) := by
                intro z54 H locs ls  hP hD hS hl
                refine lv_lload hx hb dX8_intOf_149 (lv_at hl 0 rfl) ?_
                refine lv_iconst (v := 0) hx hb dX8_intOf_151 (by decide) ?_
                refine lv_iconst (v := 0) hx hb dX8_intOf_152 (by decide) ?_
                refine sp_callj (wr := []) (wc := []) hP hD hS hA [] [] rfl rfl (by decide) (by decide) (va_runS (As := [.int z54, .long z48, .int 0, .int 0]) (rest := []) ⟨hx, hb, hml, hown, hts⟩ (c_X8_pack l D cI cJ cZ H.size (z54) (z48) (0) (0)) (va_cwS 4 hts gX8_intOf_X8_pack_105 rfl rfl rfl (by decide +kernel) ⟨Nat.le_of_ble_eq_true rfl, Nat.le_of_ble_eq_true rfl⟩) (sp_preS [.int z54, .long z48, .int 0, .int 0] hK (hP.sub (ws' := []) [] rfl) (hD.sub (ws' := []) [] (by decide) rfl)) rfl rfl hl.1 rfl (lv_room (Nat.le_of_ble_eq_true rfl)) dX8_intOf_153 ⟨Nat.le_of_ble_eq_true rfl, Nat.le_of_ble_eq_true rfl⟩) (fun r56 u57 H locs hw58 hP hD hS => ?_)
                have hP : va_P D vwCl [] H := hP
                have hD : va_D A [] := hD
                exact hj62 (r56) _ _ _ (hP.sub [] rfl) (hD.sub [] (by decide) rfl) hS (lv_sub hl [0, 1, 2, 3, 4, 5, 6] rfl)
              refine lv_if_ge (tgt := 148) hx hb dX8_intOf_141 (by decide) (fun c51 => ?_) (fun c51 => ?_)
              · skip
                have c51 := (lg_cmp_ge _ _).mp c51
                have c51i : 0 ≤ (g : Int64).toInt := Int64.le_iff_toInt_le.mp c51
                refine lv_iconst (v := 0) hx hb dX8_intOf_148 (by decide) ?_
                exact hj55 (0) _ _ _ (hP.sub [] rfl) (hD.sub [] (by decide) rfl) hS (lv_sub hl [0, 1, 2, 3, 4, 5, 6] rfl)
              · skip
                have c51 := fun h => c51 ((lg_cmp_ge _ _).mpr h)
                have c51i : ¬ 0 ≤ (g : Int64).toInt := fun h => c51 (Int64.le_iff_toInt_le.mpr h)
                refine lv_iconst (v := 1) hx hb dX8_intOf_144 (by decide) ?_
                refine lv_goto (tgt := 149) hx hb dX8_intOf_145 (by decide) ?_
                exact hj55 (1) _ _ _ (hP.sub [] rfl) (hD.sub [] (by decide) rfl) hS (lv_sub hl [0, 1, 2, 3, 4, 5, 6] rfl)
            · skip
              have c50 := (lg_cmp_eq _ _).mp c50
              have c50i : (z48 : Int64).toInt = 0 := congrArg Int64.toInt c50
              refine lv_lconst (v := 0) hx hb dX8_intOf_134 (by decide) ?_
              refine lv_goto (tgt := 156) hx hb dX8_intOf_135 (by decide) ?_
              exact hj62 (0) _ _ _ (hP.sub [] rfl) (hD.sub [] (by decide) rfl) hS (lv_sub hl [0, 1, 2, 3, 4, 5, 6] rfl)
          refine lv_if_le (tgt := 123) hx hb dX8_intOf_115 (by decide) (fun c45 => ?_) (fun c45 => ?_)
          · skip
            have c45 := (lg_cmp_le _ _).mp c45
            have c45i : (z38 : Int64).toInt ≤ (z43 : Int64).toInt := Int64.le_iff_toInt_le.mp c45
            refine lv_lload hx hb dX8_intOf_123 (lv_at hl 1 rfl) ?_
            exact hj49 (z38) _ _ _ (hP.sub [] rfl) (hD.sub [] (by decide) rfl) hS (lv_sub hl [0, 1, 2, 3, 4, 5, 6] rfl)
          · skip
            have c45 := fun h => c45 ((lg_cmp_le _ _).mpr h)
            have c45i : ¬ (z38 : Int64).toInt ≤ (z43 : Int64).toInt := fun h => c45 (Int64.le_iff_toInt_le.mpr h)
            refine lv_lload hx hb dX8_intOf_118 (lv_at hl 0 rfl) ?_
            refine lv_goto (tgt := 125) hx hb dX8_intOf_120 (by decide) ?_
            exact hj49 (z43) _ _ _ (hP.sub [] rfl) (hD.sub [] (by decide) rfl) hS (lv_sub hl [0, 1, 2, 3, 4, 5, 6] rfl)
        refine lv_if_ge (tgt := 105) hx hb dX8_intOf_96 (by decide) (fun c40 => ?_) (fun c40 => ?_)
        · skip
          have c40 := (lg_cmp_ge _ _).mp c40
          have c40i : 0 ≤ (g : Int64).toInt := Int64.le_iff_toInt_le.mp c40
          refine lv_ldc2 (v := 2147483647) hx hb hown (hts (.constantLong RX8 120 (2147483647)) (oX8_intOf_in _ (List.mem_of_getElem? (i := 2) rfl))) dX8_intOf_105 ?_
          exact hj44 (2147483647) _ _ _ (hP.sub [] rfl) (hD.sub [] (by decide) rfl) hS (lv_sub hl [0, 1, 2, 3, 4, 5] rfl)
        · skip
          have c40 := fun h => c40 ((lg_cmp_ge _ _).mpr h)
          have c40i : ¬ 0 ≤ (g : Int64).toInt := fun h => c40 (Int64.le_iff_toInt_le.mpr h)
          refine lv_ldc2 (v := 2147483648) hx hb hown (hts (.constantLong RX8 112 (2147483648)) (oX8_intOf_in _ (List.mem_of_getElem? (i := 3) rfl))) dX8_intOf_99 ?_
          refine lv_goto (tgt := 108) hx hb dX8_intOf_102 (by decide) ?_
          exact hj44 (2147483648) _ _ _ (hP.sub [] rfl) (hD.sub [] (by decide) rfl) hS (lv_sub hl [0, 1, 2, 3, 4, 5] rfl)
      refine lv_if_eq (tgt := 60) hx hb dX8_intOf_51 (by decide) (fun c25 => ?_) (fun c25 => ?_)
      · skip
        have c25i : (z23 : Int32).toInt = 0 := congrArg Int32.toInt c25
        refine lv_iload hx hb dX8_intOf_60 (lv_at hl 1 rfl) ?_
        have hj35 : ∀ (z34 : Int64) (H : Heap) (locs : List Loc) (ls : Array Slot), va_P D vwCl [] H → va_D A [] → va_S A s.heap H locs → lv_has ls 12 [(7, .int z23), (6, .int r9), (4, .long r5), (2, .long r2), (0, .long g)] → W p l e ({ frames := 3, cells := 0, slots := 0, locals := 83 }) s m (([.long g] : List Value).toArray) below meth c H locs 0 0 (MQ below (va_Ql (fun (r : Int64) (_ : Unit) => True) (sp_B D vwCl A (fun (_ : Unit) => [])) A) ([.long g] : List Value).toArray s 0 0 A) (F0 m 91 ls [.long z34]) := by
          intro z34 H locs ls  hP hD hS hl
          exact hj39 (z34) _ _ _ (hP.sub [] rfl) (hD.sub [] (by decide) rfl) hS (lv_sub hl [0, 1, 2, 3, 4] rfl)
        refine lv_if_lt (tgt := 73) hx hb dX8_intOf_62 (by decide) (fun c26 => ?_) (fun c26 => ?_)
        · skip
          have c26i : (r9 : Int32).toInt < 0 := Int32.lt_iff_toInt_lt.mp c26
          refine lv_lload hx hb dX8_intOf_73 (lv_at hl 2 rfl) ?_
          refine lv_iload hx hb dX8_intOf_75 (lv_at hl 1 rfl) ?_
          refine lv_bipush (v := (-40)) hx hb dX8_intOf_77 (by decide) ?_
          have hj31 : ∀ (z30 : Int32) (H : Heap) (locs : List Loc) (ls : Array Slot), va_P D vwCl [] H → va_D A [] → va_S A s.heap H locs → lv_has ls 12 [(7, .int z23), (6, .int r9), (4, .long r5), (2, .long r2), (0, .long g)] → W p l e ({ frames := 3, cells := 0, slots := 0, locals := 83 }) s m (([.long g] : List Value).toArray) below meth c H locs 0 0 (MQ below (va_Ql (fun (r : Int64) (_ : Unit) => True) (sp_B D vwCl A (fun (_ : Unit) => [])) A) ([.long g] : List Value).toArray s 0 0 A) (F0 m 90 ls [.int z30, .long r5]) := by
            intro z30 H locs ls  hP hD hS hl
            refine lv_lshr (v := _) hx hb dX8_intOf_90 rfl ?_
            exact hj35 ((r5 >>> ((z30 : Int32).toInt64 &&& 63))) _ _ _ (hP.sub [] rfl) (hD.sub [] (by decide) rfl) hS (lv_sub hl [0, 1, 2, 3, 4] rfl)
          refine lv_icmp_ge (tgt := 87) hx hb dX8_intOf_79 (by decide) (fun c27 => ?_) (fun c27 => ?_)
          · skip
            have c27i : (-40) ≤ (r9 : Int32).toInt := Int32.le_iff_toInt_le.mp c27
            refine lv_iload hx hb dX8_intOf_87 (lv_at hl 1 rfl) ?_
            refine lv_ineg hx hb dX8_intOf_89 ?_
            exact hj31 ((-r9)) _ _ _ (hP.sub [] rfl) (hD.sub [] (by decide) rfl) hS (lv_sub hl [0, 1, 2, 3, 4] rfl)
          · skip
            have c27i : ¬ (-40) ≤ (r9 : Int32).toInt := fun h => c27 (Int32.le_iff_toInt_le.mpr h)
            refine lv_bipush (v := 40) hx hb dX8_intOf_82 (by decide) ?_
            refine lv_goto (tgt := 90) hx hb dX8_intOf_84 (by decide) ?_
            exact hj31 (40) _ _ _ (hP.sub [] rfl) (hD.sub [] (by decide) rfl) hS (lv_sub hl [0, 1, 2, 3, 4] rfl)
        · skip
          have c26i : ¬ (r9 : Int32).toInt < 0 := fun h => c26 (Int32.lt_iff_toInt_lt.mpr h)
          refine lv_lload hx hb dX8_intOf_65 (lv_at hl 2 rfl) ?_
          refine lv_iload hx hb dX8_intOf_67 (lv_at hl 1 rfl) ?_
          refine lv_lshl (v := _) hx hb dX8_intOf_69 rfl ?_
          refine lv_goto (tgt := 91) hx hb dX8_intOf_70 (by decide) ?_
          exact hj35 ((r5 <<< ((r9 : Int32).toInt64 &&& 63))) _ _ _ (hP.sub [] rfl) (hD.sub [] (by decide) rfl) hS (lv_sub hl [0, 1, 2, 3, 4] rfl)
      · skip
        have c25i : ¬ (z23 : Int32).toInt = 0 := fun h => c25 (Int32.toInt_inj.mp h)
        refine lv_ldc2 (v := 4294967296) hx hb hown (hts (.constantLong RX8 118 (4294967296)) (oX8_intOf_in _ (List.mem_of_getElem? (i := 1) rfl))) dX8_intOf_54 ?_
        refine lv_goto (tgt := 91) hx hb dX8_intOf_57 (by decide) ?_
        exact hj39 (4294967296) _ _ _ (hP.sub [] rfl) (hD.sub [] (by decide) rfl) hS (lv_sub hl [0, 1, 2, 3, 4] rfl)
    refine lv_if_ne (tgt := 42) hx hb dX8_intOf_32 (by decide) (fun c15 => ?_) (fun c15 => ?_)
    · skip
      have c15i : ¬ (r12 : Int32).toInt = 0 := fun h => c15 (Int32.toInt_inj.mp h)
      refine lv_iconst (v := 1) hx hb dX8_intOf_42 (by decide) ?_
      refine lv_goto (tgt := 47) hx hb dX8_intOf_43 (by decide) ?_
      exact hj24 (1) _ _ _ (hP.sub [] rfl) (hD.sub [] (by decide) rfl) hS (lv_sub hl [0, 1, 2, 3] rfl)
    · skip
      have c15i : (r12 : Int32).toInt = 0 := congrArg Int32.toInt c15
      refine lv_iload hx hb dX8_intOf_35 (lv_at hl 0 rfl) ?_
      refine lv_bipush (v := 7) hx hb dX8_intOf_37 (by decide) ?_
      have hj21 : ∀ (z20 : Int32) (H : Heap) (locs : List Loc) (ls : Array Slot), va_P D vwCl [] H → va_D A [] → va_S A s.heap H locs → lv_has ls 12 [(6, .int r9), (4, .long r5), (2, .long r2), (0, .long g)] → W p l e ({ frames := 3, cells := 0, slots := 0, locals := 83 }) s m (([.long g] : List Value).toArray) below meth c H locs 0 0 (MQ below (va_Ql (fun (r : Int64) (_ : Unit) => True) (sp_B D vwCl A (fun (_ : Unit) => [])) A) ([.long g] : List Value).toArray s 0 0 A) (F0 m 47 ls [.int z20]) := by
        intro z20 H locs ls  hP hD hS hl
        exact hj24 (z20) _ _ _ (hP.sub [] rfl) (hD.sub [] (by decide) rfl) hS (lv_sub hl [0, 1, 2, 3] rfl)
      refine lv_icmp_le (tgt := 46) hx hb dX8_intOf_39 (by decide) (fun c17 => ?_) (fun c17 => ?_)
      · skip
        have c17i : (r9 : Int32).toInt ≤ 7 := Int32.le_iff_toInt_le.mp c17
        refine lv_iconst (v := 0) hx hb dX8_intOf_46 (by decide) ?_
        exact hj21 (0) _ _ _ (hP.sub [] rfl) (hD.sub [] (by decide) rfl) hS (lv_sub hl [0, 1, 2, 3] rfl)
      · skip
        have c17i : ¬ (r9 : Int32).toInt ≤ 7 := fun h => c17 (Int32.le_iff_toInt_le.mpr h)
        refine lv_iconst (v := 1) hx hb dX8_intOf_42 (by decide) ?_
        refine lv_goto (tgt := 47) hx hb dX8_intOf_43 (by decide) ?_
        exact hj21 (1) _ _ _ (hP.sub [] rfl) (hD.sub [] (by decide) rfl) hS (lv_sub hl [0, 1, 2, 3] rfl)
  · skip
    have c1 := (lg_cmp_eq _ _).mp c1
    have c1i : (g : Int64).toInt = 9000000000 := congrArg Int64.toInt c1
    refine lv_lconst (v := 0) hx hb dX8_intOf_8 (by decide) ?_
    refine W.widen (k := 0) (n := 0) (by decide) (by decide) ?_
    exact sp_lret (u := ()) hx hb hr hlocks hS trivial (hP.sub [] rfl) (hD.sub [] (by decide) rfl) dX8_intOf_9
def oX8_number : List Cond := [.constantLong RX8 74 (-1)]
def wpX8_number : List Cond := .code yX8_number cX8_number 2 (some .long) :: (oX8_number ++ ([] : List Cond))
theorem oX8_number_in : ∀ w ∈ oX8_number, w ∈ wpX8_number := fun w h => List.mem_cons_of_mem _ (List.mem_append_left _ h)
theorem gwoX8_number : ∀ w ∈ oX8_number, goodWord w = true := by decide +kernel
theorem gwX8_number : ∀ w ∈ wpX8_number, goodWord w = true := by
  unfold wpX8_number
  exact List.forall_mem_cons.mpr ⟨rfl, List.forall_mem_append.mpr ⟨gwoX8_number, fun _ h => absurd h List.not_mem_nil⟩⟩
set_option maxRecDepth 100000 in
theorem toX8_number : ∀ w ∈ oX8_number, w ∈ lw_tbl := by
  unfold oX8_number
  exact List.forall_mem_cons.mpr ⟨(List.mem_of_getElem? (i := 808) (by decide +kernel)), fun _ h => absurd h List.not_mem_nil⟩
set_option maxRecDepth 100000 in
theorem tX8_number : ∀ w ∈ wpX8_number, w ∈ lw_tbl := by
  unfold wpX8_number
  exact List.forall_mem_cons.mpr ⟨(List.mem_of_getElem? (i := 888) (by rfl)), List.forall_mem_append.mpr ⟨toX8_number, fun _ h => absurd h List.not_mem_nil⟩⟩
set_option maxHeartbeats 4000000 in
set_option maxRecDepth 100000 in
theorem c_X8_number (l : Launch) (D : va_G) (cI cJ cZ : ClassId) (sz : Nat) (g : Int64) : Met l yX8_number wpX8_number ({ frames := 0, cells := 0, slots := 0, locals := 0 }) (va_Pc ([.long g] : List Value) (sp_pre D vwCl (sp_ty cI cJ cZ) [] sz)) (va_Ql (fun (r : Int64) (_ : Unit) => True) (sp_B D vwCl (va_A [] sz) (fun (_ : Unit) => [])) (va_A [] sz)) 0 0 (va_A [] sz) := by
  refine sp_ofW (Qc := fun A => va_Ql (fun (r : Int64) (_ : Unit) => True) (sp_B D vwCl A (fun (_ : Unit) => [])) A) (by decide) rfl (Nat.le_of_ble_eq_true rfl) (fun p e s m below meth c A ls H locs C0 hA hS hP hK hD hl => ?_)
  obtain ⟨hx, hb, hr, hts, hown, hlocks, hml, hin⟩ := id C0
  have hown : s.vm.findClass RX8 = some m.cls := hown
  have hl : lv_has ls 2 [(0, .long g)] := hl
  have hK : va_K D vwCl [(cI, .int), (cJ, .long), (cZ, .boolean)] s := hK
  refine lv_lload_n hx hb dX8_number_0 rfl (lv_at hl 0 rfl) ?_
  refine lv_ldc2 (v := (-1)) hx hb hown (hts (.constantLong RX8 74 (-1)) (oX8_number_in _ (List.mem_of_getElem? (i := 0) rfl))) dX8_number_1 ?_
  refine W.lcmp hx hb dX8_number_4 ?_
  have hj5 : ∀ (z4 : Int64) (H : Heap) (locs : List Loc) (ls : Array Slot), va_P D vwCl [] H → va_D A [] → va_S A s.heap H locs → lv_has ls 2 [(0, .long g)] → W p l e ({ frames := 0, cells := 0, slots := 0, locals := 0 }) s m (([.long g] : List Value).toArray) below meth c H locs 0 0 (MQ below (va_Ql (fun (r : Int64) (_ : Unit) => True) (sp_B D vwCl A (fun (_ : Unit) => [])) A) ([.long g] : List Value).toArray s 0 0 A) (F0 m 13 ls [.long z4]) := by
    intro z4 H locs ls  hP hD hS hl
    refine W.widen (k := 0) (n := 0) (by decide) (by decide) ?_
    exact sp_lret (u := ()) hx hb hr hlocks hS trivial (hP.sub [] rfl) (hD.sub [] (by decide) rfl) dX8_number_13
  refine lv_if_ne (tgt := 12) hx hb dX8_number_5 (by decide) (fun c1 => ?_) (fun c1 => ?_)
  · skip
    have c1 := fun h => c1 ((lg_cmp_eq _ _).mpr h)
    have c1i : ¬ (g : Int64).toInt = (-1) := fun h => c1 (Int64.toInt_inj.mp h)
    refine lv_lload_n hx hb dX8_number_12 rfl (lv_at hl 0 rfl) ?_
    exact hj5 (g) _ _ _ (hP.sub [] rfl) (hD.sub [] (by decide) rfl) hS (lv_sub hl [0] rfl)
  · skip
    have c1 := (lg_cmp_eq _ _).mp c1
    have c1i : (g : Int64).toInt = (-1) := congrArg Int64.toInt c1
    refine lv_lconst (v := 0) hx hb dX8_number_8 (by decide) ?_
    refine lv_goto (tgt := 13) hx hb dX8_number_9 (by decide) ?_
    exact hj5 (0) _ _ _ (hP.sub [] rfl) (hD.sub [] (by decide) rfl) hS (lv_sub hl [0] rfl)
def oX8_fromBits : List Cond := [.constant RX8 144 (2147483647), .constantLong RX8 68 (2139095040), .constantLong RX8 82 (9000000000)]
def wpX8_fromBits : List Cond := .code yX8_fromBits cX8_fromBits 3 (some .long) :: (oX8_fromBits ++ ((va_wsS RX8 84 yX8_placeOf wpX8_placeOf) ++ ([] : List Cond)))
theorem oX8_fromBits_in : ∀ w ∈ oX8_fromBits, w ∈ wpX8_fromBits := fun w h => List.mem_cons_of_mem _ (List.mem_append_left _ h)
theorem gwoX8_fromBits : ∀ w ∈ oX8_fromBits, goodWord w = true := by decide +kernel
theorem gwX8_fromBits : ∀ w ∈ wpX8_fromBits, goodWord w = true := by
  unfold wpX8_fromBits
  exact List.forall_mem_cons.mpr ⟨rfl, List.forall_mem_append.mpr ⟨gwoX8_fromBits, List.forall_mem_append.mpr ⟨(sp_gS gwX8_placeOf), fun _ h => absurd h List.not_mem_nil⟩⟩⟩
set_option maxRecDepth 100000 in
theorem toX8_fromBits : ∀ w ∈ oX8_fromBits, w ∈ lw_tbl := by
  unfold oX8_fromBits
  exact List.forall_mem_cons.mpr ⟨(List.mem_of_getElem? (i := 803) (by decide +kernel)), List.forall_mem_cons.mpr ⟨(List.mem_of_getElem? (i := 682) (by decide +kernel)), List.forall_mem_cons.mpr ⟨(List.mem_of_getElem? (i := 804) (by decide +kernel)), fun _ h => absurd h List.not_mem_nil⟩⟩⟩
set_option maxRecDepth 100000 in
theorem tX8_fromBits : ∀ w ∈ wpX8_fromBits, w ∈ lw_tbl := by
  unfold wpX8_fromBits
  exact List.forall_mem_cons.mpr ⟨(List.mem_of_getElem? (i := 802) (by rfl)), List.forall_mem_append.mpr ⟨toX8_fromBits, List.forall_mem_append.mpr ⟨(sp_tS (List.mem_of_getElem? (i := 805) (by decide +kernel)) (List.mem_of_getElem? (i := 806) (by decide +kernel)) (List.mem_of_getElem? (i := 45) (by decide +kernel)) tX8_placeOf), fun _ h => absurd h List.not_mem_nil⟩⟩⟩
theorem gX8_fromBits_X8_placeOf_84 : GoodIn wpX8_fromBits (va_wsS RX8 84 yX8_placeOf wpX8_placeOf) := fun w h => ⟨List.mem_cons_of_mem _ (List.mem_append_right _ (List.mem_append_left _ h)), good_of_word (sp_gS gwX8_placeOf w h)⟩
set_option maxHeartbeats 4000000 in
set_option maxRecDepth 100000 in
theorem c_X8_fromBits (l : Launch) (D : va_G) (cI cJ cZ : ClassId) (sz : Nat) (b : Int32) : Met l yX8_fromBits wpX8_fromBits ({ frames := 1, cells := 0, slots := 0, locals := 22 }) (va_Pc ([.int b] : List Value) (sp_pre D vwCl (sp_ty cI cJ cZ) [] sz)) (va_Ql (fun (r : Int64) (_ : Unit) => r = sq_fb b) (sp_B D vwCl (va_A [] sz) (fun (_ : Unit) => [])) (va_A [] sz)) 0 0 (va_A [] sz) := by
  refine sp_ofW (Qc := fun A => va_Ql (fun (r : Int64) (_ : Unit) => r = sq_fb b) (sp_B D vwCl A (fun (_ : Unit) => [])) A) (by decide) rfl (Nat.le_of_ble_eq_true rfl) (fun p e s m below meth c A ls H locs C0 hA hS hP hK hD hl => ?_)
  obtain ⟨hx, hb, hr, hts, hown, hlocks, hml, hin⟩ := id C0
  have hown : s.vm.findClass RX8 = some m.cls := hown
  have hl : lv_has ls 3 [(0, .int b)] := hl
  have hK : va_K D vwCl [(cI, .int), (cJ, .long), (cZ, .boolean)] s := hK
  refine lv_iload_n hx hb dX8_fromBits_0 rfl (lv_at hl 0 rfl) ?_
  refine lv_ldc (v := 2147483647) hx hb hown (hts (.constant RX8 144 (2147483647)) (oX8_fromBits_in _ (List.mem_of_getElem? (i := 0) rfl))) dX8_fromBits_1 ?_
  refine lv_iand hx hb dX8_fromBits_3 ?_
  refine lv_i2l (v := _) hx hb dX8_fromBits_4 rfl ?_
  refine lv_lstore_n (lv' := [(1, .long ((b &&& 2147483647) : Int32).toInt64), (0, .int b)]) hx hb dX8_fromBits_5 rfl hl (by decide) rfl (fun ls hl => ?_)
  refine lv_lload_n hx hb dX8_fromBits_6 rfl (lv_at hl 0 rfl) ?_
  refine lv_ldc2 (v := 2139095040) hx hb hown (hts (.constantLong RX8 68 (2139095040)) (oX8_fromBits_in _ (List.mem_of_getElem? (i := 1) rfl))) dX8_fromBits_7 ?_
  refine W.lcmp hx hb dX8_fromBits_10 ?_
  refine lv_if_le (tgt := 20) hx hb dX8_fromBits_11 (by decide) (fun c1 => ?_) (fun c1 => ?_)
  · skip
    have c1 := (lg_cmp_le _ _).mp c1
    have c1i : ((b &&& 2147483647) : Int32).toInt ≤ 2139095040 := by have h : (((b &&& 2147483647) : Int32).toInt64 : Int64).toInt ≤ 2139095040 := Int64.le_iff_toInt_le.mp c1; simpa only [Int32.toInt_toInt64] using h
    refine lv_iload_n hx hb dX8_fromBits_20 rfl (lv_at hl 1 rfl) ?_
    refine lv_if_ge (tgt := 28) hx hb dX8_fromBits_21 (by decide) (fun c2 => ?_) (fun c2 => ?_)
    · skip
      have c2i : 0 ≤ (b : Int32).toInt := Int32.le_iff_toInt_le.mp c2
      refine lv_iconst (v := 0) hx hb dX8_fromBits_28 (by decide) ?_
      refine lv_lload_n hx hb dX8_fromBits_29 rfl (lv_at hl 0 rfl) ?_
      have hz18 : (0 : Int32).toInt = 0 := by decide
      refine sp_callj (wr := []) (wc := []) hP hD hS hA [] [] rfl rfl (by decide) (by decide) (va_runS (As := [.int 0, .long ((b &&& 2147483647) : Int32).toInt64]) (rest := []) ⟨hx, hb, hml, hown, hts⟩ (c_X8_placeOf l D cI cJ cZ H.size (0) (((b &&& 2147483647) : Int32).toInt64)) (va_cwS 2 hts gX8_fromBits_X8_placeOf_84 rfl rfl rfl (by decide +kernel) ⟨Nat.le_of_ble_eq_true rfl, Nat.le_of_ble_eq_true rfl⟩) (sp_preS [.int 0, .long ((b &&& 2147483647) : Int32).toInt64] hK (hP.sub (ws' := []) [] rfl) (hD.sub (ws' := []) [] (by decide) rfl)) rfl rfl hl.1 rfl (lv_room (Nat.le_of_ble_eq_true rfl)) dX8_fromBits_30 ⟨Nat.le_of_ble_eq_true rfl, Nat.le_of_ble_eq_true rfl⟩) (fun r3 u4 H locs hw5 hP hD hS => ?_)
      have h6 : (r3 : Int64) = sq_mp (0) (((b &&& 2147483647) : Int32).toInt64) := hw5
      have hP : va_P D vwCl [] H := hP
      have hD : va_D A [] := hD
      refine W.widen (k := 0) (n := 0) (by decide) (by decide) ?_
      exact sp_lret (u := ()) hx hb hr hlocks hS (by rw [h6]; unfold sq_fb sq_mp; (repeat' split) <;> first | (exfalso; omega) | rfl) (hP.sub [] rfl) (hD.sub [] (by decide) rfl) dX8_fromBits_33
    · skip
      have c2i : ¬ 0 ≤ (b : Int32).toInt := fun h => c2 (Int32.le_iff_toInt_le.mpr h)
      refine lv_iconst (v := 1) hx hb dX8_fromBits_24 (by decide) ?_
      refine lv_goto (tgt := 29) hx hb dX8_fromBits_25 (by decide) ?_
      refine lv_lload_n hx hb dX8_fromBits_29 rfl (lv_at hl 0 rfl) ?_
      have hz30 : (1 : Int32).toInt = 1 := by decide
      refine sp_callj (wr := []) (wc := []) hP hD hS hA [] [] rfl rfl (by decide) (by decide) (va_runS (As := [.int 1, .long ((b &&& 2147483647) : Int32).toInt64]) (rest := []) ⟨hx, hb, hml, hown, hts⟩ (c_X8_placeOf l D cI cJ cZ H.size (1) (((b &&& 2147483647) : Int32).toInt64)) (va_cwS 2 hts gX8_fromBits_X8_placeOf_84 rfl rfl rfl (by decide +kernel) ⟨Nat.le_of_ble_eq_true rfl, Nat.le_of_ble_eq_true rfl⟩) (sp_preS [.int 1, .long ((b &&& 2147483647) : Int32).toInt64] hK (hP.sub (ws' := []) [] rfl) (hD.sub (ws' := []) [] (by decide) rfl)) rfl rfl hl.1 rfl (lv_room (Nat.le_of_ble_eq_true rfl)) dX8_fromBits_30 ⟨Nat.le_of_ble_eq_true rfl, Nat.le_of_ble_eq_true rfl⟩) (fun r7 u8 H locs hw9 hP hD hS => ?_)
      have h10 : (r7 : Int64) = sq_mp (1) (((b &&& 2147483647) : Int32).toInt64) := hw9
      have hP : va_P D vwCl [] H := hP
      have hD : va_D A [] := hD
      refine W.widen (k := 0) (n := 0) (by decide) (by decide) ?_
      exact sp_lret (u := ()) hx hb hr hlocks hS (by rw [h10]; unfold sq_fb sq_mp; (repeat' split) <;> first | (exfalso; omega) | rfl) (hP.sub [] rfl) (hD.sub [] (by decide) rfl) dX8_fromBits_33
  · skip
    have c1 := fun h => c1 ((lg_cmp_le _ _).mpr h)
    have c1i : ¬ (((b &&& 2147483647) : Int32).toInt ≤ 2139095040) := by have h : ¬ ((((b &&& 2147483647) : Int32).toInt64 : Int64).toInt ≤ 2139095040) := fun h => c1 (Int64.le_iff_toInt_le.mpr h); simpa only [Int32.toInt_toInt64] using h
    refine lv_ldc2 (v := 9000000000) hx hb hown (hts (.constantLong RX8 82 (9000000000)) (oX8_fromBits_in _ (List.mem_of_getElem? (i := 2) rfl))) dX8_fromBits_14 ?_
    refine lv_goto (tgt := 33) hx hb dX8_fromBits_17 (by decide) ?_
    refine W.widen (k := 0) (n := 0) (by decide) (by decide) ?_
    exact sp_lret (u := ()) hx hb hr hlocks hS (by unfold sq_fb; (repeat' split) <;> first | (exfalso; omega) | rfl) (hP.sub [] rfl) (hD.sub [] (by decide) rfl) dX8_fromBits_33
def oX8_toBits : List Cond := [.constantLong RX8 82 (9000000000), .constantLong RX8 74 (-1), .constantLong RX8 112 (2147483648), .constantLong RX8 145 (2143289344)]
def wpX8_toBits : List Cond := .code yX8_toBits cX8_toBits 2 (some .long) :: (oX8_toBits ++ ([] : List Cond))
theorem oX8_toBits_in : ∀ w ∈ oX8_toBits, w ∈ wpX8_toBits := fun w h => List.mem_cons_of_mem _ (List.mem_append_left _ h)
theorem gwoX8_toBits : ∀ w ∈ oX8_toBits, goodWord w = true := by decide +kernel
theorem gwX8_toBits : ∀ w ∈ wpX8_toBits, goodWord w = true := by
  unfold wpX8_toBits
  exact List.forall_mem_cons.mpr ⟨rfl, List.forall_mem_append.mpr ⟨gwoX8_toBits, fun _ h => absurd h List.not_mem_nil⟩⟩
set_option maxRecDepth 100000 in
theorem toX8_toBits : ∀ w ∈ oX8_toBits, w ∈ lw_tbl := by
  unfold oX8_toBits
  exact List.forall_mem_cons.mpr ⟨(List.mem_of_getElem? (i := 804) (by decide +kernel)), List.forall_mem_cons.mpr ⟨(List.mem_of_getElem? (i := 808) (by decide +kernel)), List.forall_mem_cons.mpr ⟨(List.mem_of_getElem? (i := 818) (by decide +kernel)), List.forall_mem_cons.mpr ⟨(List.mem_of_getElem? (i := 817) (by decide +kernel)), fun _ h => absurd h List.not_mem_nil⟩⟩⟩⟩
set_option maxRecDepth 100000 in
theorem tX8_toBits : ∀ w ∈ wpX8_toBits, w ∈ lw_tbl := by
  unfold wpX8_toBits
  exact List.forall_mem_cons.mpr ⟨(List.mem_of_getElem? (i := 816) (by rfl)), List.forall_mem_append.mpr ⟨toX8_toBits, fun _ h => absurd h List.not_mem_nil⟩⟩
set_option maxHeartbeats 4000000 in
set_option maxRecDepth 100000 in
theorem c_X8_toBits (l : Launch) (D : va_G) (cI cJ cZ : ClassId) (sz : Nat) (g : Int64) : Met l yX8_toBits wpX8_toBits ({ frames := 0, cells := 0, slots := 0, locals := 0 }) (va_Pc ([.long g] : List Value) (sp_pre D vwCl (sp_ty cI cJ cZ) [] sz)) (va_Ql (fun (r : Int64) (_ : Unit) => r = sq_tb g) (sp_B D vwCl (va_A [] sz) (fun (_ : Unit) => [])) (va_A [] sz)) 0 0 (va_A [] sz) := by
  refine sp_ofW (Qc := fun A => va_Ql (fun (r : Int64) (_ : Unit) => r = sq_tb g) (sp_B D vwCl A (fun (_ : Unit) => [])) A) (by decide) rfl (Nat.le_of_ble_eq_true rfl) (fun p e s m below meth c A ls H locs C0 hA hS hP hK hD hl => ?_)
  obtain ⟨hx, hb, hr, hts, hown, hlocks, hml, hin⟩ := id C0
  have hown : s.vm.findClass RX8 = some m.cls := hown
  have hl : lv_has ls 2 [(0, .long g)] := hl
  have hK : va_K D vwCl [(cI, .int), (cJ, .long), (cZ, .boolean)] s := hK
  refine lv_lload_n hx hb dX8_toBits_0 rfl (lv_at hl 0 rfl) ?_
  refine lv_ldc2 (v := 9000000000) hx hb hown (hts (.constantLong RX8 82 (9000000000)) (oX8_toBits_in _ (List.mem_of_getElem? (i := 0) rfl))) dX8_toBits_1 ?_
  refine W.lcmp hx hb dX8_toBits_4 ?_
  refine lv_if_ne (tgt := 14) hx hb dX8_toBits_5 (by decide) (fun c1 => ?_) (fun c1 => ?_)
  · skip
    have c1 := fun h => c1 ((lg_cmp_eq _ _).mpr h)
    have c1i : ¬ (g : Int64).toInt = 9000000000 := fun h => c1 (Int64.toInt_inj.mp h)
    refine lv_lload_n hx hb dX8_toBits_14 rfl (lv_at hl 0 rfl) ?_
    refine lv_lconst (v := 0) hx hb dX8_toBits_15 (by decide) ?_
    refine W.lcmp hx hb dX8_toBits_16 ?_
    refine lv_if_lt (tgt := 24) hx hb dX8_toBits_17 (by decide) (fun c2 => ?_) (fun c2 => ?_)
    · skip
      have c2 := (lg_cmp_lt _ _).mp c2
      have c2i : (g : Int64).toInt < 0 := Int64.lt_iff_toInt_lt.mp c2
      refine lv_ldc2 (v := (-1)) hx hb hown (hts (.constantLong RX8 74 (-1)) (oX8_toBits_in _ (List.mem_of_getElem? (i := 1) rfl))) dX8_toBits_24 ?_
      refine lv_lload_n hx hb dX8_toBits_27 rfl (lv_at hl 0 rfl) ?_
      refine lv_lsub hx hb dX8_toBits_28 ?_
      refine lv_ldc2 (v := 2147483648) hx hb hown (hts (.constantLong RX8 112 (2147483648)) (oX8_toBits_in _ (List.mem_of_getElem? (i := 2) rfl))) dX8_toBits_29 ?_
      refine lv_lsub hx hb dX8_toBits_32 ?_
      refine W.widen (k := 0) (n := 0) (by decide) (by decide) ?_
      exact sp_lret (u := ()) hx hb hr hlocks hS (by unfold sq_tb; (repeat' split) <;> first | (exfalso; omega) | rfl) (hP.sub [] rfl) (hD.sub [] (by decide) rfl) dX8_toBits_33
    · skip
      have c2 := fun h => c2 ((lg_cmp_lt _ _).mpr h)
      have c2i : ¬ (g : Int64).toInt < 0 := fun h => c2 (Int64.lt_iff_toInt_lt.mpr h)
      refine lv_lload_n hx hb dX8_toBits_20 rfl (lv_at hl 0 rfl) ?_
      refine lv_goto (tgt := 33) hx hb dX8_toBits_21 (by decide) ?_
      refine W.widen (k := 0) (n := 0) (by decide) (by decide) ?_
      exact sp_lret (u := ()) hx hb hr hlocks hS (by unfold sq_tb; (repeat' split) <;> first | (exfalso; omega) | rfl) (hP.sub [] rfl) (hD.sub [] (by decide) rfl) dX8_toBits_33
  · skip
    have c1 := (lg_cmp_eq _ _).mp c1
    have c1i : (g : Int64).toInt = 9000000000 := congrArg Int64.toInt c1
    refine lv_ldc2 (v := 2143289344) hx hb hown (hts (.constantLong RX8 145 (2143289344)) (oX8_toBits_in _ (List.mem_of_getElem? (i := 3) rfl))) dX8_toBits_8 ?_
    refine lv_goto (tgt := 33) hx hb dX8_toBits_11 (by decide) ?_
    refine W.widen (k := 0) (n := 0) (by decide) (by decide) ?_
    exact sp_lret (u := ()) hx hb hr hlocks hS (by unfold sq_tb; (repeat' split) <;> first | (exfalso; omega) | rfl) (hP.sub [] rfl) (hD.sub [] (by decide) rfl) dX8_toBits_33
def oX8_hasTwo : List Cond := [.constantLong RX8 90 (2), .constantLong RX8 154 (5)]
def wpX8_hasTwo : List Cond := .code yX8_hasTwo cX8_hasTwo 1 (some .boolean) :: (oX8_hasTwo ++ ((va_wsS RX8 150 yX8_in wpX8_in) ++ ([] : List Cond)))
theorem oX8_hasTwo_in : ∀ w ∈ oX8_hasTwo, w ∈ wpX8_hasTwo := fun w h => List.mem_cons_of_mem _ (List.mem_append_left _ h)
theorem gwoX8_hasTwo : ∀ w ∈ oX8_hasTwo, goodWord w = true := by decide +kernel
theorem gwX8_hasTwo : ∀ w ∈ wpX8_hasTwo, goodWord w = true := by
  unfold wpX8_hasTwo
  exact List.forall_mem_cons.mpr ⟨rfl, List.forall_mem_append.mpr ⟨gwoX8_hasTwo, List.forall_mem_append.mpr ⟨(sp_gS gwX8_in), fun _ h => absurd h List.not_mem_nil⟩⟩⟩
set_option maxRecDepth 100000 in
theorem toX8_hasTwo : ∀ w ∈ oX8_hasTwo, w ∈ lw_tbl := by
  unfold oX8_hasTwo
  exact List.forall_mem_cons.mpr ⟨(List.mem_of_getElem? (i := 770) (by decide +kernel)), List.forall_mem_cons.mpr ⟨(List.mem_of_getElem? (i := 779) (by decide +kernel)), fun _ h => absurd h List.not_mem_nil⟩⟩
set_option maxRecDepth 100000 in
theorem tX8_hasTwo : ∀ w ∈ wpX8_hasTwo, w ∈ lw_tbl := by
  unfold wpX8_hasTwo
  exact List.forall_mem_cons.mpr ⟨(List.mem_of_getElem? (i := 778) (by rfl)), List.forall_mem_append.mpr ⟨toX8_hasTwo, List.forall_mem_append.mpr ⟨(sp_tS (List.mem_of_getElem? (i := 767) (by decide +kernel)) (List.mem_of_getElem? (i := 768) (by decide +kernel)) (List.mem_of_getElem? (i := 45) (by decide +kernel)) tX8_in), fun _ h => absurd h List.not_mem_nil⟩⟩⟩
theorem gX8_hasTwo_X8_in_150 : GoodIn wpX8_hasTwo (va_wsS RX8 150 yX8_in wpX8_in) := fun w h => ⟨List.mem_cons_of_mem _ (List.mem_append_right _ (List.mem_append_left _ h)), good_of_word (sp_gS gwX8_in w h)⟩
set_option maxHeartbeats 4000000 in
set_option maxRecDepth 100000 in
theorem c_X8_hasTwo (l : Launch) (D : va_G) (cI cJ cZ : ClassId) (sz : Nat) (v : Int32) : Met l yX8_hasTwo wpX8_hasTwo ({ frames := 1, cells := 0, slots := 0, locals := 25 }) (va_Pc ([.int v] : List Value) (sp_pre D vwCl (sp_ty cI cJ cZ) [] sz)) (va_Qi (fun (r : Int32) (_ : Unit) => (r = 1 ∧ ((2 ≤ v.toInt ∧ v.toInt ≤ 5) ∨ v.toInt = 8 ∨ v.toInt = 9 ∨ v.toInt = 14)) ∨ (r = 0 ∧ ¬ ((2 ≤ v.toInt ∧ v.toInt ≤ 5) ∨ v.toInt = 8 ∨ v.toInt = 9 ∨ v.toInt = 14))) (sp_B D vwCl (va_A [] sz) (fun (_ : Unit) => [])) (va_A [] sz)) 0 0 (va_A [] sz) := by
  refine sp_ofW (Qc := fun A => va_Qi (fun (r : Int32) (_ : Unit) => (r = 1 ∧ ((2 ≤ v.toInt ∧ v.toInt ≤ 5) ∨ v.toInt = 8 ∨ v.toInt = 9 ∨ v.toInt = 14)) ∨ (r = 0 ∧ ¬ ((2 ≤ v.toInt ∧ v.toInt ≤ 5) ∨ v.toInt = 8 ∨ v.toInt = 9 ∨ v.toInt = 14))) (sp_B D vwCl A (fun (_ : Unit) => [])) A) (by decide) rfl (Nat.le_of_ble_eq_true rfl) (fun p e s m below meth c A ls H locs C0 hA hS hP hK hD hl => ?_)
  obtain ⟨hx, hb, hr, hts, hown, hlocks, hml, hin⟩ := id C0
  have hown : s.vm.findClass RX8 = some m.cls := hown
  have hl : lv_has ls 1 [(0, .int v)] := hl
  have hK : va_K D vwCl [(cI, .int), (cJ, .long), (cZ, .boolean)] s := hK
  refine lv_iload_n hx hb dX8_hasTwo_0 rfl (lv_at hl 0 rfl) ?_
  refine lv_i2l (v := _) hx hb dX8_hasTwo_1 rfl ?_
  refine lv_ldc2 (v := 2) hx hb hown (hts (.constantLong RX8 90 (2)) (oX8_hasTwo_in _ (List.mem_of_getElem? (i := 0) rfl))) dX8_hasTwo_2 ?_
  refine lv_ldc2 (v := 5) hx hb hown (hts (.constantLong RX8 154 (5)) (oX8_hasTwo_in _ (List.mem_of_getElem? (i := 1) rfl))) dX8_hasTwo_5 ?_
  refine sp_calli (wr := []) (wc := []) hP hD hS hA [] [] rfl rfl (by decide) (by decide) (va_runS (As := [.long (v : Int32).toInt64, .long 2, .long 5]) (rest := []) ⟨hx, hb, hml, hown, hts⟩ (c_X8_in l D cI cJ cZ H.size ((v : Int32).toInt64) (2) (5)) (va_cwS 3 hts gX8_hasTwo_X8_in_150 rfl rfl rfl (by decide +kernel) ⟨Nat.le_of_ble_eq_true rfl, Nat.le_of_ble_eq_true rfl⟩) (sp_preS [.long (v : Int32).toInt64, .long 2, .long 5] hK (hP.sub (ws' := []) [] rfl) (hD.sub (ws' := []) [] (by decide) rfl)) rfl rfl hl.1 rfl (lv_room (Nat.le_of_ble_eq_true rfl)) dX8_hasTwo_8 ⟨Nat.le_of_ble_eq_true rfl, Nat.le_of_ble_eq_true rfl⟩) (fun r1 u2 H locs hw3 hP hD hS => ?_)
  have h4 : ((r1 : Int32).toInt = 1 ∧ ((2 : Int) ≤ (v : Int32).toInt ∧ (v : Int32).toInt ≤ (5 : Int))) ∨ ((r1 : Int32).toInt = 0 ∧ ¬ ((2 : Int) ≤ (v : Int32).toInt ∧ (v : Int32).toInt ≤ (5 : Int))) := by have h9 := sp_bool hw3; simp only [Int32.toInt_toInt64] at h9; exact h9
  have hP : va_P D vwCl [] H := hP
  have hD : va_D A [] := hD
  refine lv_if_ne (tgt := 32) hx hb dX8_hasTwo_11 (by decide) (fun c5 => ?_) (fun c5 => ?_)
  · skip
    have c5i : ¬ (r1 : Int32).toInt = 0 := fun h => c5 (Int32.toInt_inj.mp h)
    refine lv_iconst (v := 1) hx hb dX8_hasTwo_32 (by decide) ?_
    refine lv_goto (tgt := 37) hx hb dX8_hasTwo_33 (by decide) ?_
    refine W.widen (k := 0) (n := 0) (by decide) (by decide) ?_
    exact sp_zret (u := ()) hx hb hr hlocks (by decide) hS (Or.inl ⟨rfl, by omega⟩) (hP.sub [] rfl) (hD.sub [] (by decide) rfl) dX8_hasTwo_37
  · skip
    have c5i : (r1 : Int32).toInt = 0 := congrArg Int32.toInt c5
    refine lv_iload_n hx hb dX8_hasTwo_14 rfl (lv_at hl 0 rfl) ?_
    refine lv_bipush (v := 8) hx hb dX8_hasTwo_15 (by decide) ?_
    refine lv_icmp_eq (tgt := 32) hx hb dX8_hasTwo_17 (by decide) (fun c6 => ?_) (fun c6 => ?_)
    · skip
      have c6i : (v : Int32).toInt = 8 := congrArg Int32.toInt c6
      refine lv_iconst (v := 1) hx hb dX8_hasTwo_32 (by decide) ?_
      refine lv_goto (tgt := 37) hx hb dX8_hasTwo_33 (by decide) ?_
      refine W.widen (k := 0) (n := 0) (by decide) (by decide) ?_
      exact sp_zret (u := ()) hx hb hr hlocks (by decide) hS (Or.inl ⟨rfl, by omega⟩) (hP.sub [] rfl) (hD.sub [] (by decide) rfl) dX8_hasTwo_37
    · skip
      have c6i : ¬ (v : Int32).toInt = 8 := fun h => c6 (Int32.toInt_inj.mp h)
      refine lv_iload_n hx hb dX8_hasTwo_20 rfl (lv_at hl 0 rfl) ?_
      refine lv_bipush (v := 9) hx hb dX8_hasTwo_21 (by decide) ?_
      refine lv_icmp_eq (tgt := 32) hx hb dX8_hasTwo_23 (by decide) (fun c7 => ?_) (fun c7 => ?_)
      · skip
        have c7i : (v : Int32).toInt = 9 := congrArg Int32.toInt c7
        refine lv_iconst (v := 1) hx hb dX8_hasTwo_32 (by decide) ?_
        refine lv_goto (tgt := 37) hx hb dX8_hasTwo_33 (by decide) ?_
        refine W.widen (k := 0) (n := 0) (by decide) (by decide) ?_
        exact sp_zret (u := ()) hx hb hr hlocks (by decide) hS (Or.inl ⟨rfl, by omega⟩) (hP.sub [] rfl) (hD.sub [] (by decide) rfl) dX8_hasTwo_37
      · skip
        have c7i : ¬ (v : Int32).toInt = 9 := fun h => c7 (Int32.toInt_inj.mp h)
        refine lv_iload_n hx hb dX8_hasTwo_26 rfl (lv_at hl 0 rfl) ?_
        refine lv_bipush (v := 14) hx hb dX8_hasTwo_27 (by decide) ?_
        refine lv_icmp_ne (tgt := 36) hx hb dX8_hasTwo_29 (by decide) (fun c8 => ?_) (fun c8 => ?_)
        · skip
          have c8i : ¬ (v : Int32).toInt = 14 := fun h => c8 (Int32.toInt_inj.mp h)
          refine lv_iconst (v := 0) hx hb dX8_hasTwo_36 (by decide) ?_
          refine W.widen (k := 0) (n := 0) (by decide) (by decide) ?_
          exact sp_zret (u := ()) hx hb hr hlocks (by decide) hS (Or.inr ⟨rfl, by omega⟩) (hP.sub [] rfl) (hD.sub [] (by decide) rfl) dX8_hasTwo_37
        · skip
          have c8i : (v : Int32).toInt = 14 := congrArg Int32.toInt c8
          refine lv_iconst (v := 1) hx hb dX8_hasTwo_32 (by decide) ?_
          refine lv_goto (tgt := 37) hx hb dX8_hasTwo_33 (by decide) ?_
          refine W.widen (k := 0) (n := 0) (by decide) (by decide) ?_
          exact sp_zret (u := ()) hx hb hr hlocks (by decide) hS (Or.inl ⟨rfl, by omega⟩) (hP.sub [] rfl) (hD.sub [] (by decide) rfl) dX8_hasTwo_37
