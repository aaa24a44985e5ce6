def oX4_has : List Cond := [.fieldLink RX4 21 "FloatSolver$Rules" "count" "I"]
def wpX4_has : List Cond := .code yX4_has cX4_has 2 (some .boolean) :: (oX4_has ++ (wsX40 ++ ([] : List Cond)))
theorem oX4_has_in : ∀ w ∈ oX4_has, w ∈ wpX4_has := fun w h => List.mem_cons_of_mem _ (List.mem_append_left _ h)
theorem gwoX4_has : ∀ w ∈ oX4_has, goodWord w = true := by decide +kernel
theorem gwX4_has : ∀ w ∈ wpX4_has, goodWord w = true := by
  unfold wpX4_has
  exact List.forall_mem_cons.mpr ⟨rfl, List.forall_mem_append.mpr ⟨gwoX4_has, List.forall_mem_append.mpr ⟨gwX4, fun _ h => absurd h List.not_mem_nil⟩⟩⟩
set_option maxRecDepth 100000 in
theorem toX4_has : ∀ w ∈ oX4_has, w ∈ lw_tbl := by
  unfold oX4_has
  exact List.forall_mem_cons.mpr ⟨(List.mem_of_getElem? (i := 112) (by decide +kernel)), fun _ h => absurd h List.not_mem_nil⟩
set_option maxRecDepth 100000 in
theorem tX4_has : ∀ w ∈ wpX4_has, w ∈ lw_tbl := by
  unfold wpX4_has
  exact List.forall_mem_cons.mpr ⟨(List.mem_of_getElem? (i := 437) (by rfl)), List.forall_mem_append.mpr ⟨toX4_has, List.forall_mem_append.mpr ⟨in_wsX40, fun _ h => absurd h List.not_mem_nil⟩⟩⟩
theorem iX4_has_X4 : ∀ w ∈ wsX40, w ∈ wpX4_has := fun w h => List.mem_cons_of_mem _ (List.mem_append_right _ (List.mem_append_left _ h))
set_option maxHeartbeats 4000000 in
set_option maxRecDepth 100000 in
theorem c_X4_has (l : Launch) (D : va_G) (cI cJ cZ : ClassId) (sz : Nat) (oR rr0 rr1 rr2 : Nat) (i : Int32) (rc : Int32) : Met l yX4_has wpX4_has ({ frames := 0, cells := 0, slots := 0, locals := 0 }) (va_Pc ([.ref oR, .int i] : List Value) (sp_pre D vwCl (sp_ty cI cJ cZ) [(oR, .inr (2, [.ref rr0, .ref rr1, .ref rr2, .int rc]))] sz)) (va_Qi (fun (r : Int32) (_ : Unit) => r = kX4_has i rc ∧ ((r = 1 ∧ (0 ≤ (i : Int32).toInt ∧ (i : Int32).toInt < (rc : Int32).toInt)) ∨ (r = 0 ∧ ¬ (0 ≤ (i : Int32).toInt ∧ (i : Int32).toInt < (rc : Int32).toInt)))) (sp_B D vwCl (va_A [(oR, .inr (2, [.ref rr0, .ref rr1, .ref rr2, .int rc]))] sz) (fun (_ : Unit) => [(oR, .inr (2, [.ref rr0, .ref rr1, .ref rr2, .int rc]))])) (va_A [(oR, .inr (2, [.ref rr0, .ref rr1, .ref rr2, .int rc]))] sz)) 0 0 (va_A [(oR, .inr (2, [.ref rr0, .ref rr1, .ref rr2, .int rc]))] sz) := by
  refine sp_ofW (Qc := fun A => va_Qi (fun (r : Int32) (_ : Unit) => r = kX4_has i rc ∧ ((r = 1 ∧ (0 ≤ (i : Int32).toInt ∧ (i : Int32).toInt < (rc : Int32).toInt)) ∨ (r = 0 ∧ ¬ (0 ≤ (i : Int32).toInt ∧ (i : Int32).toInt < (rc : Int32).toInt)))) (sp_B D vwCl A (fun (_ : Unit) => [(oR, .inr (2, [.ref rr0, .ref rr1, .ref rr2, .int rc]))])) A) (by decide) rfl (Nat.le_of_ble_eq_true rfl) (fun p e s m below meth c A ls H locs C0 hA hS hP hK hD hl => ?_)
  obtain ⟨hx, hb, hr, hts, hown, hlocks, hml, hin⟩ := id C0
  have hown : s.vm.findClass RX4 = some m.cls := hown
  have hl : lv_has ls 2 [(0, .ref oR), (1, .int i)] := hl
  have hK : va_K D vwCl [(cI, .int), (cJ, .long), (cZ, .boolean)] s := hK
  refine lv_iload_n hx hb dX4_has_0 rfl (lv_at hl 1 rfl) ?_
  refine lv_if_lt (tgt := 16) hx hb dX4_has_1 (by decide) (fun c1 => ?_) (fun c1 => ?_)
  · skip
    have c1i : (i : Int32).toInt < 0 := Int32.lt_iff_toInt_lt.mp c1
    refine lv_iconst (v := 0) hx hb dX4_has_16 (by decide) ?_
    refine W.widen (k := 0) (n := 0) (by decide) (by decide) ?_
    exact sp_zret (u := ()) hx hb hr hlocks (by decide) hS ⟨(Eq.symm ((if_pos c1i).trans rfl)), (Or.inr ⟨rfl, by omega⟩)⟩ (hP.sub [0] rfl) (hD.sub [0] (by decide) rfl) dX4_has_17
  · skip
    have c1i : ¬ (i : Int32).toInt < 0 := fun h => c1 (Int32.lt_iff_toInt_lt.mpr h)
    refine lv_iload_n hx hb dX4_has_4 rfl (lv_at hl 1 rfl) ?_
    refine lv_aload_n hx hb dX4_has_5 rfl (lv_at hl 0 rfl) ?_
    refine va_get (D := D) (ci := 2) (v := .int rc) (C := RX4) (T := TX4) (N := 4) hx hb hts iX4_has_X4 hown hK hP 0 rfl rfl 3 (by decide) (hts (.fieldLink RX4 21 "FloatSolver$Rules" "count" "I") (oX4_has_in _ (List.mem_of_getElem? (i := 0) rfl))) (fun _ h9 => h9) rfl dX4_has_6 ?_
    refine lv_icmp_ge (tgt := 16) hx hb dX4_has_9 (by decide) (fun c2 => ?_) (fun c2 => ?_)
    · skip
      have c2i : (rc : Int32).toInt ≤ (i : Int32).toInt := Int32.le_iff_toInt_le.mp c2
      refine lv_iconst (v := 0) hx hb dX4_has_16 (by decide) ?_
      refine W.widen (k := 0) (n := 0) (by decide) (by decide) ?_
      exact sp_zret (u := ()) hx hb hr hlocks (by decide) hS ⟨(Eq.symm ((if_neg c1i).trans ((if_pos c2i).trans rfl))), (Or.inr ⟨rfl, by omega⟩)⟩ (hP.sub [0] rfl) (hD.sub [0] (by decide) rfl) dX4_has_17
    · skip
      have c2i : ¬ (rc : Int32).toInt ≤ (i : Int32).toInt := fun h => c2 (Int32.le_iff_toInt_le.mpr h)
      refine lv_iconst (v := 1) hx hb dX4_has_12 (by decide) ?_
      refine lv_goto (tgt := 17) hx hb dX4_has_13 (by decide) ?_
      refine W.widen (k := 0) (n := 0) (by decide) (by decide) ?_
      exact sp_zret (u := ()) hx hb hr hlocks (by decide) hS ⟨(Eq.symm ((if_neg c1i).trans ((if_neg c2i).trans rfl))), (Or.inl ⟨rfl, by omega⟩)⟩ (hP.sub [0] rfl) (hD.sub [0] (by decide) rfl) dX4_has_17
def oX4_add : List Cond := [.fieldLink RX4 9 "FloatSolver$Rules" "kind" "[I", .fieldLink RX4 21 "FloatSolver$Rules" "count" "I", .fieldLink RX4 15 "FloatSolver$Rules" "a" "[I", .fieldLink RX4 18 "FloatSolver$Rules" "b" "[I"]
def wpX4_add : List Cond := .code yX4_add cX4_add 4 (some .int) :: (oX4_add ++ (wsX40 ++ ([] : List Cond)))
theorem oX4_add_in : ∀ w ∈ oX4_add, w ∈ wpX4_add := fun w h => List.mem_cons_of_mem _ (List.mem_append_left _ h)
theorem gwoX4_add : ∀ w ∈ oX4_add, goodWord w = true := by decide +kernel
theorem gwX4_add : ∀ w ∈ wpX4_add, goodWord w = true := by
  unfold wpX4_add
  exact List.forall_mem_cons.mpr ⟨rfl, List.forall_mem_append.mpr ⟨gwoX4_add, List.forall_mem_append.mpr ⟨gwX4, fun _ h => absurd h List.not_mem_nil⟩⟩⟩
set_option maxRecDepth 100000 in
theorem toX4_add : ∀ w ∈ oX4_add, w ∈ lw_tbl := by
  unfold oX4_add
  exact List.forall_mem_cons.mpr ⟨(List.mem_of_getElem? (i := 109) (by decide +kernel)), List.forall_mem_cons.mpr ⟨(List.mem_of_getElem? (i := 112) (by decide +kernel)), List.forall_mem_cons.mpr ⟨(List.mem_of_getElem? (i := 110) (by decide +kernel)), List.forall_mem_cons.mpr ⟨(List.mem_of_getElem? (i := 111) (by decide +kernel)), fun _ h => absurd h List.not_mem_nil⟩⟩⟩⟩
set_option maxRecDepth 100000 in
theorem tX4_add : ∀ w ∈ wpX4_add, w ∈ lw_tbl := by
  unfold wpX4_add
  exact List.forall_mem_cons.mpr ⟨(List.mem_of_getElem? (i := 298) (by rfl)), List.forall_mem_append.mpr ⟨toX4_add, List.forall_mem_append.mpr ⟨in_wsX40, fun _ h => absurd h List.not_mem_nil⟩⟩⟩
theorem iX4_add_X4 : ∀ w ∈ wsX40, w ∈ wpX4_add := fun w h => List.mem_cons_of_mem _ (List.mem_append_right _ (List.mem_append_left _ h))
set_option maxHeartbeats 4000000 in
set_option maxRecDepth 100000 in
theorem c_X4_add (l : Launch) (D : va_G) (cI cJ cZ : ClassId) (sz : Nat) (oR rr0 rr1 rr2 : Nat) (rk : Nat → Int32) (ra : Nat → Int32) (rb : Nat → Int32) (k : Int32) (x : Int32) (y : Int32) (rc : Int32) (hri : RI rc ra rb) (hrc : (rc : Int32).toInt < 12) (ri_x : 0 ≤ (x : Int32).toInt ∧ (x : Int32).toInt < 40) (ri_y : 0 ≤ (y : Int32).toInt ∧ (y : Int32).toInt < 40) : Met l yX4_add wpX4_add ({ frames := 0, cells := 0, slots := 0, locals := 0 }) (va_Pc ([.ref oR, .int k, .int x, .int y] : List Value) (sp_pre D vwCl (sp_ty cI cJ cZ) [(oR, .inr (2, [.ref rr0, .ref rr1, .ref rr2, .int rc])), (rr0, .inl (cI, 12, .inl rk)), (rr1, .inl (cI, 12, .inl ra)), (rr2, .inl (cI, 12, .inl rb))] sz)) (va_Qi (fun (r : Int32) (u : (Nat → Int32) × (Nat → Int32) × (Nat → Int32)) => match u with | (w0, w1, w2) => r = kX4_add rk ra rb k x y rc ∧ w0 = kX4_add_w0 rk ra rb k x y rc ∧ w1 = kX4_add_w1 rk ra rb k x y rc ∧ w2 = kX4_add_w2 rk ra rb k x y rc ∧ (RI (rc + 1) w1 w2)) (sp_B D vwCl (va_A [(oR, .inr (2, [.ref rr0, .ref rr1, .ref rr2, .int rc])), (rr0, .inl (cI, 12, .inl rk)), (rr1, .inl (cI, 12, .inl ra)), (rr2, .inl (cI, 12, .inl rb))] sz) (fun (u : (Nat → Int32) × (Nat → Int32) × (Nat → Int32)) => match u with | (w0, w1, w2) => [(oR, .inr (2, [.ref rr0, .ref rr1, .ref rr2, .int (rc + 1)])), (rr0, .inl (cI, 12, .inl w0)), (rr1, .inl (cI, 12, .inl w1)), (rr2, .inl (cI, 12, .inl w2))])) (va_A [(oR, .inr (2, [.ref rr0, .ref rr1, .ref rr2, .int rc])), (rr0, .inl (cI, 12, .inl rk)), (rr1, .inl (cI, 12, .inl ra)), (rr2, .inl (cI, 12, .inl rb))] sz)) 0 0 (va_A [(oR, .inr (2, [.ref rr0, .ref rr1, .ref rr2, .int rc])), (rr0, .inl (cI, 12, .inl rk)), (rr1, .inl (cI, 12, .inl ra)), (rr2, .inl (cI, 12, .inl rb))] sz) := by
  refine sp_ofW (Qc := fun A => va_Qi (fun (r : Int32) (u : (Nat → Int32) × (Nat → Int32) × (Nat → Int32)) => match u with | (w0, w1, w2) => r = kX4_add rk ra rb k x y rc ∧ w0 = kX4_add_w0 rk ra rb k x y rc ∧ w1 = kX4_add_w1 rk ra rb k x y rc ∧ w2 = kX4_add_w2 rk ra rb k x y rc ∧ (RI (rc + 1) w1 w2)) (sp_B D vwCl A (fun (u : (Nat → Int32) × (Nat → Int32) × (Nat → Int32)) => match u with | (w0, w1, w2) => [(oR, .inr (2, [.ref rr0, .ref rr1, .ref rr2, .int (rc + 1)])), (rr0, .inl (cI, 12, .inl w0)), (rr1, .inl (cI, 12, .inl w1)), (rr2, .inl (cI, 12, .inl w2))])) A) (by decide) rfl (Nat.le_of_ble_eq_true rfl) (fun p e s m below meth c A ls H locs C0 hA hS hP hK hD hl => ?_)
  obtain ⟨hx, hb, hr, hts, hown, hlocks, hml, hin⟩ := id C0
  have hown : s.vm.findClass RX4 = some m.cls := hown
  have hl : lv_has ls 4 [(0, .ref oR), (1, .int k), (2, .int x), (3, .int y)] := hl
  have hK : va_K D vwCl [(cI, .int), (cJ, .long), (cZ, .boolean)] s := hK
  obtain ⟨hc0, hc1, hci⟩ := id hri
  refine lv_aload_n hx hb dX4_add_0 rfl (lv_at hl 0 rfl) ?_
  refine va_get (D := D) (ci := 2) (v := .ref rr0) (C := RX4) (T := TX4) (N := 4) hx hb hts iX4_add_X4 hown hK hP 0 rfl rfl 0 (by decide) (hts (.fieldLink RX4 9 "FloatSolver$Rules" "kind" "[I") (oX4_add_in _ (List.mem_of_getElem? (i := 0) rfl))) (fun _ h9 => h9) rfl dX4_add_1 ?_
  refine lv_aload_n hx hb dX4_add_4 rfl (lv_at hl 0 rfl) ?_
  refine va_get (D := D) (ci := 2) (v := .int rc) (C := RX4) (T := TX4) (N := 4) hx hb hts iX4_add_X4 hown hK hP 0 rfl rfl 3 (by decide) (hts (.fieldLink RX4 21 "FloatSolver$Rules" "count" "I") (oX4_add_in _ (List.mem_of_getElem? (i := 1) rfl))) (fun _ h9 => h9) rfl dX4_add_5 ?_
  refine lv_iload_n hx hb dX4_add_8 rfl (lv_at hl 1 rfl) ?_
  refine va_iast hx hb hK hP hD hS 1 0 rfl rfl (vp_in_iff.mpr ⟨by omega, by omega⟩) dX4_add_9 (fun H locs hP hD hS => ?_)
  have hP : va_P D vwCl [(oR, .inr (2, [.ref rr0, .ref rr1, .ref rr2, .int rc])), (rr0, .inl (cI, 12, .inl (upd rk ((rc) : Int32).toNatClampNeg k))), (rr1, .inl (cI, 12, .inl ra)), (rr2, .inl (cI, 12, .inl rb))] H := hP
  have hD : va_D A [(oR, .inr (2, [.ref rr0, .ref rr1, .ref rr2, .int rc])), (rr0, .inl (cI, 12, .inl (upd rk ((rc) : Int32).toNatClampNeg k))), (rr1, .inl (cI, 12, .inl ra)), (rr2, .inl (cI, 12, .inl rb))] := hD
  refine lv_aload_n hx hb dX4_add_10 rfl (lv_at hl 0 rfl) ?_
  refine va_get (D := D) (ci := 2) (v := .ref rr1) (C := RX4) (T := TX4) (N := 4) hx hb hts iX4_add_X4 hown hK hP 0 rfl rfl 1 (by decide) (hts (.fieldLink RX4 15 "FloatSolver$Rules" "a" "[I") (oX4_add_in _ (List.mem_of_getElem? (i := 2) rfl))) (fun _ h9 => h9) rfl dX4_add_11 ?_
  refine lv_aload_n hx hb dX4_add_14 rfl (lv_at hl 0 rfl) ?_
  refine va_get (D := D) (ci := 2) (v := .int rc) (C := RX4) (T := TX4) (N := 4) hx hb hts iX4_add_X4 hown hK hP 0 rfl rfl 3 (by decide) (hts (.fieldLink RX4 21 "FloatSolver$Rules" "count" "I") (oX4_add_in _ (List.mem_of_getElem? (i := 1) rfl))) (fun _ h9 => h9) rfl dX4_add_15 ?_
  refine lv_iload_n hx hb dX4_add_18 rfl (lv_at hl 2 rfl) ?_
  refine va_iast hx hb hK hP hD hS 2 0 rfl rfl (vp_in_iff.mpr ⟨by omega, by omega⟩) dX4_add_19 (fun H locs hP hD hS => ?_)
  have hP : va_P D vwCl [(oR, .inr (2, [.ref rr0, .ref rr1, .ref rr2, .int rc])), (rr0, .inl (cI, 12, .inl (upd rk ((rc) : Int32).toNatClampNeg k))), (rr1, .inl (cI, 12, .inl (upd ra ((rc) : Int32).toNatClampNeg x))), (rr2, .inl (cI, 12, .inl rb))] H := hP
  have hD : va_D A [(oR, .inr (2, [.ref rr0, .ref rr1, .ref rr2, .int rc])), (rr0, .inl (cI, 12, .inl (upd rk ((rc) : Int32).toNatClampNeg k))), (rr1, .inl (cI, 12, .inl (upd ra ((rc) : Int32).toNatClampNeg x))), (rr2, .inl (cI, 12, .inl rb))] := hD
  refine lv_aload_n hx hb dX4_add_20 rfl (lv_at hl 0 rfl) ?_
  refine va_get (D := D) (ci := 2) (v := .ref rr2) (C := RX4) (T := TX4) (N := 4) hx hb hts iX4_add_X4 hown hK hP 0 rfl rfl 2 (by decide) (hts (.fieldLink RX4 18 "FloatSolver$Rules" "b" "[I") (oX4_add_in _ (List.mem_of_getElem? (i := 3) rfl))) (fun _ h9 => h9) rfl dX4_add_21 ?_
  refine lv_aload_n hx hb dX4_add_24 rfl (lv_at hl 0 rfl) ?_
  refine va_get (D := D) (ci := 2) (v := .int rc) (C := RX4) (T := TX4) (N := 4) hx hb hts iX4_add_X4 hown hK hP 0 rfl rfl 3 (by decide) (hts (.fieldLink RX4 21 "FloatSolver$Rules" "count" "I") (oX4_add_in _ (List.mem_of_getElem? (i := 1) rfl))) (fun _ h9 => h9) rfl dX4_add_25 ?_
  refine lv_iload_n hx hb dX4_add_28 rfl (lv_at hl 3 rfl) ?_
  refine va_iast hx hb hK hP hD hS 3 0 rfl rfl (vp_in_iff.mpr ⟨by omega, by omega⟩) dX4_add_29 (fun H locs hP hD hS => ?_)
  have hP : va_P D vwCl [(oR, .inr (2, [.ref rr0, .ref rr1, .ref rr2, .int rc])), (rr0, .inl (cI, 12, .inl (upd rk ((rc) : Int32).toNatClampNeg k))), (rr1, .inl (cI, 12, .inl (upd ra ((rc) : Int32).toNatClampNeg x))), (rr2, .inl (cI, 12, .inl (upd rb ((rc) : Int32).toNatClampNeg y)))] H := hP
  have hD : va_D A [(oR, .inr (2, [.ref rr0, .ref rr1, .ref rr2, .int rc])), (rr0, .inl (cI, 12, .inl (upd rk ((rc) : Int32).toNatClampNeg k))), (rr1, .inl (cI, 12, .inl (upd ra ((rc) : Int32).toNatClampNeg x))), (rr2, .inl (cI, 12, .inl (upd rb ((rc) : Int32).toNatClampNeg y)))] := hD
  refine lv_aload_n hx hb dX4_add_30 rfl (lv_at hl 0 rfl) ?_
  refine lv_dup hx hb dX4_add_31 rfl ?_
  refine va_get (D := D) (ci := 2) (v := .int rc) (C := RX4) (T := TX4) (N := 4) hx hb hts iX4_add_X4 hown hK hP 0 rfl rfl 3 (by decide) (hts (.fieldLink RX4 21 "FloatSolver$Rules" "count" "I") (oX4_add_in _ (List.mem_of_getElem? (i := 1) rfl))) (fun _ h9 => h9) rfl dX4_add_32 ?_
  refine lv_iconst (v := 1) hx hb dX4_add_35 (by decide) ?_
  refine lv_iadd hx hb dX4_add_36 ?_
  refine va_put (D := D) (ci := 2) (v := .int (rc + 1)) (ty := .int) (C := RX4) (T := TX4) (N := 4) hx hb hts iX4_add_X4 tyX4 tyX4_ok nmX4 hown hK hP hD hS 0 rfl rfl 3 (by decide) (hts (.fieldLink RX4 21 "FloatSolver$Rules" "count" "I") (oX4_add_in _ (List.mem_of_getElem? (i := 1) rfl))) (fun _ h9 => h9) rfl (by decide +kernel) rfl rfl (Nat.le_of_ble_eq_true rfl) dX4_add_37 (fun H locs hP hD hS => ?_)
  have hP : va_P D vwCl [(oR, .inr (2, [.ref rr0, .ref rr1, .ref rr2, .int (rc + 1)])), (rr0, .inl (cI, 12, .inl (upd rk ((rc) : Int32).toNatClampNeg k))), (rr1, .inl (cI, 12, .inl (upd ra ((rc) : Int32).toNatClampNeg x))), (rr2, .inl (cI, 12, .inl (upd rb ((rc) : Int32).toNatClampNeg y)))] H := hP
  have hD : va_D A [(oR, .inr (2, [.ref rr0, .ref rr1, .ref rr2, .int (rc + 1)])), (rr0, .inl (cI, 12, .inl (upd rk ((rc) : Int32).toNatClampNeg k))), (rr1, .inl (cI, 12, .inl (upd ra ((rc) : Int32).toNatClampNeg x))), (rr2, .inl (cI, 12, .inl (upd rb ((rc) : Int32).toNatClampNeg y)))] := hD
  refine lv_aload_n hx hb dX4_add_40 rfl (lv_at hl 0 rfl) ?_
  refine va_get (D := D) (ci := 2) (v := .int (rc + 1)) (C := RX4) (T := TX4) (N := 4) hx hb hts iX4_add_X4 hown hK hP 0 rfl rfl 3 (by decide) (hts (.fieldLink RX4 21 "FloatSolver$Rules" "count" "I") (oX4_add_in _ (List.mem_of_getElem? (i := 1) rfl))) (fun _ h9 => h9) rfl dX4_add_41 ?_
  refine lv_iconst (v := 1) hx hb dX4_add_44 (by decide) ?_
  refine lv_isub hx hb dX4_add_45 ?_
  refine W.widen (k := 0) (n := 0) (by decide) (by decide) ?_
  exact sp_iret (u := ((upd rk ((rc) : Int32).toNatClampNeg k), (upd ra ((rc) : Int32).toNatClampNeg x), (upd rb ((rc) : Int32).toNatClampNeg y))) hx hb hr hlocks hS ⟨(Eq.symm rfl), (Eq.symm rfl), (Eq.symm rfl), (Eq.symm rfl), RI.add hri hrc ri_x ri_y⟩ (hP.sub [0, 1, 2, 3] rfl) (hD.sub [0, 1, 2, 3] (by decide) rfl) dX4_add_46
def oX4_clear : List Cond := [.fieldLink RX4 21 "FloatSolver$Rules" "count" "I"]
def wpX4_clear : List Cond := .code yX4_clear cX4_clear 2 (some .int) :: (oX4_clear ++ (wsX40 ++ ([] : List Cond)))
theorem oX4_clear_in : ∀ w ∈ oX4_clear, w ∈ wpX4_clear := fun w h => List.mem_cons_of_mem _ (List.mem_append_left _ h)
theorem gwoX4_clear : ∀ w ∈ oX4_clear, goodWord w = true := by decide +kernel
theorem gwX4_clear : ∀ w ∈ wpX4_clear, goodWord w = true := by
  unfold wpX4_clear
  exact List.forall_mem_cons.mpr ⟨rfl, List.forall_mem_append.mpr ⟨gwoX4_clear, List.forall_mem_append.mpr ⟨gwX4, fun _ h => absurd h List.not_mem_nil⟩⟩⟩
set_option maxRecDepth 100000 in
theorem toX4_clear : ∀ w ∈ oX4_clear, w ∈ lw_tbl := by
  unfold oX4_clear
  exact List.forall_mem_cons.mpr ⟨(List.mem_of_getElem? (i := 112) (by decide +kernel)), fun _ h => absurd h List.not_mem_nil⟩
set_option maxRecDepth 100000 in
theorem tX4_clear : ∀ w ∈ wpX4_clear, w ∈ lw_tbl := by
  unfold wpX4_clear
  exact List.forall_mem_cons.mpr ⟨(List.mem_of_getElem? (i := 306) (by rfl)), List.forall_mem_append.mpr ⟨toX4_clear, List.forall_mem_append.mpr ⟨in_wsX40, fun _ h => absurd h List.not_mem_nil⟩⟩⟩
theorem iX4_clear_X4 : ∀ w ∈ wsX40, w ∈ wpX4_clear := fun w h => List.mem_cons_of_mem _ (List.mem_append_right _ (List.mem_append_left _ h))
set_option maxHeartbeats 4000000 in
set_option maxRecDepth 100000 in
theorem c_X4_clear (l : Launch) (D : va_G) (cI cJ cZ : ClassId) (sz : Nat) (oR rr0 rr1 rr2 : Nat) (rc : Int32) : Met l yX4_clear wpX4_clear ({ frames := 0, cells := 0, slots := 0, locals := 0 }) (va_Pc ([.ref oR] : List Value) (sp_pre D vwCl (sp_ty cI cJ cZ) [(oR, .inr (2, [.ref rr0, .ref rr1, .ref rr2, .int rc]))] sz)) (va_Qi (fun (r : Int32) (_ : Unit) => r = kX4_clear rc) (sp_B D vwCl (va_A [(oR, .inr (2, [.ref rr0, .ref rr1, .ref rr2, .int rc]))] sz) (fun (_ : Unit) => [(oR, .inr (2, [.ref rr0, .ref rr1, .ref rr2, .int 0]))])) (va_A [(oR, .inr (2, [.ref rr0, .ref rr1, .ref rr2, .int rc]))] sz)) 0 0 (va_A [(oR, .inr (2, [.ref rr0, .ref rr1, .ref rr2, .int rc]))] sz) := by
  refine sp_ofW (Qc := fun A => va_Qi (fun (r : Int32) (_ : Unit) => r = kX4_clear rc) (sp_B D vwCl A (fun (_ : Unit) => [(oR, .inr (2, [.ref rr0, .ref rr1, .ref rr2, .int 0]))])) A) (by decide) rfl (Nat.le_of_ble_eq_true rfl) (fun p e s m below meth c A ls H locs C0 hA hS hP hK hD hl => ?_)
  obtain ⟨hx, hb, hr, hts, hown, hlocks, hml, hin⟩ := id C0
  have hown : s.vm.findClass RX4 = some m.cls := hown
  have hl : lv_has ls 2 [(0, .ref oR)] := hl
  have hK : va_K D vwCl [(cI, .int), (cJ, .long), (cZ, .boolean)] s := hK
  refine lv_aload_n hx hb dX4_clear_0 rfl (lv_at hl 0 rfl) ?_
  refine va_get (D := D) (ci := 2) (v := .int rc) (C := RX4) (T := TX4) (N := 4) hx hb hts iX4_clear_X4 hown hK hP 0 rfl rfl 3 (by decide) (hts (.fieldLink RX4 21 "FloatSolver$Rules" "count" "I") (oX4_clear_in _ (List.mem_of_getElem? (i := 0) rfl))) (fun _ h9 => h9) rfl dX4_clear_1 ?_
  refine lv_istore_n (lv' := [(1, .int rc), (0, .ref oR)]) hx hb dX4_clear_4 rfl hl (by decide) rfl (fun ls hl => ?_)
  refine lv_aload_n hx hb dX4_clear_5 rfl (lv_at hl 1 rfl) ?_
  refine lv_iconst (v := 0) hx hb dX4_clear_6 (by decide) ?_
  refine va_put (D := D) (ci := 2) (v := .int 0) (ty := .int) (C := RX4) (T := TX4) (N := 4) hx hb hts iX4_clear_X4 tyX4 tyX4_ok nmX4 hown hK hP hD hS 0 rfl rfl 3 (by decide) (hts (.fieldLink RX4 21 "FloatSolver$Rules" "count" "I") (oX4_clear_in _ (List.mem_of_getElem? (i := 0) rfl))) (fun _ h9 => h9) rfl (by decide +kernel) rfl rfl (Nat.le_of_ble_eq_true rfl) dX4_clear_7 (fun H locs hP hD hS => ?_)
  have hP : va_P D vwCl [(oR, .inr (2, [.ref rr0, .ref rr1, .ref rr2, .int 0]))] H := hP
  have hD : va_D A [(oR, .inr (2, [.ref rr0, .ref rr1, .ref rr2, .int 0]))] := hD
  refine lv_iload_n hx hb dX4_clear_10 rfl (lv_at hl 0 rfl) ?_
  refine W.widen (k := 0) (n := 0) (by decide) (by decide) ?_
  exact sp_iret (u := ()) hx hb hr hlocks hS (Eq.symm rfl) (hP.sub [0] rfl) (hD.sub [0] (by decide) rfl) dX4_clear_11
def oX4_restOn : List Cond := [.fieldLink RX4 25 "FloatSolver$Nodes" "rests" "[J", .fieldLink RX4 15 "FloatSolver$Rules" "a" "[I", .fieldLink RX4 18 "FloatSolver$Rules" "b" "[I"]
def wpX4_restOn : List Cond := .code yX4_restOn cX4_restOn 3 (some .long) :: (oX4_restOn ++ (wsX30 ++ (wsX40 ++ ([] : List Cond))))
theorem oX4_restOn_in : ∀ w ∈ oX4_restOn, w ∈ wpX4_restOn := fun w h => List.mem_cons_of_mem _ (List.mem_append_left _ h)
theorem gwoX4_restOn : ∀ w ∈ oX4_restOn, goodWord w = true := by decide +kernel
theorem gwX4_restOn : ∀ w ∈ wpX4_restOn, goodWord w = true := by
  unfold wpX4_restOn
  exact List.forall_mem_cons.mpr ⟨rfl, List.forall_mem_append.mpr ⟨gwoX4_restOn, List.forall_mem_append.mpr ⟨gwX3, List.forall_mem_append.mpr ⟨gwX4, fun _ h => absurd h List.not_mem_nil⟩⟩⟩⟩
set_option maxRecDepth 100000 in
theorem toX4_restOn : ∀ w ∈ oX4_restOn, w ∈ lw_tbl := by
  unfold oX4_restOn
  exact List.forall_mem_cons.mpr ⟨(List.mem_of_getElem? (i := 79) (by decide +kernel)), List.forall_mem_cons.mpr ⟨(List.mem_of_getElem? (i := 110) (by decide +kernel)), List.forall_mem_cons.mpr ⟨(List.mem_of_getElem? (i := 111) (by decide +kernel)), fun _ h => absurd h List.not_mem_nil⟩⟩⟩
set_option maxRecDepth 100000 in
theorem tX4_restOn : ∀ w ∈ wpX4_restOn, w ∈ lw_tbl := by
  unfold wpX4_restOn
  exact List.forall_mem_cons.mpr ⟨(List.mem_of_getElem? (i := 529) (by rfl)), List.forall_mem_append.mpr ⟨toX4_restOn, List.forall_mem_append.mpr ⟨in_wsX30, List.forall_mem_append.mpr ⟨in_wsX40, fun _ h => absurd h List.not_mem_nil⟩⟩⟩⟩
theorem iX4_restOn_X3 : ∀ w ∈ wsX30, w ∈ wpX4_restOn := fun w h => List.mem_cons_of_mem _ (List.mem_append_right _ (List.mem_append_left _ h))
theorem iX4_restOn_X4 : ∀ w ∈ wsX40, w ∈ wpX4_restOn := fun w h => List.mem_cons_of_mem _ (List.mem_append_right _ (List.mem_append_right _ (List.mem_append_left _ h)))
set_option maxHeartbeats 4000000 in
set_option maxRecDepth 100000 in
theorem c_X4_restOn (l : Launch) (D : va_G) (cI cJ cZ : ClassId) (sz : Nat) (oR oN rr0 rr1 rr2 n0 n1 n2 n3 n4 n5 : Nat) (ra : Nat → Int32) (rb : Nat → Int32) (k4 : Nat → Int64) (i : Int32) (rc : Int32) (cn : Int32) (hri : RI rc ra rb) (hir : 0 ≤ (i : Int32).toInt ∧ (i : Int32).toInt < (rc : Int32).toInt) : Met l yX4_restOn wpX4_restOn ({ frames := 0, cells := 0, slots := 0, locals := 0 }) (va_Pc ([.ref oR, .int i, .ref oN] : List Value) (sp_pre D vwCl (sp_ty cI cJ cZ) [(oR, .inr (2, [.ref rr0, .ref rr1, .ref rr2, .int rc])), (rr1, .inl (cI, 12, .inl ra)), (rr2, .inl (cI, 12, .inl rb)), (oN, .inr (1, [.ref n0, .ref n1, .ref n2, .ref n3, .ref n4, .ref n5, .int cn])), (n4, .inl (cJ, 40, .inr (.inl k4)))] sz)) (va_Ql (fun (r : Int64) (_ : Unit) => r = kX4_restOn ra rb k4 i) (sp_B D vwCl (va_A [(oR, .inr (2, [.ref rr0, .ref rr1, .ref rr2, .int rc])), (rr1, .inl (cI, 12, .inl ra)), (rr2, .inl (cI, 12, .inl rb)), (oN, .inr (1, [.ref n0, .ref n1, .ref n2, .ref n3, .ref n4, .ref n5, .int cn])), (n4, .inl (cJ, 40, .inr (.inl k4)))] sz) (fun (_ : Unit) => [(oR, .inr (2, [.ref rr0, .ref rr1, .ref rr2, .int rc])), (rr1, .inl (cI, 12, .inl ra)), (rr2, .inl (cI, 12, .inl rb)), (oN, .inr (1, [.ref n0, .ref n1, .ref n2, .ref n3, .ref n4, .ref n5, .int cn])), (n4, .inl (cJ, 40, .inr (.inl k4)))])) (va_A [(oR, .inr (2, [.ref rr0, .ref rr1, .ref rr2, .int rc])), (rr1, .inl (cI, 12, .inl ra)), (rr2, .inl (cI, 12, .inl rb)), (oN, .inr (1, [.ref n0, .ref n1, .ref n2, .ref n3, .ref n4, .ref n5, .int cn])), (n4, .inl (cJ, 40, .inr (.inl k4)))] sz)) 0 0 (va_A [(oR, .inr (2, [.ref rr0, .ref rr1, .ref rr2, .int rc])), (rr1, .inl (cI, 12, .inl ra)), (rr2, .inl (cI, 12, .inl rb)), (oN, .inr (1, [.ref n0, .ref n1, .ref n2, .ref n3, .ref n4, .ref n5, .int cn])), (n4, .inl (cJ, 40, .inr (.inl k4)))] sz) := by
  refine sp_ofW (Qc := fun A => va_Ql (fun (r : Int64) (_ : Unit) => r = kX4_restOn ra rb k4 i) (sp_B D vwCl A (fun (_ : Unit) => [(oR, .inr (2, [.ref rr0, .ref rr1, .ref rr2, .int rc])), (rr1, .inl (cI, 12, .inl ra)), (rr2, .inl (cI, 12, .inl rb)), (oN, .inr (1, [.ref n0, .ref n1, .ref n2, .ref n3, .ref n4, .ref n5, .int cn])), (n4, .inl (cJ, 40, .inr (.inl k4)))])) A) (by decide) rfl (Nat.le_of_ble_eq_true rfl) (fun p e s m below meth c A ls H locs C0 hA hS hP hK hD hl => ?_)
  obtain ⟨hx, hb, hr, hts, hown, hlocks, hml, hin⟩ := id C0
  have hown : s.vm.findClass RX4 = some m.cls := hown
  have hl : lv_has ls 3 [(0, .ref oR), (1, .int i), (2, .ref oN)] := hl
  have hK : va_K D vwCl [(cI, .int), (cJ, .long), (cZ, .boolean)] s := hK
  obtain ⟨hc0, hc1, hci⟩ := id hri
  have hR := RI.pt hri hir
  refine lv_aload_n hx hb dX4_restOn_0 rfl (lv_at hl 2 rfl) ?_
  refine va_get (D := D) (ci := 1) (v := .ref n4) (C := RX3) (T := TX3) (N := 7) hx hb hts iX4_restOn_X3 hown hK hP 3 rfl rfl 4 (by decide) (hts (.fieldLink RX4 25 "FloatSolver$Nodes" "rests" "[J") (oX4_restOn_in _ (List.mem_of_getElem? (i := 0) rfl))) (fun _ h9 => h9) rfl dX4_restOn_1 ?_
  refine lv_aload_n hx hb dX4_restOn_4 rfl (lv_at hl 0 rfl) ?_
  refine va_get (D := D) (ci := 2) (v := .ref rr1) (C := RX4) (T := TX4) (N := 4) hx hb hts iX4_restOn_X4 hown hK hP 0 rfl rfl 1 (by decide) (hts (.fieldLink RX4 15 "FloatSolver$Rules" "a" "[I") (oX4_restOn_in _ (List.mem_of_getElem? (i := 1) rfl))) (fun _ h9 => h9) rfl dX4_restOn_5 ?_
  refine lv_iload_n hx hb dX4_restOn_8 rfl (lv_at hl 1 rfl) ?_
  refine va_iald hx hb hK hP 1 0 rfl rfl (vp_in_iff.mpr ⟨by omega, by omega⟩) dX4_restOn_9 ?_
  refine va_lald hx hb hK hP 4 1 rfl rfl (vp_in_iff.mpr ⟨by omega, by omega⟩) dX4_restOn_10 ?_
  refine lv_aload_n hx hb dX4_restOn_11 rfl (lv_at hl 2 rfl) ?_
  refine va_get (D := D) (ci := 1) (v := .ref n4) (C := RX3) (T := TX3) (N := 7) hx hb hts iX4_restOn_X3 hown hK hP 3 rfl rfl 4 (by decide) (hts (.fieldLink RX4 25 "FloatSolver$Nodes" "rests" "[J") (oX4_restOn_in _ (List.mem_of_getElem? (i := 0) rfl))) (fun _ h9 => h9) rfl dX4_restOn_12 ?_
  refine lv_aload_n hx hb dX4_restOn_15 rfl (lv_at hl 0 rfl) ?_
  refine va_get (D := D) (ci := 2) (v := .ref rr2) (C := RX4) (T := TX4) (N := 4) hx hb hts iX4_restOn_X4 hown hK hP 0 rfl rfl 2 (by decide) (hts (.fieldLink RX4 18 "FloatSolver$Rules" "b" "[I") (oX4_restOn_in _ (List.mem_of_getElem? (i := 2) rfl))) (fun _ h9 => h9) rfl dX4_restOn_16 ?_
  refine lv_iload_n hx hb dX4_restOn_19 rfl (lv_at hl 1 rfl) ?_
  refine va_iald hx hb hK hP 2 0 rfl rfl (vp_in_iff.mpr ⟨by omega, by omega⟩) dX4_restOn_20 ?_
  refine va_lald hx hb hK hP 4 1 rfl rfl (vp_in_iff.mpr ⟨by omega, by omega⟩) dX4_restOn_21 ?_
  refine lv_lor hx hb dX4_restOn_22 ?_
  refine W.widen (k := 0) (n := 0) (by decide) (by decide) ?_
  exact sp_lret (u := ()) hx hb hr hlocks hS (Eq.symm rfl) (hP.sub [0, 1, 2, 3, 4] rfl) (hD.sub [0, 1, 2, 3, 4] (by decide) rfl) dX4_restOn_23
def oX4_allRestOn : List Cond := [.fieldLink RX4 21 "FloatSolver$Rules" "count" "I"]
def wpX4_allRestOn : List Cond := .code yX4_allRestOn cX4_allRestOn 5 (some .long) :: (oX4_allRestOn ++ (wsX40 ++ ((wsV RX4 31 RX4 yX4_restOn wpX4_restOn) ++ ([] : List Cond))))
theorem oX4_allRestOn_in : ∀ w ∈ oX4_allRestOn, w ∈ wpX4_allRestOn := fun w h => List.mem_cons_of_mem _ (List.mem_append_left _ h)
theorem gwoX4_allRestOn : ∀ w ∈ oX4_allRestOn, goodWord w = true := by decide +kernel
theorem gwX4_allRestOn : ∀ w ∈ wpX4_allRestOn, goodWord w = true := by
  unfold wpX4_allRestOn
  exact List.forall_mem_cons.mpr ⟨rfl, List.forall_mem_append.mpr ⟨gwoX4_allRestOn, List.forall_mem_append.mpr ⟨gwX4, List.forall_mem_append.mpr ⟨(sp_gV gwX4_restOn), fun _ h => absurd h List.not_mem_nil⟩⟩⟩⟩
set_option maxRecDepth 100000 in
theorem toX4_allRestOn : ∀ w ∈ oX4_allRestOn, w ∈ lw_tbl := by
  unfold oX4_allRestOn
  exact List.forall_mem_cons.mpr ⟨(List.mem_of_getElem? (i := 112) (by decide +kernel)), fun _ h => absurd h List.not_mem_nil⟩
set_option maxRecDepth 100000 in
theorem tX4_allRestOn : ∀ w ∈ wpX4_allRestOn, w ∈ lw_tbl := by
  unfold wpX4_allRestOn
  exact List.forall_mem_cons.mpr ⟨(List.mem_of_getElem? (i := 562) (by rfl)), List.forall_mem_append.mpr ⟨toX4_allRestOn, List.forall_mem_append.mpr ⟨in_wsX40, List.forall_mem_append.mpr ⟨(sp_tV (List.mem_of_getElem? (i := 563) (by decide +kernel)) (List.mem_of_getElem? (i := 527) (by decide +kernel)) (List.mem_of_getElem? (i := 528) (by decide +kernel)) (List.mem_of_getElem? (i := 40) (by decide +kernel)) tX4_restOn), fun _ h => absurd h List.not_mem_nil⟩⟩⟩⟩
theorem iX4_allRestOn_X4 : ∀ w ∈ wsX40, w ∈ wpX4_allRestOn := fun w h => List.mem_cons_of_mem _ (List.mem_append_right _ (List.mem_append_left _ h))
theorem gX4_allRestOn_X4_restOn_31 : GoodIn wpX4_allRestOn (wsV RX4 31 RX4 yX4_restOn wpX4_restOn) := fun w h => ⟨List.mem_cons_of_mem _ (List.mem_append_right _ (List.mem_append_right _ (List.mem_append_left _ h))), good_of_word (sp_gV gwX4_restOn w h)⟩
set_option maxHeartbeats 4000000 in
set_option maxRecDepth 100000 in
theorem lp_X4_allRestOn_5 {p : Program} {e : Env} {s : State} {m : MethodId} {below : List Frame} {meth : Method} {c : Code} {A : Nat → Prop} (l : Launch) (D : va_G) (cI cJ cZ : ClassId) (oR oN rr0 rr1 rr2 n0 n1 n2 n3 n4 n5 : Nat) (ra : Nat → Int32) (rb : Nat → Int32) (k4 : Nat → Int64) (rc : Int32) (cn : Int32) (hri : RI rc ra rb) (C0 : sp_C cX4_allRestOn (some .long) 5 wpX4_allRestOn yX4_allRestOn.cls yX4_allRestOn.name p s m ([.ref oR, .ref oN] : List Value).toArray meth c) (hA : ∀ q : Nat, s.heap.size ≤ q → A q) (hK : va_K D vwCl [(cI, .int), (cJ, .long), (cZ, .boolean)] s) :
    ∀ (fuel : Nat) (al : Int64) (i : Int32) (H : Heap) (locs : List Loc) (ls : Array Slot), (0 ≤ (i : Int32).toInt) → ((i : Int32).toInt ≤ (rc : Int32).toInt) → (kX4_allRestOn ra rb k4 rc = kX4_allRestOn_l5 fuel ra rb k4 rc al i) → ((rc : Int32).toInt - (i : Int32).toInt < (fuel : Int)) → va_P D vwCl [(oR, .inr (2, [.ref rr0, .ref rr1, .ref rr2, .int rc])), (rr1, .inl (cI, 12, .inl ra)), (rr2, .inl (cI, 12, .inl rb)), (oN, .inr (1, [.ref n0, .ref n1, .ref n2, .ref n3, .ref n4, .ref n5, .int cn])), (n4, .inl (cJ, 40, .inr (.inl k4)))] H → va_D A [(oR, .inr (2, [.ref rr0, .ref rr1, .ref rr2, .int rc])), (rr1, .inl (cI, 12, .inl ra)), (rr2, .inl (cI, 12, .inl rb)), (oN, .inr (1, [.ref n0, .ref n1, .ref n2, .ref n3, .ref n4, .ref n5, .int cn])), (n4, .inl (cJ, 40, .inr (.inl k4)))] → va_S A s.heap H locs → lv_has ls 5 [(0, .ref oR), (1, .ref oN), (2, .long al), (4, .int i)] → W p l e ({ frames := 1, cells := 0, slots := 0, locals := 22 }) s m (([.ref oR, .ref oN] : List Value).toArray) below meth c H locs 0 0 (MQ below (va_Ql (fun (r : Int64) (_ : Unit) => r = kX4_allRestOn ra rb k4 rc) (sp_B D vwCl A (fun (_ : Unit) => [(oR, .inr (2, [.ref rr0, .ref rr1, .ref rr2, .int rc])), (rr1, .inl (cI, 12, .inl ra)), (rr2, .inl (cI, 12, .inl rb)), (oN, .inr (1, [.ref n0, .ref n1, .ref n2, .ref n3, .ref n4, .ref n5, .int cn])), (n4, .inl (cJ, 40, .inr (.inl k4)))])) A) ([.ref oR, .ref oN] : List Value).toArray s 0 0 A) (F0 m 5 ls []) := by
  obtain ⟨hx, hb, hr, hts, hown, hlocks, hml, hin⟩ := id C0
  have hown : s.vm.findClass RX4 = some m.cls := hown
  intro fuel
  induction fuel with
  | zero =>
    intro al i H locs ls h0 h1 hk_r hm
    exact absurd hm (by omega)
  | succ fuel ih =>
    intro al i H locs ls h0 h1 hk_r hm hP hD hS hl
    obtain ⟨hc0, hc1, hci⟩ := id hri
    refine lv_iload hx hb dX4_allRestOn_5 (lv_at hl 3 rfl) ?_
    refine lv_aload_n hx hb dX4_allRestOn_7 rfl (lv_at hl 0 rfl) ?_
    refine va_get (D := D) (ci := 2) (v := .int rc) (C := RX4) (T := TX4) (N := 4) hx hb hts iX4_allRestOn_X4 hown hK hP 0 rfl rfl 3 (by decide) (hts (.fieldLink RX4 21 "FloatSolver$Rules" "count" "I") (oX4_allRestOn_in _ (List.mem_of_getElem? (i := 0) rfl))) (fun _ h9 => h9) rfl dX4_allRestOn_8 ?_
    refine lv_icmp_ge (tgt := 30) hx hb dX4_allRestOn_11 (by decide) (fun c1 => ?_) (fun c1 => ?_)
    · skip
      have c1i : (rc : Int32).toInt ≤ (i : Int32).toInt := Int32.le_iff_toInt_le.mp c1
      refine lv_lload_n hx hb dX4_allRestOn_30 rfl (lv_at hl 2 rfl) ?_
      refine W.widen (k := 0) (n := 0) (by decide) (by decide) ?_
      exact sp_lret (u := ()) hx hb hr hlocks hS (Eq.symm (hk_r.trans ((if_pos c1i).trans rfl))) (hP.sub [0, 1, 2, 3, 4] rfl) (hD.sub [0, 1, 2, 3, 4] (by decide) rfl) dX4_allRestOn_31
    · skip
      have c1i : ¬ (rc : Int32).toInt ≤ (i : Int32).toInt := fun h => c1 (Int32.le_iff_toInt_le.mpr h)
      refine lv_lload_n hx hb dX4_allRestOn_14 rfl (lv_at hl 2 rfl) ?_
      refine lv_aload_n hx hb dX4_allRestOn_15 rfl (lv_at hl 0 rfl) ?_
      refine lv_iload hx hb dX4_allRestOn_16 (lv_at hl 3 rfl) ?_
      refine lv_aload_n hx hb dX4_allRestOn_18 rfl (lv_at hl 1 rfl) ?_
      refine sp_callj (wr := []) (wc := [(oR, .inr (2, [.ref rr0, .ref rr1, .ref rr2, .int rc])), (rr1, .inl (cI, 12, .inl ra)), (rr2, .inl (cI, 12, .inl rb)), (oN, .inr (1, [.ref n0, .ref n1, .ref n2, .ref n3, .ref n4, .ref n5, .int cn])), (n4, .inl (cJ, 40, .inr (.inl k4)))]) hP hD hS hA [0, 1, 2, 3, 4] [] rfl rfl (by decide) (by decide) (va_runV (As := [.int i, .ref oN]) (rest := [.long al]) ⟨hx, hb, hml, hown, hts⟩ (c_X4_restOn l D cI cJ cZ H.size oR oN rr0 rr1 rr2 n0 n1 n2 n3 n4 n5 ra rb k4 i rc cn (by first | assumption | omega) (by first | omega | assumption)) (cwV 2 hts gX4_allRestOn_X4_restOn_31 rfl rfl rfl (by decide +kernel) ⟨Nat.le_of_ble_eq_true rfl, Nat.le_of_ble_eq_true rfl⟩) (sp_preV (ci := 2) (q0 := 0) [.int i, .ref oN] hK (hP.sub (ws' := [(oR, .inr (2, [.ref rr0, .ref rr1, .ref rr2, .int rc])), (rr1, .inl (cI, 12, .inl ra)), (rr2, .inl (cI, 12, .inl rb)), (oN, .inr (1, [.ref n0, .ref n1, .ref n2, .ref n3, .ref n4, .ref n5, .int cn])), (n4, .inl (cJ, 40, .inr (.inl k4)))]) [0, 1, 2, 3, 4] rfl) (hD.sub (ws' := [(oR, .inr (2, [.ref rr0, .ref rr1, .ref rr2, .int rc])), (rr1, .inl (cI, 12, .inl ra)), (rr2, .inl (cI, 12, .inl rb)), (oN, .inr (1, [.ref n0, .ref n1, .ref n2, .ref n3, .ref n4, .ref n5, .int cn])), (n4, .inl (cJ, 40, .inr (.inl k4)))]) [0, 1, 2, 3, 4] (by decide) rfl) rfl rfl) rfl rfl hl.1 rfl (lv_room (Nat.le_of_ble_eq_true rfl)) dX4_allRestOn_19 ⟨Nat.le_of_ble_eq_true rfl, Nat.le_of_ble_eq_true rfl⟩) (fun r3 u4 H locs hw5 hP hD hS => ?_)
      have hq_5_0 : r3 = (kX4_restOn ra rb k4 i) := hw5
      subst r3
      have hP : va_P D vwCl [(oR, .inr (2, [.ref rr0, .ref rr1, .ref rr2, .int rc])), (rr1, .inl (cI, 12, .inl ra)), (rr2, .inl (cI, 12, .inl rb)), (oN, .inr (1, [.ref n0, .ref n1, .ref n2, .ref n3, .ref n4, .ref n5, .int cn])), (n4, .inl (cJ, 40, .inr (.inl k4)))] H := hP
      have hD : va_D A [(oR, .inr (2, [.ref rr0, .ref rr1, .ref rr2, .int rc])), (rr1, .inl (cI, 12, .inl ra)), (rr2, .inl (cI, 12, .inl rb)), (oN, .inr (1, [.ref n0, .ref n1, .ref n2, .ref n3, .ref n4, .ref n5, .int cn])), (n4, .inl (cJ, 40, .inr (.inl k4)))] := hD
      refine lv_lor hx hb dX4_allRestOn_22 ?_
      refine lv_lstore_n (lv' := [(2, .long (kX4_allRestOn_l5_s23 ra rb k4 rc al i)), (0, .ref oR), (1, .ref oN), (4, .int i)]) hx hb dX4_allRestOn_23 rfl hl (by decide) rfl (fun ls hl => ?_)
      refine lv_iinc (v := (i + 1)) (lv' := [(4, .int (i + 1)), (2, .long (kX4_allRestOn_l5_s23 ra rb k4 rc al i)), (0, .ref oR), (1, .ref oN)]) hx hb dX4_allRestOn_24 hl (k := 3) rfl rfl (by decide) rfl (fun ls hl => ?_)
      have ii6 : ((i + 1) : Int32).toInt = (i : Int32).toInt + 1 := px_iadd (show -2147483648 ≤ (i : Int32).toInt + 1 by omega) (show (i : Int32).toInt + 1 < 2147483648 by omega)
      refine lv_goto (tgt := 5) hx hb dX4_allRestOn_27 (by decide) ?_
      exact ih ((kX4_allRestOn_l5_s23 ra rb k4 rc al i)) ((i + 1)) _ _ _ (by first | assumption | omega) (by first | assumption | omega) (hk_r.trans ((if_neg c1i).trans rfl)) (by omega) (hP.sub [0, 1, 2, 3, 4] rfl) (hD.sub [0, 1, 2, 3, 4] (by decide) rfl) hS (lv_sub hl [2, 3, 1, 0] rfl)
set_option maxHeartbeats 4000000 in
set_option maxRecDepth 100000 in
theorem c_X4_allRestOn (l : Launch) (D : va_G) (cI cJ cZ : ClassId) (sz : Nat) (oR oN rr0 rr1 rr2 n0 n1 n2 n3 n4 n5 : Nat) (ra : Nat → Int32) (rb : Nat → Int32) (k4 : Nat → Int64) (rc : Int32) (cn : Int32) (hri : RI rc ra rb) : Met l yX4_allRestOn wpX4_allRestOn ({ frames := 1, cells := 0, slots := 0, locals := 22 }) (va_Pc ([.ref oR, .ref oN] : List Value) (sp_pre D vwCl (sp_ty cI cJ cZ) [(oR, .inr (2, [.ref rr0, .ref rr1, .ref rr2, .int rc])), (rr1, .inl (cI, 12, .inl ra)), (rr2, .inl (cI, 12, .inl rb)), (oN, .inr (1, [.ref n0, .ref n1, .ref n2, .ref n3, .ref n4, .ref n5, .int cn])), (n4, .inl (cJ, 40, .inr (.inl k4)))] sz)) (va_Ql (fun (r : Int64) (_ : Unit) => r = kX4_allRestOn ra rb k4 rc) (sp_B D vwCl (va_A [(oR, .inr (2, [.ref rr0, .ref rr1, .ref rr2, .int rc])), (rr1, .inl (cI, 12, .inl ra)), (rr2, .inl (cI, 12, .inl rb)), (oN, .inr (1, [.ref n0, .ref n1, .ref n2, .ref n3, .ref n4, .ref n5, .int cn])), (n4, .inl (cJ, 40, .inr (.inl k4)))] sz) (fun (_ : Unit) => [(oR, .inr (2, [.ref rr0, .ref rr1, .ref rr2, .int rc])), (rr1, .inl (cI, 12, .inl ra)), (rr2, .inl (cI, 12, .inl rb)), (oN, .inr (1, [.ref n0, .ref n1, .ref n2, .ref n3, .ref n4, .ref n5, .int cn])), (n4, .inl (cJ, 40, .inr (.inl k4)))])) (va_A [(oR, .inr (2, [.ref rr0, .ref rr1, .ref rr2, .int rc])), (rr1, .inl (cI, 12, .inl ra)), (rr2, .inl (cI, 12, .inl rb)), (oN, .inr (1, [.ref n0, .ref n1, .ref n2, .ref n3, .ref n4, .ref n5, .int cn])), (n4, .inl (cJ, 40, .inr (.inl k4)))] sz)) 0 0 (va_A [(oR, .inr (2, [.ref rr0, .ref rr1, .ref rr2, .int rc])), (rr1, .inl (cI, 12, .inl ra)), (rr2, .inl (cI, 12, .inl rb)), (oN, .inr (1, [.ref n0, .ref n1, .ref n2, .ref n3, .ref n4, .ref n5, .int cn])), (n4, .inl (cJ, 40, .inr (.inl k4)))] sz) := by
  refine sp_ofW (Qc := fun A => va_Ql (fun (r : Int64) (_ : Unit) => r = kX4_allRestOn ra rb k4 rc) (sp_B D vwCl A (fun (_ : Unit) => [(oR, .inr (2, [.ref rr0, .ref rr1, .ref rr2, .int rc])), (rr1, .inl (cI, 12, .inl ra)), (rr2, .inl (cI, 12, .inl rb)), (oN, .inr (1, [.ref n0, .ref n1, .ref n2, .ref n3, .ref n4, .ref n5, .int cn])), (n4, .inl (cJ, 40, .inr (.inl k4)))])) A) (by decide) rfl (Nat.le_of_ble_eq_true rfl) (fun p e s m below meth c A ls H locs C0 hA hS hP hK hD hl => ?_)
  obtain ⟨hx, hb, hr, hts, hown, hlocks, hml, hin⟩ := id C0
  have hown : s.vm.findClass RX4 = some m.cls := hown
  have hl : lv_has ls 5 [(0, .ref oR), (1, .ref oN)] := hl
  have hK : va_K D vwCl [(cI, .int), (cJ, .long), (cZ, .boolean)] s := hK
  obtain ⟨hc0, hc1, hci⟩ := id hri
  refine lv_lconst (v := 0) hx hb dX4_allRestOn_0 (by decide) ?_
  refine lv_lstore_n (lv' := [(2, .long 0), (0, .ref oR), (1, .ref oN)]) hx hb dX4_allRestOn_1 rfl hl (by decide) rfl (fun ls hl => ?_)
  refine lv_iconst (v := 0) hx hb dX4_allRestOn_2 (by decide) ?_
  refine lv_istore (lv' := [(4, .int 0), (2, .long 0), (0, .ref oR), (1, .ref oN)]) hx hb dX4_allRestOn_3 hl (by decide) rfl (fun ls hl => ?_)
  have kk1 : ((0) : Int64).toInt = (0) := by decide
  have kk2 : ((0) : Int32).toInt = (0) := by decide
  exact lp_X4_allRestOn_5 l D cI cJ cZ oR oN rr0 rr1 rr2 n0 n1 n2 n3 n4 n5 ra rb k4 rc cn hri C0 hA hK 14 (0) (0) _ _ _ (by first | assumption | omega) (by first | assumption | omega) rfl (by omega) (hP.sub [0, 1, 2, 3, 4] rfl) (hD.sub [0, 1, 2, 3, 4] (by decide) rfl) hS (lv_sub hl [2, 3, 1, 0] rfl)
def oX4_isTrue : List Cond := [.fieldLink RX4 15 "FloatSolver$Rules" "a" "[I", .fieldLink RX4 18 "FloatSolver$Rules" "b" "[I", .fieldLink RX4 9 "FloatSolver$Rules" "kind" "[I"]
def wpX4_isTrue : List Cond := .code yX4_isTrue cX4_isTrue 6 (some .boolean) :: (oX4_isTrue ++ (wsX40 ++ ((va_wsS RX4 35 yX2_isNone wpX2_isNone) ++ ((va_wsS RX4 41 yX2_placeOf wpX2_placeOf) ++ ((va_wsS RX4 45 yX2_rank wpX2_rank) ++ ((va_wsS RX4 48 yJ6_compare_7cf53 wpJ6_compare_7cf53) ++ ([] : List Cond)))))))
theorem oX4_isTrue_in : ∀ w ∈ oX4_isTrue, w ∈ wpX4_isTrue := fun w h => List.mem_cons_of_mem _ (List.mem_append_left _ h)
theorem gwoX4_isTrue : ∀ w ∈ oX4_isTrue, goodWord w = true := by decide +kernel
theorem gwX4_isTrue : ∀ w ∈ wpX4_isTrue, goodWord w = true := by
  unfold wpX4_isTrue
  exact List.forall_mem_cons.mpr ⟨rfl, List.forall_mem_append.mpr ⟨gwoX4_isTrue, List.forall_mem_append.mpr ⟨gwX4, List.forall_mem_append.mpr ⟨(sp_gS gwX2_isNone), List.forall_mem_append.mpr ⟨(sp_gS gwX2_placeOf), List.forall_mem_append.mpr ⟨(sp_gS gwX2_rank), List.forall_mem_append.mpr ⟨(sp_gS gwJ6_compare_7cf53), fun _ h => absurd h List.not_mem_nil⟩⟩⟩⟩⟩⟩⟩
set_option maxRecDepth 100000 in
theorem toX4_isTrue : ∀ w ∈ oX4_isTrue, w ∈ lw_tbl := by
  unfold oX4_isTrue
  exact List.forall_mem_cons.mpr ⟨(List.mem_of_getElem? (i := 110) (by decide +kernel)), List.forall_mem_cons.mpr ⟨(List.mem_of_getElem? (i := 111) (by decide +kernel)), List.forall_mem_cons.mpr ⟨(List.mem_of_getElem? (i := 109) (by decide +kernel)), fun _ h => absurd h List.not_mem_nil⟩⟩⟩
set_option maxRecDepth 100000 in
theorem tX4_isTrue : ∀ w ∈ wpX4_isTrue, w ∈ lw_tbl := by
  unfold wpX4_isTrue
  exact List.forall_mem_cons.mpr ⟨(List.mem_of_getElem? (i := 441) (by rfl)), List.forall_mem_append.mpr ⟨toX4_isTrue, List.forall_mem_append.mpr ⟨in_wsX40, List.forall_mem_append.mpr ⟨(sp_tS (List.mem_of_getElem? (i := 442) (by decide +kernel)) (List.mem_of_getElem? (i := 280) (by decide +kernel)) (List.mem_of_getElem? (i := 46) (by decide +kernel)) tX2_isNone), List.forall_mem_append.mpr ⟨(sp_tS (List.mem_of_getElem? (i := 443) (by decide +kernel)) (List.mem_of_getElem? (i := 331) (by decide +kernel)) (List.mem_of_getElem? (i := 46) (by decide +kernel)) tX2_placeOf), List.forall_mem_append.mpr ⟨(sp_tS (List.mem_of_getElem? (i := 444) (by decide +kernel)) (List.mem_of_getElem? (i := 445) (by decide +kernel)) (List.mem_of_getElem? (i := 46) (by decide +kernel)) tX2_rank), List.forall_mem_append.mpr ⟨(sp_tS (List.mem_of_getElem? (i := 447) (by decide +kernel)) (List.mem_of_getElem? (i := 448) (by decide +kernel)) (List.mem_of_getElem? (i := 50) (by decide +kernel)) tJ6_compare_7cf53), fun _ h => absurd h List.not_mem_nil⟩⟩⟩⟩⟩⟩⟩
theorem iX4_isTrue_X4 : ∀ w ∈ wsX40, w ∈ wpX4_isTrue := fun w h => List.mem_cons_of_mem _ (List.mem_append_right _ (List.mem_append_left _ h))
theorem gX4_isTrue_X2_isNone_35 : GoodIn wpX4_isTrue (va_wsS RX4 35 yX2_isNone wpX2_isNone) := fun w h => ⟨List.mem_cons_of_mem _ (List.mem_append_right _ (List.mem_append_right _ (List.mem_append_left _ h))), good_of_word (sp_gS gwX2_isNone w h)⟩
theorem gX4_isTrue_X2_placeOf_41 : GoodIn wpX4_isTrue (va_wsS RX4 41 yX2_placeOf wpX2_placeOf) := fun w h => ⟨List.mem_cons_of_mem _ (List.mem_append_right _ (List.mem_append_right _ (List.mem_append_right _ (List.mem_append_left _ h)))), good_of_word (sp_gS gwX2_placeOf w h)⟩
theorem gX4_isTrue_X2_rank_45 : GoodIn wpX4_isTrue (va_wsS RX4 45 yX2_rank wpX2_rank) := fun w h => ⟨List.mem_cons_of_mem _ (List.mem_append_right _ (List.mem_append_right _ (List.mem_append_right _ (List.mem_append_right _ (List.mem_append_left _ h))))), good_of_word (sp_gS gwX2_rank w h)⟩
theorem gX4_isTrue_J6_compare_7cf53_48 : GoodIn wpX4_isTrue (va_wsS RX4 48 yJ6_compare_7cf53 wpJ6_compare_7cf53) := fun w h => ⟨List.mem_cons_of_mem _ (List.mem_append_right _ (List.mem_append_right _ (List.mem_append_right _ (List.mem_append_right _ (List.mem_append_right _ (List.mem_append_left _ h)))))), good_of_word (sp_gS gwJ6_compare_7cf53 w h)⟩
set_option maxHeartbeats 4000000 in
set_option maxRecDepth 100000 in
theorem c_X4_isTrue (l : Launch) (D : va_G) (cI cJ cZ : ClassId) (sz : Nat) (oR va rr0 rr1 rr2 : Nat) (rk : Nat → Int32) (ra : Nat → Int32) (rb : Nat → Int32) (vv : Nat → Int32) (i : Int32) (rc : Int32) (hri : RI rc ra rb) (hir : 0 ≤ (i : Int32).toInt ∧ (i : Int32).toInt < (rc : Int32).toInt) : Met l yX4_isTrue wpX4_isTrue ({ frames := 1, cells := 0, slots := 0, locals := 21 }) (va_Pc ([.ref oR, .int i, .ref va] : List Value) (sp_pre D vwCl (sp_ty cI cJ cZ) [(oR, .inr (2, [.ref rr0, .ref rr1, .ref rr2, .int rc])), (rr0, .inl (cI, 12, .inl rk)), (rr1, .inl (cI, 12, .inl ra)), (rr2, .inl (cI, 12, .inl rb)), (va, .inl (cI, 40, .inl vv))] sz)) (va_Qi (fun (r : Int32) (_ : Unit) => r = kX4_isTrue rk ra rb vv i) (sp_B D vwCl (va_A [(oR, .inr (2, [.ref rr0, .ref rr1, .ref rr2, .int rc])), (rr0, .inl (cI, 12, .inl rk)), (rr1, .inl (cI, 12, .inl ra)), (rr2, .inl (cI, 12, .inl rb)), (va, .inl (cI, 40, .inl vv))] sz) (fun (_ : Unit) => [(oR, .inr (2, [.ref rr0, .ref rr1, .ref rr2, .int rc])), (rr0, .inl (cI, 12, .inl rk)), (rr1, .inl (cI, 12, .inl ra)), (rr2, .inl (cI, 12, .inl rb)), (va, .inl (cI, 40, .inl vv))])) (va_A [(oR, .inr (2, [.ref rr0, .ref rr1, .ref rr2, .int rc])), (rr0, .inl (cI, 12, .inl rk)), (rr1, .inl (cI, 12, .inl ra)), (rr2, .inl (cI, 12, .inl rb)), (va, .inl (cI, 40, .inl vv))] sz)) 0 0 (va_A [(oR, .inr (2, [.ref rr0, .ref rr1, .ref rr2, .int rc])), (rr0, .inl (cI, 12, .inl rk)), (rr1, .inl (cI, 12, .inl ra)), (rr2, .inl (cI, 12, .inl rb)), (va, .inl (cI, 40, .inl vv))] sz) := by
  refine sp_ofW (Qc := fun A => va_Qi (fun (r : Int32) (_ : Unit) => r = kX4_isTrue rk ra rb vv i) (sp_B D vwCl A (fun (_ : Unit) => [(oR, .inr (2, [.ref rr0, .ref rr1, .ref rr2, .int rc])), (rr0, .inl (cI, 12, .inl rk)), (rr1, .inl (cI, 12, .inl ra)), (rr2, .inl (cI, 12, .inl rb)), (va, .inl (cI, 40, .inl vv))])) A) (by decide) rfl (Nat.le_of_ble_eq_true rfl) (fun p e s m below meth c A ls H locs C0 hA hS hP hK hD hl => ?_)
  obtain ⟨hx, hb, hr, hts, hown, hlocks, hml, hin⟩ := id C0
  have hown : s.vm.findClass RX4 = some m.cls := hown
  have hl : lv_has ls 6 [(0, .ref oR), (1, .int i), (2, .ref va)] := hl
  have hK : va_K D vwCl [(cI, .int), (cJ, .long), (cZ, .boolean)] s := hK
  obtain ⟨hc0, hc1, hci⟩ := id hri
  have hR := RI.pt hri hir
  refine lv_aload_n hx hb dX4_isTrue_0 rfl (lv_at hl 2 rfl) ?_
  refine lv_aload_n hx hb dX4_isTrue_1 rfl (lv_at hl 0 rfl) ?_
  refine va_get (D := D) (ci := 2) (v := .ref rr1) (C := RX4) (T := TX4) (N := 4) hx hb hts iX4_isTrue_X4 hown hK hP 0 rfl rfl 1 (by decide) (hts (.fieldLink RX4 15 "FloatSolver$Rules" "a" "[I") (oX4_isTrue_in _ (List.mem_of_getElem? (i := 0) rfl))) (fun _ h9 => h9) rfl dX4_isTrue_2 ?_
  refine lv_iload_n hx hb dX4_isTrue_5 rfl (lv_at hl 1 rfl) ?_
  refine va_iald hx hb hK hP 2 0 rfl rfl (vp_in_iff.mpr ⟨by omega, by omega⟩) dX4_isTrue_6 ?_
  refine va_iald hx hb hK hP 4 0 rfl rfl (vp_in_iff.mpr ⟨by omega, by omega⟩) dX4_isTrue_7 ?_
  refine lv_istore_n (lv' := [(3, .int (kX4_isTrue_s8 rk ra rb vv i)), (0, .ref oR), (1, .int i), (2, .ref va)]) hx hb dX4_isTrue_8 rfl hl (by decide) rfl (fun ls hl => ?_)
  refine lv_aload_n hx hb dX4_isTrue_9 rfl (lv_at hl 3 rfl) ?_
  refine lv_aload_n hx hb dX4_isTrue_10 rfl (lv_at hl 1 rfl) ?_
  refine va_get (D := D) (ci := 2) (v := .ref rr2) (C := RX4) (T := TX4) (N := 4) hx hb hts iX4_isTrue_X4 hown hK hP 0 rfl rfl 2 (by decide) (hts (.fieldLink RX4 18 "FloatSolver$Rules" "b" "[I") (oX4_isTrue_in _ (List.mem_of_getElem? (i := 1) rfl))) (fun _ h9 => h9) rfl dX4_isTrue_11 ?_
  refine lv_iload_n hx hb dX4_isTrue_14 rfl (lv_at hl 2 rfl) ?_
  refine va_iald hx hb hK hP 3 0 rfl rfl (vp_in_iff.mpr ⟨by omega, by omega⟩) dX4_isTrue_15 ?_
  refine va_iald hx hb hK hP 4 0 rfl rfl (vp_in_iff.mpr ⟨by omega, by omega⟩) dX4_isTrue_16 ?_
  refine lv_istore (lv' := [(4, .int (kX4_isTrue_s17 rk ra rb vv i)), (3, .int (kX4_isTrue_s8 rk ra rb vv i)), (0, .ref oR), (1, .int i), (2, .ref va)]) hx hb dX4_isTrue_17 hl (by decide) rfl (fun ls hl => ?_)
  refine lv_aload_n hx hb dX4_isTrue_19 rfl (lv_at hl 2 rfl) ?_
  refine va_get (D := D) (ci := 2) (v := .ref rr0) (C := RX4) (T := TX4) (N := 4) hx hb hts iX4_isTrue_X4 hown hK hP 0 rfl rfl 0 (by decide) (hts (.fieldLink RX4 9 "FloatSolver$Rules" "kind" "[I") (oX4_isTrue_in _ (List.mem_of_getElem? (i := 2) rfl))) (fun _ h9 => h9) rfl dX4_isTrue_20 ?_
  refine lv_iload_n hx hb dX4_isTrue_23 rfl (lv_at hl 3 rfl) ?_
  refine va_iald hx hb hK hP 1 0 rfl rfl (vp_in_iff.mpr ⟨by omega, by omega⟩) dX4_isTrue_24 ?_
  refine lv_iconst (v := 4) hx hb dX4_isTrue_25 (by decide) ?_
  refine lv_icmp_eq (tgt := 39) hx hb dX4_isTrue_26 (by decide) (fun c1 => ?_) (fun c1 => ?_)
  · skip
    have c1i : ((rk (i : Int32).toNatClampNeg) : Int32).toInt = 4 := congrArg Int32.toInt c1
    refine lv_iload_n hx hb dX4_isTrue_39 rfl (lv_at hl 1 rfl) ?_
    refine sp_calli (wr := [(oR, .inr (2, [.ref rr0, .ref rr1, .ref rr2, .int rc])), (rr0, .inl (cI, 12, .inl rk)), (rr1, .inl (cI, 12, .inl ra)), (rr2, .inl (cI, 12, .inl rb)), (va, .inl (cI, 40, .inl vv))]) (wc := []) hP hD hS hA [] [0, 1, 2, 3, 4] rfl rfl (by decide) (by decide) (va_runS (As := [.int (kX4_isTrue_s8 rk ra rb vv i)]) (rest := []) ⟨hx, hb, hml, hown, hts⟩ (c_X2_isNone l D cI cJ cZ H.size (kX4_isTrue_s8 rk ra rb vv i)) (va_cwS 1 hts gX4_isTrue_X2_isNone_35 rfl rfl rfl (by decide +kernel) ⟨Nat.le_of_ble_eq_true rfl, Nat.le_of_ble_eq_true rfl⟩) (sp_preS [.int (kX4_isTrue_s8 rk ra rb vv i)] hK (hP.sub (ws' := []) [] rfl) (hD.sub (ws' := []) [] (by decide) rfl)) rfl rfl hl.1 rfl (lv_room (Nat.le_of_ble_eq_true rfl)) dX4_isTrue_40 ⟨Nat.le_of_ble_eq_true rfl, Nat.le_of_ble_eq_true rfl⟩) (fun r2 u3 H locs hw4 hP hD hS => ?_)
    obtain ⟨hq_4_0, hm_1_⟩ : r2 = (kX2_isNone (kX4_isTrue_s8 rk ra rb vv i)) ∧ _ := hw4
    subst r2
    have hm_1_i : (((kX2_isNone (kX4_isTrue_s8 rk ra rb vv i)) : Int32).toInt = 1 ∧ (2139095040 < ((kX4_isTrue_s8 rk ra rb vv i) &&& 2147483647 : Int32).toInt)) ∨ (((kX2_isNone (kX4_isTrue_s8 rk ra rb vv i)) : Int32).toInt = 0 ∧ ¬ (2139095040 < ((kX4_isTrue_s8 rk ra rb vv i) &&& 2147483647 : Int32).toInt)) := sp_bool hm_1_
    have hP : va_P D vwCl [(oR, .inr (2, [.ref rr0, .ref rr1, .ref rr2, .int rc])), (rr0, .inl (cI, 12, .inl rk)), (rr1, .inl (cI, 12, .inl ra)), (rr2, .inl (cI, 12, .inl rb)), (va, .inl (cI, 40, .inl vv))] H := hP
    have hD : va_D A [(oR, .inr (2, [.ref rr0, .ref rr1, .ref rr2, .int rc])), (rr0, .inl (cI, 12, .inl rk)), (rr1, .inl (cI, 12, .inl ra)), (rr2, .inl (cI, 12, .inl rb)), (va, .inl (cI, 40, .inl vv))] := hD
    refine lv_aload_n hx hb dX4_isTrue_43 rfl (lv_at hl 2 rfl) ?_
    refine va_get (D := D) (ci := 2) (v := .ref rr0) (C := RX4) (T := TX4) (N := 4) hx hb hts iX4_isTrue_X4 hown hK hP 0 rfl rfl 0 (by decide) (hts (.fieldLink RX4 9 "FloatSolver$Rules" "kind" "[I") (oX4_isTrue_in _ (List.mem_of_getElem? (i := 2) rfl))) (fun _ h9 => h9) rfl dX4_isTrue_44 ?_
    refine lv_iload_n hx hb dX4_isTrue_47 rfl (lv_at hl 3 rfl) ?_
    refine va_iald hx hb hK hP 1 0 rfl rfl (vp_in_iff.mpr ⟨by omega, by omega⟩) dX4_isTrue_48 ?_
    refine lv_iconst (v := 4) hx hb dX4_isTrue_49 (by decide) ?_
    have hj9 : ∀ (z8 : Int32) (H : Heap) (locs : List Loc) (ls : Array Slot), (z8 = kX4_isTrue_58_z8 rk ra rb vv i) → va_P D vwCl [(oR, .inr (2, [.ref rr0, .ref rr1, .ref rr2, .int rc])), (rr0, .inl (cI, 12, .inl rk)), (rr1, .inl (cI, 12, .inl ra)), (rr2, .inl (cI, 12, .inl rb)), (va, .inl (cI, 40, .inl vv))] H → va_D A [(oR, .inr (2, [.ref rr0, .ref rr1, .ref rr2, .int rc])), (rr0, .inl (cI, 12, .inl rk)), (rr1, .inl (cI, 12, .inl ra)), (rr2, .inl (cI, 12, .inl rb)), (va, .inl (cI, 40, .inl vv))] → va_S A s.heap H locs → lv_has ls 6 [(4, .int (kX4_isTrue_s17 rk ra rb vv i)), (3, .int (kX4_isTrue_s8 rk ra rb vv i)), (0, .ref oR), (1, .int i), (2, .ref va)] → W p l e ({ frames := 1, cells := 0, slots := 0, locals := 21 }) s m (([.ref oR, .int i, .ref va] : List Value).toArray) below meth c H locs 0 0 (MQ below (va_Qi (fun (r : Int32) (_ : Unit) => r = kX4_isTrue rk ra rb vv i) (sp_B D vwCl A (fun (_ : Unit) => [(oR, .inr (2, [.ref rr0, .ref rr1, .ref rr2, .int rc])), (rr0, .inl (cI, 12, .inl rk)), (rr1, .inl (cI, 12, .inl ra)), (rr2, .inl (cI, 12, .inl rb)), (va, .inl (cI, 40, .inl vv))])) A) ([.ref oR, .int i, .ref va] : List Value).toArray s 0 0 A) (F0 m 58 ls [.int z8, .int (kX2_isNone (kX4_isTrue_s8 rk ra rb vv i))]) := by
      intro z8 H locs ls hz8 hP hD hS hl
      subst z8
      refine lv_icmp_ne (tgt := 65) hx hb dX4_isTrue_58 (by decide) (fun c10 => ?_) (fun c10 => ?_)
      · skip
        have c10i : ¬ ((kX2_isNone (kX4_isTrue_s8 rk ra rb vv i)) : Int32).toInt = ((kX4_isTrue_58_z8 rk ra rb vv i) : Int32).toInt := fun h => c10 (Int32.toInt_inj.mp h)
        refine lv_iconst (v := 0) hx hb dX4_isTrue_65 (by decide) ?_
        refine W.widen (k := 0) (n := 0) (by decide) (by decide) ?_
        exact sp_zret (u := ()) hx hb hr hlocks (by decide) hS (Eq.symm ((if_pos c1i).trans ((if_neg c10i).trans rfl))) (hP.sub [0, 1, 2, 3, 4] rfl) (hD.sub [0, 1, 2, 3, 4] (by decide) rfl) dX4_isTrue_66
      · skip
        have c10i : ((kX2_isNone (kX4_isTrue_s8 rk ra rb vv i)) : Int32).toInt = ((kX4_isTrue_58_z8 rk ra rb vv i) : Int32).toInt := congrArg Int32.toInt c10
        refine lv_iconst (v := 1) hx hb dX4_isTrue_61 (by decide) ?_
        refine lv_goto (tgt := 66) hx hb dX4_isTrue_62 (by decide) ?_
        refine W.widen (k := 0) (n := 0) (by decide) (by decide) ?_
        exact sp_zret (u := ()) hx hb hr hlocks (by decide) hS (Eq.symm ((if_pos c1i).trans ((if_pos c10i).trans rfl))) (hP.sub [0, 1, 2, 3, 4] rfl) (hD.sub [0, 1, 2, 3, 4] (by decide) rfl) dX4_isTrue_66
    refine lv_icmp_ne (tgt := 57) hx hb dX4_isTrue_50 (by decide) (fun c5 => ?_) (fun c5 => ?_)
    · skip
      have c5i : ¬ ((rk (i : Int32).toNatClampNeg) : Int32).toInt = 4 := fun h => c5 (Int32.toInt_inj.mp h)
      refine lv_iconst (v := 0) hx hb dX4_isTrue_57 (by decide) ?_
      exact hj9 (0) _ _ _ (Eq.symm ((if_neg c5i).trans rfl)) (hP.sub [0, 1, 2, 3, 4] rfl) (hD.sub [0, 1, 2, 3, 4] (by decide) rfl) hS (lv_sub hl [0, 1, 2, 3, 4] rfl)
    · skip
      have c5i : ((rk (i : Int32).toNatClampNeg) : Int32).toInt = 4 := congrArg Int32.toInt c5
      refine lv_iconst (v := 1) hx hb dX4_isTrue_53 (by decide) ?_
      refine lv_goto (tgt := 58) hx hb dX4_isTrue_54 (by decide) ?_
      exact hj9 (1) _ _ _ (Eq.symm ((if_pos c5i).trans rfl)) (hP.sub [0, 1, 2, 3, 4] rfl) (hD.sub [0, 1, 2, 3, 4] (by decide) rfl) hS (lv_sub hl [0, 1, 2, 3, 4] rfl)
  · skip
    have c1i : ¬ ((rk (i : Int32).toNatClampNeg) : Int32).toInt = 4 := fun h => c1 (Int32.toInt_inj.mp h)
    refine lv_aload_n hx hb dX4_isTrue_29 rfl (lv_at hl 2 rfl) ?_
    refine va_get (D := D) (ci := 2) (v := .ref rr0) (C := RX4) (T := TX4) (N := 4) hx hb hts iX4_isTrue_X4 hown hK hP 0 rfl rfl 0 (by decide) (hts (.fieldLink RX4 9 "FloatSolver$Rules" "kind" "[I") (oX4_isTrue_in _ (List.mem_of_getElem? (i := 2) rfl))) (fun _ h9 => h9) rfl dX4_isTrue_30 ?_
    refine lv_iload_n hx hb dX4_isTrue_33 rfl (lv_at hl 3 rfl) ?_
    refine va_iald hx hb hK hP 1 0 rfl rfl (vp_in_iff.mpr ⟨by omega, by omega⟩) dX4_isTrue_34 ?_
    refine lv_iconst (v := 5) hx hb dX4_isTrue_35 (by decide) ?_
    refine lv_icmp_ne (tgt := 67) hx hb dX4_isTrue_36 (by decide) (fun c11 => ?_) (fun c11 => ?_)
    · skip
      have c11i : ¬ ((rk (i : Int32).toNatClampNeg) : Int32).toInt = 5 := fun h => c11 (Int32.toInt_inj.mp h)
      refine lv_iload_n hx hb dX4_isTrue_67 rfl (lv_at hl 1 rfl) ?_
      refine sp_calli (wr := [(oR, .inr (2, [.ref rr0, .ref rr1, .ref rr2, .int rc])), (rr0, .inl (cI, 12, .inl rk)), (rr1, .inl (cI, 12, .inl ra)), (rr2, .inl (cI, 12, .inl rb)), (va, .inl (cI, 40, .inl vv))]) (wc := []) hP hD hS hA [] [0, 1, 2, 3, 4] rfl rfl (by decide) (by decide) (va_runS (As := [.int (kX4_isTrue_s8 rk ra rb vv i)]) (rest := []) ⟨hx, hb, hml, hown, hts⟩ (c_X2_isNone l D cI cJ cZ H.size (kX4_isTrue_s8 rk ra rb vv i)) (va_cwS 1 hts gX4_isTrue_X2_isNone_35 rfl rfl rfl (by decide +kernel) ⟨Nat.le_of_ble_eq_true rfl, Nat.le_of_ble_eq_true rfl⟩) (sp_preS [.int (kX4_isTrue_s8 rk ra rb vv i)] hK (hP.sub (ws' := []) [] rfl) (hD.sub (ws' := []) [] (by decide) rfl)) rfl rfl hl.1 rfl (lv_room (Nat.le_of_ble_eq_true rfl)) dX4_isTrue_68 ⟨Nat.le_of_ble_eq_true rfl, Nat.le_of_ble_eq_true rfl⟩) (fun r12 u13 H locs hw14 hP hD hS => ?_)
      obtain ⟨hq_14_0, hm_2_⟩ : r12 = (kX2_isNone (kX4_isTrue_s8 rk ra rb vv i)) ∧ _ := hw14
      subst r12
      have hm_2_i : (((kX2_isNone (kX4_isTrue_s8 rk ra rb vv i)) : Int32).toInt = 1 ∧ (2139095040 < ((kX4_isTrue_s8 rk ra rb vv i) &&& 2147483647 : Int32).toInt)) ∨ (((kX2_isNone (kX4_isTrue_s8 rk ra rb vv i)) : Int32).toInt = 0 ∧ ¬ (2139095040 < ((kX4_isTrue_s8 rk ra rb vv i) &&& 2147483647 : Int32).toInt)) := sp_bool hm_2_
      have hP : va_P D vwCl [(oR, .inr (2, [.ref rr0, .ref rr1, .ref rr2, .int rc])), (rr0, .inl (cI, 12, .inl rk)), (rr1, .inl (cI, 12, .inl ra)), (rr2, .inl (cI, 12, .inl rb)), (va, .inl (cI, 40, .inl vv))] H := hP
      have hD : va_D A [(oR, .inr (2, [.ref rr0, .ref rr1, .ref rr2, .int rc])), (rr0, .inl (cI, 12, .inl rk)), (rr1, .inl (cI, 12, .inl ra)), (rr2, .inl (cI, 12, .inl rb)), (va, .inl (cI, 40, .inl vv))] := hD
      refine lv_if_ne (tgt := 82) hx hb dX4_isTrue_71 (by decide) (fun c15 => ?_) (fun c15 => ?_)
      · skip
        have c15i : ¬ ((kX2_isNone (kX4_isTrue_s8 rk ra rb vv i)) : Int32).toInt = 0 := fun h => c15 (Int32.toInt_inj.mp h)
        refine lv_aload_n hx hb dX4_isTrue_82 rfl (lv_at hl 2 rfl) ?_
        refine va_get (D := D) (ci := 2) (v := .ref rr0) (C := RX4) (T := TX4) (N := 4) hx hb hts iX4_isTrue_X4 hown hK hP 0 rfl rfl 0 (by decide) (hts (.fieldLink RX4 9 "FloatSolver$Rules" "kind" "[I") (oX4_isTrue_in _ (List.mem_of_getElem? (i := 2) rfl))) (fun _ h9 => h9) rfl dX4_isTrue_83 ?_
        refine lv_iload_n hx hb dX4_isTrue_86 rfl (lv_at hl 3 rfl) ?_
        refine va_iald hx hb hK hP 1 0 rfl rfl (vp_in_iff.mpr ⟨by omega, by omega⟩) dX4_isTrue_87 ?_
        refine lv_iconst (v := 3) hx hb dX4_isTrue_88 (by decide) ?_
        refine lv_icmp_ne (tgt := 96) hx hb dX4_isTrue_89 (by decide) (fun c16 => ?_) (fun c16 => ?_)
        · skip
          have c16i : ¬ ((rk (i : Int32).toNatClampNeg) : Int32).toInt = 3 := fun h => c16 (Int32.toInt_inj.mp h)
          refine lv_iconst (v := 0) hx hb dX4_isTrue_96 (by decide) ?_
          refine W.widen (k := 0) (n := 0) (by decide) (by decide) ?_
          exact sp_zret (u := ()) hx hb hr hlocks (by decide) hS (Eq.symm ((if_neg c1i).trans ((if_neg c11i).trans ((if_neg c15i).trans ((if_neg c16i).trans rfl))))) (hP.sub [0, 1, 2, 3, 4] rfl) (hD.sub [0, 1, 2, 3, 4] (by decide) rfl) dX4_isTrue_97
        · skip
          have c16i : ((rk (i : Int32).toNatClampNeg) : Int32).toInt = 3 := congrArg Int32.toInt c16
          refine lv_iconst (v := 1) hx hb dX4_isTrue_92 (by decide) ?_
          refine lv_goto (tgt := 97) hx hb dX4_isTrue_93 (by decide) ?_
          refine W.widen (k := 0) (n := 0) (by decide) (by decide) ?_
          exact sp_zret (u := ()) hx hb hr hlocks (by decide) hS (Eq.symm ((if_neg c1i).trans ((if_neg c11i).trans ((if_neg c15i).trans ((if_pos c16i).trans rfl))))) (hP.sub [0, 1, 2, 3, 4] rfl) (hD.sub [0, 1, 2, 3, 4] (by decide) rfl) dX4_isTrue_97
      · skip
        have c15i : ((kX2_isNone (kX4_isTrue_s8 rk ra rb vv i)) : Int32).toInt = 0 := congrArg Int32.toInt c15
        refine lv_iload hx hb dX4_isTrue_74 (lv_at hl 0 rfl) ?_
        refine sp_calli (wr := [(oR, .inr (2, [.ref rr0, .ref rr1, .ref rr2, .int rc])), (rr0, .inl (cI, 12, .inl rk)), (rr1, .inl (cI, 12, .inl ra)), (rr2, .inl (cI, 12, .inl rb)), (va, .inl (cI, 40, .inl vv))]) (wc := []) hP hD hS hA [] [0, 1, 2, 3, 4] rfl rfl (by decide) (by decide) (va_runS (As := [.int (kX4_isTrue_s17 rk ra rb vv i)]) (rest := []) ⟨hx, hb, hml, hown, hts⟩ (c_X2_isNone l D cI cJ cZ H.size (kX4_isTrue_s17 rk ra rb vv i)) (va_cwS 1 hts gX4_isTrue_X2_isNone_35 rfl rfl rfl (by decide +kernel) ⟨Nat.le_of_ble_eq_true rfl, Nat.le_of_ble_eq_true rfl⟩) (sp_preS [.int (kX4_isTrue_s17 rk ra rb vv i)] hK (hP.sub (ws' := []) [] rfl) (hD.sub (ws' := []) [] (by decide) rfl)) rfl rfl hl.1 rfl (lv_room (Nat.le_of_ble_eq_true rfl)) dX4_isTrue_76 ⟨Nat.le_of_ble_eq_true rfl, Nat.le_of_ble_eq_true rfl⟩) (fun r17 u18 H locs hw19 hP hD hS => ?_)
        obtain ⟨hq_19_0, hm_3_⟩ : r17 = (kX2_isNone (kX4_isTrue_s17 rk ra rb vv i)) ∧ _ := hw19
        subst r17
        have hm_3_i : (((kX2_isNone (kX4_isTrue_s17 rk ra rb vv i)) : Int32).toInt = 1 ∧ (2139095040 < ((kX4_isTrue_s17 rk ra rb vv i) &&& 2147483647 : Int32).toInt)) ∨ (((kX2_isNone (kX4_isTrue_s17 rk ra rb vv i)) : Int32).toInt = 0 ∧ ¬ (2139095040 < ((kX4_isTrue_s17 rk ra rb vv i) &&& 2147483647 : Int32).toInt)) := sp_bool hm_3_
        have hP : va_P D vwCl [(oR, .inr (2, [.ref rr0, .ref rr1, .ref rr2, .int rc])), (rr0, .inl (cI, 12, .inl rk)), (rr1, .inl (cI, 12, .inl ra)), (rr2, .inl (cI, 12, .inl rb)), (va, .inl (cI, 40, .inl vv))] H := hP
        have hD : va_D A [(oR, .inr (2, [.ref rr0, .ref rr1, .ref rr2, .int rc])), (rr0, .inl (cI, 12, .inl rk)), (rr1, .inl (cI, 12, .inl ra)), (rr2, .inl (cI, 12, .inl rb)), (va, .inl (cI, 40, .inl vv))] := hD
        refine lv_if_eq (tgt := 98) hx hb dX4_isTrue_79 (by decide) (fun c20 => ?_) (fun c20 => ?_)
        · skip
          have c20i : ((kX2_isNone (kX4_isTrue_s17 rk ra rb vv i)) : Int32).toInt = 0 := congrArg Int32.toInt c20
          refine lv_iload_n hx hb dX4_isTrue_98 rfl (lv_at hl 1 rfl) ?_
          refine sp_calli (wr := [(oR, .inr (2, [.ref rr0, .ref rr1, .ref rr2, .int rc])), (rr0, .inl (cI, 12, .inl rk)), (rr1, .inl (cI, 12, .inl ra)), (rr2, .inl (cI, 12, .inl rb)), (va, .inl (cI, 40, .inl vv))]) (wc := []) hP hD hS hA [] [0, 1, 2, 3, 4] rfl rfl (by decide) (by decide) (va_runS (As := [.int (kX4_isTrue_s8 rk ra rb vv i)]) (rest := []) ⟨hx, hb, hml, hown, hts⟩ (c_X2_placeOf l D cI cJ cZ H.size (kX4_isTrue_s8 rk ra rb vv i)) (va_cwS 1 hts gX4_isTrue_X2_placeOf_41 rfl rfl rfl (by decide +kernel) ⟨Nat.le_of_ble_eq_true rfl, Nat.le_of_ble_eq_true rfl⟩) (sp_preS [.int (kX4_isTrue_s8 rk ra rb vv i)] hK (hP.sub (ws' := []) [] rfl) (hD.sub (ws' := []) [] (by decide) rfl)) rfl rfl hl.1 rfl (lv_room (Nat.le_of_ble_eq_true rfl)) dX4_isTrue_99 ⟨Nat.le_of_ble_eq_true rfl, Nat.le_of_ble_eq_true rfl⟩) (fun r21 u22 H locs hw23 hP hD hS => ?_)
          have hq_23_0 : r21 = (kX2_placeOf (kX4_isTrue_s8 rk ra rb vv i)) := hw23
          subst r21
          have hP : va_P D vwCl [(oR, .inr (2, [.ref rr0, .ref rr1, .ref rr2, .int rc])), (rr0, .inl (cI, 12, .inl rk)), (rr1, .inl (cI, 12, .inl ra)), (rr2, .inl (cI, 12, .inl rb)), (va, .inl (cI, 40, .inl vv))] H := hP
          have hD : va_D A [(oR, .inr (2, [.ref rr0, .ref rr1, .ref rr2, .int rc])), (rr0, .inl (cI, 12, .inl rk)), (rr1, .inl (cI, 12, .inl ra)), (rr2, .inl (cI, 12, .inl rb)), (va, .inl (cI, 40, .inl vv))] := hD
          refine sp_calli (wr := [(oR, .inr (2, [.ref rr0, .ref rr1, .ref rr2, .int rc])), (rr0, .inl (cI, 12, .inl rk)), (rr1, .inl (cI, 12, .inl ra)), (rr2, .inl (cI, 12, .inl rb)), (va, .inl (cI, 40, .inl vv))]) (wc := []) hP hD hS hA [] [0, 1, 2, 3, 4] rfl rfl (by decide) (by decide) (va_runS (As := [.int (kX2_placeOf (kX4_isTrue_s8 rk ra rb vv i))]) (rest := []) ⟨hx, hb, hml, hown, hts⟩ (c_X2_rank l D cI cJ cZ H.size (kX2_placeOf (kX4_isTrue_s8 rk ra rb vv i))) (va_cwS 1 hts gX4_isTrue_X2_rank_45 rfl rfl rfl (by decide +kernel) ⟨Nat.le_of_ble_eq_true rfl, Nat.le_of_ble_eq_true rfl⟩) (sp_preS [.int (kX2_placeOf (kX4_isTrue_s8 rk ra rb vv i))] hK (hP.sub (ws' := []) [] rfl) (hD.sub (ws' := []) [] (by decide) rfl)) rfl rfl hl.1 rfl (lv_room (Nat.le_of_ble_eq_true rfl)) dX4_isTrue_102 ⟨Nat.le_of_ble_eq_true rfl, Nat.le_of_ble_eq_true rfl⟩) (fun r24 u25 H locs hw26 hP hD hS => ?_)
          have hq_26_0 : r24 = (kX2_rank (kX2_placeOf (kX4_isTrue_s8 rk ra rb vv i))) := hw26
          subst r24
          have hP : va_P D vwCl [(oR, .inr (2, [.ref rr0, .ref rr1, .ref rr2, .int rc])), (rr0, .inl (cI, 12, .inl rk)), (rr1, .inl (cI, 12, .inl ra)), (rr2, .inl (cI, 12, .inl rb)), (va, .inl (cI, 40, .inl vv))] H := hP
          have hD : va_D A [(oR, .inr (2, [.ref rr0, .ref rr1, .ref rr2, .int rc])), (rr0, .inl (cI, 12, .inl rk)), (rr1, .inl (cI, 12, .inl ra)), (rr2, .inl (cI, 12, .inl rb)), (va, .inl (cI, 40, .inl vv))] := hD
          refine lv_iload hx hb dX4_isTrue_105 (lv_at hl 0 rfl) ?_
          refine sp_calli (wr := [(oR, .inr (2, [.ref rr0, .ref rr1, .ref rr2, .int rc])), (rr0, .inl (cI, 12, .inl rk)), (rr1, .inl (cI, 12, .inl ra)), (rr2, .inl (cI, 12, .inl rb)), (va, .inl (cI, 40, .inl vv))]) (wc := []) hP hD hS hA [] [0, 1, 2, 3, 4] rfl rfl (by decide) (by decide) (va_runS (As := [.int (kX4_isTrue_s17 rk ra rb vv i)]) (rest := [.int (kX2_rank (kX2_placeOf (kX4_isTrue_s8 rk ra rb vv i)))]) ⟨hx, hb, hml, hown, hts⟩ (c_X2_placeOf l D cI cJ cZ H.size (kX4_isTrue_s17 rk ra rb vv i)) (va_cwS 1 hts gX4_isTrue_X2_placeOf_41 rfl rfl rfl (by decide +kernel) ⟨Nat.le_of_ble_eq_true rfl, Nat.le_of_ble_eq_true rfl⟩) (sp_preS [.int (kX4_isTrue_s17 rk ra rb vv i)] hK (hP.sub (ws' := []) [] rfl) (hD.sub (ws' := []) [] (by decide) rfl)) rfl rfl hl.1 rfl (lv_room (Nat.le_of_ble_eq_true rfl)) dX4_isTrue_107 ⟨Nat.le_of_ble_eq_true rfl, Nat.le_of_ble_eq_true rfl⟩) (fun r27 u28 H locs hw29 hP hD hS => ?_)
          have hq_29_0 : r27 = (kX2_placeOf (kX4_isTrue_s17 rk ra rb vv i)) := hw29
          subst r27
          have hP : va_P D vwCl [(oR, .inr (2, [.ref rr0, .ref rr1, .ref rr2, .int rc])), (rr0, .inl (cI, 12, .inl rk)), (rr1, .inl (cI, 12, .inl ra)), (rr2, .inl (cI, 12, .inl rb)), (va, .inl (cI, 40, .inl vv))] H := hP
          have hD : va_D A [(oR, .inr (2, [.ref rr0, .ref rr1, .ref rr2, .int rc])), (rr0, .inl (cI, 12, .inl rk)), (rr1, .inl (cI, 12, .inl ra)), (rr2, .inl (cI, 12, .inl rb)), (va, .inl (cI, 40, .inl vv))] := hD
          refine sp_calli (wr := [(oR, .inr (2, [.ref rr0, .ref rr1, .ref rr2, .int rc])), (rr0, .inl (cI, 12, .inl rk)), (rr1, .inl (cI, 12, .inl ra)), (rr2, .inl (cI, 12, .inl rb)), (va, .inl (cI, 40, .inl vv))]) (wc := []) hP hD hS hA [] [0, 1, 2, 3, 4] rfl rfl (by decide) (by decide) (va_runS (As := [.int (kX2_placeOf (kX4_isTrue_s17 rk ra rb vv i))]) (rest := [.int (kX2_rank (kX2_placeOf (kX4_isTrue_s8 rk ra rb vv i)))]) ⟨hx, hb, hml, hown, hts⟩ (c_X2_rank l D cI cJ cZ H.size (kX2_placeOf (kX4_isTrue_s17 rk ra rb vv i))) (va_cwS 1 hts gX4_isTrue_X2_rank_45 rfl rfl rfl (by decide +kernel) ⟨Nat.le_of_ble_eq_true rfl, Nat.le_of_ble_eq_true rfl⟩) (sp_preS [.int (kX2_placeOf (kX4_isTrue_s17 rk ra rb vv i))] hK (hP.sub (ws' := []) [] rfl) (hD.sub (ws' := []) [] (by decide) rfl)) rfl rfl hl.1 rfl (lv_room (Nat.le_of_ble_eq_true rfl)) dX4_isTrue_110 ⟨Nat.le_of_ble_eq_true rfl, Nat.le_of_ble_eq_true rfl⟩) (fun r30 u31 H locs hw32 hP hD hS => ?_)
          have hq_32_0 : r30 = (kX2_rank (kX2_placeOf (kX4_isTrue_s17 rk ra rb vv i))) := hw32
          subst r30
          have hP : va_P D vwCl [(oR, .inr (2, [.ref rr0, .ref rr1, .ref rr2, .int rc])), (rr0, .inl (cI, 12, .inl rk)), (rr1, .inl (cI, 12, .inl ra)), (rr2, .inl (cI, 12, .inl rb)), (va, .inl (cI, 40, .inl vv))] H := hP
          have hD : va_D A [(oR, .inr (2, [.ref rr0, .ref rr1, .ref rr2, .int rc])), (rr0, .inl (cI, 12, .inl rk)), (rr1, .inl (cI, 12, .inl ra)), (rr2, .inl (cI, 12, .inl rb)), (va, .inl (cI, 40, .inl vv))] := hD
          refine sp_calli (wr := [(oR, .inr (2, [.ref rr0, .ref rr1, .ref rr2, .int rc])), (rr0, .inl (cI, 12, .inl rk)), (rr1, .inl (cI, 12, .inl ra)), (rr2, .inl (cI, 12, .inl rb)), (va, .inl (cI, 40, .inl vv))]) (wc := []) hP hD hS hA [] [0, 1, 2, 3, 4] rfl rfl (by decide) (by decide) (va_runS (As := [.int (kX2_rank (kX2_placeOf (kX4_isTrue_s8 rk ra rb vv i))), .int (kX2_rank (kX2_placeOf (kX4_isTrue_s17 rk ra rb vv i)))]) (rest := []) ⟨hx, hb, hml, hown, hts⟩ (c_J6_compare_7cf53 l D cI cJ cZ H.size (kX2_rank (kX2_placeOf (kX4_isTrue_s8 rk ra rb vv i))) (kX2_rank (kX2_placeOf (kX4_isTrue_s17 rk ra rb vv i)))) (va_cwS 2 hts gX4_isTrue_J6_compare_7cf53_48 rfl rfl rfl (by decide +kernel) ⟨Nat.le_of_ble_eq_true rfl, Nat.le_of_ble_eq_true rfl⟩) (sp_preS [.int (kX2_rank (kX2_placeOf (kX4_isTrue_s8 rk ra rb vv i))), .int (kX2_rank (kX2_placeOf (kX4_isTrue_s17 rk ra rb vv i)))] hK (hP.sub (ws' := []) [] rfl) (hD.sub (ws' := []) [] (by decide) rfl)) rfl rfl hl.1 rfl (lv_room (Nat.le_of_ble_eq_true rfl)) dX4_isTrue_113 ⟨Nat.le_of_ble_eq_true rfl, Nat.le_of_ble_eq_true rfl⟩) (fun r33 u34 H locs hw35 hP hD hS => ?_)
          have hq_35_0 : r33 = (kJ6_compare_7cf53 (kX2_rank (kX2_placeOf (kX4_isTrue_s8 rk ra rb vv i))) (kX2_rank (kX2_placeOf (kX4_isTrue_s17 rk ra rb vv i)))) := hw35
          subst r33
          have hP : va_P D vwCl [(oR, .inr (2, [.ref rr0, .ref rr1, .ref rr2, .int rc])), (rr0, .inl (cI, 12, .inl rk)), (rr1, .inl (cI, 12, .inl ra)), (rr2, .inl (cI, 12, .inl rb)), (va, .inl (cI, 40, .inl vv))] H := hP
          have hD : va_D A [(oR, .inr (2, [.ref rr0, .ref rr1, .ref rr2, .int rc])), (rr0, .inl (cI, 12, .inl rk)), (rr1, .inl (cI, 12, .inl ra)), (rr2, .inl (cI, 12, .inl rb)), (va, .inl (cI, 40, .inl vv))] := hD
          refine lv_istore (lv' := [(5, .int (kX4_isTrue_s116 rk ra rb vv i)), (4, .int (kX4_isTrue_s17 rk ra rb vv i)), (3, .int (kX4_isTrue_s8 rk ra rb vv i)), (0, .ref oR), (1, .int i), (2, .ref va)]) hx hb dX4_isTrue_116 hl (by decide) rfl (fun ls hl => ?_)
          refine lv_aload_n hx hb dX4_isTrue_118 rfl (lv_at hl 3 rfl) ?_
          refine va_get (D := D) (ci := 2) (v := .ref rr0) (C := RX4) (T := TX4) (N := 4) hx hb hts iX4_isTrue_X4 hown hK hP 0 rfl rfl 0 (by decide) (hts (.fieldLink RX4 9 "FloatSolver$Rules" "kind" "[I") (oX4_isTrue_in _ (List.mem_of_getElem? (i := 2) rfl))) (fun _ h9 => h9) rfl dX4_isTrue_119 ?_
          refine lv_iload_n hx hb dX4_isTrue_122 rfl (lv_at hl 4 rfl) ?_
          refine va_iald hx hb hK hP 1 0 rfl rfl (vp_in_iff.mpr ⟨by omega, by omega⟩) dX4_isTrue_123 ?_
          rcases (show ((rk (i : Int32).toNatClampNeg) : Int32).toInt < 0 ∨ 2 < ((rk (i : Int32).toNatClampNeg) : Int32).toInt ∨ ((rk (i : Int32).toNatClampNeg) : Int32).toInt = 0 ∨ ((rk (i : Int32).toNatClampNeg) : Int32).toInt = 1 ∨ ((rk (i : Int32).toNatClampNeg) : Int32).toInt = 2 by omega) with h36 | h36 | h36 | h36 | h36
          · skip
            refine lv_tableOut (tgt := 185) hx hb dX4_isTrue_124 (Or.inl h36) (by decide) ?_
            refine lv_iload hx hb dX4_isTrue_185 (lv_at hl 0 rfl) ?_
            refine lv_if_eq (tgt := 194) hx hb dX4_isTrue_187 (by decide) (fun c37 => ?_) (fun c37 => ?_)
            · skip
              have c37i : ((kX4_isTrue_s116 rk ra rb vv i) : Int32).toInt = 0 := congrArg Int32.toInt c37
              refine lv_iconst (v := 0) hx hb dX4_isTrue_194 (by decide) ?_
              refine W.widen (k := 0) (n := 0) (by decide) (by decide) ?_
              exact sp_zret (u := ()) hx hb hr hlocks (by decide) hS (Eq.symm ((if_neg c1i).trans ((if_neg c11i).trans ((if_pos c15i).trans ((if_pos c20i).trans ((if_pos h36).trans ((if_pos c37i).trans rfl))))))) (hP.sub [0, 1, 2, 3, 4] rfl) (hD.sub [0, 1, 2, 3, 4] (by decide) rfl) dX4_isTrue_195
            · skip
              have c37i : ¬ ((kX4_isTrue_s116 rk ra rb vv i) : Int32).toInt = 0 := fun h => c37 (Int32.toInt_inj.mp h)
              refine lv_iconst (v := 1) hx hb dX4_isTrue_190 (by decide) ?_
              refine lv_goto (tgt := 195) hx hb dX4_isTrue_191 (by decide) ?_
              refine W.widen (k := 0) (n := 0) (by decide) (by decide) ?_
              exact sp_zret (u := ()) hx hb hr hlocks (by decide) hS (Eq.symm ((if_neg c1i).trans ((if_neg c11i).trans ((if_pos c15i).trans ((if_pos c20i).trans ((if_pos h36).trans ((if_neg c37i).trans rfl))))))) (hP.sub [0, 1, 2, 3, 4] rfl) (hD.sub [0, 1, 2, 3, 4] (by decide) rfl) dX4_isTrue_195
          · skip
            refine lv_tableOut (tgt := 185) hx hb dX4_isTrue_124 (Or.inr h36) (by decide) ?_
            refine lv_iload hx hb dX4_isTrue_185 (lv_at hl 0 rfl) ?_
            refine lv_if_eq (tgt := 194) hx hb dX4_isTrue_187 (by decide) (fun c38 => ?_) (fun c38 => ?_)
            · skip
              have c38i : ((kX4_isTrue_s116 rk ra rb vv i) : Int32).toInt = 0 := congrArg Int32.toInt c38
              refine lv_iconst (v := 0) hx hb dX4_isTrue_194 (by decide) ?_
              refine W.widen (k := 0) (n := 0) (by decide) (by decide) ?_
              exact sp_zret (u := ()) hx hb hr hlocks (by decide) hS (Eq.symm ((if_neg c1i).trans ((if_neg c11i).trans ((if_pos c15i).trans ((if_pos c20i).trans ((if_neg (show ¬ (((rk (i : Int32).toNatClampNeg) : Int32).toInt < 0) by omega)).trans ((if_pos h36).trans ((if_pos c38i).trans rfl)))))))) (hP.sub [0, 1, 2, 3, 4] rfl) (hD.sub [0, 1, 2, 3, 4] (by decide) rfl) dX4_isTrue_195
            · skip
              have c38i : ¬ ((kX4_isTrue_s116 rk ra rb vv i) : Int32).toInt = 0 := fun h => c38 (Int32.toInt_inj.mp h)
              refine lv_iconst (v := 1) hx hb dX4_isTrue_190 (by decide) ?_
              refine lv_goto (tgt := 195) hx hb dX4_isTrue_191 (by decide) ?_
              refine W.widen (k := 0) (n := 0) (by decide) (by decide) ?_
              exact sp_zret (u := ()) hx hb hr hlocks (by decide) hS (Eq.symm ((if_neg c1i).trans ((if_neg c11i).trans ((if_pos c15i).trans ((if_pos c20i).trans ((if_neg (show ¬ (((rk (i : Int32).toNatClampNeg) : Int32).toInt < 0) by omega)).trans ((if_pos h36).trans ((if_neg c38i).trans rfl)))))))) (hP.sub [0, 1, 2, 3, 4] rfl) (hD.sub [0, 1, 2, 3, 4] (by decide) rfl) dX4_isTrue_195
          · skip
            refine lv_tableIn (off := 28) (tgt := 152) hx hb dX4_isTrue_124 (by omega) (by omega) (by rw [h36]; rfl) (by decide) ?_
            refine lv_iload hx hb dX4_isTrue_152 (lv_at hl 0 rfl) ?_
            refine lv_if_ge (tgt := 161) hx hb dX4_isTrue_154 (by decide) (fun c39 => ?_) (fun c39 => ?_)
            · skip
              have c39i : 0 ≤ ((kX4_isTrue_s116 rk ra rb vv i) : Int32).toInt := Int32.le_iff_toInt_le.mp c39
              refine lv_iconst (v := 0) hx hb dX4_isTrue_161 (by decide) ?_
              refine W.widen (k := 0) (n := 0) (by decide) (by decide) ?_
              exact sp_zret (u := ()) hx hb hr hlocks (by decide) hS (Eq.symm ((if_neg c1i).trans ((if_neg c11i).trans ((if_pos c15i).trans ((if_pos c20i).trans ((if_neg (show ¬ (((rk (i : Int32).toNatClampNeg) : Int32).toInt < 0) by omega)).trans ((if_neg (show ¬ (2 < ((rk (i : Int32).toNatClampNeg) : Int32).toInt) by omega)).trans ((if_pos h36).trans ((if_pos c39i).trans rfl))))))))) (hP.sub [0, 1, 2, 3, 4] rfl) (hD.sub [0, 1, 2, 3, 4] (by decide) rfl) dX4_isTrue_162
            · skip
              have c39i : ¬ 0 ≤ ((kX4_isTrue_s116 rk ra rb vv i) : Int32).toInt := fun h => c39 (Int32.le_iff_toInt_le.mpr h)
              refine lv_iconst (v := 1) hx hb dX4_isTrue_157 (by decide) ?_
              refine lv_goto (tgt := 162) hx hb dX4_isTrue_158 (by decide) ?_
              refine W.widen (k := 0) (n := 0) (by decide) (by decide) ?_
              exact sp_zret (u := ()) hx hb hr hlocks (by decide) hS (Eq.symm ((if_neg c1i).trans ((if_neg c11i).trans ((if_pos c15i).trans ((if_pos c20i).trans ((if_neg (show ¬ (((rk (i : Int32).toNatClampNeg) : Int32).toInt < 0) by omega)).trans ((if_neg (show ¬ (2 < ((rk (i : Int32).toNatClampNeg) : Int32).toInt) by omega)).trans ((if_pos h36).trans ((if_neg c39i).trans rfl))))))))) (hP.sub [0, 1, 2, 3, 4] rfl) (hD.sub [0, 1, 2, 3, 4] (by decide) rfl) dX4_isTrue_162
          · skip
            refine lv_tableIn (off := 39) (tgt := 163) hx hb dX4_isTrue_124 (by omega) (by omega) (by rw [h36]; rfl) (by decide) ?_
            refine lv_iload hx hb dX4_isTrue_163 (lv_at hl 0 rfl) ?_
            refine lv_if_gt (tgt := 172) hx hb dX4_isTrue_165 (by decide) (fun c40 => ?_) (fun c40 => ?_)
            · skip
              have c40i : 0 < ((kX4_isTrue_s116 rk ra rb vv i) : Int32).toInt := Int32.lt_iff_toInt_lt.mp c40
              refine lv_iconst (v := 0) hx hb dX4_isTrue_172 (by decide) ?_
              refine W.widen (k := 0) (n := 0) (by decide) (by decide) ?_
              exact sp_zret (u := ()) hx hb hr hlocks (by decide) hS (Eq.symm ((if_neg c1i).trans ((if_neg c11i).trans ((if_pos c15i).trans ((if_pos c20i).trans ((if_neg (show ¬ (((rk (i : Int32).toNatClampNeg) : Int32).toInt < 0) by omega)).trans ((if_neg (show ¬ (2 < ((rk (i : Int32).toNatClampNeg) : Int32).toInt) by omega)).trans ((if_neg (show ¬ (((rk (i : Int32).toNatClampNeg) : Int32).toInt = 0) by omega)).trans ((if_pos h36).trans ((if_pos c40i).trans rfl)))))))))) (hP.sub [0, 1, 2, 3, 4] rfl) (hD.sub [0, 1, 2, 3, 4] (by decide) rfl) dX4_isTrue_173
            · skip
              have c40i : ¬ 0 < ((kX4_isTrue_s116 rk ra rb vv i) : Int32).toInt := fun h => c40 (Int32.lt_iff_toInt_lt.mpr h)
              refine lv_iconst (v := 1) hx hb dX4_isTrue_168 (by decide) ?_
              refine lv_goto (tgt := 173) hx hb dX4_isTrue_169 (by decide) ?_
              refine W.widen (k := 0) (n := 0) (by decide) (by decide) ?_
              exact sp_zret (u := ()) hx hb hr hlocks (by decide) hS (Eq.symm ((if_neg c1i).trans ((if_neg c11i).trans ((if_pos c15i).trans ((if_pos c20i).trans ((if_neg (show ¬ (((rk (i : Int32).toNatClampNeg) : Int32).toInt < 0) by omega)).trans ((if_neg (show ¬ (2 < ((rk (i : Int32).toNatClampNeg) : Int32).toInt) by omega)).trans ((if_neg (show ¬ (((rk (i : Int32).toNatClampNeg) : Int32).toInt = 0) by omega)).trans ((if_pos h36).trans ((if_neg c40i).trans rfl)))))))))) (hP.sub [0, 1, 2, 3, 4] rfl) (hD.sub [0, 1, 2, 3, 4] (by decide) rfl) dX4_isTrue_173
          · skip
            refine lv_tableIn (off := 50) (tgt := 174) hx hb dX4_isTrue_124 (by omega) (by omega) (by rw [h36]; rfl) (by decide) ?_
            refine lv_iload hx hb dX4_isTrue_174 (lv_at hl 0 rfl) ?_
            refine lv_if_ne (tgt := 183) hx hb dX4_isTrue_176 (by decide) (fun c41 => ?_) (fun c41 => ?_)
            · skip
              have c41i : ¬ ((kX4_isTrue_s116 rk ra rb vv i) : Int32).toInt = 0 := fun h => c41 (Int32.toInt_inj.mp h)
              refine lv_iconst (v := 0) hx hb dX4_isTrue_183 (by decide) ?_
              refine W.widen (k := 0) (n := 0) (by decide) (by decide) ?_
              exact sp_zret (u := ()) hx hb hr hlocks (by decide) hS (Eq.symm ((if_neg c1i).trans ((if_neg c11i).trans ((if_pos c15i).trans ((if_pos c20i).trans ((if_neg (show ¬ (((rk (i : Int32).toNatClampNeg) : Int32).toInt < 0) by omega)).trans ((if_neg (show ¬ (2 < ((rk (i : Int32).toNatClampNeg) : Int32).toInt) by omega)).trans ((if_neg (show ¬ (((rk (i : Int32).toNatClampNeg) : Int32).toInt = 0) by omega)).trans ((if_neg (show ¬ (((rk (i : Int32).toNatClampNeg) : Int32).toInt = 1) by omega)).trans ((if_pos h36).trans ((if_neg c41i).trans rfl))))))))))) (hP.sub [0, 1, 2, 3, 4] rfl) (hD.sub [0, 1, 2, 3, 4] (by decide) rfl) dX4_isTrue_184
            · skip
              have c41i : ((kX4_isTrue_s116 rk ra rb vv i) : Int32).toInt = 0 := congrArg Int32.toInt c41
              refine lv_iconst (v := 1) hx hb dX4_isTrue_179 (by decide) ?_
              refine lv_goto (tgt := 184) hx hb dX4_isTrue_180 (by decide) ?_
              refine W.widen (k := 0) (n := 0) (by decide) (by decide) ?_
              exact sp_zret (u := ()) hx hb hr hlocks (by decide) hS (Eq.symm ((if_neg c1i).trans ((if_neg c11i).trans ((if_pos c15i).trans ((if_pos c20i).trans ((if_neg (show ¬ (((rk (i : Int32).toNatClampNeg) : Int32).toInt < 0) by omega)).trans ((if_neg (show ¬ (2 < ((rk (i : Int32).toNatClampNeg) : Int32).toInt) by omega)).trans ((if_neg (show ¬ (((rk (i : Int32).toNatClampNeg) : Int32).toInt = 0) by omega)).trans ((if_neg (show ¬ (((rk (i : Int32).toNatClampNeg) : Int32).toInt = 1) by omega)).trans ((if_pos h36).trans ((if_pos c41i).trans rfl))))))))))) (hP.sub [0, 1, 2, 3, 4] rfl) (hD.sub [0, 1, 2, 3, 4] (by decide) rfl) dX4_isTrue_184
        · skip
          have c20i : ¬ ((kX2_isNone (kX4_isTrue_s17 rk ra rb vv i)) : Int32).toInt = 0 := fun h => c20 (Int32.toInt_inj.mp h)
          refine lv_aload_n hx hb dX4_isTrue_82 rfl (lv_at hl 2 rfl) ?_
          refine va_get (D := D) (ci := 2) (v := .ref rr0) (C := RX4) (T := TX4) (N := 4) hx hb hts iX4_isTrue_X4 hown hK hP 0 rfl rfl 0 (by decide) (hts (.fieldLink RX4 9 "FloatSolver$Rules" "kind" "[I") (oX4_isTrue_in _ (List.mem_of_getElem? (i := 2) rfl))) (fun _ h9 => h9) rfl dX4_isTrue_83 ?_
          refine lv_iload_n hx hb dX4_isTrue_86 rfl (lv_at hl 3 rfl) ?_
          refine va_iald hx hb hK hP 1 0 rfl rfl (vp_in_iff.mpr ⟨by omega, by omega⟩) dX4_isTrue_87 ?_
          refine lv_iconst (v := 3) hx hb dX4_isTrue_88 (by decide) ?_
          refine lv_icmp_ne (tgt := 96) hx hb dX4_isTrue_89 (by decide) (fun c42 => ?_) (fun c42 => ?_)
          · skip
            have c42i : ¬ ((rk (i : Int32).toNatClampNeg) : Int32).toInt = 3 := fun h => c42 (Int32.toInt_inj.mp h)
            refine lv_iconst (v := 0) hx hb dX4_isTrue_96 (by decide) ?_
            refine W.widen (k := 0) (n := 0) (by decide) (by decide) ?_
            exact sp_zret (u := ()) hx hb hr hlocks (by decide) hS (Eq.symm ((if_neg c1i).trans ((if_neg c11i).trans ((if_pos c15i).trans ((if_neg c20i).trans ((if_neg c42i).trans rfl)))))) (hP.sub [0, 1, 2, 3, 4] rfl) (hD.sub [0, 1, 2, 3, 4] (by decide) rfl) dX4_isTrue_97
          · skip
            have c42i : ((rk (i : Int32).toNatClampNeg) : Int32).toInt = 3 := congrArg Int32.toInt c42
            refine lv_iconst (v := 1) hx hb dX4_isTrue_92 (by decide) ?_
            refine lv_goto (tgt := 97) hx hb dX4_isTrue_93 (by decide) ?_
            refine W.widen (k := 0) (n := 0) (by decide) (by decide) ?_
            exact sp_zret (u := ()) hx hb hr hlocks (by decide) hS (Eq.symm ((if_neg c1i).trans ((if_neg c11i).trans ((if_pos c15i).trans ((if_neg c20i).trans ((if_pos c42i).trans rfl)))))) (hP.sub [0, 1, 2, 3, 4] rfl) (hD.sub [0, 1, 2, 3, 4] (by decide) rfl) dX4_isTrue_97
    · skip
      have c11i : ((rk (i : Int32).toNatClampNeg) : Int32).toInt = 5 := congrArg Int32.toInt c11
      refine lv_iload_n hx hb dX4_isTrue_39 rfl (lv_at hl 1 rfl) ?_
      refine sp_calli (wr := [(oR, .inr (2, [.ref rr0, .ref rr1, .ref rr2, .int rc])), (rr0, .inl (cI, 12, .inl rk)), (rr1, .inl (cI, 12, .inl ra)), (rr2, .inl (cI, 12, .inl rb)), (va, .inl (cI, 40, .inl vv))]) (wc := []) hP hD hS hA [] [0, 1, 2, 3, 4] rfl rfl (by decide) (by decide) (va_runS (As := [.int (kX4_isTrue_s8 rk ra rb vv i)]) (rest := []) ⟨hx, hb, hml, hown, hts⟩ (c_X2_isNone l D cI cJ cZ H.size (kX4_isTrue_s8 rk ra rb vv i)) (va_cwS 1 hts gX4_isTrue_X2_isNone_35 rfl rfl rfl (by decide +kernel) ⟨Nat.le_of_ble_eq_true rfl, Nat.le_of_ble_eq_true rfl⟩) (sp_preS [.int (kX4_isTrue_s8 rk ra rb vv i)] hK (hP.sub (ws' := []) [] rfl) (hD.sub (ws' := []) [] (by decide) rfl)) rfl rfl hl.1 rfl (lv_room (Nat.le_of_ble_eq_true rfl)) dX4_isTrue_40 ⟨Nat.le_of_ble_eq_true rfl, Nat.le_of_ble_eq_true rfl⟩) (fun r43 u44 H locs hw45 hP hD hS => ?_)
      obtain ⟨hq_45_0, hm_4_⟩ : r43 = (kX2_isNone (kX4_isTrue_s8 rk ra rb vv i)) ∧ _ := hw45
      subst r43
      have hm_4_i : (((kX2_isNone (kX4_isTrue_s8 rk ra rb vv i)) : Int32).toInt = 1 ∧ (2139095040 < ((kX4_isTrue_s8 rk ra rb vv i) &&& 2147483647 : Int32).toInt)) ∨ (((kX2_isNone (kX4_isTrue_s8 rk ra rb vv i)) : Int32).toInt = 0 ∧ ¬ (2139095040 < ((kX4_isTrue_s8 rk ra rb vv i) &&& 2147483647 : Int32).toInt)) := sp_bool hm_4_
      have hP : va_P D vwCl [(oR, .inr (2, [.ref rr0, .ref rr1, .ref rr2, .int rc])), (rr0, .inl (cI, 12, .inl rk)), (rr1, .inl (cI, 12, .inl ra)), (rr2, .inl (cI, 12, .inl rb)), (va, .inl (cI, 40, .inl vv))] H := hP
      have hD : va_D A [(oR, .inr (2, [.ref rr0, .ref rr1, .ref rr2, .int rc])), (rr0, .inl (cI, 12, .inl rk)), (rr1, .inl (cI, 12, .inl ra)), (rr2, .inl (cI, 12, .inl rb)), (va, .inl (cI, 40, .inl vv))] := hD
      refine lv_aload_n hx hb dX4_isTrue_43 rfl (lv_at hl 2 rfl) ?_
      refine va_get (D := D) (ci := 2) (v := .ref rr0) (C := RX4) (T := TX4) (N := 4) hx hb hts iX4_isTrue_X4 hown hK hP 0 rfl rfl 0 (by decide) (hts (.fieldLink RX4 9 "FloatSolver$Rules" "kind" "[I") (oX4_isTrue_in _ (List.mem_of_getElem? (i := 2) rfl))) (fun _ h9 => h9) rfl dX4_isTrue_44 ?_
      refine lv_iload_n hx hb dX4_isTrue_47 rfl (lv_at hl 3 rfl) ?_
      refine va_iald hx hb hK hP 1 0 rfl rfl (vp_in_iff.mpr ⟨by omega, by omega⟩) dX4_isTrue_48 ?_
      refine lv_iconst (v := 4) hx hb dX4_isTrue_49 (by decide) ?_
      have hj50 : ∀ (z49 : Int32) (H : Heap) (locs : List Loc) (ls : Array Slot), (z49 = kX4_isTrue_58_z8 rk ra rb vv i) → va_P D vwCl [(oR, .inr (2, [.ref rr0, .ref rr1, .ref rr2, .int rc])), (rr0, .inl (cI, 12, .inl rk)), (rr1, .inl (cI, 12, .inl ra)), (rr2, .inl (cI, 12, .inl rb)), (va, .inl (cI, 40, .inl vv))] H → va_D A [(oR, .inr (2, [.ref rr0, .ref rr1, .ref rr2, .int rc])), (rr0, .inl (cI, 12, .inl rk)), (rr1, .inl (cI, 12, .inl ra)), (rr2, .inl (cI, 12, .inl rb)), (va, .inl (cI, 40, .inl vv))] → va_S A s.heap H locs → lv_has ls 6 [(4, .int (kX4_isTrue_s17 rk ra rb vv i)), (3, .int (kX4_isTrue_s8 rk ra rb vv i)), (0, .ref oR), (1, .int i), (2, .ref va)] → W p l e ({ frames := 1, cells := 0, slots := 0, locals := 21 }) s m (([.ref oR, .int i, .ref va] : List Value).toArray) below meth c H locs 0 0 (MQ below (va_Qi (fun (r : Int32) (_ : Unit) => r = kX4_isTrue rk ra rb vv i) (sp_B D vwCl A (fun (_ : Unit) => [(oR, .inr (2, [.ref rr0, .ref rr1, .ref rr2, .int rc])), (rr0, .inl (cI, 12, .inl rk)), (rr1, .inl (cI, 12, .inl ra)), (rr2, .inl (cI, 12, .inl rb)), (va, .inl (cI, 40, .inl vv))])) A) ([.ref oR, .int i, .ref va] : List Value).toArray s 0 0 A) (F0 m 58 ls [.int z49, .int (kX2_isNone (kX4_isTrue_s8 rk ra rb vv i))]) := by
        intro z49 H locs ls hz49 hP hD hS hl
        subst z49
        refine lv_icmp_ne (tgt := 65) hx hb dX4_isTrue_58 (by decide) (fun c51 => ?_) (fun c51 => ?_)
        · skip
          have c51i : ¬ ((kX2_isNone (kX4_isTrue_s8 rk ra rb vv i)) : Int32).toInt = ((kX4_isTrue_58_z8 rk ra rb vv i) : Int32).toInt := fun h => c51 (Int32.toInt_inj.mp h)
          refine lv_iconst (v := 0) hx hb dX4_isTrue_65 (by decide) ?_
          refine W.widen (k := 0) (n := 0) (by decide) (by decide) ?_
          exact sp_zret (u := ()) hx hb hr hlocks (by decide) hS (Eq.symm ((if_neg c1i).trans ((if_pos c11i).trans ((if_neg c51i).trans rfl)))) (hP.sub [0, 1, 2, 3, 4] rfl) (hD.sub [0, 1, 2, 3, 4] (by decide) rfl) dX4_isTrue_66
        · skip
          have c51i : ((kX2_isNone (kX4_isTrue_s8 rk ra rb vv i)) : Int32).toInt = ((kX4_isTrue_58_z8 rk ra rb vv i) : Int32).toInt := congrArg Int32.toInt c51
          refine lv_iconst (v := 1) hx hb dX4_isTrue_61 (by decide) ?_
          refine lv_goto (tgt := 66) hx hb dX4_isTrue_62 (by decide) ?_
          refine W.widen (k := 0) (n := 0) (by decide) (by decide) ?_
          exact sp_zret (u := ()) hx hb hr hlocks (by decide) hS (Eq.symm ((if_neg c1i).trans ((if_pos c11i).trans ((if_pos c51i).trans rfl)))) (hP.sub [0, 1, 2, 3, 4] rfl) (hD.sub [0, 1, 2, 3, 4] (by decide) rfl) dX4_isTrue_66
      refine lv_icmp_ne (tgt := 57) hx hb dX4_isTrue_50 (by decide) (fun c46 => ?_) (fun c46 => ?_)
      · skip
        have c46i : ¬ ((rk (i : Int32).toNatClampNeg) : Int32).toInt = 4 := fun h => c46 (Int32.toInt_inj.mp h)
        refine lv_iconst (v := 0) hx hb dX4_isTrue_57 (by decide) ?_
        exact hj50 (0) _ _ _ (Eq.symm ((if_neg c46i).trans rfl)) (hP.sub [0, 1, 2, 3, 4] rfl) (hD.sub [0, 1, 2, 3, 4] (by decide) rfl) hS (lv_sub hl [0, 1, 2, 3, 4] rfl)
      · skip
        have c46i : ((rk (i : Int32).toNatClampNeg) : Int32).toInt = 4 := congrArg Int32.toInt c46
        refine lv_iconst (v := 1) hx hb dX4_isTrue_53 (by decide) ?_
        refine lv_goto (tgt := 58) hx hb dX4_isTrue_54 (by decide) ?_
        exact hj50 (1) _ _ _ (Eq.symm ((if_pos c46i).trans rfl)) (hP.sub [0, 1, 2, 3, 4] rfl) (hD.sub [0, 1, 2, 3, 4] (by decide) rfl) hS (lv_sub hl [0, 1, 2, 3, 4] rfl)
def oX4_areTrue : List Cond := [.fieldLink RX4 21 "FloatSolver$Rules" "count" "I"]
def wpX4_areTrue : List Cond := .code yX4_areTrue cX4_areTrue 3 (some .boolean) :: (oX4_areTrue ++ (wsX40 ++ ((wsV RX4 54 RX4 yX4_isTrue wpX4_isTrue) ++ ([] : List Cond))))
theorem oX4_areTrue_in : ∀ w ∈ oX4_areTrue, w ∈ wpX4_areTrue := fun w h => List.mem_cons_of_mem _ (List.mem_append_left _ h)
theorem gwoX4_areTrue : ∀ w ∈ oX4_areTrue, goodWord w = true := by decide +kernel
theorem gwX4_areTrue : ∀ w ∈ wpX4_areTrue, goodWord w = true := by
  unfold wpX4_areTrue
  exact List.forall_mem_cons.mpr ⟨rfl, List.forall_mem_append.mpr ⟨gwoX4_areTrue, List.forall_mem_append.mpr ⟨gwX4, List.forall_mem_append.mpr ⟨(sp_gV gwX4_isTrue), fun _ h => absurd h List.not_mem_nil⟩⟩⟩⟩
set_option maxRecDepth 100000 in
theorem toX4_areTrue : ∀ w ∈ oX4_areTrue, w ∈ lw_tbl := by
  unfold oX4_areTrue
  exact List.forall_mem_cons.mpr ⟨(List.mem_of_getElem? (i := 112) (by decide +kernel)), fun _ h => absurd h List.not_mem_nil⟩
set_option maxRecDepth 100000 in
theorem tX4_areTrue : ∀ w ∈ wpX4_areTrue, w ∈ lw_tbl := by
  unfold wpX4_areTrue
  exact List.forall_mem_cons.mpr ⟨(List.mem_of_getElem? (i := 582) (by rfl)), List.forall_mem_append.mpr ⟨toX4_areTrue, List.forall_mem_append.mpr ⟨in_wsX40, List.forall_mem_append.mpr ⟨(sp_tV (List.mem_of_getElem? (i := 583) (by decide +kernel)) (List.mem_of_getElem? (i := 439) (by decide +kernel)) (List.mem_of_getElem? (i := 440) (by decide +kernel)) (List.mem_of_getElem? (i := 40) (by decide +kernel)) tX4_isTrue), fun _ h => absurd h List.not_mem_nil⟩⟩⟩⟩
theorem iX4_areTrue_X4 : ∀ w ∈ wsX40, w ∈ wpX4_areTrue := fun w h => List.mem_cons_of_mem _ (List.mem_append_right _ (List.mem_append_left _ h))
theorem gX4_areTrue_X4_isTrue_54 : GoodIn wpX4_areTrue (wsV RX4 54 RX4 yX4_isTrue wpX4_isTrue) := fun w h => ⟨List.mem_cons_of_mem _ (List.mem_append_right _ (List.mem_append_right _ (List.mem_append_left _ h))), good_of_word (sp_gV gwX4_isTrue w h)⟩
set_option maxHeartbeats 4000000 in
set_option maxRecDepth 100000 in
theorem lp_X4_areTrue_2 {p : Program} {e : Env} {s : State} {m : MethodId} {below : List Frame} {meth : Method} {c : Code} {A : Nat → Prop} (l : Launch) (D : va_G) (cI cJ cZ : ClassId) (oR va rr0 rr1 rr2 : Nat) (rk : Nat → Int32) (ra : Nat → Int32) (rb : Nat → Int32) (vv : Nat → Int32) (rc : Int32) (hri : RI rc ra rb) (C0 : sp_C cX4_areTrue (some .boolean) 3 wpX4_areTrue yX4_areTrue.cls yX4_areTrue.name p s m ([.ref oR, .ref va] : List Value).toArray meth c) (hA : ∀ q : Nat, s.heap.size ≤ q → A q) (hK : va_K D vwCl [(cI, .int), (cJ, .long), (cZ, .boolean)] s) :
    ∀ (fuel : Nat) (i : Int32) (H : Heap) (locs : List Loc) (ls : Array Slot), (0 ≤ (i : Int32).toInt) → ((i : Int32).toInt ≤ (rc : Int32).toInt) → (kX4_areTrue rk ra rb vv rc = kX4_areTrue_l2 fuel rk ra rb vv rc i) → ((rc : Int32).toInt - (i : Int32).toInt < (fuel : Int)) → va_P D vwCl [(oR, .inr (2, [.ref rr0, .ref rr1, .ref rr2, .int rc])), (rr0, .inl (cI, 12, .inl rk)), (rr1, .inl (cI, 12, .inl ra)), (rr2, .inl (cI, 12, .inl rb)), (va, .inl (cI, 40, .inl vv))] H → va_D A [(oR, .inr (2, [.ref rr0, .ref rr1, .ref rr2, .int rc])), (rr0, .inl (cI, 12, .inl rk)), (rr1, .inl (cI, 12, .inl ra)), (rr2, .inl (cI, 12, .inl rb)), (va, .inl (cI, 40, .inl vv))] → va_S A s.heap H locs → lv_has ls 3 [(0, .ref oR), (1, .ref va), (2, .int i)] → W p l e ({ frames := 2, cells := 0, slots := 0, locals := 46 }) s m (([.ref oR, .ref va] : List Value).toArray) below meth c H locs 0 0 (MQ below (va_Qi (fun (r : Int32) (_ : Unit) => r = kX4_areTrue rk ra rb vv rc ∧ (r = 1 ∨ r = 0)) (sp_B D vwCl A (fun (_ : Unit) => [(oR, .inr (2, [.ref rr0, .ref rr1, .ref rr2, .int rc])), (rr0, .inl (cI, 12, .inl rk)), (rr1, .inl (cI, 12, .inl ra)), (rr2, .inl (cI, 12, .inl rb)), (va, .inl (cI, 40, .inl vv))])) A) ([.ref oR, .ref va] : List Value).toArray s 0 0 A) (F0 m 2 ls []) := by
  obtain ⟨hx, hb, hr, hts, hown, hlocks, hml, hin⟩ := id C0
  have hown : s.vm.findClass RX4 = some m.cls := hown
  intro fuel
  induction fuel with
  | zero =>
    intro i H locs ls h0 h1 hk_r hm
    exact absurd hm (by omega)
  | succ fuel ih =>
    intro i H locs ls h0 h1 hk_r hm hP hD hS hl
    obtain ⟨hc0, hc1, hci⟩ := id hri
    refine lv_iload_n hx hb dX4_areTrue_2 rfl (lv_at hl 2 rfl) ?_
    refine lv_aload_n hx hb dX4_areTrue_3 rfl (lv_at hl 0 rfl) ?_
    refine va_get (D := D) (ci := 2) (v := .int rc) (C := RX4) (T := TX4) (N := 4) hx hb hts iX4_areTrue_X4 hown hK hP 0 rfl rfl 3 (by decide) (hts (.fieldLink RX4 21 "FloatSolver$Rules" "count" "I") (oX4_areTrue_in _ (List.mem_of_getElem? (i := 0) rfl))) (fun _ h9 => h9) rfl dX4_areTrue_4 ?_
    refine lv_icmp_ge (tgt := 27) hx hb dX4_areTrue_7 (by decide) (fun c1 => ?_) (fun c1 => ?_)
    · skip
      have c1i : (rc : Int32).toInt ≤ (i : Int32).toInt := Int32.le_iff_toInt_le.mp c1
      refine lv_iconst (v := 1) hx hb dX4_areTrue_27 (by decide) ?_
      refine W.widen (k := 0) (n := 0) (by decide) (by decide) ?_
      exact sp_zret (u := ()) hx hb hr hlocks (by decide) hS ⟨(Eq.symm (hk_r.trans ((if_pos c1i).trans rfl))), (Or.inl rfl)⟩ (hP.sub [0, 1, 2, 3, 4] rfl) (hD.sub [0, 1, 2, 3, 4] (by decide) rfl) dX4_areTrue_28
    · skip
      have c1i : ¬ (rc : Int32).toInt ≤ (i : Int32).toInt := fun h => c1 (Int32.le_iff_toInt_le.mpr h)
      refine lv_aload_n hx hb dX4_areTrue_10 rfl (lv_at hl 0 rfl) ?_
      refine lv_iload_n hx hb dX4_areTrue_11 rfl (lv_at hl 2 rfl) ?_
      refine lv_aload_n hx hb dX4_areTrue_12 rfl (lv_at hl 1 rfl) ?_
      refine sp_calli (wr := []) (wc := [(oR, .inr (2, [.ref rr0, .ref rr1, .ref rr2, .int rc])), (rr0, .inl (cI, 12, .inl rk)), (rr1, .inl (cI, 12, .inl ra)), (rr2, .inl (cI, 12, .inl rb)), (va, .inl (cI, 40, .inl vv))]) hP hD hS hA [0, 1, 2, 3, 4] [] rfl rfl (by decide) (by decide) (va_runV (As := [.int i, .ref va]) (rest := []) ⟨hx, hb, hml, hown, hts⟩ (c_X4_isTrue l D cI cJ cZ H.size oR va rr0 rr1 rr2 rk ra rb vv i rc (by first | assumption | omega) (by first | omega | assumption)) (cwV 2 hts gX4_areTrue_X4_isTrue_54 rfl rfl rfl (by decide +kernel) ⟨Nat.le_of_ble_eq_true rfl, Nat.le_of_ble_eq_true rfl⟩) (sp_preV (ci := 2) (q0 := 0) [.int i, .ref va] hK (hP.sub (ws' := [(oR, .inr (2, [.ref rr0, .ref rr1, .ref rr2, .int rc])), (rr0, .inl (cI, 12, .inl rk)), (rr1, .inl (cI, 12, .inl ra)), (rr2, .inl (cI, 12, .inl rb)), (va, .inl (cI, 40, .inl vv))]) [0, 1, 2, 3, 4] rfl) (hD.sub (ws' := [(oR, .inr (2, [.ref rr0, .ref rr1, .ref rr2, .int rc])), (rr0, .inl (cI, 12, .inl rk)), (rr1, .inl (cI, 12, .inl ra)), (rr2, .inl (cI, 12, .inl rb)), (va, .inl (cI, 40, .inl vv))]) [0, 1, 2, 3, 4] (by decide) rfl) rfl rfl) rfl rfl hl.1 rfl (lv_room (Nat.le_of_ble_eq_true rfl)) dX4_areTrue_13 ⟨Nat.le_of_ble_eq_true rfl, Nat.le_of_ble_eq_true rfl⟩) (fun r2 u3 H locs hw4 hP hD hS => ?_)
      have hq_4_0 : r2 = (kX4_isTrue rk ra rb vv i) := hw4
      subst r2
      have hP : va_P D vwCl [(oR, .inr (2, [.ref rr0, .ref rr1, .ref rr2, .int rc])), (rr0, .inl (cI, 12, .inl rk)), (rr1, .inl (cI, 12, .inl ra)), (rr2, .inl (cI, 12, .inl rb)), (va, .inl (cI, 40, .inl vv))] H := hP
      have hD : va_D A [(oR, .inr (2, [.ref rr0, .ref rr1, .ref rr2, .int rc])), (rr0, .inl (cI, 12, .inl rk)), (rr1, .inl (cI, 12, .inl ra)), (rr2, .inl (cI, 12, .inl rb)), (va, .inl (cI, 40, .inl vv))] := hD
      refine lv_if_ne (tgt := 21) hx hb dX4_areTrue_16 (by decide) (fun c5 => ?_) (fun c5 => ?_)
      · skip
        have c5i : ¬ ((kX4_isTrue rk ra rb vv i) : Int32).toInt = 0 := fun h => c5 (Int32.toInt_inj.mp h)
        refine lv_iinc (v := (i + 1)) (lv' := [(2, .int (i + 1)), (0, .ref oR), (1, .ref va)]) hx hb dX4_areTrue_21 hl (k := 2) rfl rfl (by decide) rfl (fun ls hl => ?_)
        have ii6 : ((i + 1) : Int32).toInt = (i : Int32).toInt + 1 := px_iadd (show -2147483648 ≤ (i : Int32).toInt + 1 by omega) (show (i : Int32).toInt + 1 < 2147483648 by omega)
        refine lv_goto (tgt := 2) hx hb dX4_areTrue_24 (by decide) ?_
        exact ih ((i + 1)) _ _ _ (by first | assumption | omega) (by first | assumption | omega) (hk_r.trans ((if_neg c1i).trans ((if_neg c5i).trans rfl))) (by omega) (hP.sub [0, 1, 2, 3, 4] rfl) (hD.sub [0, 1, 2, 3, 4] (by decide) rfl) hS (lv_sub hl [1, 2, 0] rfl)
      · skip
        have c5i : ((kX4_isTrue rk ra rb vv i) : Int32).toInt = 0 := congrArg Int32.toInt c5
        refine lv_iconst (v := 0) hx hb dX4_areTrue_19 (by decide) ?_
        refine W.widen (k := 0) (n := 0) (by decide) (by decide) ?_
        exact sp_zret (u := ()) hx hb hr hlocks (by decide) hS ⟨(Eq.symm (hk_r.trans ((if_neg c1i).trans ((if_pos c5i).trans rfl)))), (Or.inr rfl)⟩ (hP.sub [0, 1, 2, 3, 4] rfl) (hD.sub [0, 1, 2, 3, 4] (by decide) rfl) dX4_areTrue_20
set_option maxHeartbeats 4000000 in
set_option maxRecDepth 100000 in
theorem c_X4_areTrue (l : Launch) (D : va_G) (cI cJ cZ : ClassId) (sz : Nat) (oR va rr0 rr1 rr2 : Nat) (rk : Nat → Int32) (ra : Nat → Int32) (rb : Nat → Int32) (vv : Nat → Int32) (rc : Int32) (hri : RI rc ra rb) : Met l yX4_areTrue wpX4_areTrue ({ frames := 2, cells := 0, slots := 0, locals := 46 }) (va_Pc ([.ref oR, .ref va] : List Value) (sp_pre D vwCl (sp_ty cI cJ cZ) [(oR, .inr (2, [.ref rr0, .ref rr1, .ref rr2, .int rc])), (rr0, .inl (cI, 12, .inl rk)), (rr1, .inl (cI, 12, .inl ra)), (rr2, .inl (cI, 12, .inl rb)), (va, .inl (cI, 40, .inl vv))] sz)) (va_Qi (fun (r : Int32) (_ : Unit) => r = kX4_areTrue rk ra rb vv rc ∧ (r = 1 ∨ r = 0)) (sp_B D vwCl (va_A [(oR, .inr (2, [.ref rr0, .ref rr1, .ref rr2, .int rc])), (rr0, .inl (cI, 12, .inl rk)), (rr1, .inl (cI, 12, .inl ra)), (rr2, .inl (cI, 12, .inl rb)), (va, .inl (cI, 40, .inl vv))] sz) (fun (_ : Unit) => [(oR, .inr (2, [.ref rr0, .ref rr1, .ref rr2, .int rc])), (rr0, .inl (cI, 12, .inl rk)), (rr1, .inl (cI, 12, .inl ra)), (rr2, .inl (cI, 12, .inl rb)), (va, .inl (cI, 40, .inl vv))])) (va_A [(oR, .inr (2, [.ref rr0, .ref rr1, .ref rr2, .int rc])), (rr0, .inl (cI, 12, .inl rk)), (rr1, .inl (cI, 12, .inl ra)), (rr2, .inl (cI, 12, .inl rb)), (va, .inl (cI, 40, .inl vv))] sz)) 0 0 (va_A [(oR, .inr (2, [.ref rr0, .ref rr1, .ref rr2, .int rc])), (rr0, .inl (cI, 12, .inl rk)), (rr1, .inl (cI, 12, .inl ra)), (rr2, .inl (cI, 12, .inl rb)), (va, .inl (cI, 40, .inl vv))] sz) := by
  refine sp_ofW (Qc := fun A => va_Qi (fun (r : Int32) (_ : Unit) => r = kX4_areTrue rk ra rb vv rc ∧ (r = 1 ∨ r = 0)) (sp_B D vwCl A (fun (_ : Unit) => [(oR, .inr (2, [.ref rr0, .ref rr1, .ref rr2, .int rc])), (rr0, .inl (cI, 12, .inl rk)), (rr1, .inl (cI, 12, .inl ra)), (rr2, .inl (cI, 12, .inl rb)), (va, .inl (cI, 40, .inl vv))])) A) (by decide) rfl (Nat.le_of_ble_eq_true rfl) (fun p e s m below meth c A ls H locs C0 hA hS hP hK hD hl => ?_)
  obtain ⟨hx, hb, hr, hts, hown, hlocks, hml, hin⟩ := id C0
  have hown : s.vm.findClass RX4 = some m.cls := hown
  have hl : lv_has ls 3 [(0, .ref oR), (1, .ref va)] := hl
  have hK : va_K D vwCl [(cI, .int), (cJ, .long), (cZ, .boolean)] s := hK
  obtain ⟨hc0, hc1, hci⟩ := id hri
  refine lv_iconst (v := 0) hx hb dX4_areTrue_0 (by decide) ?_
  refine lv_istore_n (lv' := [(2, .int 0), (0, .ref oR), (1, .ref va)]) hx hb dX4_areTrue_1 rfl hl (by decide) rfl (fun ls hl => ?_)
  have kk1 : ((0) : Int32).toInt = (0) := by decide
  exact lp_X4_areTrue_2 l D cI cJ cZ oR va rr0 rr1 rr2 rk ra rb vv rc hri C0 hA hK 14 (0) _ _ _ (by first | assumption | omega) (by first | assumption | omega) rfl (by omega) (hP.sub [0, 1, 2, 3, 4] rfl) (hD.sub [0, 1, 2, 3, 4] (by decide) rfl) hS (lv_sub hl [1, 2, 0] rfl)
def oX4_turned : List Cond := []
def wpX4_turned : List Cond := .code yX4_turned cX4_turned 1 (some .int) :: (oX4_turned ++ ([] : List Cond))
theorem oX4_turned_in : ∀ w ∈ oX4_turned, w ∈ wpX4_turned := fun w h => List.mem_cons_of_mem _ (List.mem_append_left _ h)
theorem gwoX4_turned : ∀ w ∈ oX4_turned, goodWord w = true := by decide +kernel
theorem gwX4_turned : ∀ w ∈ wpX4_turned, goodWord w = true := by
  unfold wpX4_turned
  exact List.forall_mem_cons.mpr ⟨rfl, List.forall_mem_append.mpr ⟨gwoX4_turned, fun _ h => absurd h List.not_mem_nil⟩⟩
set_option maxRecDepth 100000 in
theorem toX4_turned : ∀ w ∈ oX4_turned, w ∈ lw_tbl := by
  unfold oX4_turned
  exact fun _ h => absurd h List.not_mem_nil
set_option maxRecDepth 100000 in
theorem tX4_turned : ∀ w ∈ wpX4_turned, w ∈ lw_tbl := by
  unfold wpX4_turned
  exact List.forall_mem_cons.mpr ⟨(List.mem_of_getElem? (i := 542) (by rfl)), List.forall_mem_append.mpr ⟨toX4_turned, fun _ h => absurd h List.not_mem_nil⟩⟩
set_option maxHeartbeats 4000000 in
set_option maxRecDepth 100000 in
theorem c_X4_turned (l : Launch) (D : va_G) (cI cJ cZ : ClassId) (sz : Nat) (v : Int32) : Met l yX4_turned wpX4_turned ({ frames := 0, cells := 0, slots := 0, locals := 0 }) (va_Pc ([.int v] : List Value) (sp_pre D vwCl (sp_ty cI cJ cZ) [] sz)) (va_Qi (fun (r : Int32) (_ : Unit) => r = kX4_turned v) (sp_B D vwCl (va_A [] sz) (fun (_ : Unit) => [])) (va_A [] sz)) 0 0 (va_A [] sz) := by
  refine sp_ofW (Qc := fun A => va_Qi (fun (r : Int32) (_ : Unit) => r = kX4_turned v) (sp_B D vwCl A (fun (_ : Unit) => [])) A) (by decide) rfl (Nat.le_of_ble_eq_true rfl) (fun p e s m below meth c A ls H locs C0 hA hS hP hK hD hl => ?_)
  obtain ⟨hx, hb, hr, hts, hown, hlocks, hml, hin⟩ := id C0
  have hown : s.vm.findClass RX4 = some m.cls := hown
  have hl : lv_has ls 1 [(0, .int v)] := hl
  have hK : va_K D vwCl [(cI, .int), (cJ, .long), (cZ, .boolean)] s := hK
  refine lv_iload_n hx hb dX4_turned_0 rfl (lv_at hl 0 rfl) ?_
  refine lv_iconst (v := 2) hx hb dX4_turned_1 (by decide) ?_
  have hj5 : ∀ (z4 : Int32) (H : Heap) (locs : List Loc) (ls : Array Slot), (z4 = kX4_turned_12_z4 v) → va_P D vwCl [] H → va_D A [] → va_S A s.heap H locs → lv_has ls 1 [(0, .int v)] → W p l e ({ frames := 0, cells := 0, slots := 0, locals := 0 }) s m (([.int v] : List Value).toArray) below meth c H locs 0 0 (MQ below (va_Qi (fun (r : Int32) (_ : Unit) => r = kX4_turned v) (sp_B D vwCl A (fun (_ : Unit) => [])) A) ([.int v] : List Value).toArray s 0 0 A) (F0 m 12 ls [.int z4]) := by
    intro z4 H locs ls hz4 hP hD hS hl
    subst z4
    refine W.widen (k := 0) (n := 0) (by decide) (by decide) ?_
    exact sp_iret (u := ()) hx hb hr hlocks hS (Eq.symm rfl) (hP.sub [] rfl) (hD.sub [] (by decide) rfl) dX4_turned_12
  refine lv_icmp_ne (tgt := 9) hx hb dX4_turned_2 (by decide) (fun c1 => ?_) (fun c1 => ?_)
  · skip
    have c1i : ¬ (v : Int32).toInt = 2 := fun h => c1 (Int32.toInt_inj.mp h)
    refine lv_iconst (v := 1) hx hb dX4_turned_9 (by decide) ?_
    refine lv_iload_n hx hb dX4_turned_10 rfl (lv_at hl 0 rfl) ?_
    refine lv_isub hx hb dX4_turned_11 ?_
    exact hj5 ((1 - v)) _ _ _ (Eq.symm ((if_neg c1i).trans rfl)) (hP.sub [] rfl) (hD.sub [] (by decide) rfl) hS (lv_sub hl [0] rfl)
  · skip
    have c1i : (v : Int32).toInt = 2 := congrArg Int32.toInt c1
    refine lv_iconst (v := 2) hx hb dX4_turned_5 (by decide) ?_
    refine lv_goto (tgt := 12) hx hb dX4_turned_6 (by decide) ?_
    exact hj5 (2) _ _ _ (Eq.symm ((if_pos c1i).trans rfl)) (hP.sub [] rfl) (hD.sub [] (by decide) rfl) hS (lv_sub hl [0] rfl)
def oX4_verdictOfOrder : List Cond := [.fieldLink RX4 76 "FloatSolver$Spans" "some" "[Z", .fieldLink RX4 82 "FloatSolver$Spans" "low" "[I", .fieldLink RX4 85 "FloatSolver$Spans" "high" "[I", .fieldLink RX4 88 "FloatSolver$Spans" "none" "[Z"]
def wpX4_verdictOfOrder : List Cond := .code yX4_verdictOfOrder cX4_verdictOfOrder 7 (some .int) :: (oX4_verdictOfOrder ++ (wsX60 ++ ((va_wsS RX4 45 yX2_rank wpX2_rank) ++ ((va_wsS RX4 48 yJ6_compare_7cf53 wpJ6_compare_7cf53) ++ ([] : List Cond)))))
theorem oX4_verdictOfOrder_in : ∀ w ∈ oX4_verdictOfOrder, w ∈ wpX4_verdictOfOrder := fun w h => List.mem_cons_of_mem _ (List.mem_append_left _ h)
theorem gwoX4_verdictOfOrder : ∀ w ∈ oX4_verdictOfOrder, goodWord w = true := by decide +kernel
theorem gwX4_verdictOfOrder : ∀ w ∈ wpX4_verdictOfOrder, goodWord w = true := by
  unfold wpX4_verdictOfOrder
  exact List.forall_mem_cons.mpr ⟨rfl, List.forall_mem_append.mpr ⟨gwoX4_verdictOfOrder, List.forall_mem_append.mpr ⟨gwX6, List.forall_mem_append.mpr ⟨(sp_gS gwX2_rank), List.forall_mem_append.mpr ⟨(sp_gS gwJ6_compare_7cf53), fun _ h => absurd h List.not_mem_nil⟩⟩⟩⟩⟩
set_option maxRecDepth 100000 in
theorem toX4_verdictOfOrder : ∀ w ∈ oX4_verdictOfOrder, w ∈ lw_tbl := by
  unfold oX4_verdictOfOrder
  exact List.forall_mem_cons.mpr ⟨(List.mem_of_getElem? (i := 157) (by decide +kernel)), List.forall_mem_cons.mpr ⟨(List.mem_of_getElem? (i := 163) (by decide +kernel)), List.forall_mem_cons.mpr ⟨(List.mem_of_getElem? (i := 166) (by decide +kernel)), List.forall_mem_cons.mpr ⟨(List.mem_of_getElem? (i := 160) (by decide +kernel)), fun _ h => absurd h List.not_mem_nil⟩⟩⟩⟩
set_option maxRecDepth 100000 in
theorem tX4_verdictOfOrder : ∀ w ∈ wpX4_verdictOfOrder, w ∈ lw_tbl := by
  unfold wpX4_verdictOfOrder
  exact List.forall_mem_cons.mpr ⟨(List.mem_of_getElem? (i := 536) (by rfl)), List.forall_mem_append.mpr ⟨toX4_verdictOfOrder, List.forall_mem_append.mpr ⟨in_wsX60, List.forall_mem_append.mpr ⟨(sp_tS (List.mem_of_getElem? (i := 444) (by decide +kernel)) (List.mem_of_getElem? (i := 445) (by decide +kernel)) (List.mem_of_getElem? (i := 46) (by decide +kernel)) tX2_rank), List.forall_mem_append.mpr ⟨(sp_tS (List.mem_of_getElem? (i := 447) (by decide +kernel)) (List.mem_of_getElem? (i := 448) (by decide +kernel)) (List.mem_of_getElem? (i := 50) (by decide +kernel)) tJ6_compare_7cf53), fun _ h => absurd h List.not_mem_nil⟩⟩⟩⟩⟩
theorem iX4_verdictOfOrder_X6 : ∀ w ∈ wsX60, w ∈ wpX4_verdictOfOrder := fun w h => List.mem_cons_of_mem _ (List.mem_append_right _ (List.mem_append_left _ h))
theorem gX4_verdictOfOrder_X2_rank_45 : GoodIn wpX4_verdictOfOrder (va_wsS RX4 45 yX2_rank wpX2_rank) := fun w h => ⟨List.mem_cons_of_mem _ (List.mem_append_right _ (List.mem_append_right _ (List.mem_append_left _ h))), good_of_word (sp_gS gwX2_rank w h)⟩
theorem gX4_verdictOfOrder_J6_compare_7cf53_48 : GoodIn wpX4_verdictOfOrder (va_wsS RX4 48 yJ6_compare_7cf53 wpJ6_compare_7cf53) := fun w h => ⟨List.mem_cons_of_mem _ (List.mem_append_right _ (List.mem_append_right _ (List.mem_append_right _ (List.mem_append_left _ h)))), good_of_word (sp_gS gwJ6_compare_7cf53 w h)⟩
set_option maxHeartbeats 4000000 in
set_option maxRecDepth 100000 in
theorem c_X4_verdictOfOrder (l : Launch) (D : va_G) (cI cJ cZ : ClassId) (sz : Nat) (oP s0 s1 s2 s3 oN h2 : Nat) (e0 : Nat → Int32) (e1 : Nat → Int32) (e2 : Nat → Int32) (e3 : Nat → Int32) (sg : Int32) (x : Int32) (y : Int32) (sd : Int64) (ri_x : 0 ≤ (x : Int32).toInt ∧ (x : Int32).toInt < 40) (ri_y : 0 ≤ (y : Int32).toInt ∧ (y : Int32).toInt < 40) : Met l yX4_verdictOfOrder wpX4_verdictOfOrder ({ frames := 1, cells := 0, slots := 0, locals := 21 }) (va_Pc ([.int sg, .int x, .int y, .ref oP] : List Value) (sp_pre D vwCl (sp_ty cI cJ cZ) [(oP, .inr (4, [.ref s0, .ref s1, .ref s2, .ref s3, .ref oN, .ref h2, .long sd])), (s0, .inl (cZ, 40, .inl e0)), (s1, .inl (cZ, 40, .inl e1)), (s2, .inl (cI, 40, .inl e2)), (s3, .inl (cI, 40, .inl e3))] sz)) (va_Qi (fun (r : Int32) (_ : Unit) => r = kX4_verdictOfOrder e0 e1 e2 e3 sg x y) (sp_B D vwCl (va_A [(oP, .inr (4, [.ref s0, .ref s1, .ref s2, .ref s3, .ref oN, .ref h2, .long sd])), (s0, .inl (cZ, 40, .inl e0)), (s1, .inl (cZ, 40, .inl e1)), (s2, .inl (cI, 40, .inl e2)), (s3, .inl (cI, 40, .inl e3))] sz) (fun (_ : Unit) => [(oP, .inr (4, [.ref s0, .ref s1, .ref s2, .ref s3, .ref oN, .ref h2, .long sd])), (s0, .inl (cZ, 40, .inl e0)), (s1, .inl (cZ, 40, .inl e1)), (s2, .inl (cI, 40, .inl e2)), (s3, .inl (cI, 40, .inl e3))])) (va_A [(oP, .inr (4, [.ref s0, .ref s1, .ref s2, .ref s3, .ref oN, .ref h2, .long sd])), (s0, .inl (cZ, 40, .inl e0)), (s1, .inl (cZ, 40, .inl e1)), (s2, .inl (cI, 40, .inl e2)), (s3, .inl (cI, 40, .inl e3))] sz)) 0 0 (va_A [(oP, .inr (4, [.ref s0, .ref s1, .ref s2, .ref s3, .ref oN, .ref h2, .long sd])), (s0, .inl (cZ, 40, .inl e0)), (s1, .inl (cZ, 40, .inl e1)), (s2, .inl (cI, 40, .inl e2)), (s3, .inl (cI, 40, .inl e3))] sz) := by
  refine sp_ofW (Qc := fun A => va_Qi (fun (r : Int32) (_ : Unit) => r = kX4_verdictOfOrder e0 e1 e2 e3 sg x y) (sp_B D vwCl A (fun (_ : Unit) => [(oP, .inr (4, [.ref s0, .ref s1, .ref s2, .ref s3, .ref oN, .ref h2, .long sd])), (s0, .inl (cZ, 40, .inl e0)), (s1, .inl (cZ, 40, .inl e1)), (s2, .inl (cI, 40, .inl e2)), (s3, .inl (cI, 40, .inl e3))])) A) (by decide) rfl (Nat.le_of_ble_eq_true rfl) (fun p e s m below meth c A ls H locs C0 hA hS hP hK hD hl => ?_)
  obtain ⟨hx, hb, hr, hts, hown, hlocks, hml, hin⟩ := id C0
  have hown : s.vm.findClass RX4 = some m.cls := hown
  have hl : lv_has ls 7 [(0, .int sg), (1, .int x), (2, .int y), (3, .ref oP)] := hl
  have hK : va_K D vwCl [(cI, .int), (cJ, .long), (cZ, .boolean)] s := hK
  refine lv_aload_n hx hb dX4_verdictOfOrder_0 rfl (lv_at hl 3 rfl) ?_
  refine va_get (D := D) (ci := 4) (v := .ref s0) (C := RX6) (T := TX6) (N := 7) hx hb hts iX4_verdictOfOrder_X6 hown hK hP 0 rfl rfl 0 (by decide) (hts (.fieldLink RX4 76 "FloatSolver$Spans" "some" "[Z") (oX4_verdictOfOrder_in _ (List.mem_of_getElem? (i := 0) rfl))) (fun _ h9 => h9) rfl dX4_verdictOfOrder_1 ?_
  refine lv_iload_n hx hb dX4_verdictOfOrder_4 rfl (lv_at hl 1 rfl) ?_
  refine va_zald hx hb hK hP 1 2 rfl rfl (vp_in_iff.mpr ⟨by omega, by omega⟩) dX4_verdictOfOrder_5 ?_
  refine lv_if_eq (tgt := 18) hx hb dX4_verdictOfOrder_6 (by decide) (fun c1 => ?_) (fun c1 => ?_)
  · skip
    have c1i : ((e0 (x : Int32).toNatClampNeg) : Int32).toInt = 0 := congrArg Int32.toInt c1
    refine lv_iconst (v := 0) hx hb dX4_verdictOfOrder_18 (by decide) ?_
    refine W.widen (k := 0) (n := 0) (by decide) (by decide) ?_
    exact sp_iret (u := ()) hx hb hr hlocks hS (Eq.symm ((if_pos c1i).trans rfl)) (hP.sub [0, 1, 2, 3, 4] rfl) (hD.sub [0, 1, 2, 3, 4] (by decide) rfl) dX4_verdictOfOrder_19
  · skip
    have c1i : ¬ ((e0 (x : Int32).toNatClampNeg) : Int32).toInt = 0 := fun h => c1 (Int32.toInt_inj.mp h)
    refine lv_aload_n hx hb dX4_verdictOfOrder_9 rfl (lv_at hl 3 rfl) ?_
    refine va_get (D := D) (ci := 4) (v := .ref s0) (C := RX6) (T := TX6) (N := 7) hx hb hts iX4_verdictOfOrder_X6 hown hK hP 0 rfl rfl 0 (by decide) (hts (.fieldLink RX4 76 "FloatSolver$Spans" "some" "[Z") (oX4_verdictOfOrder_in _ (List.mem_of_getElem? (i := 0) rfl))) (fun _ h9 => h9) rfl dX4_verdictOfOrder_10 ?_
    refine lv_iload_n hx hb dX4_verdictOfOrder_13 rfl (lv_at hl 2 rfl) ?_
    refine va_zald hx hb hK hP 1 2 rfl rfl (vp_in_iff.mpr ⟨by omega, by omega⟩) dX4_verdictOfOrder_14 ?_
    refine lv_if_ne (tgt := 20) hx hb dX4_verdictOfOrder_15 (by decide) (fun c2 => ?_) (fun c2 => ?_)
    · skip
      have c2i : ¬ ((e0 (y : Int32).toNatClampNeg) : Int32).toInt = 0 := fun h => c2 (Int32.toInt_inj.mp h)
      refine lv_aload_n hx hb dX4_verdictOfOrder_20 rfl (lv_at hl 3 rfl) ?_
      refine va_get (D := D) (ci := 4) (v := .ref s2) (C := RX6) (T := TX6) (N := 7) hx hb hts iX4_verdictOfOrder_X6 hown hK hP 0 rfl rfl 2 (by decide) (hts (.fieldLink RX4 82 "FloatSolver$Spans" "low" "[I") (oX4_verdictOfOrder_in _ (List.mem_of_getElem? (i := 1) rfl))) (fun _ h9 => h9) rfl dX4_verdictOfOrder_21 ?_
      refine lv_iload_n hx hb dX4_verdictOfOrder_24 rfl (lv_at hl 1 rfl) ?_
      refine va_iald hx hb hK hP 3 0 rfl rfl (vp_in_iff.mpr ⟨by omega, by omega⟩) dX4_verdictOfOrder_25 ?_
      refine sp_calli (wr := [(oP, .inr (4, [.ref s0, .ref s1, .ref s2, .ref s3, .ref oN, .ref h2, .long sd])), (s0, .inl (cZ, 40, .inl e0)), (s1, .inl (cZ, 40, .inl e1)), (s2, .inl (cI, 40, .inl e2)), (s3, .inl (cI, 40, .inl e3))]) (wc := []) hP hD hS hA [] [0, 1, 2, 3, 4] rfl rfl (by decide) (by decide) (va_runS (As := [.int (e2 (x : Int32).toNatClampNeg)]) (rest := []) ⟨hx, hb, hml, hown, hts⟩ (c_X2_rank l D cI cJ cZ H.size (e2 (x : Int32).toNatClampNeg)) (va_cwS 1 hts gX4_verdictOfOrder_X2_rank_45 rfl rfl rfl (by decide +kernel) ⟨Nat.le_of_ble_eq_true rfl, Nat.le_of_ble_eq_true rfl⟩) (sp_preS [.int (e2 (x : Int32).toNatClampNeg)] hK (hP.sub (ws' := []) [] rfl) (hD.sub (ws' := []) [] (by decide) rfl)) rfl rfl hl.1 rfl (lv_room (Nat.le_of_ble_eq_true rfl)) dX4_verdictOfOrder_26 ⟨Nat.le_of_ble_eq_true rfl, Nat.le_of_ble_eq_true rfl⟩) (fun r3 u4 H locs hw5 hP hD hS => ?_)
      have hq_5_0 : r3 = (kX2_rank (e2 (x : Int32).toNatClampNeg)) := hw5
      subst r3
      have hP : va_P D vwCl [(oP, .inr (4, [.ref s0, .ref s1, .ref s2, .ref s3, .ref oN, .ref h2, .long sd])), (s0, .inl (cZ, 40, .inl e0)), (s1, .inl (cZ, 40, .inl e1)), (s2, .inl (cI, 40, .inl e2)), (s3, .inl (cI, 40, .inl e3))] H := hP
      have hD : va_D A [(oP, .inr (4, [.ref s0, .ref s1, .ref s2, .ref s3, .ref oN, .ref h2, .long sd])), (s0, .inl (cZ, 40, .inl e0)), (s1, .inl (cZ, 40, .inl e1)), (s2, .inl (cI, 40, .inl e2)), (s3, .inl (cI, 40, .inl e3))] := hD
      refine lv_aload_n hx hb dX4_verdictOfOrder_29 rfl (lv_at hl 3 rfl) ?_
      refine va_get (D := D) (ci := 4) (v := .ref s3) (C := RX6) (T := TX6) (N := 7) hx hb hts iX4_verdictOfOrder_X6 hown hK hP 0 rfl rfl 3 (by decide) (hts (.fieldLink RX4 85 "FloatSolver$Spans" "high" "[I") (oX4_verdictOfOrder_in _ (List.mem_of_getElem? (i := 2) rfl))) (fun _ h9 => h9) rfl dX4_verdictOfOrder_30 ?_
      refine lv_iload_n hx hb dX4_verdictOfOrder_33 rfl (lv_at hl 2 rfl) ?_
      refine va_iald hx hb hK hP 4 0 rfl rfl (vp_in_iff.mpr ⟨by omega, by omega⟩) dX4_verdictOfOrder_34 ?_
      refine sp_calli (wr := [(oP, .inr (4, [.ref s0, .ref s1, .ref s2, .ref s3, .ref oN, .ref h2, .long sd])), (s0, .inl (cZ, 40, .inl e0)), (s1, .inl (cZ, 40, .inl e1)), (s2, .inl (cI, 40, .inl e2)), (s3, .inl (cI, 40, .inl e3))]) (wc := []) hP hD hS hA [] [0, 1, 2, 3, 4] rfl rfl (by decide) (by decide) (va_runS (As := [.int (e3 (y : Int32).toNatClampNeg)]) (rest := [.int (kX2_rank (e2 (x : Int32).toNatClampNeg))]) ⟨hx, hb, hml, hown, hts⟩ (c_X2_rank l D cI cJ cZ H.size (e3 (y : Int32).toNatClampNeg)) (va_cwS 1 hts gX4_verdictOfOrder_X2_rank_45 rfl rfl rfl (by decide +kernel) ⟨Nat.le_of_ble_eq_true rfl, Nat.le_of_ble_eq_true rfl⟩) (sp_preS [.int (e3 (y : Int32).toNatClampNeg)] hK (hP.sub (ws' := []) [] rfl) (hD.sub (ws' := []) [] (by decide) rfl)) rfl rfl hl.1 rfl (lv_room (Nat.le_of_ble_eq_true rfl)) dX4_verdictOfOrder_35 ⟨Nat.le_of_ble_eq_true rfl, Nat.le_of_ble_eq_true rfl⟩) (fun r6 u7 H locs hw8 hP hD hS => ?_)
      have hq_8_0 : r6 = (kX2_rank (e3 (y : Int32).toNatClampNeg)) := hw8
      subst r6
      have hP : va_P D vwCl [(oP, .inr (4, [.ref s0, .ref s1, .ref s2, .ref s3, .ref oN, .ref h2, .long sd])), (s0, .inl (cZ, 40, .inl e0)), (s1, .inl (cZ, 40, .inl e1)), (s2, .inl (cI, 40, .inl e2)), (s3, .inl (cI, 40, .inl e3))] H := hP
      have hD : va_D A [(oP, .inr (4, [.ref s0, .ref s1, .ref s2, .ref s3, .ref oN, .ref h2, .long sd])), (s0, .inl (cZ, 40, .inl e0)), (s1, .inl (cZ, 40, .inl e1)), (s2, .inl (cI, 40, .inl e2)), (s3, .inl (cI, 40, .inl e3))] := hD
      refine sp_calli (wr := [(oP, .inr (4, [.ref s0, .ref s1, .ref s2, .ref s3, .ref oN, .ref h2, .long sd])), (s0, .inl (cZ, 40, .inl e0)), (s1, .inl (cZ, 40, .inl e1)), (s2, .inl (cI, 40, .inl e2)), (s3, .inl (cI, 40, .inl e3))]) (wc := []) hP hD hS hA [] [0, 1, 2, 3, 4] rfl rfl (by decide) (by decide) (va_runS (As := [.int (kX2_rank (e2 (x : Int32).toNatClampNeg)), .int (kX2_rank (e3 (y : Int32).toNatClampNeg))]) (rest := []) ⟨hx, hb, hml, hown, hts⟩ (c_J6_compare_7cf53 l D cI cJ cZ H.size (kX2_rank (e2 (x : Int32).toNatClampNeg)) (kX2_rank (e3 (y : Int32).toNatClampNeg))) (va_cwS 2 hts gX4_verdictOfOrder_J6_compare_7cf53_48 rfl rfl rfl (by decide +kernel) ⟨Nat.le_of_ble_eq_true rfl, Nat.le_of_ble_eq_true rfl⟩) (sp_preS [.int (kX2_rank (e2 (x : Int32).toNatClampNeg)), .int (kX2_rank (e3 (y : Int32).toNatClampNeg))] hK (hP.sub (ws' := []) [] rfl) (hD.sub (ws' := []) [] (by decide) rfl)) rfl rfl hl.1 rfl (lv_room (Nat.le_of_ble_eq_true rfl)) dX4_verdictOfOrder_38 ⟨Nat.le_of_ble_eq_true rfl, Nat.le_of_ble_eq_true rfl⟩) (fun r9 u10 H locs hw11 hP hD hS => ?_)
      have hq_11_0 : r9 = (kJ6_compare_7cf53 (kX2_rank (e2 (x : Int32).toNatClampNeg)) (kX2_rank (e3 (y : Int32).toNatClampNeg))) := hw11
      subst r9
      have hP : va_P D vwCl [(oP, .inr (4, [.ref s0, .ref s1, .ref s2, .ref s3, .ref oN, .ref h2, .long sd])), (s0, .inl (cZ, 40, .inl e0)), (s1, .inl (cZ, 40, .inl e1)), (s2, .inl (cI, 40, .inl e2)), (s3, .inl (cI, 40, .inl e3))] H := hP
      have hD : va_D A [(oP, .inr (4, [.ref s0, .ref s1, .ref s2, .ref s3, .ref oN, .ref h2, .long sd])), (s0, .inl (cZ, 40, .inl e0)), (s1, .inl (cZ, 40, .inl e1)), (s2, .inl (cI, 40, .inl e2)), (s3, .inl (cI, 40, .inl e3))] := hD
      refine lv_istore (lv' := [(4, .int (kX4_verdictOfOrder_s41 e0 e1 e2 e3 sg x y)), (0, .int sg), (1, .int x), (2, .int y), (3, .ref oP)]) hx hb dX4_verdictOfOrder_41 hl (by decide) rfl (fun ls hl => ?_)
      refine lv_iload_n hx hb dX4_verdictOfOrder_43 rfl (lv_at hl 1 rfl) ?_
      refine lv_if_eq (tgt := 55) hx hb dX4_verdictOfOrder_44 (by decide) (fun c12 => ?_) (fun c12 => ?_)
      · skip
        have c12i : (sg : Int32).toInt = 0 := congrArg Int32.toInt c12
        refine lv_iload hx hb dX4_verdictOfOrder_55 (lv_at hl 0 rfl) ?_
        refine lv_if_le (tgt := 62) hx hb dX4_verdictOfOrder_57 (by decide) (fun c13 => ?_) (fun c13 => ?_)
        · skip
          have c13i : ((kX4_verdictOfOrder_s41 e0 e1 e2 e3 sg x y) : Int32).toInt ≤ 0 := Int32.le_iff_toInt_le.mp c13
          refine lv_aload_n hx hb dX4_verdictOfOrder_62 rfl (lv_at hl 4 rfl) ?_
          refine va_get (D := D) (ci := 4) (v := .ref s3) (C := RX6) (T := TX6) (N := 7) hx hb hts iX4_verdictOfOrder_X6 hown hK hP 0 rfl rfl 3 (by decide) (hts (.fieldLink RX4 85 "FloatSolver$Spans" "high" "[I") (oX4_verdictOfOrder_in _ (List.mem_of_getElem? (i := 2) rfl))) (fun _ h9 => h9) rfl dX4_verdictOfOrder_63 ?_
          refine lv_iload_n hx hb dX4_verdictOfOrder_66 rfl (lv_at hl 2 rfl) ?_
          refine va_iald hx hb hK hP 4 0 rfl rfl (vp_in_iff.mpr ⟨by omega, by omega⟩) dX4_verdictOfOrder_67 ?_
          refine sp_calli (wr := [(oP, .inr (4, [.ref s0, .ref s1, .ref s2, .ref s3, .ref oN, .ref h2, .long sd])), (s0, .inl (cZ, 40, .inl e0)), (s1, .inl (cZ, 40, .inl e1)), (s2, .inl (cI, 40, .inl e2)), (s3, .inl (cI, 40, .inl e3))]) (wc := []) hP hD hS hA [] [0, 1, 2, 3, 4] rfl rfl (by decide) (by decide) (va_runS (As := [.int (e3 (x : Int32).toNatClampNeg)]) (rest := []) ⟨hx, hb, hml, hown, hts⟩ (c_X2_rank l D cI cJ cZ H.size (e3 (x : Int32).toNatClampNeg)) (va_cwS 1 hts gX4_verdictOfOrder_X2_rank_45 rfl rfl rfl (by decide +kernel) ⟨Nat.le_of_ble_eq_true rfl, Nat.le_of_ble_eq_true rfl⟩) (sp_preS [.int (e3 (x : Int32).toNatClampNeg)] hK (hP.sub (ws' := []) [] rfl) (hD.sub (ws' := []) [] (by decide) rfl)) rfl rfl hl.1 rfl (lv_room (Nat.le_of_ble_eq_true rfl)) dX4_verdictOfOrder_68 ⟨Nat.le_of_ble_eq_true rfl, Nat.le_of_ble_eq_true rfl⟩) (fun r14 u15 H locs hw16 hP hD hS => ?_)
          have hq_16_0 : r14 = (kX2_rank (e3 (x : Int32).toNatClampNeg)) := hw16
          subst r14
          have hP : va_P D vwCl [(oP, .inr (4, [.ref s0, .ref s1, .ref s2, .ref s3, .ref oN, .ref h2, .long sd])), (s0, .inl (cZ, 40, .inl e0)), (s1, .inl (cZ, 40, .inl e1)), (s2, .inl (cI, 40, .inl e2)), (s3, .inl (cI, 40, .inl e3))] H := hP
          have hD : va_D A [(oP, .inr (4, [.ref s0, .ref s1, .ref s2, .ref s3, .ref oN, .ref h2, .long sd])), (s0, .inl (cZ, 40, .inl e0)), (s1, .inl (cZ, 40, .inl e1)), (s2, .inl (cI, 40, .inl e2)), (s3, .inl (cI, 40, .inl e3))] := hD
          refine lv_aload_n hx hb dX4_verdictOfOrder_71 rfl (lv_at hl 4 rfl) ?_
          refine va_get (D := D) (ci := 4) (v := .ref s2) (C := RX6) (T := TX6) (N := 7) hx hb hts iX4_verdictOfOrder_X6 hown hK hP 0 rfl rfl 2 (by decide) (hts (.fieldLink RX4 82 "FloatSolver$Spans" "low" "[I") (oX4_verdictOfOrder_in _ (List.mem_of_getElem? (i := 1) rfl))) (fun _ h9 => h9) rfl dX4_verdictOfOrder_72 ?_
          refine lv_iload_n hx hb dX4_verdictOfOrder_75 rfl (lv_at hl 3 rfl) ?_
          refine va_iald hx hb hK hP 3 0 rfl rfl (vp_in_iff.mpr ⟨by omega, by omega⟩) dX4_verdictOfOrder_76 ?_
          refine sp_calli (wr := [(oP, .inr (4, [.ref s0, .ref s1, .ref s2, .ref s3, .ref oN, .ref h2, .long sd])), (s0, .inl (cZ, 40, .inl e0)), (s1, .inl (cZ, 40, .inl e1)), (s2, .inl (cI, 40, .inl e2)), (s3, .inl (cI, 40, .inl e3))]) (wc := []) hP hD hS hA [] [0, 1, 2, 3, 4] rfl rfl (by decide) (by decide) (va_runS (As := [.int (e2 (y : Int32).toNatClampNeg)]) (rest := [.int (kX2_rank (e3 (x : Int32).toNatClampNeg))]) ⟨hx, hb, hml, hown, hts⟩ (c_X2_rank l D cI cJ cZ H.size (e2 (y : Int32).toNatClampNeg)) (va_cwS 1 hts gX4_verdictOfOrder_X2_rank_45 rfl rfl rfl (by decide +kernel) ⟨Nat.le_of_ble_eq_true rfl, Nat.le_of_ble_eq_true rfl⟩) (sp_preS [.int (e2 (y : Int32).toNatClampNeg)] hK (hP.sub (ws' := []) [] rfl) (hD.sub (ws' := []) [] (by decide) rfl)) rfl rfl hl.1 rfl (lv_room (Nat.le_of_ble_eq_true rfl)) dX4_verdictOfOrder_77 ⟨Nat.le_of_ble_eq_true rfl, Nat.le_of_ble_eq_true rfl⟩) (fun r17 u18 H locs hw19 hP hD hS => ?_)
          have hq_19_0 : r17 = (kX2_rank (e2 (y : Int32).toNatClampNeg)) := hw19
          subst r17
          have hP : va_P D vwCl [(oP, .inr (4, [.ref s0, .ref s1, .ref s2, .ref s3, .ref oN, .ref h2, .long sd])), (s0, .inl (cZ, 40, .inl e0)), (s1, .inl (cZ, 40, .inl e1)), (s2, .inl (cI, 40, .inl e2)), (s3, .inl (cI, 40, .inl e3))] H := hP
          have hD : va_D A [(oP, .inr (4, [.ref s0, .ref s1, .ref s2, .ref s3, .ref oN, .ref h2, .long sd])), (s0, .inl (cZ, 40, .inl e0)), (s1, .inl (cZ, 40, .inl e1)), (s2, .inl (cI, 40, .inl e2)), (s3, .inl (cI, 40, .inl e3))] := hD
          refine sp_calli (wr := [(oP, .inr (4, [.ref s0, .ref s1, .ref s2, .ref s3, .ref oN, .ref h2, .long sd])), (s0, .inl (cZ, 40, .inl e0)), (s1, .inl (cZ, 40, .inl e1)), (s2, .inl (cI, 40, .inl e2)), (s3, .inl (cI, 40, .inl e3))]) (wc := []) hP hD hS hA [] [0, 1, 2, 3, 4] rfl rfl (by decide) (by decide) (va_runS (As := [.int (kX2_rank (e3 (x : Int32).toNatClampNeg)), .int (kX2_rank (e2 (y : Int32).toNatClampNeg))]) (rest := []) ⟨hx, hb, hml, hown, hts⟩ (c_J6_compare_7cf53 l D cI cJ cZ H.size (kX2_rank (e3 (x : Int32).toNatClampNeg)) (kX2_rank (e2 (y : Int32).toNatClampNeg))) (va_cwS 2 hts gX4_verdictOfOrder_J6_compare_7cf53_48 rfl rfl rfl (by decide +kernel) ⟨Nat.le_of_ble_eq_true rfl, Nat.le_of_ble_eq_true rfl⟩) (sp_preS [.int (kX2_rank (e3 (x : Int32).toNatClampNeg)), .int (kX2_rank (e2 (y : Int32).toNatClampNeg))] hK (hP.sub (ws' := []) [] rfl) (hD.sub (ws' := []) [] (by decide) rfl)) rfl rfl hl.1 rfl (lv_room (Nat.le_of_ble_eq_true rfl)) dX4_verdictOfOrder_80 ⟨Nat.le_of_ble_eq_true rfl, Nat.le_of_ble_eq_true rfl⟩) (fun r20 u21 H locs hw22 hP hD hS => ?_)
          have hq_22_0 : r20 = (kJ6_compare_7cf53 (kX2_rank (e3 (x : Int32).toNatClampNeg)) (kX2_rank (e2 (y : Int32).toNatClampNeg))) := hw22
          subst r20
          have hP : va_P D vwCl [(oP, .inr (4, [.ref s0, .ref s1, .ref s2, .ref s3, .ref oN, .ref h2, .long sd])), (s0, .inl (cZ, 40, .inl e0)), (s1, .inl (cZ, 40, .inl e1)), (s2, .inl (cI, 40, .inl e2)), (s3, .inl (cI, 40, .inl e3))] H := hP
          have hD : va_D A [(oP, .inr (4, [.ref s0, .ref s1, .ref s2, .ref s3, .ref oN, .ref h2, .long sd])), (s0, .inl (cZ, 40, .inl e0)), (s1, .inl (cZ, 40, .inl e1)), (s2, .inl (cI, 40, .inl e2)), (s3, .inl (cI, 40, .inl e3))] := hD
          refine lv_istore (lv' := [(5, .int (kX4_verdictOfOrder_s83 e0 e1 e2 e3 sg x y)), (4, .int (kX4_verdictOfOrder_s41 e0 e1 e2 e3 sg x y)), (0, .int sg), (1, .int x), (2, .int y), (3, .ref oP)]) hx hb dX4_verdictOfOrder_83 hl (by decide) rfl (fun ls hl => ?_)
          refine lv_iload_n hx hb dX4_verdictOfOrder_85 rfl (lv_at hl 2 rfl) ?_
          have hj37 : ∀ (z36 : Int32) (H : Heap) (locs : List Loc) (ls : Array Slot), (z36 = kX4_verdictOfOrder_112_z36 e0 e1 e2 e3 sg x y) → va_P D vwCl [(oP, .inr (4, [.ref s0, .ref s1, .ref s2, .ref s3, .ref oN, .ref h2, .long sd])), (s0, .inl (cZ, 40, .inl e0)), (s1, .inl (cZ, 40, .inl e1)), (s2, .inl (cI, 40, .inl e2)), (s3, .inl (cI, 40, .inl e3))] H → va_D A [(oP, .inr (4, [.ref s0, .ref s1, .ref s2, .ref s3, .ref oN, .ref h2, .long sd])), (s0, .inl (cZ, 40, .inl e0)), (s1, .inl (cZ, 40, .inl e1)), (s2, .inl (cI, 40, .inl e2)), (s3, .inl (cI, 40, .inl e3))] → va_S A s.heap H locs → lv_has ls 7 [(5, .int (kX4_verdictOfOrder_s83 e0 e1 e2 e3 sg x y)), (4, .int (kX4_verdictOfOrder_s41 e0 e1 e2 e3 sg x y)), (0, .int sg), (1, .int x), (2, .int y), (3, .ref oP)] → W p l e ({ frames := 1, cells := 0, slots := 0, locals := 21 }) s m (([.int sg, .int x, .int y, .ref oP] : List Value).toArray) below meth c H locs 0 0 (MQ below (va_Qi (fun (r : Int32) (_ : Unit) => r = kX4_verdictOfOrder e0 e1 e2 e3 sg x y) (sp_B D vwCl A (fun (_ : Unit) => [(oP, .inr (4, [.ref s0, .ref s1, .ref s2, .ref s3, .ref oN, .ref h2, .long sd])), (s0, .inl (cZ, 40, .inl e0)), (s1, .inl (cZ, 40, .inl e1)), (s2, .inl (cI, 40, .inl e2)), (s3, .inl (cI, 40, .inl e3))])) A) ([.int sg, .int x, .int y, .ref oP] : List Value).toArray s 0 0 A) (F0 m 112 ls [.int z36]) := by
            intro z36 H locs ls hz36 hP hD hS hl
            subst z36
            refine lv_istore (lv' := [(6, .int (kX4_verdictOfOrder_s112 e0 e1 e2 e3 sg x y)), (5, .int (kX4_verdictOfOrder_s83 e0 e1 e2 e3 sg x y)), (4, .int (kX4_verdictOfOrder_s41 e0 e1 e2 e3 sg x y)), (0, .int sg), (1, .int x), (2, .int y), (3, .ref oP)]) hx hb dX4_verdictOfOrder_112 hl (by decide) rfl (fun ls hl => ?_)
            refine lv_iload hx hb dX4_verdictOfOrder_114 (lv_at hl 0 rfl) ?_
            have hj52 : ∀ (z51 : Int32) (H : Heap) (locs : List Loc) (ls : Array Slot), (z51 = kX4_verdictOfOrder_142_z51 e0 e1 e2 e3 sg x y) → va_P D vwCl [(oP, .inr (4, [.ref s0, .ref s1, .ref s2, .ref s3, .ref oN, .ref h2, .long sd])), (s0, .inl (cZ, 40, .inl e0)), (s1, .inl (cZ, 40, .inl e1)), (s2, .inl (cI, 40, .inl e2)), (s3, .inl (cI, 40, .inl e3))] H → va_D A [(oP, .inr (4, [.ref s0, .ref s1, .ref s2, .ref s3, .ref oN, .ref h2, .long sd])), (s0, .inl (cZ, 40, .inl e0)), (s1, .inl (cZ, 40, .inl e1)), (s2, .inl (cI, 40, .inl e2)), (s3, .inl (cI, 40, .inl e3))] → va_S A s.heap H locs → lv_has ls 7 [(6, .int (kX4_verdictOfOrder_s112 e0 e1 e2 e3 sg x y)), (5, .int (kX4_verdictOfOrder_s83 e0 e1 e2 e3 sg x y)), (4, .int (kX4_verdictOfOrder_s41 e0 e1 e2 e3 sg x y)), (0, .int sg), (1, .int x), (2, .int y), (3, .ref oP)] → W p l e ({ frames := 1, cells := 0, slots := 0, locals := 21 }) s m (([.int sg, .int x, .int y, .ref oP] : List Value).toArray) below meth c H locs 0 0 (MQ below (va_Qi (fun (r : Int32) (_ : Unit) => r = kX4_verdictOfOrder e0 e1 e2 e3 sg x y) (sp_B D vwCl A (fun (_ : Unit) => [(oP, .inr (4, [.ref s0, .ref s1, .ref s2, .ref s3, .ref oN, .ref h2, .long sd])), (s0, .inl (cZ, 40, .inl e0)), (s1, .inl (cZ, 40, .inl e1)), (s2, .inl (cI, 40, .inl e2)), (s3, .inl (cI, 40, .inl e3))])) A) ([.int sg, .int x, .int y, .ref oP] : List Value).toArray s 0 0 A) (F0 m 142 ls [.int z51]) := by
              intro z51 H locs ls hz51 hP hD hS hl
              subst z51
              refine W.widen (k := 0) (n := 0) (by decide) (by decide) ?_
              exact sp_iret (u := ()) hx hb hr hlocks hS (Eq.symm ((if_neg c1i).trans ((if_neg c2i).trans ((if_pos c12i).trans ((if_pos c13i).trans rfl))))) (hP.sub [0, 1, 2, 3, 4] rfl) (hD.sub [0, 1, 2, 3, 4] (by decide) rfl) dX4_verdictOfOrder_142
            refine lv_if_eq (tgt := 141) hx hb dX4_verdictOfOrder_116 (by decide) (fun c38 => ?_) (fun c38 => ?_)
            · skip
              have c38i : ((kX4_verdictOfOrder_s112 e0 e1 e2 e3 sg x y) : Int32).toInt = 0 := congrArg Int32.toInt c38
              refine lv_iconst (v := 2) hx hb dX4_verdictOfOrder_141 (by decide) ?_
              exact hj52 (2) _ _ _ (Eq.symm ((if_pos c38i).trans rfl)) (hP.sub [0, 1, 2, 3, 4] rfl) (hD.sub [0, 1, 2, 3, 4] (by decide) rfl) hS (lv_sub hl [0, 1, 2, 3, 4, 5, 6] rfl)
            · skip
              have c38i : ¬ ((kX4_verdictOfOrder_s112 e0 e1 e2 e3 sg x y) : Int32).toInt = 0 := fun h => c38 (Int32.toInt_inj.mp h)
              refine lv_aload_n hx hb dX4_verdictOfOrder_119 rfl (lv_at hl 6 rfl) ?_
              refine va_get (D := D) (ci := 4) (v := .ref s1) (C := RX6) (T := TX6) (N := 7) hx hb hts iX4_verdictOfOrder_X6 hown hK hP 0 rfl rfl 1 (by decide) (hts (.fieldLink RX4 88 "FloatSolver$Spans" "none" "[Z") (oX4_verdictOfOrder_in _ (List.mem_of_getElem? (i := 3) rfl))) (fun _ h9 => h9) rfl dX4_verdictOfOrder_120 ?_
              refine lv_iload_n hx hb dX4_verdictOfOrder_123 rfl (lv_at hl 4 rfl) ?_
              refine va_zald hx hb hK hP 2 2 rfl rfl (vp_in_iff.mpr ⟨by omega, by omega⟩) dX4_verdictOfOrder_124 ?_
              have hj49 : ∀ (z48 : Int32) (H : Heap) (locs : List Loc) (ls : Array Slot), (z48 = kX4_verdictOfOrder_142_z48 e0 e1 e2 e3 sg x y) → va_P D vwCl [(oP, .inr (4, [.ref s0, .ref s1, .ref s2, .ref s3, .ref oN, .ref h2, .long sd])), (s0, .inl (cZ, 40, .inl e0)), (s1, .inl (cZ, 40, .inl e1)), (s2, .inl (cI, 40, .inl e2)), (s3, .inl (cI, 40, .inl e3))] H → va_D A [(oP, .inr (4, [.ref s0, .ref s1, .ref s2, .ref s3, .ref oN, .ref h2, .long sd])), (s0, .inl (cZ, 40, .inl e0)), (s1, .inl (cZ, 40, .inl e1)), (s2, .inl (cI, 40, .inl e2)), (s3, .inl (cI, 40, .inl e3))] → va_S A s.heap H locs → lv_has ls 7 [(6, .int (kX4_verdictOfOrder_s112 e0 e1 e2 e3 sg x y)), (5, .int (kX4_verdictOfOrder_s83 e0 e1 e2 e3 sg x y)), (4, .int (kX4_verdictOfOrder_s41 e0 e1 e2 e3 sg x y)), (0, .int sg), (1, .int x), (2, .int y), (3, .ref oP)] → W p l e ({ frames := 1, cells := 0, slots := 0, locals := 21 }) s m (([.int sg, .int x, .int y, .ref oP] : List Value).toArray) below meth c H locs 0 0 (MQ below (va_Qi (fun (r : Int32) (_ : Unit) => r = kX4_verdictOfOrder e0 e1 e2 e3 sg x y) (sp_B D vwCl A (fun (_ : Unit) => [(oP, .inr (4, [.ref s0, .ref s1, .ref s2, .ref s3, .ref oN, .ref h2, .long sd])), (s0, .inl (cZ, 40, .inl e0)), (s1, .inl (cZ, 40, .inl e1)), (s2, .inl (cI, 40, .inl e2)), (s3, .inl (cI, 40, .inl e3))])) A) ([.int sg, .int x, .int y, .ref oP] : List Value).toArray s 0 0 A) (F0 m 142 ls [.int z48]) := by
                intro z48 H locs ls hz48 hP hD hS hl
                subst z48
                exact hj52 ((kX4_verdictOfOrder_142_z48 e0 e1 e2 e3 sg x y)) _ _ _ (Eq.symm ((if_neg c38i).trans rfl)) (hP.sub [0, 1, 2, 3, 4] rfl) (hD.sub [0, 1, 2, 3, 4] (by decide) rfl) hS (lv_sub hl [0, 1, 2, 3, 4, 5, 6] rfl)
              refine lv_if_ne (tgt := 141) hx hb dX4_verdictOfOrder_125 (by decide) (fun c40 => ?_) (fun c40 => ?_)
              · skip
                have c40i : ¬ ((e1 (x : Int32).toNatClampNeg) : Int32).toInt = 0 := fun h => c40 (Int32.toInt_inj.mp h)
                refine lv_iconst (v := 2) hx hb dX4_verdictOfOrder_141 (by decide) ?_
                exact hj49 (2) _ _ _ (Eq.symm ((if_neg c40i).trans rfl)) (hP.sub [0, 1, 2, 3, 4] rfl) (hD.sub [0, 1, 2, 3, 4] (by decide) rfl) hS (lv_sub hl [0, 1, 2, 3, 4, 5, 6] rfl)
              · skip
                have c40i : ((e1 (x : Int32).toNatClampNeg) : Int32).toInt = 0 := congrArg Int32.toInt c40
                refine lv_aload_n hx hb dX4_verdictOfOrder_128 rfl (lv_at hl 6 rfl) ?_
                refine va_get (D := D) (ci := 4) (v := .ref s1) (C := RX6) (T := TX6) (N := 7) hx hb hts iX4_verdictOfOrder_X6 hown hK hP 0 rfl rfl 1 (by decide) (hts (.fieldLink RX4 88 "FloatSolver$Spans" "none" "[Z") (oX4_verdictOfOrder_in _ (List.mem_of_getElem? (i := 3) rfl))) (fun _ h9 => h9) rfl dX4_verdictOfOrder_129 ?_
                refine lv_iload_n hx hb dX4_verdictOfOrder_132 rfl (lv_at hl 5 rfl) ?_
                refine va_zald hx hb hK hP 2 2 rfl rfl (vp_in_iff.mpr ⟨by omega, by omega⟩) dX4_verdictOfOrder_133 ?_
                have hj46 : ∀ (z45 : Int32) (H : Heap) (locs : List Loc) (ls : Array Slot), (z45 = kX4_verdictOfOrder_142_z45 e0 e1 e2 e3 sg x y) → va_P D vwCl [(oP, .inr (4, [.ref s0, .ref s1, .ref s2, .ref s3, .ref oN, .ref h2, .long sd])), (s0, .inl (cZ, 40, .inl e0)), (s1, .inl (cZ, 40, .inl e1)), (s2, .inl (cI, 40, .inl e2)), (s3, .inl (cI, 40, .inl e3))] H → va_D A [(oP, .inr (4, [.ref s0, .ref s1, .ref s2, .ref s3, .ref oN, .ref h2, .long sd])), (s0, .inl (cZ, 40, .inl e0)), (s1, .inl (cZ, 40, .inl e1)), (s2, .inl (cI, 40, .inl e2)), (s3, .inl (cI, 40, .inl e3))] → va_S A s.heap H locs → lv_has ls 7 [(6, .int (kX4_verdictOfOrder_s112 e0 e1 e2 e3 sg x y)), (5, .int (kX4_verdictOfOrder_s83 e0 e1 e2 e3 sg x y)), (4, .int (kX4_verdictOfOrder_s41 e0 e1 e2 e3 sg x y)), (0, .int sg), (1, .int x), (2, .int y), (3, .ref oP)] → W p l e ({ frames := 1, cells := 0, slots := 0, locals := 21 }) s m (([.int sg, .int x, .int y, .ref oP] : List Value).toArray) below meth c H locs 0 0 (MQ below (va_Qi (fun (r : Int32) (_ : Unit) => r = kX4_verdictOfOrder e0 e1 e2 e3 sg x y) (sp_B D vwCl A (fun (_ : Unit) => [(oP, .inr (4, [.ref s0, .ref s1, .ref s2, .ref s3, .ref oN, .ref h2, .long sd])), (s0, .inl (cZ, 40, .inl e0)), (s1, .inl (cZ, 40, .inl e1)), (s2, .inl (cI, 40, .inl e2)), (s3, .inl (cI, 40, .inl e3))])) A) ([.int sg, .int x, .int y, .ref oP] : List Value).toArray s 0 0 A) (F0 m 142 ls [.int z45]) := by
                  intro z45 H locs ls hz45 hP hD hS hl
                  subst z45
                  exact hj49 ((kX4_verdictOfOrder_142_z45 e0 e1 e2 e3 sg x y)) _ _ _ (Eq.symm ((if_pos c40i).trans rfl)) (hP.sub [0, 1, 2, 3, 4] rfl) (hD.sub [0, 1, 2, 3, 4] (by decide) rfl) hS (lv_sub hl [0, 1, 2, 3, 4, 5, 6] rfl)
                refine lv_if_ne (tgt := 141) hx hb dX4_verdictOfOrder_134 (by decide) (fun c42 => ?_) (fun c42 => ?_)
                · skip
                  have c42i : ¬ ((e1 (y : Int32).toNatClampNeg) : Int32).toInt = 0 := fun h => c42 (Int32.toInt_inj.mp h)
                  refine lv_iconst (v := 2) hx hb dX4_verdictOfOrder_141 (by decide) ?_
                  exact hj46 (2) _ _ _ (Eq.symm ((if_neg c42i).trans rfl)) (hP.sub [0, 1, 2, 3, 4] rfl) (hD.sub [0, 1, 2, 3, 4] (by decide) rfl) hS (lv_sub hl [0, 1, 2, 3, 4, 5, 6] rfl)
                · skip
                  have c42i : ((e1 (y : Int32).toNatClampNeg) : Int32).toInt = 0 := congrArg Int32.toInt c42
                  refine lv_iconst (v := 1) hx hb dX4_verdictOfOrder_137 (by decide) ?_
                  refine lv_goto (tgt := 142) hx hb dX4_verdictOfOrder_138 (by decide) ?_
                  exact hj46 (1) _ _ _ (Eq.symm ((if_pos c42i).trans rfl)) (hP.sub [0, 1, 2, 3, 4] rfl) (hD.sub [0, 1, 2, 3, 4] (by decide) rfl) hS (lv_sub hl [0, 1, 2, 3, 4, 5, 6] rfl)
          refine lv_if_eq (tgt := 102) hx hb dX4_verdictOfOrder_86 (by decide) (fun c23 => ?_) (fun c23 => ?_)
          · skip
            have c23i : (sg : Int32).toInt = 0 := congrArg Int32.toInt c23
            refine lv_iload hx hb dX4_verdictOfOrder_102 (lv_at hl 0 rfl) ?_
            have hj28 : ∀ (z27 : Int32) (H : Heap) (locs : List Loc) (ls : Array Slot), (z27 = kX4_verdictOfOrder_112_z27 e0 e1 e2 e3 sg x y) → va_P D vwCl [(oP, .inr (4, [.ref s0, .ref s1, .ref s2, .ref s3, .ref oN, .ref h2, .long sd])), (s0, .inl (cZ, 40, .inl e0)), (s1, .inl (cZ, 40, .inl e1)), (s2, .inl (cI, 40, .inl e2)), (s3, .inl (cI, 40, .inl e3))] H → va_D A [(oP, .inr (4, [.ref s0, .ref s1, .ref s2, .ref s3, .ref oN, .ref h2, .long sd])), (s0, .inl (cZ, 40, .inl e0)), (s1, .inl (cZ, 40, .inl e1)), (s2, .inl (cI, 40, .inl e2)), (s3, .inl (cI, 40, .inl e3))] → va_S A s.heap H locs → lv_has ls 7 [(5, .int (kX4_verdictOfOrder_s83 e0 e1 e2 e3 sg x y)), (4, .int (kX4_verdictOfOrder_s41 e0 e1 e2 e3 sg x y)), (0, .int sg), (1, .int x), (2, .int y), (3, .ref oP)] → W p l e ({ frames := 1, cells := 0, slots := 0, locals := 21 }) s m (([.int sg, .int x, .int y, .ref oP] : List Value).toArray) below meth c H locs 0 0 (MQ below (va_Qi (fun (r : Int32) (_ : Unit) => r = kX4_verdictOfOrder e0 e1 e2 e3 sg x y) (sp_B D vwCl A (fun (_ : Unit) => [(oP, .inr (4, [.ref s0, .ref s1, .ref s2, .ref s3, .ref oN, .ref h2, .long sd])), (s0, .inl (cZ, 40, .inl e0)), (s1, .inl (cZ, 40, .inl e1)), (s2, .inl (cI, 40, .inl e2)), (s3, .inl (cI, 40, .inl e3))])) A) ([.int sg, .int x, .int y, .ref oP] : List Value).toArray s 0 0 A) (F0 m 112 ls [.int z27]) := by
              intro z27 H locs ls hz27 hP hD hS hl
              subst z27
              exact hj37 ((kX4_verdictOfOrder_112_z27 e0 e1 e2 e3 sg x y)) _ _ _ (Eq.symm ((if_pos c23i).trans rfl)) (hP.sub [0, 1, 2, 3, 4] rfl) (hD.sub [0, 1, 2, 3, 4] (by decide) rfl) hS (lv_sub hl [0, 1, 2, 3, 4, 5] rfl)
            refine lv_if_gt (tgt := 111) hx hb dX4_verdictOfOrder_104 (by decide) (fun c24 => ?_) (fun c24 => ?_)
            · skip
              have c24i : 0 < ((kX4_verdictOfOrder_s83 e0 e1 e2 e3 sg x y) : Int32).toInt := Int32.lt_iff_toInt_lt.mp c24
              refine lv_iconst (v := 0) hx hb dX4_verdictOfOrder_111 (by decide) ?_
              exact hj28 (0) _ _ _ (Eq.symm ((if_pos c24i).trans rfl)) (hP.sub [0, 1, 2, 3, 4] rfl) (hD.sub [0, 1, 2, 3, 4] (by decide) rfl) hS (lv_sub hl [0, 1, 2, 3, 4, 5] rfl)
            · skip
              have c24i : ¬ 0 < ((kX4_verdictOfOrder_s83 e0 e1 e2 e3 sg x y) : Int32).toInt := fun h => c24 (Int32.lt_iff_toInt_lt.mpr h)
              refine lv_iconst (v := 1) hx hb dX4_verdictOfOrder_107 (by decide) ?_
              refine lv_goto (tgt := 112) hx hb dX4_verdictOfOrder_108 (by decide) ?_
              exact hj28 (1) _ _ _ (Eq.symm ((if_neg c24i).trans rfl)) (hP.sub [0, 1, 2, 3, 4] rfl) (hD.sub [0, 1, 2, 3, 4] (by decide) rfl) hS (lv_sub hl [0, 1, 2, 3, 4, 5] rfl)
          · skip
            have c23i : ¬ (sg : Int32).toInt = 0 := fun h => c23 (Int32.toInt_inj.mp h)
            refine lv_iload hx hb dX4_verdictOfOrder_89 (lv_at hl 0 rfl) ?_
            have hj34 : ∀ (z33 : Int32) (H : Heap) (locs : List Loc) (ls : Array Slot), (z33 = kX4_verdictOfOrder_112_z33 e0 e1 e2 e3 sg x y) → va_P D vwCl [(oP, .inr (4, [.ref s0, .ref s1, .ref s2, .ref s3, .ref oN, .ref h2, .long sd])), (s0, .inl (cZ, 40, .inl e0)), (s1, .inl (cZ, 40, .inl e1)), (s2, .inl (cI, 40, .inl e2)), (s3, .inl (cI, 40, .inl e3))] H → va_D A [(oP, .inr (4, [.ref s0, .ref s1, .ref s2, .ref s3, .ref oN, .ref h2, .long sd])), (s0, .inl (cZ, 40, .inl e0)), (s1, .inl (cZ, 40, .inl e1)), (s2, .inl (cI, 40, .inl e2)), (s3, .inl (cI, 40, .inl e3))] → va_S A s.heap H locs → lv_has ls 7 [(5, .int (kX4_verdictOfOrder_s83 e0 e1 e2 e3 sg x y)), (4, .int (kX4_verdictOfOrder_s41 e0 e1 e2 e3 sg x y)), (0, .int sg), (1, .int x), (2, .int y), (3, .ref oP)] → W p l e ({ frames := 1, cells := 0, slots := 0, locals := 21 }) s m (([.int sg, .int x, .int y, .ref oP] : List Value).toArray) below meth c H locs 0 0 (MQ below (va_Qi (fun (r : Int32) (_ : Unit) => r = kX4_verdictOfOrder e0 e1 e2 e3 sg x y) (sp_B D vwCl A (fun (_ : Unit) => [(oP, .inr (4, [.ref s0, .ref s1, .ref s2, .ref s3, .ref oN, .ref h2, .long sd])), (s0, .inl (cZ, 40, .inl e0)), (s1, .inl (cZ, 40, .inl e1)), (s2, .inl (cI, 40, .inl e2)), (s3, .inl (cI, 40, .inl e3))])) A) ([.int sg, .int x, .int y, .ref oP] : List Value).toArray s 0 0 A) (F0 m 112 ls [.int z33]) := by
              intro z33 H locs ls hz33 hP hD hS hl
              subst z33
              exact hj37 ((kX4_verdictOfOrder_112_z33 e0 e1 e2 e3 sg x y)) _ _ _ (Eq.symm ((if_neg c23i).trans rfl)) (hP.sub [0, 1, 2, 3, 4] rfl) (hD.sub [0, 1, 2, 3, 4] (by decide) rfl) hS (lv_sub hl [0, 1, 2, 3, 4, 5] rfl)
            refine lv_if_ge (tgt := 98) hx hb dX4_verdictOfOrder_91 (by decide) (fun c30 => ?_) (fun c30 => ?_)
            · skip
              have c30i : 0 ≤ ((kX4_verdictOfOrder_s83 e0 e1 e2 e3 sg x y) : Int32).toInt := Int32.le_iff_toInt_le.mp c30
              refine lv_iconst (v := 0) hx hb dX4_verdictOfOrder_98 (by decide) ?_
              refine lv_goto (tgt := 112) hx hb dX4_verdictOfOrder_99 (by decide) ?_
              exact hj34 (0) _ _ _ (Eq.symm ((if_pos c30i).trans rfl)) (hP.sub [0, 1, 2, 3, 4] rfl) (hD.sub [0, 1, 2, 3, 4] (by decide) rfl) hS (lv_sub hl [0, 1, 2, 3, 4, 5] rfl)
            · skip
              have c30i : ¬ 0 ≤ ((kX4_verdictOfOrder_s83 e0 e1 e2 e3 sg x y) : Int32).toInt := fun h => c30 (Int32.le_iff_toInt_le.mpr h)
              refine lv_iconst (v := 1) hx hb dX4_verdictOfOrder_94 (by decide) ?_
              refine lv_goto (tgt := 112) hx hb dX4_verdictOfOrder_95 (by decide) ?_
              exact hj34 (1) _ _ _ (Eq.symm ((if_neg c30i).trans rfl)) (hP.sub [0, 1, 2, 3, 4] rfl) (hD.sub [0, 1, 2, 3, 4] (by decide) rfl) hS (lv_sub hl [0, 1, 2, 3, 4, 5] rfl)
        · skip
          have c13i : ¬ ((kX4_verdictOfOrder_s41 e0 e1 e2 e3 sg x y) : Int32).toInt ≤ 0 := fun h => c13 (Int32.le_iff_toInt_le.mpr h)
          refine lv_iconst (v := 0) hx hb dX4_verdictOfOrder_60 (by decide) ?_
          refine W.widen (k := 0) (n := 0) (by decide) (by decide) ?_
          exact sp_iret (u := ()) hx hb hr hlocks hS (Eq.symm ((if_neg c1i).trans ((if_neg c2i).trans ((if_pos c12i).trans ((if_neg c13i).trans rfl))))) (hP.sub [0, 1, 2, 3, 4] rfl) (hD.sub [0, 1, 2, 3, 4] (by decide) rfl) dX4_verdictOfOrder_61
      · skip
        have c12i : ¬ (sg : Int32).toInt = 0 := fun h => c12 (Int32.toInt_inj.mp h)
        refine lv_iload hx hb dX4_verdictOfOrder_47 (lv_at hl 0 rfl) ?_
        refine lv_if_lt (tgt := 62) hx hb dX4_verdictOfOrder_49 (by decide) (fun c53 => ?_) (fun c53 => ?_)
        · skip
          have c53i : ((kX4_verdictOfOrder_s41 e0 e1 e2 e3 sg x y) : Int32).toInt < 0 := Int32.lt_iff_toInt_lt.mp c53
          refine lv_aload_n hx hb dX4_verdictOfOrder_62 rfl (lv_at hl 4 rfl) ?_
          refine va_get (D := D) (ci := 4) (v := .ref s3) (C := RX6) (T := TX6) (N := 7) hx hb hts iX4_verdictOfOrder_X6 hown hK hP 0 rfl rfl 3 (by decide) (hts (.fieldLink RX4 85 "FloatSolver$Spans" "high" "[I") (oX4_verdictOfOrder_in _ (List.mem_of_getElem? (i := 2) rfl))) (fun _ h9 => h9) rfl dX4_verdictOfOrder_63 ?_
          refine lv_iload_n hx hb dX4_verdictOfOrder_66 rfl (lv_at hl 2 rfl) ?_
          refine va_iald hx hb hK hP 4 0 rfl rfl (vp_in_iff.mpr ⟨by omega, by omega⟩) dX4_verdictOfOrder_67 ?_
          refine sp_calli (wr := [(oP, .inr (4, [.ref s0, .ref s1, .ref s2, .ref s3, .ref oN, .ref h2, .long sd])), (s0, .inl (cZ, 40, .inl e0)), (s1, .inl (cZ, 40, .inl e1)), (s2, .inl (cI, 40, .inl e2)), (s3, .inl (cI, 40, .inl e3))]) (wc := []) hP hD hS hA [] [0, 1, 2, 3, 4] rfl rfl (by decide) (by decide) (va_runS (As := [.int (e3 (x : Int32).toNatClampNeg)]) (rest := []) ⟨hx, hb, hml, hown, hts⟩ (c_X2_rank l D cI cJ cZ H.size (e3 (x : Int32).toNatClampNeg)) (va_cwS 1 hts gX4_verdictOfOrder_X2_rank_45 rfl rfl rfl (by decide +kernel) ⟨Nat.le_of_ble_eq_true rfl, Nat.le_of_ble_eq_true rfl⟩) (sp_preS [.int (e3 (x : Int32).toNatClampNeg)] hK (hP.sub (ws' := []) [] rfl) (hD.sub (ws' := []) [] (by decide) rfl)) rfl rfl hl.1 rfl (lv_room (Nat.le_of_ble_eq_true rfl)) dX4_verdictOfOrder_68 ⟨Nat.le_of_ble_eq_true rfl, Nat.le_of_ble_eq_true rfl⟩) (fun r54 u55 H locs hw56 hP hD hS => ?_)
          have hq_56_0 : r54 = (kX2_rank (e3 (x : Int32).toNatClampNeg)) := hw56
          subst r54
          have hP : va_P D vwCl [(oP, .inr (4, [.ref s0, .ref s1, .ref s2, .ref s3, .ref oN, .ref h2, .long sd])), (s0, .inl (cZ, 40, .inl e0)), (s1, .inl (cZ, 40, .inl e1)), (s2, .inl (cI, 40, .inl e2)), (s3, .inl (cI, 40, .inl e3))] H := hP
          have hD : va_D A [(oP, .inr (4, [.ref s0, .ref s1, .ref s2, .ref s3, .ref oN, .ref h2, .long sd])), (s0, .inl (cZ, 40, .inl e0)), (s1, .inl (cZ, 40, .inl e1)), (s2, .inl (cI, 40, .inl e2)), (s3, .inl (cI, 40, .inl e3))] := hD
          refine lv_aload_n hx hb dX4_verdictOfOrder_71 rfl (lv_at hl 4 rfl) ?_
          refine va_get (D := D) (ci := 4) (v := .ref s2) (C := RX6) (T := TX6) (N := 7) hx hb hts iX4_verdictOfOrder_X6 hown hK hP 0 rfl rfl 2 (by decide) (hts (.fieldLink RX4 82 "FloatSolver$Spans" "low" "[I") (oX4_verdictOfOrder_in _ (List.mem_of_getElem? (i := 1) rfl))) (fun _ h9 => h9) rfl dX4_verdictOfOrder_72 ?_
          refine lv_iload_n hx hb dX4_verdictOfOrder_75 rfl (lv_at hl 3 rfl) ?_
          refine va_iald hx hb hK hP 3 0 rfl rfl (vp_in_iff.mpr ⟨by omega, by omega⟩) dX4_verdictOfOrder_76 ?_
          refine sp_calli (wr := [(oP, .inr (4, [.ref s0, .ref s1, .ref s2, .ref s3, .ref oN, .ref h2, .long sd])), (s0, .inl (cZ, 40, .inl e0)), (s1, .inl (cZ, 40, .inl e1)), (s2, .inl (cI, 40, .inl e2)), (s3, .inl (cI, 40, .inl e3))]) (wc := []) hP hD hS hA [] [0, 1, 2, 3, 4] rfl rfl (by decide) (by decide) (va_runS (As := [.int (e2 (y : Int32).toNatClampNeg)]) (rest := [.int (kX2_rank (e3 (x : Int32).toNatClampNeg))]) ⟨hx, hb, hml, hown, hts⟩ (c_X2_rank l D cI cJ cZ H.size (e2 (y : Int32).toNatClampNeg)) (va_cwS 1 hts gX4_verdictOfOrder_X2_rank_45 rfl rfl rfl (by decide +kernel) ⟨Nat.le_of_ble_eq_true rfl, Nat.le_of_ble_eq_true rfl⟩) (sp_preS [.int (e2 (y : Int32).toNatClampNeg)] hK (hP.sub (ws' := []) [] rfl) (hD.sub (ws' := []) [] (by decide) rfl)) rfl rfl hl.1 rfl (lv_room (Nat.le_of_ble_eq_true rfl)) dX4_verdictOfOrder_77 ⟨Nat.le_of_ble_eq_true rfl, Nat.le_of_ble_eq_true rfl⟩) (fun r57 u58 H locs hw59 hP hD hS => ?_)
          have hq_59_0 : r57 = (kX2_rank (e2 (y : Int32).toNatClampNeg)) := hw59
          subst r57
          have hP : va_P D vwCl [(oP, .inr (4, [.ref s0, .ref s1, .ref s2, .ref s3, .ref oN, .ref h2, .long sd])), (s0, .inl (cZ, 40, .inl e0)), (s1, .inl (cZ, 40, .inl e1)), (s2, .inl (cI, 40, .inl e2)), (s3, .inl (cI, 40, .inl e3))] H := hP
          have hD : va_D A [(oP, .inr (4, [.ref s0, .ref s1, .ref s2, .ref s3, .ref oN, .ref h2, .long sd])), (s0, .inl (cZ, 40, .inl e0)), (s1, .inl (cZ, 40, .inl e1)), (s2, .inl (cI, 40, .inl e2)), (s3, .inl (cI, 40, .inl e3))] := hD
          refine sp_calli (wr := [(oP, .inr (4, [.ref s0, .ref s1, .ref s2, .ref s3, .ref oN, .ref h2, .long sd])), (s0, .inl (cZ, 40, .inl e0)), (s1, .inl (cZ, 40, .inl e1)), (s2, .inl (cI, 40, .inl e2)), (s3, .inl (cI, 40, .inl e3))]) (wc := []) hP hD hS hA [] [0, 1, 2, 3, 4] rfl rfl (by decide) (by decide) (va_runS (As := [.int (kX2_rank (e3 (x : Int32).toNatClampNeg)), .int (kX2_rank (e2 (y : Int32).toNatClampNeg))]) (rest := []) ⟨hx, hb, hml, hown, hts⟩ (c_J6_compare_7cf53 l D cI cJ cZ H.size (kX2_rank (e3 (x : Int32).toNatClampNeg)) (kX2_rank (e2 (y : Int32).toNatClampNeg))) (va_cwS 2 hts gX4_verdictOfOrder_J6_compare_7cf53_48 rfl rfl rfl (by decide +kernel) ⟨Nat.le_of_ble_eq_true rfl, Nat.le_of_ble_eq_true rfl⟩) (sp_preS [.int (kX2_rank (e3 (x : Int32).toNatClampNeg)), .int (kX2_rank (e2 (y : Int32).toNatClampNeg))] hK (hP.sub (ws' := []) [] rfl) (hD.sub (ws' := []) [] (by decide) rfl)) rfl rfl hl.1 rfl (lv_room (Nat.le_of_ble_eq_true rfl)) dX4_verdictOfOrder_80 ⟨Nat.le_of_ble_eq_true rfl, Nat.le_of_ble_eq_true rfl⟩) (fun r60 u61 H locs hw62 hP hD hS => ?_)
          have hq_62_0 : r60 = (kJ6_compare_7cf53 (kX2_rank (e3 (x : Int32).toNatClampNeg)) (kX2_rank (e2 (y : Int32).toNatClampNeg))) := hw62
          subst r60
          have hP : va_P D vwCl [(oP, .inr (4, [.ref s0, .ref s1, .ref s2, .ref s3, .ref oN, .ref h2, .long sd])), (s0, .inl (cZ, 40, .inl e0)), (s1, .inl (cZ, 40, .inl e1)), (s2, .inl (cI, 40, .inl e2)), (s3, .inl (cI, 40, .inl e3))] H := hP
          have hD : va_D A [(oP, .inr (4, [.ref s0, .ref s1, .ref s2, .ref s3, .ref oN, .ref h2, .long sd])), (s0, .inl (cZ, 40, .inl e0)), (s1, .inl (cZ, 40, .inl e1)), (s2, .inl (cI, 40, .inl e2)), (s3, .inl (cI, 40, .inl e3))] := hD
          refine lv_istore (lv' := [(5, .int (kX4_verdictOfOrder_s83 e0 e1 e2 e3 sg x y)), (4, .int (kX4_verdictOfOrder_s41 e0 e1 e2 e3 sg x y)), (0, .int sg), (1, .int x), (2, .int y), (3, .ref oP)]) hx hb dX4_verdictOfOrder_83 hl (by decide) rfl (fun ls hl => ?_)
          refine lv_iload_n hx hb dX4_verdictOfOrder_85 rfl (lv_at hl 2 rfl) ?_
          have hj77 : ∀ (z76 : Int32) (H : Heap) (locs : List Loc) (ls : Array Slot), (z76 = kX4_verdictOfOrder_112_z36 e0 e1 e2 e3 sg x y) → va_P D vwCl [(oP, .inr (4, [.ref s0, .ref s1, .ref s2, .ref s3, .ref oN, .ref h2, .long sd])), (s0, .inl (cZ, 40, .inl e0)), (s1, .inl (cZ, 40, .inl e1)), (s2, .inl (cI, 40, .inl e2)), (s3, .inl (cI, 40, .inl e3))] H → va_D A [(oP, .inr (4, [.ref s0, .ref s1, .ref s2, .ref s3, .ref oN, .ref h2, .long sd])), (s0, .inl (cZ, 40, .inl e0)), (s1, .inl (cZ, 40, .inl e1)), (s2, .inl (cI, 40, .inl e2)), (s3, .inl (cI, 40, .inl e3))] → va_S A s.heap H locs → lv_has ls 7 [(5, .int (kX4_verdictOfOrder_s83 e0 e1 e2 e3 sg x y)), (4, .int (kX4_verdictOfOrder_s41 e0 e1 e2 e3 sg x y)), (0, .int sg), (1, .int x), (2, .int y), (3, .ref oP)] → W p l e ({ frames := 1, cells := 0, slots := 0, locals := 21 }) s m (([.int sg, .int x, .int y, .ref oP] : List Value).toArray) below meth c H locs 0 0 (MQ below (va_Qi (fun (r : Int32) (_ : Unit) => r = kX4_verdictOfOrder e0 e1 e2 e3 sg x y) (sp_B D vwCl A (fun (_ : Unit) => [(oP, .inr (4, [.ref s0, .ref s1, .ref s2, .ref s3, .ref oN, .ref h2, .long sd])), (s0, .inl (cZ, 40, .inl e0)), (s1, .inl (cZ, 40, .inl e1)), (s2, .inl (cI, 40, .inl e2)), (s3, .inl (cI, 40, .inl e3))])) A) ([.int sg, .int x, .int y, .ref oP] : List Value).toArray s 0 0 A) (F0 m 112 ls [.int z76]) := by
            intro z76 H locs ls hz76 hP hD hS hl
            subst z76
            refine lv_istore (lv' := [(6, .int (kX4_verdictOfOrder_s112 e0 e1 e2 e3 sg x y)), (5, .int (kX4_verdictOfOrder_s83 e0 e1 e2 e3 sg x y)), (4, .int (kX4_verdictOfOrder_s41 e0 e1 e2 e3 sg x y)), (0, .int sg), (1, .int x), (2, .int y), (3, .ref oP)]) hx hb dX4_verdictOfOrder_112 hl (by decide) rfl (fun ls hl => ?_)
            refine lv_iload hx hb dX4_verdictOfOrder_114 (lv_at hl 0 rfl) ?_
            have hj92 : ∀ (z91 : Int32) (H : Heap) (locs : List Loc) (ls : Array Slot), (z91 = kX4_verdictOfOrder_142_z51 e0 e1 e2 e3 sg x y) → va_P D vwCl [(oP, .inr (4, [.ref s0, .ref s1, .ref s2, .ref s3, .ref oN, .ref h2, .long sd])), (s0, .inl (cZ, 40, .inl e0)), (s1, .inl (cZ, 40, .inl e1)), (s2, .inl (cI, 40, .inl e2)), (s3, .inl (cI, 40, .inl e3))] H → va_D A [(oP, .inr (4, [.ref s0, .ref s1, .ref s2, .ref s3, .ref oN, .ref h2, .long sd])), (s0, .inl (cZ, 40, .inl e0)), (s1, .inl (cZ, 40, .inl e1)), (s2, .inl (cI, 40, .inl e2)), (s3, .inl (cI, 40, .inl e3))] → va_S A s.heap H locs → lv_has ls 7 [(6, .int (kX4_verdictOfOrder_s112 e0 e1 e2 e3 sg x y)), (5, .int (kX4_verdictOfOrder_s83 e0 e1 e2 e3 sg x y)), (4, .int (kX4_verdictOfOrder_s41 e0 e1 e2 e3 sg x y)), (0, .int sg), (1, .int x), (2, .int y), (3, .ref oP)] → W p l e ({ frames := 1, cells := 0, slots := 0, locals := 21 }) s m (([.int sg, .int x, .int y, .ref oP] : List Value).toArray) below meth c H locs 0 0 (MQ below (va_Qi (fun (r : Int32) (_ : Unit) => r = kX4_verdictOfOrder e0 e1 e2 e3 sg x y) (sp_B D vwCl A (fun (_ : Unit) => [(oP, .inr (4, [.ref s0, .ref s1, .ref s2, .ref s3, .ref oN, .ref h2, .long sd])), (s0, .inl (cZ, 40, .inl e0)), (s1, .inl (cZ, 40, .inl e1)), (s2, .inl (cI, 40, .inl e2)), (s3, .inl (cI, 40, .inl e3))])) A) ([.int sg, .int x, .int y, .ref oP] : List Value).toArray s 0 0 A) (F0 m 142 ls [.int z91]) := by
              intro z91 H locs ls hz91 hP hD hS hl
              subst z91
              refine W.widen (k := 0) (n := 0) (by decide) (by decide) ?_
              exact sp_iret (u := ()) hx hb hr hlocks hS (Eq.symm ((if_neg c1i).trans ((if_neg c2i).trans ((if_neg c12i).trans ((if_pos c53i).trans rfl))))) (hP.sub [0, 1, 2, 3, 4] rfl) (hD.sub [0, 1, 2, 3, 4] (by decide) rfl) dX4_verdictOfOrder_142
            refine lv_if_eq (tgt := 141) hx hb dX4_verdictOfOrder_116 (by decide) (fun c78 => ?_) (fun c78 => ?_)
            · skip
              have c78i : ((kX4_verdictOfOrder_s112 e0 e1 e2 e3 sg x y) : Int32).toInt = 0 := congrArg Int32.toInt c78
              refine lv_iconst (v := 2) hx hb dX4_verdictOfOrder_141 (by decide) ?_
              exact hj92 (2) _ _ _ (Eq.symm ((if_pos c78i).trans rfl)) (hP.sub [0, 1, 2, 3, 4] rfl) (hD.sub [0, 1, 2, 3, 4] (by decide) rfl) hS (lv_sub hl [0, 1, 2, 3, 4, 5, 6] rfl)
            · skip
              have c78i : ¬ ((kX4_verdictOfOrder_s112 e0 e1 e2 e3 sg x y) : Int32).toInt = 0 := fun h => c78 (Int32.toInt_inj.mp h)
              refine lv_aload_n hx hb dX4_verdictOfOrder_119 rfl (lv_at hl 6 rfl) ?_
              refine va_get (D := D) (ci := 4) (v := .ref s1) (C := RX6) (T := TX6) (N := 7) hx hb hts iX4_verdictOfOrder_X6 hown hK hP 0 rfl rfl 1 (by decide) (hts (.fieldLink RX4 88 "FloatSolver$Spans" "none" "[Z") (oX4_verdictOfOrder_in _ (List.mem_of_getElem? (i := 3) rfl))) (fun _ h9 => h9) rfl dX4_verdictOfOrder_120 ?_
              refine lv_iload_n hx hb dX4_verdictOfOrder_123 rfl (lv_at hl 4 rfl) ?_
              refine va_zald hx hb hK hP 2 2 rfl rfl (vp_in_iff.mpr ⟨by omega, by omega⟩) dX4_verdictOfOrder_124 ?_
              have hj89 : ∀ (z88 : Int32) (H : Heap) (locs : List Loc) (ls : Array Slot), (z88 = kX4_verdictOfOrder_142_z48 e0 e1 e2 e3 sg x y) → va_P D vwCl [(oP, .inr (4, [.ref s0, .ref s1, .ref s2, .ref s3, .ref oN, .ref h2, .long sd])), (s0, .inl (cZ, 40, .inl e0)), (s1, .inl (cZ, 40, .inl e1)), (s2, .inl (cI, 40, .inl e2)), (s3, .inl (cI, 40, .inl e3))] H → va_D A [(oP, .inr (4, [.ref s0, .ref s1, .ref s2, .ref s3, .ref oN, .ref h2, .long sd])), (s0, .inl (cZ, 40, .inl e0)), (s1, .inl (cZ, 40, .inl e1)), (s2, .inl (cI, 40, .inl e2)), (s3, .inl (cI, 40, .inl e3))] → va_S A s.heap H locs → lv_has ls 7 [(6, .int (kX4_verdictOfOrder_s112 e0 e1 e2 e3 sg x y)), (5, .int (kX4_verdictOfOrder_s83 e0 e1 e2 e3 sg x y)), (4, .int (kX4_verdictOfOrder_s41 e0 e1 e2 e3 sg x y)), (0, .int sg), (1, .int x), (2, .int y), (3, .ref oP)] → W p l e ({ frames := 1, cells := 0, slots := 0, locals := 21 }) s m (([.int sg, .int x, .int y, .ref oP] : List Value).toArray) below meth c H locs 0 0 (MQ below (va_Qi (fun (r : Int32) (_ : Unit) => r = kX4_verdictOfOrder e0 e1 e2 e3 sg x y) (sp_B D vwCl A (fun (_ : Unit) => [(oP, .inr (4, [.ref s0, .ref s1, .ref s2, .ref s3, .ref oN, .ref h2, .long sd])), (s0, .inl (cZ, 40, .inl e0)), (s1, .inl (cZ, 40, .inl e1)), (s2, .inl (cI, 40, .inl e2)), (s3, .inl (cI, 40, .inl e3))])) A) ([.int sg, .int x, .int y, .ref oP] : List Value).toArray s 0 0 A) (F0 m 142 ls [.int z88]) := by
                intro z88 H locs ls hz88 hP hD hS hl
                subst z88
                exact hj92 ((kX4_verdictOfOrder_142_z48 e0 e1 e2 e3 sg x y)) _ _ _ (Eq.symm ((if_neg c78i).trans rfl)) (hP.sub [0, 1, 2, 3, 4] rfl) (hD.sub [0, 1, 2, 3, 4] (by decide) rfl) hS (lv_sub hl [0, 1, 2, 3, 4, 5, 6] rfl)
              refine lv_if_ne (tgt := 141) hx hb dX4_verdictOfOrder_125 (by decide) (fun c80 => ?_) (fun c80 => ?_)
              · skip
                have c80i : ¬ ((e1 (x : Int32).toNatClampNeg) : Int32).toInt = 0 := fun h => c80 (Int32.toInt_inj.mp h)
                refine lv_iconst (v := 2) hx hb dX4_verdictOfOrder_141 (by decide) ?_
                exact hj89 (2) _ _ _ (Eq.symm ((if_neg c80i).trans rfl)) (hP.sub [0, 1, 2, 3, 4] rfl) (hD.sub [0, 1, 2, 3, 4] (by decide) rfl) hS (lv_sub hl [0, 1, 2, 3, 4, 5, 6] rfl)
              · skip
                have c80i : ((e1 (x : Int32).toNatClampNeg) : Int32).toInt = 0 := congrArg Int32.toInt c80
                refine lv_aload_n hx hb dX4_verdictOfOrder_128 rfl (lv_at hl 6 rfl) ?_
                refine va_get (D := D) (ci := 4) (v := .ref s1) (C := RX6) (T := TX6) (N := 7) hx hb hts iX4_verdictOfOrder_X6 hown hK hP 0 rfl rfl 1 (by decide) (hts (.fieldLink RX4 88 "FloatSolver$Spans" "none" "[Z") (oX4_verdictOfOrder_in _ (List.mem_of_getElem? (i := 3) rfl))) (fun _ h9 => h9) rfl dX4_verdictOfOrder_129 ?_
                refine lv_iload_n hx hb dX4_verdictOfOrder_132 rfl (lv_at hl 5 rfl) ?_
                refine va_zald hx hb hK hP 2 2 rfl rfl (vp_in_iff.mpr ⟨by omega, by omega⟩) dX4_verdictOfOrder_133 ?_
                have hj86 : ∀ (z85 : Int32) (H : Heap) (locs : List Loc) (ls : Array Slot), (z85 = kX4_verdictOfOrder_142_z45 e0 e1 e2 e3 sg x y) → va_P D vwCl [(oP, .inr (4, [.ref s0, .ref s1, .ref s2, .ref s3, .ref oN, .ref h2, .long sd])), (s0, .inl (cZ, 40, .inl e0)), (s1, .inl (cZ, 40, .inl e1)), (s2, .inl (cI, 40, .inl e2)), (s3, .inl (cI, 40, .inl e3))] H → va_D A [(oP, .inr (4, [.ref s0, .ref s1, .ref s2, .ref s3, .ref oN, .ref h2, .long sd])), (s0, .inl (cZ, 40, .inl e0)), (s1, .inl (cZ, 40, .inl e1)), (s2, .inl (cI, 40, .inl e2)), (s3, .inl (cI, 40, .inl e3))] → va_S A s.heap H locs → lv_has ls 7 [(6, .int (kX4_verdictOfOrder_s112 e0 e1 e2 e3 sg x y)), (5, .int (kX4_verdictOfOrder_s83 e0 e1 e2 e3 sg x y)), (4, .int (kX4_verdictOfOrder_s41 e0 e1 e2 e3 sg x y)), (0, .int sg), (1, .int x), (2, .int y), (3, .ref oP)] → W p l e ({ frames := 1, cells := 0, slots := 0, locals := 21 }) s m (([.int sg, .int x, .int y, .ref oP] : List Value).toArray) below meth c H locs 0 0 (MQ below (va_Qi (fun (r : Int32) (_ : Unit) => r = kX4_verdictOfOrder e0 e1 e2 e3 sg x y) (sp_B D vwCl A (fun (_ : Unit) => [(oP, .inr (4, [.ref s0, .ref s1, .ref s2, .ref s3, .ref oN, .ref h2, .long sd])), (s0, .inl (cZ, 40, .inl e0)), (s1, .inl (cZ, 40, .inl e1)), (s2, .inl (cI, 40, .inl e2)), (s3, .inl (cI, 40, .inl e3))])) A) ([.int sg, .int x, .int y, .ref oP] : List Value).toArray s 0 0 A) (F0 m 142 ls [.int z85]) := by
                  intro z85 H locs ls hz85 hP hD hS hl
                  subst z85
                  exact hj89 ((kX4_verdictOfOrder_142_z45 e0 e1 e2 e3 sg x y)) _ _ _ (Eq.symm ((if_pos c80i).trans rfl)) (hP.sub [0, 1, 2, 3, 4] rfl) (hD.sub [0, 1, 2, 3, 4] (by decide) rfl) hS (lv_sub hl [0, 1, 2, 3, 4, 5, 6] rfl)
                refine lv_if_ne (tgt := 141) hx hb dX4_verdictOfOrder_134 (by decide) (fun c82 => ?_) (fun c82 => ?_)
                · skip
                  have c82i : ¬ ((e1 (y : Int32).toNatClampNeg) : Int32).toInt = 0 := fun h => c82 (Int32.toInt_inj.mp h)
                  refine lv_iconst (v := 2) hx hb dX4_verdictOfOrder_141 (by decide) ?_
                  exact hj86 (2) _ _ _ (Eq.symm ((if_neg c82i).trans rfl)) (hP.sub [0, 1, 2, 3, 4] rfl) (hD.sub [0, 1, 2, 3, 4] (by decide) rfl) hS (lv_sub hl [0, 1, 2, 3, 4, 5, 6] rfl)
                · skip
                  have c82i : ((e1 (y : Int32).toNatClampNeg) : Int32).toInt = 0 := congrArg Int32.toInt c82
                  refine lv_iconst (v := 1) hx hb dX4_verdictOfOrder_137 (by decide) ?_
                  refine lv_goto (tgt := 142) hx hb dX4_verdictOfOrder_138 (by decide) ?_
                  exact hj86 (1) _ _ _ (Eq.symm ((if_pos c82i).trans rfl)) (hP.sub [0, 1, 2, 3, 4] rfl) (hD.sub [0, 1, 2, 3, 4] (by decide) rfl) hS (lv_sub hl [0, 1, 2, 3, 4, 5, 6] rfl)
          refine lv_if_eq (tgt := 102) hx hb dX4_verdictOfOrder_86 (by decide) (fun c63 => ?_) (fun c63 => ?_)
          · skip
            have c63i : (sg : Int32).toInt = 0 := congrArg Int32.toInt c63
            refine lv_iload hx hb dX4_verdictOfOrder_102 (lv_at hl 0 rfl) ?_
            have hj68 : ∀ (z67 : Int32) (H : Heap) (locs : List Loc) (ls : Array Slot), (z67 = kX4_verdictOfOrder_112_z27 e0 e1 e2 e3 sg x y) → va_P D vwCl [(oP, .inr (4, [.ref s0, .ref s1, .ref s2, .ref s3, .ref oN, .ref h2, .long sd])), (s0, .inl (cZ, 40, .inl e0)), (s1, .inl (cZ, 40, .inl e1)), (s2, .inl (cI, 40, .inl e2)), (s3, .inl (cI, 40, .inl e3))] H → va_D A [(oP, .inr (4, [.ref s0, .ref s1, .ref s2, .ref s3, .ref oN, .ref h2, .long sd])), (s0, .inl (cZ, 40, .inl e0)), (s1, .inl (cZ, 40, .inl e1)), (s2, .inl (cI, 40, .inl e2)), (s3, .inl (cI, 40, .inl e3))] → va_S A s.heap H locs → lv_has ls 7 [(5, .int (kX4_verdictOfOrder_s83 e0 e1 e2 e3 sg x y)), (4, .int (kX4_verdictOfOrder_s41 e0 e1 e2 e3 sg x y)), (0, .int sg), (1, .int x), (2, .int y), (3, .ref oP)] → W p l e ({ frames := 1, cells := 0, slots := 0, locals := 21 }) s m (([.int sg, .int x, .int y, .ref oP] : List Value).toArray) below meth c H locs 0 0 (MQ below (va_Qi (fun (r : Int32) (_ : Unit) => r = kX4_verdictOfOrder e0 e1 e2 e3 sg x y) (sp_B D vwCl A (fun (_ : Unit) => [(oP, .inr (4, [.ref s0, .ref s1, .ref s2, .ref s3, .ref oN, .ref h2, .long sd])), (s0, .inl (cZ, 40, .inl e0)), (s1, .inl (cZ, 40, .inl e1)), (s2, .inl (cI, 40, .inl e2)), (s3, .inl (cI, 40, .inl e3))])) A) ([.int sg, .int x, .int y, .ref oP] : List Value).toArray s 0 0 A) (F0 m 112 ls [.int z67]) := by
              intro z67 H locs ls hz67 hP hD hS hl
              subst z67
              exact hj77 ((kX4_verdictOfOrder_112_z27 e0 e1 e2 e3 sg x y)) _ _ _ (Eq.symm ((if_pos c63i).trans rfl)) (hP.sub [0, 1, 2, 3, 4] rfl) (hD.sub [0, 1, 2, 3, 4] (by decide) rfl) hS (lv_sub hl [0, 1, 2, 3, 4, 5] rfl)
            refine lv_if_gt (tgt := 111) hx hb dX4_verdictOfOrder_104 (by decide) (fun c64 => ?_) (fun c64 => ?_)
            · skip
              have c64i : 0 < ((kX4_verdictOfOrder_s83 e0 e1 e2 e3 sg x y) : Int32).toInt := Int32.lt_iff_toInt_lt.mp c64
              refine lv_iconst (v := 0) hx hb dX4_verdictOfOrder_111 (by decide) ?_
              exact hj68 (0) _ _ _ (Eq.symm ((if_pos c64i).trans rfl)) (hP.sub [0, 1, 2, 3, 4] rfl) (hD.sub [0, 1, 2, 3, 4] (by decide) rfl) hS (lv_sub hl [0, 1, 2, 3, 4, 5] rfl)
            · skip
              have c64i : ¬ 0 < ((kX4_verdictOfOrder_s83 e0 e1 e2 e3 sg x y) : Int32).toInt := fun h => c64 (Int32.lt_iff_toInt_lt.mpr h)
              refine lv_iconst (v := 1) hx hb dX4_verdictOfOrder_107 (by decide) ?_
              refine lv_goto (tgt := 112) hx hb dX4_verdictOfOrder_108 (by decide) ?_
              exact hj68 (1) _ _ _ (Eq.symm ((if_neg c64i).trans rfl)) (hP.sub [0, 1, 2, 3, 4] rfl) (hD.sub [0, 1, 2, 3, 4] (by decide) rfl) hS (lv_sub hl [0, 1, 2, 3, 4, 5] rfl)
          · skip
            have c63i : ¬ (sg : Int32).toInt = 0 := fun h => c63 (Int32.toInt_inj.mp h)
            refine lv_iload hx hb dX4_verdictOfOrder_89 (lv_at hl 0 rfl) ?_
            have hj74 : ∀ (z73 : Int32) (H : Heap) (locs : List Loc) (ls : Array Slot), (z73 = kX4_verdictOfOrder_112_z33 e0 e1 e2 e3 sg x y) → va_P D vwCl [(oP, .inr (4, [.ref s0, .ref s1, .ref s2, .ref s3, .ref oN, .ref h2, .long sd])), (s0, .inl (cZ, 40, .inl e0)), (s1, .inl (cZ, 40, .inl e1)), (s2, .inl (cI, 40, .inl e2)), (s3, .inl (cI, 40, .inl e3))] H → va_D A [(oP, .inr (4, [.ref s0, .ref s1, .ref s2, .ref s3, .ref oN, .ref h2, .long sd])), (s0, .inl (cZ, 40, .inl e0)), (s1, .inl (cZ, 40, .inl e1)), (s2, .inl (cI, 40, .inl e2)), (s3, .inl (cI, 40, .inl e3))] → va_S A s.heap H locs → lv_has ls 7 [(5, .int (kX4_verdictOfOrder_s83 e0 e1 e2 e3 sg x y)), (4, .int (kX4_verdictOfOrder_s41 e0 e1 e2 e3 sg x y)), (0, .int sg), (1, .int x), (2, .int y), (3, .ref oP)] → W p l e ({ frames := 1, cells := 0, slots := 0, locals := 21 }) s m (([.int sg, .int x, .int y, .ref oP] : List Value).toArray) below meth c H locs 0 0 (MQ below (va_Qi (fun (r : Int32) (_ : Unit) => r = kX4_verdictOfOrder e0 e1 e2 e3 sg x y) (sp_B D vwCl A (fun (_ : Unit) => [(oP, .inr (4, [.ref s0, .ref s1, .ref s2, .ref s3, .ref oN, .ref h2, .long sd])), (s0, .inl (cZ, 40, .inl e0)), (s1, .inl (cZ, 40, .inl e1)), (s2, .inl (cI, 40, .inl e2)), (s3, .inl (cI, 40, .inl e3))])) A) ([.int sg, .int x, .int y, .ref oP] : List Value).toArray s 0 0 A) (F0 m 112 ls [.int z73]) := by
              intro z73 H locs ls hz73 hP hD hS hl
              subst z73
              exact hj77 ((kX4_verdictOfOrder_112_z33 e0 e1 e2 e3 sg x y)) _ _ _ (Eq.symm ((if_neg c63i).trans rfl)) (hP.sub [0, 1, 2, 3, 4] rfl) (hD.sub [0, 1, 2, 3, 4] (by decide) rfl) hS (lv_sub hl [0, 1, 2, 3, 4, 5] rfl)
            refine lv_if_ge (tgt := 98) hx hb dX4_verdictOfOrder_91 (by decide) (fun c70 => ?_) (fun c70 => ?_)
            · skip
              have c70i : 0 ≤ ((kX4_verdictOfOrder_s83 e0 e1 e2 e3 sg x y) : Int32).toInt := Int32.le_iff_toInt_le.mp c70
              refine lv_iconst (v := 0) hx hb dX4_verdictOfOrder_98 (by decide) ?_
              refine lv_goto (tgt := 112) hx hb dX4_verdictOfOrder_99 (by decide) ?_
              exact hj74 (0) _ _ _ (Eq.symm ((if_pos c70i).trans rfl)) (hP.sub [0, 1, 2, 3, 4] rfl) (hD.sub [0, 1, 2, 3, 4] (by decide) rfl) hS (lv_sub hl [0, 1, 2, 3, 4, 5] rfl)
            · skip
              have c70i : ¬ 0 ≤ ((kX4_verdictOfOrder_s83 e0 e1 e2 e3 sg x y) : Int32).toInt := fun h => c70 (Int32.le_iff_toInt_le.mpr h)
              refine lv_iconst (v := 1) hx hb dX4_verdictOfOrder_94 (by decide) ?_
              refine lv_goto (tgt := 112) hx hb dX4_verdictOfOrder_95 (by decide) ?_
              exact hj74 (1) _ _ _ (Eq.symm ((if_neg c70i).trans rfl)) (hP.sub [0, 1, 2, 3, 4] rfl) (hD.sub [0, 1, 2, 3, 4] (by decide) rfl) hS (lv_sub hl [0, 1, 2, 3, 4, 5] rfl)
        · skip
          have c53i : ¬ ((kX4_verdictOfOrder_s41 e0 e1 e2 e3 sg x y) : Int32).toInt < 0 := fun h => c53 (Int32.lt_iff_toInt_lt.mpr h)
          refine lv_goto (tgt := 60) hx hb dX4_verdictOfOrder_52 (by decide) ?_
          refine lv_iconst (v := 0) hx hb dX4_verdictOfOrder_60 (by decide) ?_
          refine W.widen (k := 0) (n := 0) (by decide) (by decide) ?_
          exact sp_iret (u := ()) hx hb hr hlocks hS (Eq.symm ((if_neg c1i).trans ((if_neg c2i).trans ((if_neg c12i).trans ((if_neg c53i).trans rfl))))) (hP.sub [0, 1, 2, 3, 4] rfl) (hD.sub [0, 1, 2, 3, 4] (by decide) rfl) dX4_verdictOfOrder_61
    · skip
      have c2i : ((e0 (y : Int32).toNatClampNeg) : Int32).toInt = 0 := congrArg Int32.toInt c2
      refine lv_iconst (v := 0) hx hb dX4_verdictOfOrder_18 (by decide) ?_
      refine W.widen (k := 0) (n := 0) (by decide) (by decide) ?_
      exact sp_iret (u := ()) hx hb hr hlocks hS (Eq.symm ((if_neg c1i).trans ((if_pos c2i).trans rfl))) (hP.sub [0, 1, 2, 3, 4] rfl) (hD.sub [0, 1, 2, 3, 4] (by decide) rfl) dX4_verdictOfOrder_19
def oX4_verdictOfSame : List Cond := [.fieldLink RX4 76 "FloatSolver$Spans" "some" "[Z", .fieldLink RX4 82 "FloatSolver$Spans" "low" "[I", .fieldLink RX4 85 "FloatSolver$Spans" "high" "[I", .fieldLink RX4 88 "FloatSolver$Spans" "none" "[Z"]
def wpX4_verdictOfSame : List Cond := .code yX4_verdictOfSame cX4_verdictOfSame 8 (some .int) :: (oX4_verdictOfSame ++ (wsX60 ++ ((va_wsS RX4 45 yX2_rank wpX2_rank) ++ ([] : List Cond))))
theorem oX4_verdictOfSame_in : ∀ w ∈ oX4_verdictOfSame, w ∈ wpX4_verdictOfSame := fun w h => List.mem_cons_of_mem _ (List.mem_append_left _ h)
theorem gwoX4_verdictOfSame : ∀ w ∈ oX4_verdictOfSame, goodWord w = true := by decide +kernel
theorem gwX4_verdictOfSame : ∀ w ∈ wpX4_verdictOfSame, goodWord w = true := by
  unfold wpX4_verdictOfSame
  exact List.forall_mem_cons.mpr ⟨rfl, List.forall_mem_append.mpr ⟨gwoX4_verdictOfSame, List.forall_mem_append.mpr ⟨gwX6, List.forall_mem_append.mpr ⟨(sp_gS gwX2_rank), fun _ h => absurd h List.not_mem_nil⟩⟩⟩⟩
set_option maxRecDepth 100000 in
theorem toX4_verdictOfSame : ∀ w ∈ oX4_verdictOfSame, w ∈ lw_tbl := by
  unfold oX4_verdictOfSame
  exact List.forall_mem_cons.mpr ⟨(List.mem_of_getElem? (i := 157) (by decide +kernel)), List.forall_mem_cons.mpr ⟨(List.mem_of_getElem? (i := 163) (by decide +kernel)), List.forall_mem_cons.mpr ⟨(List.mem_of_getElem? (i := 166) (by decide +kernel)), List.forall_mem_cons.mpr ⟨(List.mem_of_getElem? (i := 160) (by decide +kernel)), fun _ h => absurd h List.not_mem_nil⟩⟩⟩⟩
set_option maxRecDepth 100000 in
theorem tX4_verdictOfSame : ∀ w ∈ wpX4_verdictOfSame, w ∈ lw_tbl := by
  unfold wpX4_verdictOfSame
  exact List.forall_mem_cons.mpr ⟨(List.mem_of_getElem? (i := 539) (by rfl)), List.forall_mem_append.mpr ⟨toX4_verdictOfSame, List.forall_mem_append.mpr ⟨in_wsX60, List.forall_mem_append.mpr ⟨(sp_tS (List.mem_of_getElem? (i := 444) (by decide +kernel)) (List.mem_of_getElem? (i := 445) (by decide +kernel)) (List.mem_of_getElem? (i := 46) (by decide +kernel)) tX2_rank), fun _ h => absurd h List.not_mem_nil⟩⟩⟩⟩
theorem iX4_verdictOfSame_X6 : ∀ w ∈ wsX60, w ∈ wpX4_verdictOfSame := fun w h => List.mem_cons_of_mem _ (List.mem_append_right _ (List.mem_append_left _ h))
theorem gX4_verdictOfSame_X2_rank_45 : GoodIn wpX4_verdictOfSame (va_wsS RX4 45 yX2_rank wpX2_rank) := fun w h => ⟨List.mem_cons_of_mem _ (List.mem_append_right _ (List.mem_append_right _ (List.mem_append_left _ h))), good_of_word (sp_gS gwX2_rank w h)⟩
set_option maxHeartbeats 4000000 in
set_option maxRecDepth 100000 in
theorem c_X4_verdictOfSame (l : Launch) (D : va_G) (cI cJ cZ : ClassId) (sz : Nat) (oP s0 s1 s2 s3 oN h2 : Nat) (e0 : Nat → Int32) (e1 : Nat → Int32) (e2 : Nat → Int32) (e3 : Nat → Int32) (x : Int32) (y : Int32) (sd : Int64) (ri_x : 0 ≤ (x : Int32).toInt ∧ (x : Int32).toInt < 40) (ri_y : 0 ≤ (y : Int32).toInt ∧ (y : Int32).toInt < 40) : Met l yX4_verdictOfSame wpX4_verdictOfSame ({ frames := 1, cells := 0, slots := 0, locals := 20 }) (va_Pc ([.int x, .int y, .ref oP] : List Value) (sp_pre D vwCl (sp_ty cI cJ cZ) [(oP, .inr (4, [.ref s0, .ref s1, .ref s2, .ref s3, .ref oN, .ref h2, .long sd])), (s0, .inl (cZ, 40, .inl e0)), (s1, .inl (cZ, 40, .inl e1)), (s2, .inl (cI, 40, .inl e2)), (s3, .inl (cI, 40, .inl e3))] sz)) (va_Qi (fun (r : Int32) (_ : Unit) => r = kX4_verdictOfSame e0 e1 e2 e3 x y) (sp_B D vwCl (va_A [(oP, .inr (4, [.ref s0, .ref s1, .ref s2, .ref s3, .ref oN, .ref h2, .long sd])), (s0, .inl (cZ, 40, .inl e0)), (s1, .inl (cZ, 40, .inl e1)), (s2, .inl (cI, 40, .inl e2)), (s3, .inl (cI, 40, .inl e3))] sz) (fun (_ : Unit) => [(oP, .inr (4, [.ref s0, .ref s1, .ref s2, .ref s3, .ref oN, .ref h2, .long sd])), (s0, .inl (cZ, 40, .inl e0)), (s1, .inl (cZ, 40, .inl e1)), (s2, .inl (cI, 40, .inl e2)), (s3, .inl (cI, 40, .inl e3))])) (va_A [(oP, .inr (4, [.ref s0, .ref s1, .ref s2, .ref s3, .ref oN, .ref h2, .long sd])), (s0, .inl (cZ, 40, .inl e0)), (s1, .inl (cZ, 40, .inl e1)), (s2, .inl (cI, 40, .inl e2)), (s3, .inl (cI, 40, .inl e3))] sz)) 0 0 (va_A [(oP, .inr (4, [.ref s0, .ref s1, .ref s2, .ref s3, .ref oN, .ref h2, .long sd])), (s0, .inl (cZ, 40, .inl e0)), (s1, .inl (cZ, 40, .inl e1)), (s2, .inl (cI, 40, .inl e2)), (s3, .inl (cI, 40, .inl e3))] sz) := by
  refine sp_ofW (Qc := fun A => va_Qi (fun (r : Int32) (_ : Unit) => r = kX4_verdictOfSame e0 e1 e2 e3 x y) (sp_B D vwCl A (fun (_ : Unit) => [(oP, .inr (4, [.ref s0, .ref s1, .ref s2, .ref s3, .ref oN, .ref h2, .long sd])), (s0, .inl (cZ, 40, .inl e0)), (s1, .inl (cZ, 40, .inl e1)), (s2, .inl (cI, 40, .inl e2)), (s3, .inl (cI, 40, .inl e3))])) A) (by decide) rfl (Nat.le_of_ble_eq_true rfl) (fun p e s m below meth c A ls H locs C0 hA hS hP hK hD hl => ?_)
  obtain ⟨hx, hb, hr, hts, hown, hlocks, hml, hin⟩ := id C0
  have hown : s.vm.findClass RX4 = some m.cls := hown
  have hl : lv_has ls 8 [(0, .int x), (1, .int y), (2, .ref oP)] := hl
  have hK : va_K D vwCl [(cI, .int), (cJ, .long), (cZ, .boolean)] s := hK
  refine lv_aload_n hx hb dX4_verdictOfSame_0 rfl (lv_at hl 2 rfl) ?_
  refine va_get (D := D) (ci := 4) (v := .ref s0) (C := RX6) (T := TX6) (N := 7) hx hb hts iX4_verdictOfSame_X6 hown hK hP 0 rfl rfl 0 (by decide) (hts (.fieldLink RX4 76 "FloatSolver$Spans" "some" "[Z") (oX4_verdictOfSame_in _ (List.mem_of_getElem? (i := 0) rfl))) (fun _ h9 => h9) rfl dX4_verdictOfSame_1 ?_
  refine lv_iload_n hx hb dX4_verdictOfSame_4 rfl (lv_at hl 0 rfl) ?_
  refine va_zald hx hb hK hP 1 2 rfl rfl (vp_in_iff.mpr ⟨by omega, by omega⟩) dX4_verdictOfSame_5 ?_
  refine lv_if_eq (tgt := 18) hx hb dX4_verdictOfSame_6 (by decide) (fun c1 => ?_) (fun c1 => ?_)
  · skip
    have c1i : ((e0 (x : Int32).toNatClampNeg) : Int32).toInt = 0 := congrArg Int32.toInt c1
    refine lv_iconst (v := 0) hx hb dX4_verdictOfSame_18 (by decide) ?_
    refine W.widen (k := 0) (n := 0) (by decide) (by decide) ?_
    exact sp_iret (u := ()) hx hb hr hlocks hS (Eq.symm ((if_pos c1i).trans rfl)) (hP.sub [0, 1, 2, 3, 4] rfl) (hD.sub [0, 1, 2, 3, 4] (by decide) rfl) dX4_verdictOfSame_19
  · skip
    have c1i : ¬ ((e0 (x : Int32).toNatClampNeg) : Int32).toInt = 0 := fun h => c1 (Int32.toInt_inj.mp h)
    refine lv_aload_n hx hb dX4_verdictOfSame_9 rfl (lv_at hl 2 rfl) ?_
    refine va_get (D := D) (ci := 4) (v := .ref s0) (C := RX6) (T := TX6) (N := 7) hx hb hts iX4_verdictOfSame_X6 hown hK hP 0 rfl rfl 0 (by decide) (hts (.fieldLink RX4 76 "FloatSolver$Spans" "some" "[Z") (oX4_verdictOfSame_in _ (List.mem_of_getElem? (i := 0) rfl))) (fun _ h9 => h9) rfl dX4_verdictOfSame_10 ?_
    refine lv_iload_n hx hb dX4_verdictOfSame_13 rfl (lv_at hl 1 rfl) ?_
    refine va_zald hx hb hK hP 1 2 rfl rfl (vp_in_iff.mpr ⟨by omega, by omega⟩) dX4_verdictOfSame_14 ?_
    refine lv_if_ne (tgt := 20) hx hb dX4_verdictOfSame_15 (by decide) (fun c2 => ?_) (fun c2 => ?_)
    · skip
      have c2i : ¬ ((e0 (y : Int32).toNatClampNeg) : Int32).toInt = 0 := fun h => c2 (Int32.toInt_inj.mp h)
      refine lv_aload_n hx hb dX4_verdictOfSame_20 rfl (lv_at hl 2 rfl) ?_
      refine va_get (D := D) (ci := 4) (v := .ref s2) (C := RX6) (T := TX6) (N := 7) hx hb hts iX4_verdictOfSame_X6 hown hK hP 0 rfl rfl 2 (by decide) (hts (.fieldLink RX4 82 "FloatSolver$Spans" "low" "[I") (oX4_verdictOfSame_in _ (List.mem_of_getElem? (i := 1) rfl))) (fun _ h9 => h9) rfl dX4_verdictOfSame_21 ?_
      refine lv_iload_n hx hb dX4_verdictOfSame_24 rfl (lv_at hl 0 rfl) ?_
      refine va_iald hx hb hK hP 3 0 rfl rfl (vp_in_iff.mpr ⟨by omega, by omega⟩) dX4_verdictOfSame_25 ?_
      refine sp_calli (wr := [(oP, .inr (4, [.ref s0, .ref s1, .ref s2, .ref s3, .ref oN, .ref h2, .long sd])), (s0, .inl (cZ, 40, .inl e0)), (s1, .inl (cZ, 40, .inl e1)), (s2, .inl (cI, 40, .inl e2)), (s3, .inl (cI, 40, .inl e3))]) (wc := []) hP hD hS hA [] [0, 1, 2, 3, 4] rfl rfl (by decide) (by decide) (va_runS (As := [.int (e2 (x : Int32).toNatClampNeg)]) (rest := []) ⟨hx, hb, hml, hown, hts⟩ (c_X2_rank l D cI cJ cZ H.size (e2 (x : Int32).toNatClampNeg)) (va_cwS 1 hts gX4_verdictOfSame_X2_rank_45 rfl rfl rfl (by decide +kernel) ⟨Nat.le_of_ble_eq_true rfl, Nat.le_of_ble_eq_true rfl⟩) (sp_preS [.int (e2 (x : Int32).toNatClampNeg)] hK (hP.sub (ws' := []) [] rfl) (hD.sub (ws' := []) [] (by decide) rfl)) rfl rfl hl.1 rfl (lv_room (Nat.le_of_ble_eq_true rfl)) dX4_verdictOfSame_26 ⟨Nat.le_of_ble_eq_true rfl, Nat.le_of_ble_eq_true rfl⟩) (fun r3 u4 H locs hw5 hP hD hS => ?_)
      have hq_5_0 : r3 = (kX2_rank (e2 (x : Int32).toNatClampNeg)) := hw5
      subst r3
      have hP : va_P D vwCl [(oP, .inr (4, [.ref s0, .ref s1, .ref s2, .ref s3, .ref oN, .ref h2, .long sd])), (s0, .inl (cZ, 40, .inl e0)), (s1, .inl (cZ, 40, .inl e1)), (s2, .inl (cI, 40, .inl e2)), (s3, .inl (cI, 40, .inl e3))] H := hP
      have hD : va_D A [(oP, .inr (4, [.ref s0, .ref s1, .ref s2, .ref s3, .ref oN, .ref h2, .long sd])), (s0, .inl (cZ, 40, .inl e0)), (s1, .inl (cZ, 40, .inl e1)), (s2, .inl (cI, 40, .inl e2)), (s3, .inl (cI, 40, .inl e3))] := hD
      refine lv_istore_n (lv' := [(3, .int (kX4_verdictOfSame_s29 e0 e1 e2 e3 x y)), (0, .int x), (1, .int y), (2, .ref oP)]) hx hb dX4_verdictOfSame_29 rfl hl (by decide) rfl (fun ls hl => ?_)
      refine lv_aload_n hx hb dX4_verdictOfSame_30 rfl (lv_at hl 3 rfl) ?_
      refine va_get (D := D) (ci := 4) (v := .ref s3) (C := RX6) (T := TX6) (N := 7) hx hb hts iX4_verdictOfSame_X6 hown hK hP 0 rfl rfl 3 (by decide) (hts (.fieldLink RX4 85 "FloatSolver$Spans" "high" "[I") (oX4_verdictOfSame_in _ (List.mem_of_getElem? (i := 2) rfl))) (fun _ h9 => h9) rfl dX4_verdictOfSame_31 ?_
      refine lv_iload_n hx hb dX4_verdictOfSame_34 rfl (lv_at hl 1 rfl) ?_
      refine va_iald hx hb hK hP 4 0 rfl rfl (vp_in_iff.mpr ⟨by omega, by omega⟩) dX4_verdictOfSame_35 ?_
      refine sp_calli (wr := [(oP, .inr (4, [.ref s0, .ref s1, .ref s2, .ref s3, .ref oN, .ref h2, .long sd])), (s0, .inl (cZ, 40, .inl e0)), (s1, .inl (cZ, 40, .inl e1)), (s2, .inl (cI, 40, .inl e2)), (s3, .inl (cI, 40, .inl e3))]) (wc := []) hP hD hS hA [] [0, 1, 2, 3, 4] rfl rfl (by decide) (by decide) (va_runS (As := [.int (e3 (x : Int32).toNatClampNeg)]) (rest := []) ⟨hx, hb, hml, hown, hts⟩ (c_X2_rank l D cI cJ cZ H.size (e3 (x : Int32).toNatClampNeg)) (va_cwS 1 hts gX4_verdictOfSame_X2_rank_45 rfl rfl rfl (by decide +kernel) ⟨Nat.le_of_ble_eq_true rfl, Nat.le_of_ble_eq_true rfl⟩) (sp_preS [.int (e3 (x : Int32).toNatClampNeg)] hK (hP.sub (ws' := []) [] rfl) (hD.sub (ws' := []) [] (by decide) rfl)) rfl rfl hl.1 rfl (lv_room (Nat.le_of_ble_eq_true rfl)) dX4_verdictOfSame_36 ⟨Nat.le_of_ble_eq_true rfl, Nat.le_of_ble_eq_true rfl⟩) (fun r6 u7 H locs hw8 hP hD hS => ?_)
      have hq_8_0 : r6 = (kX2_rank (e3 (x : Int32).toNatClampNeg)) := hw8
      subst r6
      have hP : va_P D vwCl [(oP, .inr (4, [.ref s0, .ref s1, .ref s2, .ref s3, .ref oN, .ref h2, .long sd])), (s0, .inl (cZ, 40, .inl e0)), (s1, .inl (cZ, 40, .inl e1)), (s2, .inl (cI, 40, .inl e2)), (s3, .inl (cI, 40, .inl e3))] H := hP
      have hD : va_D A [(oP, .inr (4, [.ref s0, .ref s1, .ref s2, .ref s3, .ref oN, .ref h2, .long sd])), (s0, .inl (cZ, 40, .inl e0)), (s1, .inl (cZ, 40, .inl e1)), (s2, .inl (cI, 40, .inl e2)), (s3, .inl (cI, 40, .inl e3))] := hD
      refine lv_istore (lv' := [(4, .int (kX4_verdictOfSame_s39 e0 e1 e2 e3 x y)), (3, .int (kX4_verdictOfSame_s29 e0 e1 e2 e3 x y)), (0, .int x), (1, .int y), (2, .ref oP)]) hx hb dX4_verdictOfSame_39 hl (by decide) rfl (fun ls hl => ?_)
      refine lv_aload_n hx hb dX4_verdictOfSame_41 rfl (lv_at hl 4 rfl) ?_
      refine va_get (D := D) (ci := 4) (v := .ref s2) (C := RX6) (T := TX6) (N := 7) hx hb hts iX4_verdictOfSame_X6 hown hK hP 0 rfl rfl 2 (by decide) (hts (.fieldLink RX4 82 "FloatSolver$Spans" "low" "[I") (oX4_verdictOfSame_in _ (List.mem_of_getElem? (i := 1) rfl))) (fun _ h9 => h9) rfl dX4_verdictOfSame_42 ?_
      refine lv_iload_n hx hb dX4_verdictOfSame_45 rfl (lv_at hl 3 rfl) ?_
      refine va_iald hx hb hK hP 3 0 rfl rfl (vp_in_iff.mpr ⟨by omega, by omega⟩) dX4_verdictOfSame_46 ?_
      refine sp_calli (wr := [(oP, .inr (4, [.ref s0, .ref s1, .ref s2, .ref s3, .ref oN, .ref h2, .long sd])), (s0, .inl (cZ, 40, .inl e0)), (s1, .inl (cZ, 40, .inl e1)), (s2, .inl (cI, 40, .inl e2)), (s3, .inl (cI, 40, .inl e3))]) (wc := []) hP hD hS hA [] [0, 1, 2, 3, 4] rfl rfl (by decide) (by decide) (va_runS (As := [.int (e2 (y : Int32).toNatClampNeg)]) (rest := []) ⟨hx, hb, hml, hown, hts⟩ (c_X2_rank l D cI cJ cZ H.size (e2 (y : Int32).toNatClampNeg)) (va_cwS 1 hts gX4_verdictOfSame_X2_rank_45 rfl rfl rfl (by decide +kernel) ⟨Nat.le_of_ble_eq_true rfl, Nat.le_of_ble_eq_true rfl⟩) (sp_preS [.int (e2 (y : Int32).toNatClampNeg)] hK (hP.sub (ws' := []) [] rfl) (hD.sub (ws' := []) [] (by decide) rfl)) rfl rfl hl.1 rfl (lv_room (Nat.le_of_ble_eq_true rfl)) dX4_verdictOfSame_47 ⟨Nat.le_of_ble_eq_true rfl, Nat.le_of_ble_eq_true rfl⟩) (fun r9 u10 H locs hw11 hP hD hS => ?_)
      have hq_11_0 : r9 = (kX2_rank (e2 (y : Int32).toNatClampNeg)) := hw11
      subst r9
      have hP : va_P D vwCl [(oP, .inr (4, [.ref s0, .ref s1, .ref s2, .ref s3, .ref oN, .ref h2, .long sd])), (s0, .inl (cZ, 40, .inl e0)), (s1, .inl (cZ, 40, .inl e1)), (s2, .inl (cI, 40, .inl e2)), (s3, .inl (cI, 40, .inl e3))] H := hP
      have hD : va_D A [(oP, .inr (4, [.ref s0, .ref s1, .ref s2, .ref s3, .ref oN, .ref h2, .long sd])), (s0, .inl (cZ, 40, .inl e0)), (s1, .inl (cZ, 40, .inl e1)), (s2, .inl (cI, 40, .inl e2)), (s3, .inl (cI, 40, .inl e3))] := hD
      refine lv_istore (lv' := [(5, .int (kX4_verdictOfSame_s50 e0 e1 e2 e3 x y)), (4, .int (kX4_verdictOfSame_s39 e0 e1 e2 e3 x y)), (3, .int (kX4_verdictOfSame_s29 e0 e1 e2 e3 x y)), (0, .int x), (1, .int y), (2, .ref oP)]) hx hb dX4_verdictOfSame_50 hl (by decide) rfl (fun ls hl => ?_)
      refine lv_aload_n hx hb dX4_verdictOfSame_52 rfl (lv_at hl 5 rfl) ?_
      refine va_get (D := D) (ci := 4) (v := .ref s3) (C := RX6) (T := TX6) (N := 7) hx hb hts iX4_verdictOfSame_X6 hown hK hP 0 rfl rfl 3 (by decide) (hts (.fieldLink RX4 85 "FloatSolver$Spans" "high" "[I") (oX4_verdictOfSame_in _ (List.mem_of_getElem? (i := 2) rfl))) (fun _ h9 => h9) rfl dX4_verdictOfSame_53 ?_
      refine lv_iload_n hx hb dX4_verdictOfSame_56 rfl (lv_at hl 4 rfl) ?_
      refine va_iald hx hb hK hP 4 0 rfl rfl (vp_in_iff.mpr ⟨by omega, by omega⟩) dX4_verdictOfSame_57 ?_
      refine sp_calli (wr := [(oP, .inr (4, [.ref s0, .ref s1, .ref s2, .ref s3, .ref oN, .ref h2, .long sd])), (s0, .inl (cZ, 40, .inl e0)), (s1, .inl (cZ, 40, .inl e1)), (s2, .inl (cI, 40, .inl e2)), (s3, .inl (cI, 40, .inl e3))]) (wc := []) hP hD hS hA [] [0, 1, 2, 3, 4] rfl rfl (by decide) (by decide) (va_runS (As := [.int (e3 (y : Int32).toNatClampNeg)]) (rest := []) ⟨hx, hb, hml, hown, hts⟩ (c_X2_rank l D cI cJ cZ H.size (e3 (y : Int32).toNatClampNeg)) (va_cwS 1 hts gX4_verdictOfSame_X2_rank_45 rfl rfl rfl (by decide +kernel) ⟨Nat.le_of_ble_eq_true rfl, Nat.le_of_ble_eq_true rfl⟩) (sp_preS [.int (e3 (y : Int32).toNatClampNeg)] hK (hP.sub (ws' := []) [] rfl) (hD.sub (ws' := []) [] (by decide) rfl)) rfl rfl hl.1 rfl (lv_room (Nat.le_of_ble_eq_true rfl)) dX4_verdictOfSame_58 ⟨Nat.le_of_ble_eq_true rfl, Nat.le_of_ble_eq_true rfl⟩) (fun r12 u13 H locs hw14 hP hD hS => ?_)
      have hq_14_0 : r12 = (kX2_rank (e3 (y : Int32).toNatClampNeg)) := hw14
      subst r12
      have hP : va_P D vwCl [(oP, .inr (4, [.ref s0, .ref s1, .ref s2, .ref s3, .ref oN, .ref h2, .long sd])), (s0, .inl (cZ, 40, .inl e0)), (s1, .inl (cZ, 40, .inl e1)), (s2, .inl (cI, 40, .inl e2)), (s3, .inl (cI, 40, .inl e3))] H := hP
      have hD : va_D A [(oP, .inr (4, [.ref s0, .ref s1, .ref s2, .ref s3, .ref oN, .ref h2, .long sd])), (s0, .inl (cZ, 40, .inl e0)), (s1, .inl (cZ, 40, .inl e1)), (s2, .inl (cI, 40, .inl e2)), (s3, .inl (cI, 40, .inl e3))] := hD
      refine lv_istore (lv' := [(6, .int (kX4_verdictOfSame_s61 e0 e1 e2 e3 x y)), (5, .int (kX4_verdictOfSame_s50 e0 e1 e2 e3 x y)), (4, .int (kX4_verdictOfSame_s39 e0 e1 e2 e3 x y)), (3, .int (kX4_verdictOfSame_s29 e0 e1 e2 e3 x y)), (0, .int x), (1, .int y), (2, .ref oP)]) hx hb dX4_verdictOfSame_61 hl (by decide) rfl (fun ls hl => ?_)
      refine lv_iload hx hb dX4_verdictOfSame_63 (lv_at hl 2 rfl) ?_
      refine lv_iload hx hb dX4_verdictOfSame_65 (lv_at hl 1 rfl) ?_
      refine lv_icmp_lt (tgt := 76) hx hb dX4_verdictOfSame_67 (by decide) (fun c15 => ?_) (fun c15 => ?_)
      · skip
        have c15i : ((kX4_verdictOfSame_s39 e0 e1 e2 e3 x y) : Int32).toInt < ((kX4_verdictOfSame_s50 e0 e1 e2 e3 x y) : Int32).toInt := Int32.lt_iff_toInt_lt.mp c15
        refine lv_iconst (v := 0) hx hb dX4_verdictOfSame_76 (by decide) ?_
        refine W.widen (k := 0) (n := 0) (by decide) (by decide) ?_
        exact sp_iret (u := ()) hx hb hr hlocks hS (Eq.symm ((if_neg c1i).trans ((if_neg c2i).trans ((if_pos c15i).trans rfl)))) (hP.sub [0, 1, 2, 3, 4] rfl) (hD.sub [0, 1, 2, 3, 4] (by decide) rfl) dX4_verdictOfSame_77
      · skip
        have c15i : ¬ ((kX4_verdictOfSame_s39 e0 e1 e2 e3 x y) : Int32).toInt < ((kX4_verdictOfSame_s50 e0 e1 e2 e3 x y) : Int32).toInt := fun h => c15 (Int32.lt_iff_toInt_lt.mpr h)
        refine lv_iload hx hb dX4_verdictOfSame_70 (lv_at hl 0 rfl) ?_
        refine lv_iload_n hx hb dX4_verdictOfSame_72 rfl (lv_at hl 3 rfl) ?_
        refine lv_icmp_ge (tgt := 78) hx hb dX4_verdictOfSame_73 (by decide) (fun c16 => ?_) (fun c16 => ?_)
        · skip
          have c16i : ((kX4_verdictOfSame_s29 e0 e1 e2 e3 x y) : Int32).toInt ≤ ((kX4_verdictOfSame_s61 e0 e1 e2 e3 x y) : Int32).toInt := Int32.le_iff_toInt_le.mp c16
          refine lv_iload_n hx hb dX4_verdictOfSame_78 rfl (lv_at hl 3 rfl) ?_
          refine lv_iload hx hb dX4_verdictOfSame_79 (lv_at hl 2 rfl) ?_
          have hj31 : ∀ (z30 : Int32) (H : Heap) (locs : List Loc) (ls : Array Slot), (z30 = kX4_verdictOfSame_102_z30 e0 e1 e2 e3 x y) → va_P D vwCl [(oP, .inr (4, [.ref s0, .ref s1, .ref s2, .ref s3, .ref oN, .ref h2, .long sd])), (s0, .inl (cZ, 40, .inl e0)), (s1, .inl (cZ, 40, .inl e1)), (s2, .inl (cI, 40, .inl e2)), (s3, .inl (cI, 40, .inl e3))] H → va_D A [(oP, .inr (4, [.ref s0, .ref s1, .ref s2, .ref s3, .ref oN, .ref h2, .long sd])), (s0, .inl (cZ, 40, .inl e0)), (s1, .inl (cZ, 40, .inl e1)), (s2, .inl (cI, 40, .inl e2)), (s3, .inl (cI, 40, .inl e3))] → va_S A s.heap H locs → lv_has ls 8 [(6, .int (kX4_verdictOfSame_s61 e0 e1 e2 e3 x y)), (5, .int (kX4_verdictOfSame_s50 e0 e1 e2 e3 x y)), (4, .int (kX4_verdictOfSame_s39 e0 e1 e2 e3 x y)), (3, .int (kX4_verdictOfSame_s29 e0 e1 e2 e3 x y)), (0, .int x), (1, .int y), (2, .ref oP)] → W p l e ({ frames := 1, cells := 0, slots := 0, locals := 20 }) s m (([.int x, .int y, .ref oP] : List Value).toArray) below meth c H locs 0 0 (MQ below (va_Qi (fun (r : Int32) (_ : Unit) => r = kX4_verdictOfSame e0 e1 e2 e3 x y) (sp_B D vwCl A (fun (_ : Unit) => [(oP, .inr (4, [.ref s0, .ref s1, .ref s2, .ref s3, .ref oN, .ref h2, .long sd])), (s0, .inl (cZ, 40, .inl e0)), (s1, .inl (cZ, 40, .inl e1)), (s2, .inl (cI, 40, .inl e2)), (s3, .inl (cI, 40, .inl e3))])) A) ([.int x, .int y, .ref oP] : List Value).toArray s 0 0 A) (F0 m 102 ls [.int z30]) := by
            intro z30 H locs ls hz30 hP hD hS hl
            subst z30
            refine lv_istore (lv' := [(7, .int (kX4_verdictOfSame_s102 e0 e1 e2 e3 x y)), (6, .int (kX4_verdictOfSame_s61 e0 e1 e2 e3 x y)), (5, .int (kX4_verdictOfSame_s50 e0 e1 e2 e3 x y)), (4, .int (kX4_verdictOfSame_s39 e0 e1 e2 e3 x y)), (3, .int (kX4_verdictOfSame_s29 e0 e1 e2 e3 x y)), (0, .int x), (1, .int y), (2, .ref oP)]) hx hb dX4_verdictOfSame_102 hl (by decide) rfl (fun ls hl => ?_)
            refine lv_iload hx hb dX4_verdictOfSame_104 (lv_at hl 0 rfl) ?_
            have hj46 : ∀ (z45 : Int32) (H : Heap) (locs : List Loc) (ls : Array Slot), (z45 = kX4_verdictOfSame_132_z45 e0 e1 e2 e3 x y) → va_P D vwCl [(oP, .inr (4, [.ref s0, .ref s1, .ref s2, .ref s3, .ref oN, .ref h2, .long sd])), (s0, .inl (cZ, 40, .inl e0)), (s1, .inl (cZ, 40, .inl e1)), (s2, .inl (cI, 40, .inl e2)), (s3, .inl (cI, 40, .inl e3))] H → va_D A [(oP, .inr (4, [.ref s0, .ref s1, .ref s2, .ref s3, .ref oN, .ref h2, .long sd])), (s0, .inl (cZ, 40, .inl e0)), (s1, .inl (cZ, 40, .inl e1)), (s2, .inl (cI, 40, .inl e2)), (s3, .inl (cI, 40, .inl e3))] → va_S A s.heap H locs → lv_has ls 8 [(7, .int (kX4_verdictOfSame_s102 e0 e1 e2 e3 x y)), (6, .int (kX4_verdictOfSame_s61 e0 e1 e2 e3 x y)), (5, .int (kX4_verdictOfSame_s50 e0 e1 e2 e3 x y)), (4, .int (kX4_verdictOfSame_s39 e0 e1 e2 e3 x y)), (3, .int (kX4_verdictOfSame_s29 e0 e1 e2 e3 x y)), (0, .int x), (1, .int y), (2, .ref oP)] → W p l e ({ frames := 1, cells := 0, slots := 0, locals := 20 }) s m (([.int x, .int y, .ref oP] : List Value).toArray) below meth c H locs 0 0 (MQ below (va_Qi (fun (r : Int32) (_ : Unit) => r = kX4_verdictOfSame e0 e1 e2 e3 x y) (sp_B D vwCl A (fun (_ : Unit) => [(oP, .inr (4, [.ref s0, .ref s1, .ref s2, .ref s3, .ref oN, .ref h2, .long sd])), (s0, .inl (cZ, 40, .inl e0)), (s1, .inl (cZ, 40, .inl e1)), (s2, .inl (cI, 40, .inl e2)), (s3, .inl (cI, 40, .inl e3))])) A) ([.int x, .int y, .ref oP] : List Value).toArray s 0 0 A) (F0 m 132 ls [.int z45]) := by
              intro z45 H locs ls hz45 hP hD hS hl
              subst z45
              refine W.widen (k := 0) (n := 0) (by decide) (by decide) ?_
              exact sp_iret (u := ()) hx hb hr hlocks hS (Eq.symm ((if_neg c1i).trans ((if_neg c2i).trans ((if_neg c15i).trans ((if_pos c16i).trans rfl))))) (hP.sub [0, 1, 2, 3, 4] rfl) (hD.sub [0, 1, 2, 3, 4] (by decide) rfl) dX4_verdictOfSame_132
            refine lv_if_eq (tgt := 131) hx hb dX4_verdictOfSame_106 (by decide) (fun c32 => ?_) (fun c32 => ?_)
            · skip
              have c32i : ((kX4_verdictOfSame_s102 e0 e1 e2 e3 x y) : Int32).toInt = 0 := congrArg Int32.toInt c32
              refine lv_iconst (v := 2) hx hb dX4_verdictOfSame_131 (by decide) ?_
              exact hj46 (2) _ _ _ (Eq.symm ((if_pos c32i).trans rfl)) (hP.sub [0, 1, 2, 3, 4] rfl) (hD.sub [0, 1, 2, 3, 4] (by decide) rfl) hS (lv_sub hl [0, 1, 2, 3, 4, 5, 6, 7] rfl)
            · skip
              have c32i : ¬ ((kX4_verdictOfSame_s102 e0 e1 e2 e3 x y) : Int32).toInt = 0 := fun h => c32 (Int32.toInt_inj.mp h)
              refine lv_aload_n hx hb dX4_verdictOfSame_109 rfl (lv_at hl 7 rfl) ?_
              refine va_get (D := D) (ci := 4) (v := .ref s1) (C := RX6) (T := TX6) (N := 7) hx hb hts iX4_verdictOfSame_X6 hown hK hP 0 rfl rfl 1 (by decide) (hts (.fieldLink RX4 88 "FloatSolver$Spans" "none" "[Z") (oX4_verdictOfSame_in _ (List.mem_of_getElem? (i := 3) rfl))) (fun _ h9 => h9) rfl dX4_verdictOfSame_110 ?_
              refine lv_iload_n hx hb dX4_verdictOfSame_113 rfl (lv_at hl 5 rfl) ?_
              refine va_zald hx hb hK hP 2 2 rfl rfl (vp_in_iff.mpr ⟨by omega, by omega⟩) dX4_verdictOfSame_114 ?_
              have hj43 : ∀ (z42 : Int32) (H : Heap) (locs : List Loc) (ls : Array Slot), (z42 = kX4_verdictOfSame_132_z42 e0 e1 e2 e3 x y) → va_P D vwCl [(oP, .inr (4, [.ref s0, .ref s1, .ref s2, .ref s3, .ref oN, .ref h2, .long sd])), (s0, .inl (cZ, 40, .inl e0)), (s1, .inl (cZ, 40, .inl e1)), (s2, .inl (cI, 40, .inl e2)), (s3, .inl (cI, 40, .inl e3))] H → va_D A [(oP, .inr (4, [.ref s0, .ref s1, .ref s2, .ref s3, .ref oN, .ref h2, .long sd])), (s0, .inl (cZ, 40, .inl e0)), (s1, .inl (cZ, 40, .inl e1)), (s2, .inl (cI, 40, .inl e2)), (s3, .inl (cI, 40, .inl e3))] → va_S A s.heap H locs → lv_has ls 8 [(7, .int (kX4_verdictOfSame_s102 e0 e1 e2 e3 x y)), (6, .int (kX4_verdictOfSame_s61 e0 e1 e2 e3 x y)), (5, .int (kX4_verdictOfSame_s50 e0 e1 e2 e3 x y)), (4, .int (kX4_verdictOfSame_s39 e0 e1 e2 e3 x y)), (3, .int (kX4_verdictOfSame_s29 e0 e1 e2 e3 x y)), (0, .int x), (1, .int y), (2, .ref oP)] → W p l e ({ frames := 1, cells := 0, slots := 0, locals := 20 }) s m (([.int x, .int y, .ref oP] : List Value).toArray) below meth c H locs 0 0 (MQ below (va_Qi (fun (r : Int32) (_ : Unit) => r = kX4_verdictOfSame e0 e1 e2 e3 x y) (sp_B D vwCl A (fun (_ : Unit) => [(oP, .inr (4, [.ref s0, .ref s1, .ref s2, .ref s3, .ref oN, .ref h2, .long sd])), (s0, .inl (cZ, 40, .inl e0)), (s1, .inl (cZ, 40, .inl e1)), (s2, .inl (cI, 40, .inl e2)), (s3, .inl (cI, 40, .inl e3))])) A) ([.int x, .int y, .ref oP] : List Value).toArray s 0 0 A) (F0 m 132 ls [.int z42]) := by
                intro z42 H locs ls hz42 hP hD hS hl
                subst z42
                exact hj46 ((kX4_verdictOfSame_132_z42 e0 e1 e2 e3 x y)) _ _ _ (Eq.symm ((if_neg c32i).trans rfl)) (hP.sub [0, 1, 2, 3, 4] rfl) (hD.sub [0, 1, 2, 3, 4] (by decide) rfl) hS (lv_sub hl [0, 1, 2, 3, 4, 5, 6, 7] rfl)
              refine lv_if_ne (tgt := 131) hx hb dX4_verdictOfSame_115 (by decide) (fun c34 => ?_) (fun c34 => ?_)
              · skip
                have c34i : ¬ ((e1 (x : Int32).toNatClampNeg) : Int32).toInt = 0 := fun h => c34 (Int32.toInt_inj.mp h)
                refine lv_iconst (v := 2) hx hb dX4_verdictOfSame_131 (by decide) ?_
                exact hj43 (2) _ _ _ (Eq.symm ((if_neg c34i).trans rfl)) (hP.sub [0, 1, 2, 3, 4] rfl) (hD.sub [0, 1, 2, 3, 4] (by decide) rfl) hS (lv_sub hl [0, 1, 2, 3, 4, 5, 6, 7] rfl)
              · skip
                have c34i : ((e1 (x : Int32).toNatClampNeg) : Int32).toInt = 0 := congrArg Int32.toInt c34
                refine lv_aload_n hx hb dX4_verdictOfSame_118 rfl (lv_at hl 7 rfl) ?_
                refine va_get (D := D) (ci := 4) (v := .ref s1) (C := RX6) (T := TX6) (N := 7) hx hb hts iX4_verdictOfSame_X6 hown hK hP 0 rfl rfl 1 (by decide) (hts (.fieldLink RX4 88 "FloatSolver$Spans" "none" "[Z") (oX4_verdictOfSame_in _ (List.mem_of_getElem? (i := 3) rfl))) (fun _ h9 => h9) rfl dX4_verdictOfSame_119 ?_
                refine lv_iload_n hx hb dX4_verdictOfSame_122 rfl (lv_at hl 6 rfl) ?_
                refine va_zald hx hb hK hP 2 2 rfl rfl (vp_in_iff.mpr ⟨by omega, by omega⟩) dX4_verdictOfSame_123 ?_
                have hj40 : ∀ (z39 : Int32) (H : Heap) (locs : List Loc) (ls : Array Slot), (z39 = kX4_verdictOfSame_132_z39 e0 e1 e2 e3 x y) → va_P D vwCl [(oP, .inr (4, [.ref s0, .ref s1, .ref s2, .ref s3, .ref oN, .ref h2, .long sd])), (s0, .inl (cZ, 40, .inl e0)), (s1, .inl (cZ, 40, .inl e1)), (s2, .inl (cI, 40, .inl e2)), (s3, .inl (cI, 40, .inl e3))] H → va_D A [(oP, .inr (4, [.ref s0, .ref s1, .ref s2, .ref s3, .ref oN, .ref h2, .long sd])), (s0, .inl (cZ, 40, .inl e0)), (s1, .inl (cZ, 40, .inl e1)), (s2, .inl (cI, 40, .inl e2)), (s3, .inl (cI, 40, .inl e3))] → va_S A s.heap H locs → lv_has ls 8 [(7, .int (kX4_verdictOfSame_s102 e0 e1 e2 e3 x y)), (6, .int (kX4_verdictOfSame_s61 e0 e1 e2 e3 x y)), (5, .int (kX4_verdictOfSame_s50 e0 e1 e2 e3 x y)), (4, .int (kX4_verdictOfSame_s39 e0 e1 e2 e3 x y)), (3, .int (kX4_verdictOfSame_s29 e0 e1 e2 e3 x y)), (0, .int x), (1, .int y), (2, .ref oP)] → W p l e ({ frames := 1, cells := 0, slots := 0, locals := 20 }) s m (([.int x, .int y, .ref oP] : List Value).toArray) below meth c H locs 0 0 (MQ below (va_Qi (fun (r : Int32) (_ : Unit) => r = kX4_verdictOfSame e0 e1 e2 e3 x y) (sp_B D vwCl A (fun (_ : Unit) => [(oP, .inr (4, [.ref s0, .ref s1, .ref s2, .ref s3, .ref oN, .ref h2, .long sd])), (s0, .inl (cZ, 40, .inl e0)), (s1, .inl (cZ, 40, .inl e1)), (s2, .inl (cI, 40, .inl e2)), (s3, .inl (cI, 40, .inl e3))])) A) ([.int x, .int y, .ref oP] : List Value).toArray s 0 0 A) (F0 m 132 ls [.int z39]) := by
                  intro z39 H locs ls hz39 hP hD hS hl
                  subst z39
                  exact hj43 ((kX4_verdictOfSame_132_z39 e0 e1 e2 e3 x y)) _ _ _ (Eq.symm ((if_pos c34i).trans rfl)) (hP.sub [0, 1, 2, 3, 4] rfl) (hD.sub [0, 1, 2, 3, 4] (by decide) rfl) hS (lv_sub hl [0, 1, 2, 3, 4, 5, 6, 7] rfl)
                refine lv_if_ne (tgt := 131) hx hb dX4_verdictOfSame_124 (by decide) (fun c36 => ?_) (fun c36 => ?_)
                · skip
                  have c36i : ¬ ((e1 (y : Int32).toNatClampNeg) : Int32).toInt = 0 := fun h => c36 (Int32.toInt_inj.mp h)
                  refine lv_iconst (v := 2) hx hb dX4_verdictOfSame_131 (by decide) ?_
                  exact hj40 (2) _ _ _ (Eq.symm ((if_neg c36i).trans rfl)) (hP.sub [0, 1, 2, 3, 4] rfl) (hD.sub [0, 1, 2, 3, 4] (by decide) rfl) hS (lv_sub hl [0, 1, 2, 3, 4, 5, 6, 7] rfl)
                · skip
                  have c36i : ((e1 (y : Int32).toNatClampNeg) : Int32).toInt = 0 := congrArg Int32.toInt c36
                  refine lv_iconst (v := 1) hx hb dX4_verdictOfSame_127 (by decide) ?_
                  refine lv_goto (tgt := 132) hx hb dX4_verdictOfSame_128 (by decide) ?_
                  exact hj40 (1) _ _ _ (Eq.symm ((if_pos c36i).trans rfl)) (hP.sub [0, 1, 2, 3, 4] rfl) (hD.sub [0, 1, 2, 3, 4] (by decide) rfl) hS (lv_sub hl [0, 1, 2, 3, 4, 5, 6, 7] rfl)
          refine lv_icmp_ne (tgt := 101) hx hb dX4_verdictOfSame_81 (by decide) (fun c17 => ?_) (fun c17 => ?_)
          · skip
            have c17i : ¬ ((kX4_verdictOfSame_s29 e0 e1 e2 e3 x y) : Int32).toInt = ((kX4_verdictOfSame_s39 e0 e1 e2 e3 x y) : Int32).toInt := fun h => c17 (Int32.toInt_inj.mp h)
            refine lv_iconst (v := 0) hx hb dX4_verdictOfSame_101 (by decide) ?_
            exact hj31 (0) _ _ _ (Eq.symm ((if_neg c17i).trans rfl)) (hP.sub [0, 1, 2, 3, 4] rfl) (hD.sub [0, 1, 2, 3, 4] (by decide) rfl) hS (lv_sub hl [0, 1, 2, 3, 4, 5, 6] rfl)
          · skip
            have c17i : ((kX4_verdictOfSame_s29 e0 e1 e2 e3 x y) : Int32).toInt = ((kX4_verdictOfSame_s39 e0 e1 e2 e3 x y) : Int32).toInt := congrArg Int32.toInt c17
            refine lv_iload hx hb dX4_verdictOfSame_84 (lv_at hl 1 rfl) ?_
            refine lv_iload hx hb dX4_verdictOfSame_86 (lv_at hl 0 rfl) ?_
            have hj28 : ∀ (z27 : Int32) (H : Heap) (locs : List Loc) (ls : Array Slot), (z27 = kX4_verdictOfSame_102_z27 e0 e1 e2 e3 x y) → va_P D vwCl [(oP, .inr (4, [.ref s0, .ref s1, .ref s2, .ref s3, .ref oN, .ref h2, .long sd])), (s0, .inl (cZ, 40, .inl e0)), (s1, .inl (cZ, 40, .inl e1)), (s2, .inl (cI, 40, .inl e2)), (s3, .inl (cI, 40, .inl e3))] H → va_D A [(oP, .inr (4, [.ref s0, .ref s1, .ref s2, .ref s3, .ref oN, .ref h2, .long sd])), (s0, .inl (cZ, 40, .inl e0)), (s1, .inl (cZ, 40, .inl e1)), (s2, .inl (cI, 40, .inl e2)), (s3, .inl (cI, 40, .inl e3))] → va_S A s.heap H locs → lv_has ls 8 [(6, .int (kX4_verdictOfSame_s61 e0 e1 e2 e3 x y)), (5, .int (kX4_verdictOfSame_s50 e0 e1 e2 e3 x y)), (4, .int (kX4_verdictOfSame_s39 e0 e1 e2 e3 x y)), (3, .int (kX4_verdictOfSame_s29 e0 e1 e2 e3 x y)), (0, .int x), (1, .int y), (2, .ref oP)] → W p l e ({ frames := 1, cells := 0, slots := 0, locals := 20 }) s m (([.int x, .int y, .ref oP] : List Value).toArray) below meth c H locs 0 0 (MQ below (va_Qi (fun (r : Int32) (_ : Unit) => r = kX4_verdictOfSame e0 e1 e2 e3 x y) (sp_B D vwCl A (fun (_ : Unit) => [(oP, .inr (4, [.ref s0, .ref s1, .ref s2, .ref s3, .ref oN, .ref h2, .long sd])), (s0, .inl (cZ, 40, .inl e0)), (s1, .inl (cZ, 40, .inl e1)), (s2, .inl (cI, 40, .inl e2)), (s3, .inl (cI, 40, .inl e3))])) A) ([.int x, .int y, .ref oP] : List Value).toArray s 0 0 A) (F0 m 102 ls [.int z27]) := by
              intro z27 H locs ls hz27 hP hD hS hl
              subst z27
              exact hj31 ((kX4_verdictOfSame_102_z27 e0 e1 e2 e3 x y)) _ _ _ (Eq.symm ((if_pos c17i).trans rfl)) (hP.sub [0, 1, 2, 3, 4] rfl) (hD.sub [0, 1, 2, 3, 4] (by decide) rfl) hS (lv_sub hl [0, 1, 2, 3, 4, 5, 6] rfl)
            refine lv_icmp_ne (tgt := 101) hx hb dX4_verdictOfSame_88 (by decide) (fun c19 => ?_) (fun c19 => ?_)
            · skip
              have c19i : ¬ ((kX4_verdictOfSame_s50 e0 e1 e2 e3 x y) : Int32).toInt = ((kX4_verdictOfSame_s61 e0 e1 e2 e3 x y) : Int32).toInt := fun h => c19 (Int32.toInt_inj.mp h)
              refine lv_iconst (v := 0) hx hb dX4_verdictOfSame_101 (by decide) ?_
              exact hj28 (0) _ _ _ (Eq.symm ((if_neg c19i).trans rfl)) (hP.sub [0, 1, 2, 3, 4] rfl) (hD.sub [0, 1, 2, 3, 4] (by decide) rfl) hS (lv_sub hl [0, 1, 2, 3, 4, 5, 6] rfl)
            · skip
              have c19i : ((kX4_verdictOfSame_s50 e0 e1 e2 e3 x y) : Int32).toInt = ((kX4_verdictOfSame_s61 e0 e1 e2 e3 x y) : Int32).toInt := congrArg Int32.toInt c19
              refine lv_iload_n hx hb dX4_verdictOfSame_91 rfl (lv_at hl 3 rfl) ?_
              refine lv_iload hx hb dX4_verdictOfSame_92 (lv_at hl 1 rfl) ?_
              have hj25 : ∀ (z24 : Int32) (H : Heap) (locs : List Loc) (ls : Array Slot), (z24 = kX4_verdictOfSame_102_z24 e0 e1 e2 e3 x y) → va_P D vwCl [(oP, .inr (4, [.ref s0, .ref s1, .ref s2, .ref s3, .ref oN, .ref h2, .long sd])), (s0, .inl (cZ, 40, .inl e0)), (s1, .inl (cZ, 40, .inl e1)), (s2, .inl (cI, 40, .inl e2)), (s3, .inl (cI, 40, .inl e3))] H → va_D A [(oP, .inr (4, [.ref s0, .ref s1, .ref s2, .ref s3, .ref oN, .ref h2, .long sd])), (s0, .inl (cZ, 40, .inl e0)), (s1, .inl (cZ, 40, .inl e1)), (s2, .inl (cI, 40, .inl e2)), (s3, .inl (cI, 40, .inl e3))] → va_S A s.heap H locs → lv_has ls 8 [(6, .int (kX4_verdictOfSame_s61 e0 e1 e2 e3 x y)), (5, .int (kX4_verdictOfSame_s50 e0 e1 e2 e3 x y)), (4, .int (kX4_verdictOfSame_s39 e0 e1 e2 e3 x y)), (3, .int (kX4_verdictOfSame_s29 e0 e1 e2 e3 x y)), (0, .int x), (1, .int y), (2, .ref oP)] → W p l e ({ frames := 1, cells := 0, slots := 0, locals := 20 }) s m (([.int x, .int y, .ref oP] : List Value).toArray) below meth c H locs 0 0 (MQ below (va_Qi (fun (r : Int32) (_ : Unit) => r = kX4_verdictOfSame e0 e1 e2 e3 x y) (sp_B D vwCl A (fun (_ : Unit) => [(oP, .inr (4, [.ref s0, .ref s1, .ref s2, .ref s3, .ref oN, .ref h2, .long sd])), (s0, .inl (cZ, 40, .inl e0)), (s1, .inl (cZ, 40, .inl e1)), (s2, .inl (cI, 40, .inl e2)), (s3, .inl (cI, 40, .inl e3))])) A) ([.int x, .int y, .ref oP] : List Value).toArray s 0 0 A) (F0 m 102 ls [.int z24]) := by
                intro z24 H locs ls hz24 hP hD hS hl
                subst z24
                exact hj28 ((kX4_verdictOfSame_102_z24 e0 e1 e2 e3 x y)) _ _ _ (Eq.symm ((if_pos c19i).trans rfl)) (hP.sub [0, 1, 2, 3, 4] rfl) (hD.sub [0, 1, 2, 3, 4] (by decide) rfl) hS (lv_sub hl [0, 1, 2, 3, 4, 5, 6] rfl)
              refine lv_icmp_ne (tgt := 101) hx hb dX4_verdictOfSame_94 (by decide) (fun c21 => ?_) (fun c21 => ?_)
              · skip
                have c21i : ¬ ((kX4_verdictOfSame_s29 e0 e1 e2 e3 x y) : Int32).toInt = ((kX4_verdictOfSame_s50 e0 e1 e2 e3 x y) : Int32).toInt := fun h => c21 (Int32.toInt_inj.mp h)
                refine lv_iconst (v := 0) hx hb dX4_verdictOfSame_101 (by decide) ?_
                exact hj25 (0) _ _ _ (Eq.symm ((if_neg c21i).trans rfl)) (hP.sub [0, 1, 2, 3, 4] rfl) (hD.sub [0, 1, 2, 3, 4] (by decide) rfl) hS (lv_sub hl [0, 1, 2, 3, 4, 5, 6] rfl)
              · skip
                have c21i : ((kX4_verdictOfSame_s29 e0 e1 e2 e3 x y) : Int32).toInt = ((kX4_verdictOfSame_s50 e0 e1 e2 e3 x y) : Int32).toInt := congrArg Int32.toInt c21
                refine lv_iconst (v := 1) hx hb dX4_verdictOfSame_97 (by decide) ?_
                refine lv_goto (tgt := 102) hx hb dX4_verdictOfSame_98 (by decide) ?_
                exact hj25 (1) _ _ _ (Eq.symm ((if_pos c21i).trans rfl)) (hP.sub [0, 1, 2, 3, 4] rfl) (hD.sub [0, 1, 2, 3, 4] (by decide) rfl) hS (lv_sub hl [0, 1, 2, 3, 4, 5, 6] rfl)
        · skip
          have c16i : ¬ ((kX4_verdictOfSame_s29 e0 e1 e2 e3 x y) : Int32).toInt ≤ ((kX4_verdictOfSame_s61 e0 e1 e2 e3 x y) : Int32).toInt := fun h => c16 (Int32.le_iff_toInt_le.mpr h)
          refine lv_iconst (v := 0) hx hb dX4_verdictOfSame_76 (by decide) ?_
          refine W.widen (k := 0) (n := 0) (by decide) (by decide) ?_
          exact sp_iret (u := ()) hx hb hr hlocks hS (Eq.symm ((if_neg c1i).trans ((if_neg c2i).trans ((if_neg c15i).trans ((if_neg c16i).trans rfl))))) (hP.sub [0, 1, 2, 3, 4] rfl) (hD.sub [0, 1, 2, 3, 4] (by decide) rfl) dX4_verdictOfSame_77
    · skip
      have c2i : ((e0 (y : Int32).toNatClampNeg) : Int32).toInt = 0 := congrArg Int32.toInt c2
      refine lv_iconst (v := 0) hx hb dX4_verdictOfSame_18 (by decide) ?_
      refine W.widen (k := 0) (n := 0) (by decide) (by decide) ?_
      exact sp_iret (u := ()) hx hb hr hlocks hS (Eq.symm ((if_neg c1i).trans ((if_pos c2i).trans rfl))) (hP.sub [0, 1, 2, 3, 4] rfl) (hD.sub [0, 1, 2, 3, 4] (by decide) rfl) dX4_verdictOfSame_19
def oX4_verdictOfNone : List Cond := [.fieldLink RX4 76 "FloatSolver$Spans" "some" "[Z", .fieldLink RX4 88 "FloatSolver$Spans" "none" "[Z"]
def wpX4_verdictOfNone : List Cond := .code yX4_verdictOfNone cX4_verdictOfNone 2 (some .int) :: (oX4_verdictOfNone ++ (wsX60 ++ ([] : List Cond)))
theorem oX4_verdictOfNone_in : ∀ w ∈ oX4_verdictOfNone, w ∈ wpX4_verdictOfNone := fun w h => List.mem_cons_of_mem _ (List.mem_append_left _ h)
theorem gwoX4_verdictOfNone : ∀ w ∈ oX4_verdictOfNone, goodWord w = true := by decide +kernel
theorem gwX4_verdictOfNone : ∀ w ∈ wpX4_verdictOfNone, goodWord w = true := by
  unfold wpX4_verdictOfNone
  exact List.forall_mem_cons.mpr ⟨rfl, List.forall_mem_append.mpr ⟨gwoX4_verdictOfNone, List.forall_mem_append.mpr ⟨gwX6, fun _ h => absurd h List.not_mem_nil⟩⟩⟩
set_option maxRecDepth 100000 in
theorem toX4_verdictOfNone : ∀ w ∈ oX4_verdictOfNone, w ∈ lw_tbl := by
  unfold oX4_verdictOfNone
  exact List.forall_mem_cons.mpr ⟨(List.mem_of_getElem? (i := 157) (by decide +kernel)), List.forall_mem_cons.mpr ⟨(List.mem_of_getElem? (i := 160) (by decide +kernel)), fun _ h => absurd h List.not_mem_nil⟩⟩
set_option maxRecDepth 100000 in
theorem tX4_verdictOfNone : ∀ w ∈ wpX4_verdictOfNone, w ∈ lw_tbl := by
  unfold wpX4_verdictOfNone
  exact List.forall_mem_cons.mpr ⟨(List.mem_of_getElem? (i := 545) (by rfl)), List.forall_mem_append.mpr ⟨toX4_verdictOfNone, List.forall_mem_append.mpr ⟨in_wsX60, fun _ h => absurd h List.not_mem_nil⟩⟩⟩
theorem iX4_verdictOfNone_X6 : ∀ w ∈ wsX60, w ∈ wpX4_verdictOfNone := fun w h => List.mem_cons_of_mem _ (List.mem_append_right _ (List.mem_append_left _ h))
set_option maxHeartbeats 4000000 in
set_option maxRecDepth 100000 in
theorem c_X4_verdictOfNone (l : Launch) (D : va_G) (cI cJ cZ : ClassId) (sz : Nat) (oP s0 s1 s2 s3 oN h2 : Nat) (e0 : Nat → Int32) (e1 : Nat → Int32) (e2 : Nat → Int32) (e3 : Nat → Int32) (x : Int32) (sd : Int64) (ri_x : 0 ≤ (x : Int32).toInt ∧ (x : Int32).toInt < 40) : Met l yX4_verdictOfNone wpX4_verdictOfNone ({ frames := 0, cells := 0, slots := 0, locals := 0 }) (va_Pc ([.int x, .ref oP] : List Value) (sp_pre D vwCl (sp_ty cI cJ cZ) [(oP, .inr (4, [.ref s0, .ref s1, .ref s2, .ref s3, .ref oN, .ref h2, .long sd])), (s0, .inl (cZ, 40, .inl e0)), (s1, .inl (cZ, 40, .inl e1)), (s2, .inl (cI, 40, .inl e2)), (s3, .inl (cI, 40, .inl e3))] sz)) (va_Qi (fun (r : Int32) (_ : Unit) => r = kX4_verdictOfNone e0 e1 e2 e3 x) (sp_B D vwCl (va_A [(oP, .inr (4, [.ref s0, .ref s1, .ref s2, .ref s3, .ref oN, .ref h2, .long sd])), (s0, .inl (cZ, 40, .inl e0)), (s1, .inl (cZ, 40, .inl e1)), (s2, .inl (cI, 40, .inl e2)), (s3, .inl (cI, 40, .inl e3))] sz) (fun (_ : Unit) => [(oP, .inr (4, [.ref s0, .ref s1, .ref s2, .ref s3, .ref oN, .ref h2, .long sd])), (s0, .inl (cZ, 40, .inl e0)), (s1, .inl (cZ, 40, .inl e1)), (s2, .inl (cI, 40, .inl e2)), (s3, .inl (cI, 40, .inl e3))])) (va_A [(oP, .inr (4, [.ref s0, .ref s1, .ref s2, .ref s3, .ref oN, .ref h2, .long sd])), (s0, .inl (cZ, 40, .inl e0)), (s1, .inl (cZ, 40, .inl e1)), (s2, .inl (cI, 40, .inl e2)), (s3, .inl (cI, 40, .inl e3))] sz)) 0 0 (va_A [(oP, .inr (4, [.ref s0, .ref s1, .ref s2, .ref s3, .ref oN, .ref h2, .long sd])), (s0, .inl (cZ, 40, .inl e0)), (s1, .inl (cZ, 40, .inl e1)), (s2, .inl (cI, 40, .inl e2)), (s3, .inl (cI, 40, .inl e3))] sz) := by
  refine sp_ofW (Qc := fun A => va_Qi (fun (r : Int32) (_ : Unit) => r = kX4_verdictOfNone e0 e1 e2 e3 x) (sp_B D vwCl A (fun (_ : Unit) => [(oP, .inr (4, [.ref s0, .ref s1, .ref s2, .ref s3, .ref oN, .ref h2, .long sd])), (s0, .inl (cZ, 40, .inl e0)), (s1, .inl (cZ, 40, .inl e1)), (s2, .inl (cI, 40, .inl e2)), (s3, .inl (cI, 40, .inl e3))])) A) (by decide) rfl (Nat.le_of_ble_eq_true rfl) (fun p e s m below meth c A ls H locs C0 hA hS hP hK hD hl => ?_)
  obtain ⟨hx, hb, hr, hts, hown, hlocks, hml, hin⟩ := id C0
  have hown : s.vm.findClass RX4 = some m.cls := hown
  have hl : lv_has ls 2 [(0, .int x), (1, .ref oP)] := hl
  have hK : va_K D vwCl [(cI, .int), (cJ, .long), (cZ, .boolean)] s := hK
  refine lv_aload_n hx hb dX4_verdictOfNone_0 rfl (lv_at hl 1 rfl) ?_
  refine va_get (D := D) (ci := 4) (v := .ref s0) (C := RX6) (T := TX6) (N := 7) hx hb hts iX4_verdictOfNone_X6 hown hK hP 0 rfl rfl 0 (by decide) (hts (.fieldLink RX4 76 "FloatSolver$Spans" "some" "[Z") (oX4_verdictOfNone_in _ (List.mem_of_getElem? (i := 0) rfl))) (fun _ h9 => h9) rfl dX4_verdictOfNone_1 ?_
  refine lv_iload_n hx hb dX4_verdictOfNone_4 rfl (lv_at hl 0 rfl) ?_
  refine va_zald hx hb hK hP 1 2 rfl rfl (vp_in_iff.mpr ⟨by omega, by omega⟩) dX4_verdictOfNone_5 ?_
  refine lv_if_ne (tgt := 11) hx hb dX4_verdictOfNone_6 (by decide) (fun c1 => ?_) (fun c1 => ?_)
  · skip
    have c1i : ¬ ((e0 (x : Int32).toNatClampNeg) : Int32).toInt = 0 := fun h => c1 (Int32.toInt_inj.mp h)
    refine lv_aload_n hx hb dX4_verdictOfNone_11 rfl (lv_at hl 1 rfl) ?_
    refine va_get (D := D) (ci := 4) (v := .ref s1) (C := RX6) (T := TX6) (N := 7) hx hb hts iX4_verdictOfNone_X6 hown hK hP 0 rfl rfl 1 (by decide) (hts (.fieldLink RX4 88 "FloatSolver$Spans" "none" "[Z") (oX4_verdictOfNone_in _ (List.mem_of_getElem? (i := 1) rfl))) (fun _ h9 => h9) rfl dX4_verdictOfNone_12 ?_
    refine lv_iload_n hx hb dX4_verdictOfNone_15 rfl (lv_at hl 0 rfl) ?_
    refine va_zald hx hb hK hP 2 2 rfl rfl (vp_in_iff.mpr ⟨by omega, by omega⟩) dX4_verdictOfNone_16 ?_
    have hj6 : ∀ (z5 : Int32) (H : Heap) (locs : List Loc) (ls : Array Slot), (z5 = kX4_verdictOfNone_25_z5 e0 e1 e2 e3 x) → va_P D vwCl [(oP, .inr (4, [.ref s0, .ref s1, .ref s2, .ref s3, .ref oN, .ref h2, .long sd])), (s0, .inl (cZ, 40, .inl e0)), (s1, .inl (cZ, 40, .inl e1)), (s2, .inl (cI, 40, .inl e2)), (s3, .inl (cI, 40, .inl e3))] H → va_D A [(oP, .inr (4, [.ref s0, .ref s1, .ref s2, .ref s3, .ref oN, .ref h2, .long sd])), (s0, .inl (cZ, 40, .inl e0)), (s1, .inl (cZ, 40, .inl e1)), (s2, .inl (cI, 40, .inl e2)), (s3, .inl (cI, 40, .inl e3))] → va_S A s.heap H locs → lv_has ls 2 [(0, .int x), (1, .ref oP)] → W p l e ({ frames := 0, cells := 0, slots := 0, locals := 0 }) s m (([.int x, .ref oP] : List Value).toArray) below meth c H locs 0 0 (MQ below (va_Qi (fun (r : Int32) (_ : Unit) => r = kX4_verdictOfNone e0 e1 e2 e3 x) (sp_B D vwCl A (fun (_ : Unit) => [(oP, .inr (4, [.ref s0, .ref s1, .ref s2, .ref s3, .ref oN, .ref h2, .long sd])), (s0, .inl (cZ, 40, .inl e0)), (s1, .inl (cZ, 40, .inl e1)), (s2, .inl (cI, 40, .inl e2)), (s3, .inl (cI, 40, .inl e3))])) A) ([.int x, .ref oP] : List Value).toArray s 0 0 A) (F0 m 25 ls [.int z5]) := by
      intro z5 H locs ls hz5 hP hD hS hl
      subst z5
      refine W.widen (k := 0) (n := 0) (by decide) (by decide) ?_
      exact sp_iret (u := ()) hx hb hr hlocks hS (Eq.symm ((if_neg c1i).trans rfl)) (hP.sub [0, 1, 2, 3, 4] rfl) (hD.sub [0, 1, 2, 3, 4] (by decide) rfl) dX4_verdictOfNone_25
    refine lv_if_eq (tgt := 24) hx hb dX4_verdictOfNone_17 (by decide) (fun c2 => ?_) (fun c2 => ?_)
    · skip
      have c2i : ((e1 (x : Int32).toNatClampNeg) : Int32).toInt = 0 := congrArg Int32.toInt c2
      refine lv_iconst (v := 0) hx hb dX4_verdictOfNone_24 (by decide) ?_
      exact hj6 (0) _ _ _ (Eq.symm ((if_pos c2i).trans rfl)) (hP.sub [0, 1, 2, 3, 4] rfl) (hD.sub [0, 1, 2, 3, 4] (by decide) rfl) hS (lv_sub hl [0, 1] rfl)
    · skip
      have c2i : ¬ ((e1 (x : Int32).toNatClampNeg) : Int32).toInt = 0 := fun h => c2 (Int32.toInt_inj.mp h)
      refine lv_iconst (v := 2) hx hb dX4_verdictOfNone_20 (by decide) ?_
      refine lv_goto (tgt := 25) hx hb dX4_verdictOfNone_21 (by decide) ?_
      exact hj6 (2) _ _ _ (Eq.symm ((if_neg c2i).trans rfl)) (hP.sub [0, 1, 2, 3, 4] rfl) (hD.sub [0, 1, 2, 3, 4] (by decide) rfl) hS (lv_sub hl [0, 1] rfl)
  · skip
    have c1i : ((e0 (x : Int32).toNatClampNeg) : Int32).toInt = 0 := congrArg Int32.toInt c1
    refine lv_iconst (v := 1) hx hb dX4_verdictOfNone_9 (by decide) ?_
    refine W.widen (k := 0) (n := 0) (by decide) (by decide) ?_
    exact sp_iret (u := ()) hx hb hr hlocks hS (Eq.symm ((if_pos c1i).trans rfl)) (hP.sub [0, 1, 2, 3, 4] rfl) (hD.sub [0, 1, 2, 3, 4] (by decide) rfl) dX4_verdictOfNone_10
def oX4_verdict : List Cond := [.fieldLink RX4 9 "FloatSolver$Rules" "kind" "[I", .fieldLink RX4 15 "FloatSolver$Rules" "a" "[I", .fieldLink RX4 18 "FloatSolver$Rules" "b" "[I"]
def wpX4_verdict : List Cond := .code yX4_verdict cX4_verdict 3 (some .int) :: (oX4_verdict ++ (wsX40 ++ ((va_wsS RX4 69 yX4_verdictOfNone wpX4_verdictOfNone) ++ ((va_wsS RX4 66 yX4_turned wpX4_turned) ++ ((va_wsS RX4 58 yX4_verdictOfOrder wpX4_verdictOfOrder) ++ ((va_wsS RX4 62 yX4_verdictOfSame wpX4_verdictOfSame) ++ ([] : List Cond)))))))
theorem oX4_verdict_in : ∀ w ∈ oX4_verdict, w ∈ wpX4_verdict := fun w h => List.mem_cons_of_mem _ (List.mem_append_left _ h)
theorem gwoX4_verdict : ∀ w ∈ oX4_verdict, goodWord w = true := by decide +kernel
theorem gwX4_verdict : ∀ w ∈ wpX4_verdict, goodWord w = true := by
  unfold wpX4_verdict
  exact List.forall_mem_cons.mpr ⟨rfl, List.forall_mem_append.mpr ⟨gwoX4_verdict, List.forall_mem_append.mpr ⟨gwX4, List.forall_mem_append.mpr ⟨(sp_gS gwX4_verdictOfNone), List.forall_mem_append.mpr ⟨(sp_gS gwX4_turned), List.forall_mem_append.mpr ⟨(sp_gS gwX4_verdictOfOrder), List.forall_mem_append.mpr ⟨(sp_gS gwX4_verdictOfSame), fun _ h => absurd h List.not_mem_nil⟩⟩⟩⟩⟩⟩⟩
set_option maxRecDepth 100000 in
theorem toX4_verdict : ∀ w ∈ oX4_verdict, w ∈ lw_tbl := by
  unfold oX4_verdict
  exact List.forall_mem_cons.mpr ⟨(List.mem_of_getElem? (i := 109) (by decide +kernel)), List.forall_mem_cons.mpr ⟨(List.mem_of_getElem? (i := 110) (by decide +kernel)), List.forall_mem_cons.mpr ⟨(List.mem_of_getElem? (i := 111) (by decide +kernel)), fun _ h => absurd h List.not_mem_nil⟩⟩⟩
set_option maxRecDepth 100000 in
theorem tX4_verdict : ∀ w ∈ wpX4_verdict, w ∈ lw_tbl := by
  unfold wpX4_verdict
  exact List.forall_mem_cons.mpr ⟨(List.mem_of_getElem? (i := 533) (by rfl)), List.forall_mem_append.mpr ⟨toX4_verdict, List.forall_mem_append.mpr ⟨in_wsX40, List.forall_mem_append.mpr ⟨(sp_tS (List.mem_of_getElem? (i := 543) (by decide +kernel)) (List.mem_of_getElem? (i := 544) (by decide +kernel)) (List.mem_of_getElem? (i := 40) (by decide +kernel)) tX4_verdictOfNone), List.forall_mem_append.mpr ⟨(sp_tS (List.mem_of_getElem? (i := 540) (by decide +kernel)) (List.mem_of_getElem? (i := 541) (by decide +kernel)) (List.mem_of_getElem? (i := 40) (by decide +kernel)) tX4_turned), List.forall_mem_append.mpr ⟨(sp_tS (List.mem_of_getElem? (i := 534) (by decide +kernel)) (List.mem_of_getElem? (i := 535) (by decide +kernel)) (List.mem_of_getElem? (i := 40) (by decide +kernel)) tX4_verdictOfOrder), List.forall_mem_append.mpr ⟨(sp_tS (List.mem_of_getElem? (i := 537) (by decide +kernel)) (List.mem_of_getElem? (i := 538) (by decide +kernel)) (List.mem_of_getElem? (i := 40) (by decide +kernel)) tX4_verdictOfSame), fun _ h => absurd h List.not_mem_nil⟩⟩⟩⟩⟩⟩⟩
theorem iX4_verdict_X4 : ∀ w ∈ wsX40, w ∈ wpX4_verdict := fun w h => List.mem_cons_of_mem _ (List.mem_append_right _ (List.mem_append_left _ h))
theorem gX4_verdict_X4_verdictOfNone_69 : GoodIn wpX4_verdict (va_wsS RX4 69 yX4_verdictOfNone wpX4_verdictOfNone) := fun w h => ⟨List.mem_cons_of_mem _ (List.mem_append_right _ (List.mem_append_right _ (List.mem_append_left _ h))), good_of_word (sp_gS gwX4_verdictOfNone w h)⟩
theorem gX4_verdict_X4_turned_66 : GoodIn wpX4_verdict (va_wsS RX4 66 yX4_turned wpX4_turned) := fun w h => ⟨List.mem_cons_of_mem _ (List.mem_append_right _ (List.mem_append_right _ (List.mem_append_right _ (List.mem_append_left _ h)))), good_of_word (sp_gS gwX4_turned w h)⟩
theorem gX4_verdict_X4_verdictOfOrder_58 : GoodIn wpX4_verdict (va_wsS RX4 58 yX4_verdictOfOrder wpX4_verdictOfOrder) := fun w h => ⟨List.mem_cons_of_mem _ (List.mem_append_right _ (List.mem_append_right _ (List.mem_append_right _ (List.mem_append_right _ (List.mem_append_left _ h))))), good_of_word (sp_gS gwX4_verdictOfOrder w h)⟩
theorem gX4_verdict_X4_verdictOfSame_62 : GoodIn wpX4_verdict (va_wsS RX4 62 yX4_verdictOfSame wpX4_verdictOfSame) := fun w h => ⟨List.mem_cons_of_mem _ (List.mem_append_right _ (List.mem_append_right _ (List.mem_append_right _ (List.mem_append_right _ (List.mem_append_right _ (List.mem_append_left _ h)))))), good_of_word (sp_gS gwX4_verdictOfSame w h)⟩
set_option maxHeartbeats 4000000 in
set_option maxRecDepth 100000 in
theorem c_X4_verdict (l : Launch) (D : va_G) (cI cJ cZ : ClassId) (sz : Nat) (oR oP rr0 rr1 rr2 s0 s1 s2 s3 oN h2 : Nat) (rk : Nat → Int32) (ra : Nat → Int32) (rb : Nat → Int32) (e0 : Nat → Int32) (e1 : Nat → Int32) (e2 : Nat → Int32) (e3 : Nat → Int32) (i : Int32) (rc : Int32) (sd : Int64) (hri : RI rc ra rb) (hir : 0 ≤ (i : Int32).toInt ∧ (i : Int32).toInt < (rc : Int32).toInt) : Met l yX4_verdict wpX4_verdict ({ frames := 2, cells := 0, slots := 0, locals := 47 }) (va_Pc ([.ref oR, .int i, .ref oP] : List Value) (sp_pre D vwCl (sp_ty cI cJ cZ) [(oR, .inr (2, [.ref rr0, .ref rr1, .ref rr2, .int rc])), (rr0, .inl (cI, 12, .inl rk)), (rr1, .inl (cI, 12, .inl ra)), (rr2, .inl (cI, 12, .inl rb)), (oP, .inr (4, [.ref s0, .ref s1, .ref s2, .ref s3, .ref oN, .ref h2, .long sd])), (s0, .inl (cZ, 40, .inl e0)), (s1, .inl (cZ, 40, .inl e1)), (s2, .inl (cI, 40, .inl e2)), (s3, .inl (cI, 40, .inl e3))] sz)) (va_Qi (fun (r : Int32) (_ : Unit) => r = kX4_verdict rk ra rb e0 e1 e2 e3 i) (sp_B D vwCl (va_A [(oR, .inr (2, [.ref rr0, .ref rr1, .ref rr2, .int rc])), (rr0, .inl (cI, 12, .inl rk)), (rr1, .inl (cI, 12, .inl ra)), (rr2, .inl (cI, 12, .inl rb)), (oP, .inr (4, [.ref s0, .ref s1, .ref s2, .ref s3, .ref oN, .ref h2, .long sd])), (s0, .inl (cZ, 40, .inl e0)), (s1, .inl (cZ, 40, .inl e1)), (s2, .inl (cI, 40, .inl e2)), (s3, .inl (cI, 40, .inl e3))] sz) (fun (_ : Unit) => [(oR, .inr (2, [.ref rr0, .ref rr1, .ref rr2, .int rc])), (rr0, .inl (cI, 12, .inl rk)), (rr1, .inl (cI, 12, .inl ra)), (rr2, .inl (cI, 12, .inl rb)), (oP, .inr (4, [.ref s0, .ref s1, .ref s2, .ref s3, .ref oN, .ref h2, .long sd])), (s0, .inl (cZ, 40, .inl e0)), (s1, .inl (cZ, 40, .inl e1)), (s2, .inl (cI, 40, .inl e2)), (s3, .inl (cI, 40, .inl e3))])) (va_A [(oR, .inr (2, [.ref rr0, .ref rr1, .ref rr2, .int rc])), (rr0, .inl (cI, 12, .inl rk)), (rr1, .inl (cI, 12, .inl ra)), (rr2, .inl (cI, 12, .inl rb)), (oP, .inr (4, [.ref s0, .ref s1, .ref s2, .ref s3, .ref oN, .ref h2, .long sd])), (s0, .inl (cZ, 40, .inl e0)), (s1, .inl (cZ, 40, .inl e1)), (s2, .inl (cI, 40, .inl e2)), (s3, .inl (cI, 40, .inl e3))] sz)) 0 0 (va_A [(oR, .inr (2, [.ref rr0, .ref rr1, .ref rr2, .int rc])), (rr0, .inl (cI, 12, .inl rk)), (rr1, .inl (cI, 12, .inl ra)), (rr2, .inl (cI, 12, .inl rb)), (oP, .inr (4, [.ref s0, .ref s1, .ref s2, .ref s3, .ref oN, .ref h2, .long sd])), (s0, .inl (cZ, 40, .inl e0)), (s1, .inl (cZ, 40, .inl e1)), (s2, .inl (cI, 40, .inl e2)), (s3, .inl (cI, 40, .inl e3))] sz) := by
  refine sp_ofW (Qc := fun A => va_Qi (fun (r : Int32) (_ : Unit) => r = kX4_verdict rk ra rb e0 e1 e2 e3 i) (sp_B D vwCl A (fun (_ : Unit) => [(oR, .inr (2, [.ref rr0, .ref rr1, .ref rr2, .int rc])), (rr0, .inl (cI, 12, .inl rk)), (rr1, .inl (cI, 12, .inl ra)), (rr2, .inl (cI, 12, .inl rb)), (oP, .inr (4, [.ref s0, .ref s1, .ref s2, .ref s3, .ref oN, .ref h2, .long sd])), (s0, .inl (cZ, 40, .inl e0)), (s1, .inl (cZ, 40, .inl e1)), (s2, .inl (cI, 40, .inl e2)), (s3, .inl (cI, 40, .inl e3))])) A) (by decide) rfl (Nat.le_of_ble_eq_true rfl) (fun p e s m below meth c A ls H locs C0 hA hS hP hK hD hl => ?_)
  obtain ⟨hx, hb, hr, hts, hown, hlocks, hml, hin⟩ := id C0
  have hown : s.vm.findClass RX4 = some m.cls := hown
  have hl : lv_has ls 3 [(0, .ref oR), (1, .int i), (2, .ref oP)] := hl
  have hK : va_K D vwCl [(cI, .int), (cJ, .long), (cZ, .boolean)] s := hK
  obtain ⟨hc0, hc1, hci⟩ := id hri
  have hR := RI.pt hri hir
  refine lv_aload_n hx hb dX4_verdict_0 rfl (lv_at hl 0 rfl) ?_
  refine va_get (D := D) (ci := 2) (v := .ref rr0) (C := RX4) (T := TX4) (N := 4) hx hb hts iX4_verdict_X4 hown hK hP 0 rfl rfl 0 (by decide) (hts (.fieldLink RX4 9 "FloatSolver$Rules" "kind" "[I") (oX4_verdict_in _ (List.mem_of_getElem? (i := 0) rfl))) (fun _ h9 => h9) rfl dX4_verdict_1 ?_
  refine lv_iload_n hx hb dX4_verdict_4 rfl (lv_at hl 1 rfl) ?_
  refine va_iald hx hb hK hP 1 0 rfl rfl (vp_in_iff.mpr ⟨by omega, by omega⟩) dX4_verdict_5 ?_
  rcases (show ((rk (i : Int32).toNatClampNeg) : Int32).toInt < 0 ∨ 4 < ((rk (i : Int32).toNatClampNeg) : Int32).toInt ∨ ((rk (i : Int32).toNatClampNeg) : Int32).toInt = 0 ∨ ((rk (i : Int32).toNatClampNeg) : Int32).toInt = 1 ∨ ((rk (i : Int32).toNatClampNeg) : Int32).toInt = 2 ∨ ((rk (i : Int32).toNatClampNeg) : Int32).toInt = 3 ∨ ((rk (i : Int32).toNatClampNeg) : Int32).toInt = 4 by omega) with h1 | h1 | h1 | h1 | h1 | h1 | h1
  · skip
    refine lv_tableOut (tgt := 119) hx hb dX4_verdict_6 (Or.inl h1) (by decide) ?_
    refine lv_aload_n hx hb dX4_verdict_119 rfl (lv_at hl 0 rfl) ?_
    refine va_get (D := D) (ci := 2) (v := .ref rr1) (C := RX4) (T := TX4) (N := 4) hx hb hts iX4_verdict_X4 hown hK hP 0 rfl rfl 1 (by decide) (hts (.fieldLink RX4 15 "FloatSolver$Rules" "a" "[I") (oX4_verdict_in _ (List.mem_of_getElem? (i := 1) rfl))) (fun _ h9 => h9) rfl dX4_verdict_120 ?_
    refine lv_iload_n hx hb dX4_verdict_123 rfl (lv_at hl 1 rfl) ?_
    refine va_iald hx hb hK hP 2 0 rfl rfl (vp_in_iff.mpr ⟨by omega, by omega⟩) dX4_verdict_124 ?_
    refine lv_aload_n hx hb dX4_verdict_125 rfl (lv_at hl 2 rfl) ?_
    refine sp_calli (wr := [(oR, .inr (2, [.ref rr0, .ref rr1, .ref rr2, .int rc])), (rr0, .inl (cI, 12, .inl rk)), (rr1, .inl (cI, 12, .inl ra)), (rr2, .inl (cI, 12, .inl rb))]) (wc := [(oP, .inr (4, [.ref s0, .ref s1, .ref s2, .ref s3, .ref oN, .ref h2, .long sd])), (s0, .inl (cZ, 40, .inl e0)), (s1, .inl (cZ, 40, .inl e1)), (s2, .inl (cI, 40, .inl e2)), (s3, .inl (cI, 40, .inl e3))]) hP hD hS hA [4, 5, 6, 7, 8] [0, 1, 2, 3] rfl rfl (by decide) (by decide) (va_runS (As := [.int (ra (i : Int32).toNatClampNeg), .ref oP]) (rest := []) ⟨hx, hb, hml, hown, hts⟩ (c_X4_verdictOfNone l D cI cJ cZ H.size oP s0 s1 s2 s3 oN h2 e0 e1 e2 e3 (ra (i : Int32).toNatClampNeg) sd (by first | omega | assumption)) (va_cwS 2 hts gX4_verdict_X4_verdictOfNone_69 rfl rfl rfl (by decide +kernel) ⟨Nat.le_of_ble_eq_true rfl, Nat.le_of_ble_eq_true rfl⟩) (sp_preS [.int (ra (i : Int32).toNatClampNeg), .ref oP] hK (hP.sub (ws' := [(oP, .inr (4, [.ref s0, .ref s1, .ref s2, .ref s3, .ref oN, .ref h2, .long sd])), (s0, .inl (cZ, 40, .inl e0)), (s1, .inl (cZ, 40, .inl e1)), (s2, .inl (cI, 40, .inl e2)), (s3, .inl (cI, 40, .inl e3))]) [4, 5, 6, 7, 8] rfl) (hD.sub (ws' := [(oP, .inr (4, [.ref s0, .ref s1, .ref s2, .ref s3, .ref oN, .ref h2, .long sd])), (s0, .inl (cZ, 40, .inl e0)), (s1, .inl (cZ, 40, .inl e1)), (s2, .inl (cI, 40, .inl e2)), (s3, .inl (cI, 40, .inl e3))]) [4, 5, 6, 7, 8] (by decide) rfl)) rfl rfl hl.1 rfl (lv_room (Nat.le_of_ble_eq_true rfl)) dX4_verdict_126 ⟨Nat.le_of_ble_eq_true rfl, Nat.le_of_ble_eq_true rfl⟩) (fun r2 u3 H locs hw4 hP hD hS => ?_)
    have hq_4_0 : r2 = (kX4_verdictOfNone e0 e1 e2 e3 (ra (i : Int32).toNatClampNeg)) := hw4
    subst r2
    have hP : va_P D vwCl [(oR, .inr (2, [.ref rr0, .ref rr1, .ref rr2, .int rc])), (rr0, .inl (cI, 12, .inl rk)), (rr1, .inl (cI, 12, .inl ra)), (rr2, .inl (cI, 12, .inl rb)), (oP, .inr (4, [.ref s0, .ref s1, .ref s2, .ref s3, .ref oN, .ref h2, .long sd])), (s0, .inl (cZ, 40, .inl e0)), (s1, .inl (cZ, 40, .inl e1)), (s2, .inl (cI, 40, .inl e2)), (s3, .inl (cI, 40, .inl e3))] H := hP
    have hD : va_D A [(oR, .inr (2, [.ref rr0, .ref rr1, .ref rr2, .int rc])), (rr0, .inl (cI, 12, .inl rk)), (rr1, .inl (cI, 12, .inl ra)), (rr2, .inl (cI, 12, .inl rb)), (oP, .inr (4, [.ref s0, .ref s1, .ref s2, .ref s3, .ref oN, .ref h2, .long sd])), (s0, .inl (cZ, 40, .inl e0)), (s1, .inl (cZ, 40, .inl e1)), (s2, .inl (cI, 40, .inl e2)), (s3, .inl (cI, 40, .inl e3))] := hD
    refine sp_calli (wr := [(oR, .inr (2, [.ref rr0, .ref rr1, .ref rr2, .int rc])), (rr0, .inl (cI, 12, .inl rk)), (rr1, .inl (cI, 12, .inl ra)), (rr2, .inl (cI, 12, .inl rb)), (oP, .inr (4, [.ref s0, .ref s1, .ref s2, .ref s3, .ref oN, .ref h2, .long sd])), (s0, .inl (cZ, 40, .inl e0)), (s1, .inl (cZ, 40, .inl e1)), (s2, .inl (cI, 40, .inl e2)), (s3, .inl (cI, 40, .inl e3))]) (wc := []) hP hD hS hA [] [0, 1, 2, 3, 4, 5, 6, 7, 8] rfl rfl (by decide) (by decide) (va_runS (As := [.int (kX4_verdictOfNone e0 e1 e2 e3 (ra (i : Int32).toNatClampNeg))]) (rest := []) ⟨hx, hb, hml, hown, hts⟩ (c_X4_turned l D cI cJ cZ H.size (kX4_verdictOfNone e0 e1 e2 e3 (ra (i : Int32).toNatClampNeg))) (va_cwS 1 hts gX4_verdict_X4_turned_66 rfl rfl rfl (by decide +kernel) ⟨Nat.le_of_ble_eq_true rfl, Nat.le_of_ble_eq_true rfl⟩) (sp_preS [.int (kX4_verdictOfNone e0 e1 e2 e3 (ra (i : Int32).toNatClampNeg))] hK (hP.sub (ws' := []) [] rfl) (hD.sub (ws' := []) [] (by decide) rfl)) rfl rfl hl.1 rfl (lv_room (Nat.le_of_ble_eq_true rfl)) dX4_verdict_129 ⟨Nat.le_of_ble_eq_true rfl, Nat.le_of_ble_eq_true rfl⟩) (fun r5 u6 H locs hw7 hP hD hS => ?_)
    have hq_7_0 : r5 = (kX4_turned (kX4_verdictOfNone e0 e1 e2 e3 (ra (i : Int32).toNatClampNeg))) := hw7
    subst r5
    have hP : va_P D vwCl [(oR, .inr (2, [.ref rr0, .ref rr1, .ref rr2, .int rc])), (rr0, .inl (cI, 12, .inl rk)), (rr1, .inl (cI, 12, .inl ra)), (rr2, .inl (cI, 12, .inl rb)), (oP, .inr (4, [.ref s0, .ref s1, .ref s2, .ref s3, .ref oN, .ref h2, .long sd])), (s0, .inl (cZ, 40, .inl e0)), (s1, .inl (cZ, 40, .inl e1)), (s2, .inl (cI, 40, .inl e2)), (s3, .inl (cI, 40, .inl e3))] H := hP
    have hD : va_D A [(oR, .inr (2, [.ref rr0, .ref rr1, .ref rr2, .int rc])), (rr0, .inl (cI, 12, .inl rk)), (rr1, .inl (cI, 12, .inl ra)), (rr2, .inl (cI, 12, .inl rb)), (oP, .inr (4, [.ref s0, .ref s1, .ref s2, .ref s3, .ref oN, .ref h2, .long sd])), (s0, .inl (cZ, 40, .inl e0)), (s1, .inl (cZ, 40, .inl e1)), (s2, .inl (cI, 40, .inl e2)), (s3, .inl (cI, 40, .inl e3))] := hD
    refine W.widen (k := 0) (n := 0) (by decide) (by decide) ?_
    exact sp_iret (u := ()) hx hb hr hlocks hS (Eq.symm ((if_pos h1).trans rfl)) (hP.sub [0, 1, 2, 3, 4, 5, 6, 7, 8] rfl) (hD.sub [0, 1, 2, 3, 4, 5, 6, 7, 8] (by decide) rfl) dX4_verdict_132
  · skip
    refine lv_tableOut (tgt := 119) hx hb dX4_verdict_6 (Or.inr h1) (by decide) ?_
    refine lv_aload_n hx hb dX4_verdict_119 rfl (lv_at hl 0 rfl) ?_
    refine va_get (D := D) (ci := 2) (v := .ref rr1) (C := RX4) (T := TX4) (N := 4) hx hb hts iX4_verdict_X4 hown hK hP 0 rfl rfl 1 (by decide) (hts (.fieldLink RX4 15 "FloatSolver$Rules" "a" "[I") (oX4_verdict_in _ (List.mem_of_getElem? (i := 1) rfl))) (fun _ h9 => h9) rfl dX4_verdict_120 ?_
    refine lv_iload_n hx hb dX4_verdict_123 rfl (lv_at hl 1 rfl) ?_
    refine va_iald hx hb hK hP 2 0 rfl rfl (vp_in_iff.mpr ⟨by omega, by omega⟩) dX4_verdict_124 ?_
    refine lv_aload_n hx hb dX4_verdict_125 rfl (lv_at hl 2 rfl) ?_
    refine sp_calli (wr := [(oR, .inr (2, [.ref rr0, .ref rr1, .ref rr2, .int rc])), (rr0, .inl (cI, 12, .inl rk)), (rr1, .inl (cI, 12, .inl ra)), (rr2, .inl (cI, 12, .inl rb))]) (wc := [(oP, .inr (4, [.ref s0, .ref s1, .ref s2, .ref s3, .ref oN, .ref h2, .long sd])), (s0, .inl (cZ, 40, .inl e0)), (s1, .inl (cZ, 40, .inl e1)), (s2, .inl (cI, 40, .inl e2)), (s3, .inl (cI, 40, .inl e3))]) hP hD hS hA [4, 5, 6, 7, 8] [0, 1, 2, 3] rfl rfl (by decide) (by decide) (va_runS (As := [.int (ra (i : Int32).toNatClampNeg), .ref oP]) (rest := []) ⟨hx, hb, hml, hown, hts⟩ (c_X4_verdictOfNone l D cI cJ cZ H.size oP s0 s1 s2 s3 oN h2 e0 e1 e2 e3 (ra (i : Int32).toNatClampNeg) sd (by first | omega | assumption)) (va_cwS 2 hts gX4_verdict_X4_verdictOfNone_69 rfl rfl rfl (by decide +kernel) ⟨Nat.le_of_ble_eq_true rfl, Nat.le_of_ble_eq_true rfl⟩) (sp_preS [.int (ra (i : Int32).toNatClampNeg), .ref oP] hK (hP.sub (ws' := [(oP, .inr (4, [.ref s0, .ref s1, .ref s2, .ref s3, .ref oN, .ref h2, .long sd])), (s0, .inl (cZ, 40, .inl e0)), (s1, .inl (cZ, 40, .inl e1)), (s2, .inl (cI, 40, .inl e2)), (s3, .inl (cI, 40, .inl e3))]) [4, 5, 6, 7, 8] rfl) (hD.sub (ws' := [(oP, .inr (4, [.ref s0, .ref s1, .ref s2, .ref s3, .ref oN, .ref h2, .long sd])), (s0, .inl (cZ, 40, .inl e0)), (s1, .inl (cZ, 40, .inl e1)), (s2, .inl (cI, 40, .inl e2)), (s3, .inl (cI, 40, .inl e3))]) [4, 5, 6, 7, 8] (by decide) rfl)) rfl rfl hl.1 rfl (lv_room (Nat.le_of_ble_eq_true rfl)) dX4_verdict_126 ⟨Nat.le_of_ble_eq_true rfl, Nat.le_of_ble_eq_true rfl⟩) (fun r8 u9 H locs hw10 hP hD hS => ?_)
    have hq_10_0 : r8 = (kX4_verdictOfNone e0 e1 e2 e3 (ra (i : Int32).toNatClampNeg)) := hw10
    subst r8
    have hP : va_P D vwCl [(oR, .inr (2, [.ref rr0, .ref rr1, .ref rr2, .int rc])), (rr0, .inl (cI, 12, .inl rk)), (rr1, .inl (cI, 12, .inl ra)), (rr2, .inl (cI, 12, .inl rb)), (oP, .inr (4, [.ref s0, .ref s1, .ref s2, .ref s3, .ref oN, .ref h2, .long sd])), (s0, .inl (cZ, 40, .inl e0)), (s1, .inl (cZ, 40, .inl e1)), (s2, .inl (cI, 40, .inl e2)), (s3, .inl (cI, 40, .inl e3))] H := hP
    have hD : va_D A [(oR, .inr (2, [.ref rr0, .ref rr1, .ref rr2, .int rc])), (rr0, .inl (cI, 12, .inl rk)), (rr1, .inl (cI, 12, .inl ra)), (rr2, .inl (cI, 12, .inl rb)), (oP, .inr (4, [.ref s0, .ref s1, .ref s2, .ref s3, .ref oN, .ref h2, .long sd])), (s0, .inl (cZ, 40, .inl e0)), (s1, .inl (cZ, 40, .inl e1)), (s2, .inl (cI, 40, .inl e2)), (s3, .inl (cI, 40, .inl e3))] := hD
    refine sp_calli (wr := [(oR, .inr (2, [.ref rr0, .ref rr1, .ref rr2, .int rc])), (rr0, .inl (cI, 12, .inl rk)), (rr1, .inl (cI, 12, .inl ra)), (rr2, .inl (cI, 12, .inl rb)), (oP, .inr (4, [.ref s0, .ref s1, .ref s2, .ref s3, .ref oN, .ref h2, .long sd])), (s0, .inl (cZ, 40, .inl e0)), (s1, .inl (cZ, 40, .inl e1)), (s2, .inl (cI, 40, .inl e2)), (s3, .inl (cI, 40, .inl e3))]) (wc := []) hP hD hS hA [] [0, 1, 2, 3, 4, 5, 6, 7, 8] rfl rfl (by decide) (by decide) (va_runS (As := [.int (kX4_verdictOfNone e0 e1 e2 e3 (ra (i : Int32).toNatClampNeg))]) (rest := []) ⟨hx, hb, hml, hown, hts⟩ (c_X4_turned l D cI cJ cZ H.size (kX4_verdictOfNone e0 e1 e2 e3 (ra (i : Int32).toNatClampNeg))) (va_cwS 1 hts gX4_verdict_X4_turned_66 rfl rfl rfl (by decide +kernel) ⟨Nat.le_of_ble_eq_true rfl, Nat.le_of_ble_eq_true rfl⟩) (sp_preS [.int (kX4_verdictOfNone e0 e1 e2 e3 (ra (i : Int32).toNatClampNeg))] hK (hP.sub (ws' := []) [] rfl) (hD.sub (ws' := []) [] (by decide) rfl)) rfl rfl hl.1 rfl (lv_room (Nat.le_of_ble_eq_true rfl)) dX4_verdict_129 ⟨Nat.le_of_ble_eq_true rfl, Nat.le_of_ble_eq_true rfl⟩) (fun r11 u12 H locs hw13 hP hD hS => ?_)
    have hq_13_0 : r11 = (kX4_turned (kX4_verdictOfNone e0 e1 e2 e3 (ra (i : Int32).toNatClampNeg))) := hw13
    subst r11
    have hP : va_P D vwCl [(oR, .inr (2, [.ref rr0, .ref rr1, .ref rr2, .int rc])), (rr0, .inl (cI, 12, .inl rk)), (rr1, .inl (cI, 12, .inl ra)), (rr2, .inl (cI, 12, .inl rb)), (oP, .inr (4, [.ref s0, .ref s1, .ref s2, .ref s3, .ref oN, .ref h2, .long sd])), (s0, .inl (cZ, 40, .inl e0)), (s1, .inl (cZ, 40, .inl e1)), (s2, .inl (cI, 40, .inl e2)), (s3, .inl (cI, 40, .inl e3))] H := hP
    have hD : va_D A [(oR, .inr (2, [.ref rr0, .ref rr1, .ref rr2, .int rc])), (rr0, .inl (cI, 12, .inl rk)), (rr1, .inl (cI, 12, .inl ra)), (rr2, .inl (cI, 12, .inl rb)), (oP, .inr (4, [.ref s0, .ref s1, .ref s2, .ref s3, .ref oN, .ref h2, .long sd])), (s0, .inl (cZ, 40, .inl e0)), (s1, .inl (cZ, 40, .inl e1)), (s2, .inl (cI, 40, .inl e2)), (s3, .inl (cI, 40, .inl e3))] := hD
    refine W.widen (k := 0) (n := 0) (by decide) (by decide) ?_
    exact sp_iret (u := ()) hx hb hr hlocks hS (Eq.symm ((if_neg (show ¬ (((rk (i : Int32).toNatClampNeg) : Int32).toInt < 0) by omega)).trans ((if_pos h1).trans rfl))) (hP.sub [0, 1, 2, 3, 4, 5, 6, 7, 8] rfl) (hD.sub [0, 1, 2, 3, 4, 5, 6, 7, 8] (by decide) rfl) dX4_verdict_132
  · skip
    refine lv_tableIn (off := 34) (tgt := 40) hx hb dX4_verdict_6 (by omega) (by omega) (by rw [h1]; rfl) (by decide) ?_
    refine lv_aload_n hx hb dX4_verdict_40 rfl (lv_at hl 0 rfl) ?_
    refine va_get (D := D) (ci := 2) (v := .ref rr0) (C := RX4) (T := TX4) (N := 4) hx hb hts iX4_verdict_X4 hown hK hP 0 rfl rfl 0 (by decide) (hts (.fieldLink RX4 9 "FloatSolver$Rules" "kind" "[I") (oX4_verdict_in _ (List.mem_of_getElem? (i := 0) rfl))) (fun _ h9 => h9) rfl dX4_verdict_41 ?_
    refine lv_iload_n hx hb dX4_verdict_44 rfl (lv_at hl 1 rfl) ?_
    refine va_iald hx hb hK hP 1 0 rfl rfl (vp_in_iff.mpr ⟨by omega, by omega⟩) dX4_verdict_45 ?_
    have hj18 : ∀ (z17 : Int32) (H : Heap) (locs : List Loc) (ls : Array Slot), (z17 = kX4_verdict_54_z17 rk ra rb e0 e1 e2 e3 i) → va_P D vwCl [(oR, .inr (2, [.ref rr0, .ref rr1, .ref rr2, .int rc])), (rr0, .inl (cI, 12, .inl rk)), (rr1, .inl (cI, 12, .inl ra)), (rr2, .inl (cI, 12, .inl rb)), (oP, .inr (4, [.ref s0, .ref s1, .ref s2, .ref s3, .ref oN, .ref h2, .long sd])), (s0, .inl (cZ, 40, .inl e0)), (s1, .inl (cZ, 40, .inl e1)), (s2, .inl (cI, 40, .inl e2)), (s3, .inl (cI, 40, .inl e3))] H → va_D A [(oR, .inr (2, [.ref rr0, .ref rr1, .ref rr2, .int rc])), (rr0, .inl (cI, 12, .inl rk)), (rr1, .inl (cI, 12, .inl ra)), (rr2, .inl (cI, 12, .inl rb)), (oP, .inr (4, [.ref s0, .ref s1, .ref s2, .ref s3, .ref oN, .ref h2, .long sd])), (s0, .inl (cZ, 40, .inl e0)), (s1, .inl (cZ, 40, .inl e1)), (s2, .inl (cI, 40, .inl e2)), (s3, .inl (cI, 40, .inl e3))] → va_S A s.heap H locs → lv_has ls 3 [(0, .ref oR), (1, .int i), (2, .ref oP)] → W p l e ({ frames := 2, cells := 0, slots := 0, locals := 47 }) s m (([.ref oR, .int i, .ref oP] : List Value).toArray) below meth c H locs 0 0 (MQ below (va_Qi (fun (r : Int32) (_ : Unit) => r = kX4_verdict rk ra rb e0 e1 e2 e3 i) (sp_B D vwCl A (fun (_ : Unit) => [(oR, .inr (2, [.ref rr0, .ref rr1, .ref rr2, .int rc])), (rr0, .inl (cI, 12, .inl rk)), (rr1, .inl (cI, 12, .inl ra)), (rr2, .inl (cI, 12, .inl rb)), (oP, .inr (4, [.ref s0, .ref s1, .ref s2, .ref s3, .ref oN, .ref h2, .long sd])), (s0, .inl (cZ, 40, .inl e0)), (s1, .inl (cZ, 40, .inl e1)), (s2, .inl (cI, 40, .inl e2)), (s3, .inl (cI, 40, .inl e3))])) A) ([.ref oR, .int i, .ref oP] : List Value).toArray s 0 0 A) (F0 m 54 ls [.int z17]) := by
      intro z17 H locs ls hz17 hP hD hS hl
      subst z17
      refine lv_aload_n hx hb dX4_verdict_54 rfl (lv_at hl 0 rfl) ?_
      refine va_get (D := D) (ci := 2) (v := .ref rr1) (C := RX4) (T := TX4) (N := 4) hx hb hts iX4_verdict_X4 hown hK hP 0 rfl rfl 1 (by decide) (hts (.fieldLink RX4 15 "FloatSolver$Rules" "a" "[I") (oX4_verdict_in _ (List.mem_of_getElem? (i := 1) rfl))) (fun _ h9 => h9) rfl dX4_verdict_55 ?_
      refine lv_iload_n hx hb dX4_verdict_58 rfl (lv_at hl 1 rfl) ?_
      refine va_iald hx hb hK hP 2 0 rfl rfl (vp_in_iff.mpr ⟨by omega, by omega⟩) dX4_verdict_59 ?_
      refine lv_aload_n hx hb dX4_verdict_60 rfl (lv_at hl 0 rfl) ?_
      refine va_get (D := D) (ci := 2) (v := .ref rr2) (C := RX4) (T := TX4) (N := 4) hx hb hts iX4_verdict_X4 hown hK hP 0 rfl rfl 2 (by decide) (hts (.fieldLink RX4 18 "FloatSolver$Rules" "b" "[I") (oX4_verdict_in _ (List.mem_of_getElem? (i := 2) rfl))) (fun _ h9 => h9) rfl dX4_verdict_61 ?_
      refine lv_iload_n hx hb dX4_verdict_64 rfl (lv_at hl 1 rfl) ?_
      refine va_iald hx hb hK hP 3 0 rfl rfl (vp_in_iff.mpr ⟨by omega, by omega⟩) dX4_verdict_65 ?_
      refine lv_aload_n hx hb dX4_verdict_66 rfl (lv_at hl 2 rfl) ?_
      refine sp_calli (wr := [(oR, .inr (2, [.ref rr0, .ref rr1, .ref rr2, .int rc])), (rr0, .inl (cI, 12, .inl rk)), (rr1, .inl (cI, 12, .inl ra)), (rr2, .inl (cI, 12, .inl rb))]) (wc := [(oP, .inr (4, [.ref s0, .ref s1, .ref s2, .ref s3, .ref oN, .ref h2, .long sd])), (s0, .inl (cZ, 40, .inl e0)), (s1, .inl (cZ, 40, .inl e1)), (s2, .inl (cI, 40, .inl e2)), (s3, .inl (cI, 40, .inl e3))]) hP hD hS hA [4, 5, 6, 7, 8] [0, 1, 2, 3] rfl rfl (by decide) (by decide) (va_runS (As := [.int (kX4_verdict_54_z17 rk ra rb e0 e1 e2 e3 i), .int (ra (i : Int32).toNatClampNeg), .int (rb (i : Int32).toNatClampNeg), .ref oP]) (rest := []) ⟨hx, hb, hml, hown, hts⟩ (c_X4_verdictOfOrder l D cI cJ cZ H.size oP s0 s1 s2 s3 oN h2 e0 e1 e2 e3 (kX4_verdict_54_z17 rk ra rb e0 e1 e2 e3 i) (ra (i : Int32).toNatClampNeg) (rb (i : Int32).toNatClampNeg) sd (by first | omega | assumption) (by first | omega | assumption)) (va_cwS 4 hts gX4_verdict_X4_verdictOfOrder_58 rfl rfl rfl (by decide +kernel) ⟨Nat.le_of_ble_eq_true rfl, Nat.le_of_ble_eq_true rfl⟩) (sp_preS [.int (kX4_verdict_54_z17 rk ra rb e0 e1 e2 e3 i), .int (ra (i : Int32).toNatClampNeg), .int (rb (i : Int32).toNatClampNeg), .ref oP] hK (hP.sub (ws' := [(oP, .inr (4, [.ref s0, .ref s1, .ref s2, .ref s3, .ref oN, .ref h2, .long sd])), (s0, .inl (cZ, 40, .inl e0)), (s1, .inl (cZ, 40, .inl e1)), (s2, .inl (cI, 40, .inl e2)), (s3, .inl (cI, 40, .inl e3))]) [4, 5, 6, 7, 8] rfl) (hD.sub (ws' := [(oP, .inr (4, [.ref s0, .ref s1, .ref s2, .ref s3, .ref oN, .ref h2, .long sd])), (s0, .inl (cZ, 40, .inl e0)), (s1, .inl (cZ, 40, .inl e1)), (s2, .inl (cI, 40, .inl e2)), (s3, .inl (cI, 40, .inl e3))]) [4, 5, 6, 7, 8] (by decide) rfl)) rfl rfl hl.1 rfl (lv_room (Nat.le_of_ble_eq_true rfl)) dX4_verdict_67 ⟨Nat.le_of_ble_eq_true rfl, Nat.le_of_ble_eq_true rfl⟩) (fun r19 u20 H locs hw21 hP hD hS => ?_)
      have hq_21_0 : r19 = (kX4_verdictOfOrder e0 e1 e2 e3 (kX4_verdict_54_z17 rk ra rb e0 e1 e2 e3 i) (ra (i : Int32).toNatClampNeg) (rb (i : Int32).toNatClampNeg)) := hw21
      subst r19
      have hP : va_P D vwCl [(oR, .inr (2, [.ref rr0, .ref rr1, .ref rr2, .int rc])), (rr0, .inl (cI, 12, .inl rk)), (rr1, .inl (cI, 12, .inl ra)), (rr2, .inl (cI, 12, .inl rb)), (oP, .inr (4, [.ref s0, .ref s1, .ref s2, .ref s3, .ref oN, .ref h2, .long sd])), (s0, .inl (cZ, 40, .inl e0)), (s1, .inl (cZ, 40, .inl e1)), (s2, .inl (cI, 40, .inl e2)), (s3, .inl (cI, 40, .inl e3))] H := hP
      have hD : va_D A [(oR, .inr (2, [.ref rr0, .ref rr1, .ref rr2, .int rc])), (rr0, .inl (cI, 12, .inl rk)), (rr1, .inl (cI, 12, .inl ra)), (rr2, .inl (cI, 12, .inl rb)), (oP, .inr (4, [.ref s0, .ref s1, .ref s2, .ref s3, .ref oN, .ref h2, .long sd])), (s0, .inl (cZ, 40, .inl e0)), (s1, .inl (cZ, 40, .inl e1)), (s2, .inl (cI, 40, .inl e2)), (s3, .inl (cI, 40, .inl e3))] := hD
      refine W.widen (k := 0) (n := 0) (by decide) (by decide) ?_
      exact sp_iret (u := ()) hx hb hr hlocks hS (Eq.symm ((if_neg (show ¬ (((rk (i : Int32).toNatClampNeg) : Int32).toInt < 0) by omega)).trans ((if_neg (show ¬ (4 < ((rk (i : Int32).toNatClampNeg) : Int32).toInt) by omega)).trans ((if_pos h1).trans rfl)))) (hP.sub [0, 1, 2, 3, 4, 5, 6, 7, 8] rfl) (hD.sub [0, 1, 2, 3, 4, 5, 6, 7, 8] (by decide) rfl) dX4_verdict_70
    refine lv_if_ne (tgt := 53) hx hb dX4_verdict_46 (by decide) (fun c14 => ?_) (fun c14 => ?_)
    · skip
      have c14i : ¬ ((rk (i : Int32).toNatClampNeg) : Int32).toInt = 0 := fun h => c14 (Int32.toInt_inj.mp h)
      refine lv_iconst (v := 0) hx hb dX4_verdict_53 (by decide) ?_
      exact hj18 (0) _ _ _ (Eq.symm ((if_neg c14i).trans rfl)) (hP.sub [0, 1, 2, 3, 4, 5, 6, 7, 8] rfl) (hD.sub [0, 1, 2, 3, 4, 5, 6, 7, 8] (by decide) rfl) hS (lv_sub hl [0, 1, 2] rfl)
    · skip
      have c14i : ((rk (i : Int32).toNatClampNeg) : Int32).toInt = 0 := congrArg Int32.toInt c14
      refine lv_iconst (v := 1) hx hb dX4_verdict_49 (by decide) ?_
      refine lv_goto (tgt := 54) hx hb dX4_verdict_50 (by decide) ?_
      exact hj18 (1) _ _ _ (Eq.symm ((if_pos c14i).trans rfl)) (hP.sub [0, 1, 2, 3, 4, 5, 6, 7, 8] rfl) (hD.sub [0, 1, 2, 3, 4, 5, 6, 7, 8] (by decide) rfl) hS (lv_sub hl [0, 1, 2] rfl)
  · skip
    refine lv_tableIn (off := 34) (tgt := 40) hx hb dX4_verdict_6 (by omega) (by omega) (by rw [h1]; rfl) (by decide) ?_
    refine lv_aload_n hx hb dX4_verdict_40 rfl (lv_at hl 0 rfl) ?_
    refine va_get (D := D) (ci := 2) (v := .ref rr0) (C := RX4) (T := TX4) (N := 4) hx hb hts iX4_verdict_X4 hown hK hP 0 rfl rfl 0 (by decide) (hts (.fieldLink RX4 9 "FloatSolver$Rules" "kind" "[I") (oX4_verdict_in _ (List.mem_of_getElem? (i := 0) rfl))) (fun _ h9 => h9) rfl dX4_verdict_41 ?_
    refine lv_iload_n hx hb dX4_verdict_44 rfl (lv_at hl 1 rfl) ?_
    refine va_iald hx hb hK hP 1 0 rfl rfl (vp_in_iff.mpr ⟨by omega, by omega⟩) dX4_verdict_45 ?_
    have hj26 : ∀ (z25 : Int32) (H : Heap) (locs : List Loc) (ls : Array Slot), (z25 = kX4_verdict_54_z17 rk ra rb e0 e1 e2 e3 i) → va_P D vwCl [(oR, .inr (2, [.ref rr0, .ref rr1, .ref rr2, .int rc])), (rr0, .inl (cI, 12, .inl rk)), (rr1, .inl (cI, 12, .inl ra)), (rr2, .inl (cI, 12, .inl rb)), (oP, .inr (4, [.ref s0, .ref s1, .ref s2, .ref s3, .ref oN, .ref h2, .long sd])), (s0, .inl (cZ, 40, .inl e0)), (s1, .inl (cZ, 40, .inl e1)), (s2, .inl (cI, 40, .inl e2)), (s3, .inl (cI, 40, .inl e3))] H → va_D A [(oR, .inr (2, [.ref rr0, .ref rr1, .ref rr2, .int rc])), (rr0, .inl (cI, 12, .inl rk)), (rr1, .inl (cI, 12, .inl ra)), (rr2, .inl (cI, 12, .inl rb)), (oP, .inr (4, [.ref s0, .ref s1, .ref s2, .ref s3, .ref oN, .ref h2, .long sd])), (s0, .inl (cZ, 40, .inl e0)), (s1, .inl (cZ, 40, .inl e1)), (s2, .inl (cI, 40, .inl e2)), (s3, .inl (cI, 40, .inl e3))] → va_S A s.heap H locs → lv_has ls 3 [(0, .ref oR), (1, .int i), (2, .ref oP)] → W p l e ({ frames := 2, cells := 0, slots := 0, locals := 47 }) s m (([.ref oR, .int i, .ref oP] : List Value).toArray) below meth c H locs 0 0 (MQ below (va_Qi (fun (r : Int32) (_ : Unit) => r = kX4_verdict rk ra rb e0 e1 e2 e3 i) (sp_B D vwCl A (fun (_ : Unit) => [(oR, .inr (2, [.ref rr0, .ref rr1, .ref rr2, .int rc])), (rr0, .inl (cI, 12, .inl rk)), (rr1, .inl (cI, 12, .inl ra)), (rr2, .inl (cI, 12, .inl rb)), (oP, .inr (4, [.ref s0, .ref s1, .ref s2, .ref s3, .ref oN, .ref h2, .long sd])), (s0, .inl (cZ, 40, .inl e0)), (s1, .inl (cZ, 40, .inl e1)), (s2, .inl (cI, 40, .inl e2)), (s3, .inl (cI, 40, .inl e3))])) A) ([.ref oR, .int i, .ref oP] : List Value).toArray s 0 0 A) (F0 m 54 ls [.int z25]) := by
      intro z25 H locs ls hz25 hP hD hS hl
      subst z25
      refine lv_aload_n hx hb dX4_verdict_54 rfl (lv_at hl 0 rfl) ?_
      refine va_get (D := D) (ci := 2) (v := .ref rr1) (C := RX4) (T := TX4) (N := 4) hx hb hts iX4_verdict_X4 hown hK hP 0 rfl rfl 1 (by decide) (hts (.fieldLink RX4 15 "FloatSolver$Rules" "a" "[I") (oX4_verdict_in _ (List.mem_of_getElem? (i := 1) rfl))) (fun _ h9 => h9) rfl dX4_verdict_55 ?_
      refine lv_iload_n hx hb dX4_verdict_58 rfl (lv_at hl 1 rfl) ?_
      refine va_iald hx hb hK hP 2 0 rfl rfl (vp_in_iff.mpr ⟨by omega, by omega⟩) dX4_verdict_59 ?_
      refine lv_aload_n hx hb dX4_verdict_60 rfl (lv_at hl 0 rfl) ?_
      refine va_get (D := D) (ci := 2) (v := .ref rr2) (C := RX4) (T := TX4) (N := 4) hx hb hts iX4_verdict_X4 hown hK hP 0 rfl rfl 2 (by decide) (hts (.fieldLink RX4 18 "FloatSolver$Rules" "b" "[I") (oX4_verdict_in _ (List.mem_of_getElem? (i := 2) rfl))) (fun _ h9 => h9) rfl dX4_verdict_61 ?_
      refine lv_iload_n hx hb dX4_verdict_64 rfl (lv_at hl 1 rfl) ?_
      refine va_iald hx hb hK hP 3 0 rfl rfl (vp_in_iff.mpr ⟨by omega, by omega⟩) dX4_verdict_65 ?_
      refine lv_aload_n hx hb dX4_verdict_66 rfl (lv_at hl 2 rfl) ?_
      refine sp_calli (wr := [(oR, .inr (2, [.ref rr0, .ref rr1, .ref rr2, .int rc])), (rr0, .inl (cI, 12, .inl rk)), (rr1, .inl (cI, 12, .inl ra)), (rr2, .inl (cI, 12, .inl rb))]) (wc := [(oP, .inr (4, [.ref s0, .ref s1, .ref s2, .ref s3, .ref oN, .ref h2, .long sd])), (s0, .inl (cZ, 40, .inl e0)), (s1, .inl (cZ, 40, .inl e1)), (s2, .inl (cI, 40, .inl e2)), (s3, .inl (cI, 40, .inl e3))]) hP hD hS hA [4, 5, 6, 7, 8] [0, 1, 2, 3] rfl rfl (by decide) (by decide) (va_runS (As := [.int (kX4_verdict_54_z17 rk ra rb e0 e1 e2 e3 i), .int (ra (i : Int32).toNatClampNeg), .int (rb (i : Int32).toNatClampNeg), .ref oP]) (rest := []) ⟨hx, hb, hml, hown, hts⟩ (c_X4_verdictOfOrder l D cI cJ cZ H.size oP s0 s1 s2 s3 oN h2 e0 e1 e2 e3 (kX4_verdict_54_z17 rk ra rb e0 e1 e2 e3 i) (ra (i : Int32).toNatClampNeg) (rb (i : Int32).toNatClampNeg) sd (by first | omega | assumption) (by first | omega | assumption)) (va_cwS 4 hts gX4_verdict_X4_verdictOfOrder_58 rfl rfl rfl (by decide +kernel) ⟨Nat.le_of_ble_eq_true rfl, Nat.le_of_ble_eq_true rfl⟩) (sp_preS [.int (kX4_verdict_54_z17 rk ra rb e0 e1 e2 e3 i), .int (ra (i : Int32).toNatClampNeg), .int (rb (i : Int32).toNatClampNeg), .ref oP] hK (hP.sub (ws' := [(oP, .inr (4, [.ref s0, .ref s1, .ref s2, .ref s3, .ref oN, .ref h2, .long sd])), (s0, .inl (cZ, 40, .inl e0)), (s1, .inl (cZ, 40, .inl e1)), (s2, .inl (cI, 40, .inl e2)), (s3, .inl (cI, 40, .inl e3))]) [4, 5, 6, 7, 8] rfl) (hD.sub (ws' := [(oP, .inr (4, [.ref s0, .ref s1, .ref s2, .ref s3, .ref oN, .ref h2, .long sd])), (s0, .inl (cZ, 40, .inl e0)), (s1, .inl (cZ, 40, .inl e1)), (s2, .inl (cI, 40, .inl e2)), (s3, .inl (cI, 40, .inl e3))]) [4, 5, 6, 7, 8] (by decide) rfl)) rfl rfl hl.1 rfl (lv_room (Nat.le_of_ble_eq_true rfl)) dX4_verdict_67 ⟨Nat.le_of_ble_eq_true rfl, Nat.le_of_ble_eq_true rfl⟩) (fun r27 u28 H locs hw29 hP hD hS => ?_)
      have hq_29_0 : r27 = (kX4_verdictOfOrder e0 e1 e2 e3 (kX4_verdict_54_z17 rk ra rb e0 e1 e2 e3 i) (ra (i : Int32).toNatClampNeg) (rb (i : Int32).toNatClampNeg)) := hw29
      subst r27
      have hP : va_P D vwCl [(oR, .inr (2, [.ref rr0, .ref rr1, .ref rr2, .int rc])), (rr0, .inl (cI, 12, .inl rk)), (rr1, .inl (cI, 12, .inl ra)), (rr2, .inl (cI, 12, .inl rb)), (oP, .inr (4, [.ref s0, .ref s1, .ref s2, .ref s3, .ref oN, .ref h2, .long sd])), (s0, .inl (cZ, 40, .inl e0)), (s1, .inl (cZ, 40, .inl e1)), (s2, .inl (cI, 40, .inl e2)), (s3, .inl (cI, 40, .inl e3))] H := hP
      have hD : va_D A [(oR, .inr (2, [.ref rr0, .ref rr1, .ref rr2, .int rc])), (rr0, .inl (cI, 12, .inl rk)), (rr1, .inl (cI, 12, .inl ra)), (rr2, .inl (cI, 12, .inl rb)), (oP, .inr (4, [.ref s0, .ref s1, .ref s2, .ref s3, .ref oN, .ref h2, .long sd])), (s0, .inl (cZ, 40, .inl e0)), (s1, .inl (cZ, 40, .inl e1)), (s2, .inl (cI, 40, .inl e2)), (s3, .inl (cI, 40, .inl e3))] := hD
      refine W.widen (k := 0) (n := 0) (by decide) (by decide) ?_
      exact sp_iret (u := ()) hx hb hr hlocks hS (Eq.symm ((if_neg (show ¬ (((rk (i : Int32).toNatClampNeg) : Int32).toInt < 0) by omega)).trans ((if_neg (show ¬ (4 < ((rk (i : Int32).toNatClampNeg) : Int32).toInt) by omega)).trans ((if_neg (show ¬ (((rk (i : Int32).toNatClampNeg) : Int32).toInt = 0) by omega)).trans ((if_pos h1).trans rfl))))) (hP.sub [0, 1, 2, 3, 4, 5, 6, 7, 8] rfl) (hD.sub [0, 1, 2, 3, 4, 5, 6, 7, 8] (by decide) rfl) dX4_verdict_70
    refine lv_if_ne (tgt := 53) hx hb dX4_verdict_46 (by decide) (fun c22 => ?_) (fun c22 => ?_)
    · skip
      have c22i : ¬ ((rk (i : Int32).toNatClampNeg) : Int32).toInt = 0 := fun h => c22 (Int32.toInt_inj.mp h)
      refine lv_iconst (v := 0) hx hb dX4_verdict_53 (by decide) ?_
      exact hj26 (0) _ _ _ (Eq.symm ((if_neg c22i).trans rfl)) (hP.sub [0, 1, 2, 3, 4, 5, 6, 7, 8] rfl) (hD.sub [0, 1, 2, 3, 4, 5, 6, 7, 8] (by decide) rfl) hS (lv_sub hl [0, 1, 2] rfl)
    · skip
      have c22i : ((rk (i : Int32).toNatClampNeg) : Int32).toInt = 0 := congrArg Int32.toInt c22
      refine lv_iconst (v := 1) hx hb dX4_verdict_49 (by decide) ?_
      refine lv_goto (tgt := 54) hx hb dX4_verdict_50 (by decide) ?_
      exact hj26 (1) _ _ _ (Eq.symm ((if_pos c22i).trans rfl)) (hP.sub [0, 1, 2, 3, 4, 5, 6, 7, 8] rfl) (hD.sub [0, 1, 2, 3, 4, 5, 6, 7, 8] (by decide) rfl) hS (lv_sub hl [0, 1, 2] rfl)
  · skip
    refine lv_tableIn (off := 65) (tgt := 71) hx hb dX4_verdict_6 (by omega) (by omega) (by rw [h1]; rfl) (by decide) ?_
    refine lv_aload_n hx hb dX4_verdict_71 rfl (lv_at hl 0 rfl) ?_
    refine va_get (D := D) (ci := 2) (v := .ref rr1) (C := RX4) (T := TX4) (N := 4) hx hb hts iX4_verdict_X4 hown hK hP 0 rfl rfl 1 (by decide) (hts (.fieldLink RX4 15 "FloatSolver$Rules" "a" "[I") (oX4_verdict_in _ (List.mem_of_getElem? (i := 1) rfl))) (fun _ h9 => h9) rfl dX4_verdict_72 ?_
    refine lv_iload_n hx hb dX4_verdict_75 rfl (lv_at hl 1 rfl) ?_
    refine va_iald hx hb hK hP 2 0 rfl rfl (vp_in_iff.mpr ⟨by omega, by omega⟩) dX4_verdict_76 ?_
    refine lv_aload_n hx hb dX4_verdict_77 rfl (lv_at hl 0 rfl) ?_
    refine va_get (D := D) (ci := 2) (v := .ref rr2) (C := RX4) (T := TX4) (N := 4) hx hb hts iX4_verdict_X4 hown hK hP 0 rfl rfl 2 (by decide) (hts (.fieldLink RX4 18 "FloatSolver$Rules" "b" "[I") (oX4_verdict_in _ (List.mem_of_getElem? (i := 2) rfl))) (fun _ h9 => h9) rfl dX4_verdict_78 ?_
    refine lv_iload_n hx hb dX4_verdict_81 rfl (lv_at hl 1 rfl) ?_
    refine va_iald hx hb hK hP 3 0 rfl rfl (vp_in_iff.mpr ⟨by omega, by omega⟩) dX4_verdict_82 ?_
    refine lv_aload_n hx hb dX4_verdict_83 rfl (lv_at hl 2 rfl) ?_
    refine sp_calli (wr := [(oR, .inr (2, [.ref rr0, .ref rr1, .ref rr2, .int rc])), (rr0, .inl (cI, 12, .inl rk)), (rr1, .inl (cI, 12, .inl ra)), (rr2, .inl (cI, 12, .inl rb))]) (wc := [(oP, .inr (4, [.ref s0, .ref s1, .ref s2, .ref s3, .ref oN, .ref h2, .long sd])), (s0, .inl (cZ, 40, .inl e0)), (s1, .inl (cZ, 40, .inl e1)), (s2, .inl (cI, 40, .inl e2)), (s3, .inl (cI, 40, .inl e3))]) hP hD hS hA [4, 5, 6, 7, 8] [0, 1, 2, 3] rfl rfl (by decide) (by decide) (va_runS (As := [.int (ra (i : Int32).toNatClampNeg), .int (rb (i : Int32).toNatClampNeg), .ref oP]) (rest := []) ⟨hx, hb, hml, hown, hts⟩ (c_X4_verdictOfSame l D cI cJ cZ H.size oP s0 s1 s2 s3 oN h2 e0 e1 e2 e3 (ra (i : Int32).toNatClampNeg) (rb (i : Int32).toNatClampNeg) sd (by first | omega | assumption) (by first | omega | assumption)) (va_cwS 3 hts gX4_verdict_X4_verdictOfSame_62 rfl rfl rfl (by decide +kernel) ⟨Nat.le_of_ble_eq_true rfl, Nat.le_of_ble_eq_true rfl⟩) (sp_preS [.int (ra (i : Int32).toNatClampNeg), .int (rb (i : Int32).toNatClampNeg), .ref oP] hK (hP.sub (ws' := [(oP, .inr (4, [.ref s0, .ref s1, .ref s2, .ref s3, .ref oN, .ref h2, .long sd])), (s0, .inl (cZ, 40, .inl e0)), (s1, .inl (cZ, 40, .inl e1)), (s2, .inl (cI, 40, .inl e2)), (s3, .inl (cI, 40, .inl e3))]) [4, 5, 6, 7, 8] rfl) (hD.sub (ws' := [(oP, .inr (4, [.ref s0, .ref s1, .ref s2, .ref s3, .ref oN, .ref h2, .long sd])), (s0, .inl (cZ, 40, .inl e0)), (s1, .inl (cZ, 40, .inl e1)), (s2, .inl (cI, 40, .inl e2)), (s3, .inl (cI, 40, .inl e3))]) [4, 5, 6, 7, 8] (by decide) rfl)) rfl rfl hl.1 rfl (lv_room (Nat.le_of_ble_eq_true rfl)) dX4_verdict_84 ⟨Nat.le_of_ble_eq_true rfl, Nat.le_of_ble_eq_true rfl⟩) (fun r30 u31 H locs hw32 hP hD hS => ?_)
    have hq_32_0 : r30 = (kX4_verdictOfSame e0 e1 e2 e3 (ra (i : Int32).toNatClampNeg) (rb (i : Int32).toNatClampNeg)) := hw32
    subst r30
    have hP : va_P D vwCl [(oR, .inr (2, [.ref rr0, .ref rr1, .ref rr2, .int rc])), (rr0, .inl (cI, 12, .inl rk)), (rr1, .inl (cI, 12, .inl ra)), (rr2, .inl (cI, 12, .inl rb)), (oP, .inr (4, [.ref s0, .ref s1, .ref s2, .ref s3, .ref oN, .ref h2, .long sd])), (s0, .inl (cZ, 40, .inl e0)), (s1, .inl (cZ, 40, .inl e1)), (s2, .inl (cI, 40, .inl e2)), (s3, .inl (cI, 40, .inl e3))] H := hP
    have hD : va_D A [(oR, .inr (2, [.ref rr0, .ref rr1, .ref rr2, .int rc])), (rr0, .inl (cI, 12, .inl rk)), (rr1, .inl (cI, 12, .inl ra)), (rr2, .inl (cI, 12, .inl rb)), (oP, .inr (4, [.ref s0, .ref s1, .ref s2, .ref s3, .ref oN, .ref h2, .long sd])), (s0, .inl (cZ, 40, .inl e0)), (s1, .inl (cZ, 40, .inl e1)), (s2, .inl (cI, 40, .inl e2)), (s3, .inl (cI, 40, .inl e3))] := hD
    refine W.widen (k := 0) (n := 0) (by decide) (by decide) ?_
    exact sp_iret (u := ()) hx hb hr hlocks hS (Eq.symm ((if_neg (show ¬ (((rk (i : Int32).toNatClampNeg) : Int32).toInt < 0) by omega)).trans ((if_neg (show ¬ (4 < ((rk (i : Int32).toNatClampNeg) : Int32).toInt) by omega)).trans ((if_neg (show ¬ (((rk (i : Int32).toNatClampNeg) : Int32).toInt = 0) by omega)).trans ((if_neg (show ¬ (((rk (i : Int32).toNatClampNeg) : Int32).toInt = 1) by omega)).trans ((if_pos h1).trans rfl)))))) (hP.sub [0, 1, 2, 3, 4, 5, 6, 7, 8] rfl) (hD.sub [0, 1, 2, 3, 4, 5, 6, 7, 8] (by decide) rfl) dX4_verdict_87
  · skip
    refine lv_tableIn (off := 82) (tgt := 88) hx hb dX4_verdict_6 (by omega) (by omega) (by rw [h1]; rfl) (by decide) ?_
    refine lv_aload_n hx hb dX4_verdict_88 rfl (lv_at hl 0 rfl) ?_
    refine va_get (D := D) (ci := 2) (v := .ref rr1) (C := RX4) (T := TX4) (N := 4) hx hb hts iX4_verdict_X4 hown hK hP 0 rfl rfl 1 (by decide) (hts (.fieldLink RX4 15 "FloatSolver$Rules" "a" "[I") (oX4_verdict_in _ (List.mem_of_getElem? (i := 1) rfl))) (fun _ h9 => h9) rfl dX4_verdict_89 ?_
    refine lv_iload_n hx hb dX4_verdict_92 rfl (lv_at hl 1 rfl) ?_
    refine va_iald hx hb hK hP 2 0 rfl rfl (vp_in_iff.mpr ⟨by omega, by omega⟩) dX4_verdict_93 ?_
    refine lv_aload_n hx hb dX4_verdict_94 rfl (lv_at hl 0 rfl) ?_
    refine va_get (D := D) (ci := 2) (v := .ref rr2) (C := RX4) (T := TX4) (N := 4) hx hb hts iX4_verdict_X4 hown hK hP 0 rfl rfl 2 (by decide) (hts (.fieldLink RX4 18 "FloatSolver$Rules" "b" "[I") (oX4_verdict_in _ (List.mem_of_getElem? (i := 2) rfl))) (fun _ h9 => h9) rfl dX4_verdict_95 ?_
    refine lv_iload_n hx hb dX4_verdict_98 rfl (lv_at hl 1 rfl) ?_
    refine va_iald hx hb hK hP 3 0 rfl rfl (vp_in_iff.mpr ⟨by omega, by omega⟩) dX4_verdict_99 ?_
    refine lv_aload_n hx hb dX4_verdict_100 rfl (lv_at hl 2 rfl) ?_
    refine sp_calli (wr := [(oR, .inr (2, [.ref rr0, .ref rr1, .ref rr2, .int rc])), (rr0, .inl (cI, 12, .inl rk)), (rr1, .inl (cI, 12, .inl ra)), (rr2, .inl (cI, 12, .inl rb))]) (wc := [(oP, .inr (4, [.ref s0, .ref s1, .ref s2, .ref s3, .ref oN, .ref h2, .long sd])), (s0, .inl (cZ, 40, .inl e0)), (s1, .inl (cZ, 40, .inl e1)), (s2, .inl (cI, 40, .inl e2)), (s3, .inl (cI, 40, .inl e3))]) hP hD hS hA [4, 5, 6, 7, 8] [0, 1, 2, 3] rfl rfl (by decide) (by decide) (va_runS (As := [.int (ra (i : Int32).toNatClampNeg), .int (rb (i : Int32).toNatClampNeg), .ref oP]) (rest := []) ⟨hx, hb, hml, hown, hts⟩ (c_X4_verdictOfSame l D cI cJ cZ H.size oP s0 s1 s2 s3 oN h2 e0 e1 e2 e3 (ra (i : Int32).toNatClampNeg) (rb (i : Int32).toNatClampNeg) sd (by first | omega | assumption) (by first | omega | assumption)) (va_cwS 3 hts gX4_verdict_X4_verdictOfSame_62 rfl rfl rfl (by decide +kernel) ⟨Nat.le_of_ble_eq_true rfl, Nat.le_of_ble_eq_true rfl⟩) (sp_preS [.int (ra (i : Int32).toNatClampNeg), .int (rb (i : Int32).toNatClampNeg), .ref oP] hK (hP.sub (ws' := [(oP, .inr (4, [.ref s0, .ref s1, .ref s2, .ref s3, .ref oN, .ref h2, .long sd])), (s0, .inl (cZ, 40, .inl e0)), (s1, .inl (cZ, 40, .inl e1)), (s2, .inl (cI, 40, .inl e2)), (s3, .inl (cI, 40, .inl e3))]) [4, 5, 6, 7, 8] rfl) (hD.sub (ws' := [(oP, .inr (4, [.ref s0, .ref s1, .ref s2, .ref s3, .ref oN, .ref h2, .long sd])), (s0, .inl (cZ, 40, .inl e0)), (s1, .inl (cZ, 40, .inl e1)), (s2, .inl (cI, 40, .inl e2)), (s3, .inl (cI, 40, .inl e3))]) [4, 5, 6, 7, 8] (by decide) rfl)) rfl rfl hl.1 rfl (lv_room (Nat.le_of_ble_eq_true rfl)) dX4_verdict_101 ⟨Nat.le_of_ble_eq_true rfl, Nat.le_of_ble_eq_true rfl⟩) (fun r33 u34 H locs hw35 hP hD hS => ?_)
    have hq_35_0 : r33 = (kX4_verdictOfSame e0 e1 e2 e3 (ra (i : Int32).toNatClampNeg) (rb (i : Int32).toNatClampNeg)) := hw35
    subst r33
    have hP : va_P D vwCl [(oR, .inr (2, [.ref rr0, .ref rr1, .ref rr2, .int rc])), (rr0, .inl (cI, 12, .inl rk)), (rr1, .inl (cI, 12, .inl ra)), (rr2, .inl (cI, 12, .inl rb)), (oP, .inr (4, [.ref s0, .ref s1, .ref s2, .ref s3, .ref oN, .ref h2, .long sd])), (s0, .inl (cZ, 40, .inl e0)), (s1, .inl (cZ, 40, .inl e1)), (s2, .inl (cI, 40, .inl e2)), (s3, .inl (cI, 40, .inl e3))] H := hP
    have hD : va_D A [(oR, .inr (2, [.ref rr0, .ref rr1, .ref rr2, .int rc])), (rr0, .inl (cI, 12, .inl rk)), (rr1, .inl (cI, 12, .inl ra)), (rr2, .inl (cI, 12, .inl rb)), (oP, .inr (4, [.ref s0, .ref s1, .ref s2, .ref s3, .ref oN, .ref h2, .long sd])), (s0, .inl (cZ, 40, .inl e0)), (s1, .inl (cZ, 40, .inl e1)), (s2, .inl (cI, 40, .inl e2)), (s3, .inl (cI, 40, .inl e3))] := hD
    refine sp_calli (wr := [(oR, .inr (2, [.ref rr0, .ref rr1, .ref rr2, .int rc])), (rr0, .inl (cI, 12, .inl rk)), (rr1, .inl (cI, 12, .inl ra)), (rr2, .inl (cI, 12, .inl rb)), (oP, .inr (4, [.ref s0, .ref s1, .ref s2, .ref s3, .ref oN, .ref h2, .long sd])), (s0, .inl (cZ, 40, .inl e0)), (s1, .inl (cZ, 40, .inl e1)), (s2, .inl (cI, 40, .inl e2)), (s3, .inl (cI, 40, .inl e3))]) (wc := []) hP hD hS hA [] [0, 1, 2, 3, 4, 5, 6, 7, 8] rfl rfl (by decide) (by decide) (va_runS (As := [.int (kX4_verdictOfSame e0 e1 e2 e3 (ra (i : Int32).toNatClampNeg) (rb (i : Int32).toNatClampNeg))]) (rest := []) ⟨hx, hb, hml, hown, hts⟩ (c_X4_turned l D cI cJ cZ H.size (kX4_verdictOfSame e0 e1 e2 e3 (ra (i : Int32).toNatClampNeg) (rb (i : Int32).toNatClampNeg))) (va_cwS 1 hts gX4_verdict_X4_turned_66 rfl rfl rfl (by decide +kernel) ⟨Nat.le_of_ble_eq_true rfl, Nat.le_of_ble_eq_true rfl⟩) (sp_preS [.int (kX4_verdictOfSame e0 e1 e2 e3 (ra (i : Int32).toNatClampNeg) (rb (i : Int32).toNatClampNeg))] hK (hP.sub (ws' := []) [] rfl) (hD.sub (ws' := []) [] (by decide) rfl)) rfl rfl hl.1 rfl (lv_room (Nat.le_of_ble_eq_true rfl)) dX4_verdict_104 ⟨Nat.le_of_ble_eq_true rfl, Nat.le_of_ble_eq_true rfl⟩) (fun r36 u37 H locs hw38 hP hD hS => ?_)
    have hq_38_0 : r36 = (kX4_turned (kX4_verdictOfSame e0 e1 e2 e3 (ra (i : Int32).toNatClampNeg) (rb (i : Int32).toNatClampNeg))) := hw38
    subst r36
    have hP : va_P D vwCl [(oR, .inr (2, [.ref rr0, .ref rr1, .ref rr2, .int rc])), (rr0, .inl (cI, 12, .inl rk)), (rr1, .inl (cI, 12, .inl ra)), (rr2, .inl (cI, 12, .inl rb)), (oP, .inr (4, [.ref s0, .ref s1, .ref s2, .ref s3, .ref oN, .ref h2, .long sd])), (s0, .inl (cZ, 40, .inl e0)), (s1, .inl (cZ, 40, .inl e1)), (s2, .inl (cI, 40, .inl e2)), (s3, .inl (cI, 40, .inl e3))] H := hP
    have hD : va_D A [(oR, .inr (2, [.ref rr0, .ref rr1, .ref rr2, .int rc])), (rr0, .inl (cI, 12, .inl rk)), (rr1, .inl (cI, 12, .inl ra)), (rr2, .inl (cI, 12, .inl rb)), (oP, .inr (4, [.ref s0, .ref s1, .ref s2, .ref s3, .ref oN, .ref h2, .long sd])), (s0, .inl (cZ, 40, .inl e0)), (s1, .inl (cZ, 40, .inl e1)), (s2, .inl (cI, 40, .inl e2)), (s3, .inl (cI, 40, .inl e3))] := hD
    refine W.widen (k := 0) (n := 0) (by decide) (by decide) ?_
    exact sp_iret (u := ()) hx hb hr hlocks hS (Eq.symm ((if_neg (show ¬ (((rk (i : Int32).toNatClampNeg) : Int32).toInt < 0) by omega)).trans ((if_neg (show ¬ (4 < ((rk (i : Int32).toNatClampNeg) : Int32).toInt) by omega)).trans ((if_neg (show ¬ (((rk (i : Int32).toNatClampNeg) : Int32).toInt = 0) by omega)).trans ((if_neg (show ¬ (((rk (i : Int32).toNatClampNeg) : Int32).toInt = 1) by omega)).trans ((if_neg (show ¬ (((rk (i : Int32).toNatClampNeg) : Int32).toInt = 2) by omega)).trans ((if_pos h1).trans rfl))))))) (hP.sub [0, 1, 2, 3, 4, 5, 6, 7, 8] rfl) (hD.sub [0, 1, 2, 3, 4, 5, 6, 7, 8] (by decide) rfl) dX4_verdict_107
  · skip
    refine lv_tableIn (off := 102) (tgt := 108) hx hb dX4_verdict_6 (by omega) (by omega) (by rw [h1]; rfl) (by decide) ?_
    refine lv_aload_n hx hb dX4_verdict_108 rfl (lv_at hl 0 rfl) ?_
    refine va_get (D := D) (ci := 2) (v := .ref rr1) (C := RX4) (T := TX4) (N := 4) hx hb hts iX4_verdict_X4 hown hK hP 0 rfl rfl 1 (by decide) (hts (.fieldLink RX4 15 "FloatSolver$Rules" "a" "[I") (oX4_verdict_in _ (List.mem_of_getElem? (i := 1) rfl))) (fun _ h9 => h9) rfl dX4_verdict_109 ?_
    refine lv_iload_n hx hb dX4_verdict_112 rfl (lv_at hl 1 rfl) ?_
    refine va_iald hx hb hK hP 2 0 rfl rfl (vp_in_iff.mpr ⟨by omega, by omega⟩) dX4_verdict_113 ?_
    refine lv_aload_n hx hb dX4_verdict_114 rfl (lv_at hl 2 rfl) ?_
    refine sp_calli (wr := [(oR, .inr (2, [.ref rr0, .ref rr1, .ref rr2, .int rc])), (rr0, .inl (cI, 12, .inl rk)), (rr1, .inl (cI, 12, .inl ra)), (rr2, .inl (cI, 12, .inl rb))]) (wc := [(oP, .inr (4, [.ref s0, .ref s1, .ref s2, .ref s3, .ref oN, .ref h2, .long sd])), (s0, .inl (cZ, 40, .inl e0)), (s1, .inl (cZ, 40, .inl e1)), (s2, .inl (cI, 40, .inl e2)), (s3, .inl (cI, 40, .inl e3))]) hP hD hS hA [4, 5, 6, 7, 8] [0, 1, 2, 3] rfl rfl (by decide) (by decide) (va_runS (As := [.int (ra (i : Int32).toNatClampNeg), .ref oP]) (rest := []) ⟨hx, hb, hml, hown, hts⟩ (c_X4_verdictOfNone l D cI cJ cZ H.size oP s0 s1 s2 s3 oN h2 e0 e1 e2 e3 (ra (i : Int32).toNatClampNeg) sd (by first | omega | assumption)) (va_cwS 2 hts gX4_verdict_X4_verdictOfNone_69 rfl rfl rfl (by decide +kernel) ⟨Nat.le_of_ble_eq_true rfl, Nat.le_of_ble_eq_true rfl⟩) (sp_preS [.int (ra (i : Int32).toNatClampNeg), .ref oP] hK (hP.sub (ws' := [(oP, .inr (4, [.ref s0, .ref s1, .ref s2, .ref s3, .ref oN, .ref h2, .long sd])), (s0, .inl (cZ, 40, .inl e0)), (s1, .inl (cZ, 40, .inl e1)), (s2, .inl (cI, 40, .inl e2)), (s3, .inl (cI, 40, .inl e3))]) [4, 5, 6, 7, 8] rfl) (hD.sub (ws' := [(oP, .inr (4, [.ref s0, .ref s1, .ref s2, .ref s3, .ref oN, .ref h2, .long sd])), (s0, .inl (cZ, 40, .inl e0)), (s1, .inl (cZ, 40, .inl e1)), (s2, .inl (cI, 40, .inl e2)), (s3, .inl (cI, 40, .inl e3))]) [4, 5, 6, 7, 8] (by decide) rfl)) rfl rfl hl.1 rfl (lv_room (Nat.le_of_ble_eq_true rfl)) dX4_verdict_115 ⟨Nat.le_of_ble_eq_true rfl, Nat.le_of_ble_eq_true rfl⟩) (fun r39 u40 H locs hw41 hP hD hS => ?_)
    have hq_41_0 : r39 = (kX4_verdictOfNone e0 e1 e2 e3 (ra (i : Int32).toNatClampNeg)) := hw41
    subst r39
    have hP : va_P D vwCl [(oR, .inr (2, [.ref rr0, .ref rr1, .ref rr2, .int rc])), (rr0, .inl (cI, 12, .inl rk)), (rr1, .inl (cI, 12, .inl ra)), (rr2, .inl (cI, 12, .inl rb)), (oP, .inr (4, [.ref s0, .ref s1, .ref s2, .ref s3, .ref oN, .ref h2, .long sd])), (s0, .inl (cZ, 40, .inl e0)), (s1, .inl (cZ, 40, .inl e1)), (s2, .inl (cI, 40, .inl e2)), (s3, .inl (cI, 40, .inl e3))] H := hP
    have hD : va_D A [(oR, .inr (2, [.ref rr0, .ref rr1, .ref rr2, .int rc])), (rr0, .inl (cI, 12, .inl rk)), (rr1, .inl (cI, 12, .inl ra)), (rr2, .inl (cI, 12, .inl rb)), (oP, .inr (4, [.ref s0, .ref s1, .ref s2, .ref s3, .ref oN, .ref h2, .long sd])), (s0, .inl (cZ, 40, .inl e0)), (s1, .inl (cZ, 40, .inl e1)), (s2, .inl (cI, 40, .inl e2)), (s3, .inl (cI, 40, .inl e3))] := hD
    refine W.widen (k := 0) (n := 0) (by decide) (by decide) ?_
    exact sp_iret (u := ()) hx hb hr hlocks hS (Eq.symm ((if_neg (show ¬ (((rk (i : Int32).toNatClampNeg) : Int32).toInt < 0) by omega)).trans ((if_neg (show ¬ (4 < ((rk (i : Int32).toNatClampNeg) : Int32).toInt) by omega)).trans ((if_neg (show ¬ (((rk (i : Int32).toNatClampNeg) : Int32).toInt = 0) by omega)).trans ((if_neg (show ¬ (((rk (i : Int32).toNatClampNeg) : Int32).toInt = 1) by omega)).trans ((if_neg (show ¬ (((rk (i : Int32).toNatClampNeg) : Int32).toInt = 2) by omega)).trans ((if_neg (show ¬ (((rk (i : Int32).toNatClampNeg) : Int32).toInt = 3) by omega)).trans ((if_pos h1).trans rfl)))))))) (hP.sub [0, 1, 2, 3, 4, 5, 6, 7, 8] rfl) (hD.sub [0, 1, 2, 3, 4, 5, 6, 7, 8] (by decide) rfl) dX4_verdict_118
def oX4_verdictOfAll : List Cond := [.fieldLink RX4 21 "FloatSolver$Rules" "count" "I"]
def wpX4_verdictOfAll : List Cond := .code yX4_verdictOfAll cX4_verdictOfAll 5 (some .int) :: (oX4_verdictOfAll ++ (wsX40 ++ ((wsV RX4 73 RX4 yX4_verdict wpX4_verdict) ++ ([] : List Cond))))
theorem oX4_verdictOfAll_in : ∀ w ∈ oX4_verdictOfAll, w ∈ wpX4_verdictOfAll := fun w h => List.mem_cons_of_mem _ (List.mem_append_left _ h)
theorem gwoX4_verdictOfAll : ∀ w ∈ oX4_verdictOfAll, goodWord w = true := by decide +kernel
theorem gwX4_verdictOfAll : ∀ w ∈ wpX4_verdictOfAll, goodWord w = true := by
  unfold wpX4_verdictOfAll
  exact List.forall_mem_cons.mpr ⟨rfl, List.forall_mem_append.mpr ⟨gwoX4_verdictOfAll, List.forall_mem_append.mpr ⟨gwX4, List.forall_mem_append.mpr ⟨(sp_gV gwX4_verdict), fun _ h => absurd h List.not_mem_nil⟩⟩⟩⟩
set_option maxRecDepth 100000 in
theorem toX4_verdictOfAll : ∀ w ∈ oX4_verdictOfAll, w ∈ lw_tbl := by
  unfold oX4_verdictOfAll
  exact List.forall_mem_cons.mpr ⟨(List.mem_of_getElem? (i := 112) (by decide +kernel)), fun _ h => absurd h List.not_mem_nil⟩
set_option maxRecDepth 100000 in
theorem tX4_verdictOfAll : ∀ w ∈ wpX4_verdictOfAll, w ∈ lw_tbl := by
  unfold wpX4_verdictOfAll
  exact List.forall_mem_cons.mpr ⟨(List.mem_of_getElem? (i := 568) (by rfl)), List.forall_mem_append.mpr ⟨toX4_verdictOfAll, List.forall_mem_append.mpr ⟨in_wsX40, List.forall_mem_append.mpr ⟨(sp_tV (List.mem_of_getElem? (i := 569) (by decide +kernel)) (List.mem_of_getElem? (i := 531) (by decide +kernel)) (List.mem_of_getElem? (i := 532) (by decide +kernel)) (List.mem_of_getElem? (i := 40) (by decide +kernel)) tX4_verdict), fun _ h => absurd h List.not_mem_nil⟩⟩⟩⟩
theorem iX4_verdictOfAll_X4 : ∀ w ∈ wsX40, w ∈ wpX4_verdictOfAll := fun w h => List.mem_cons_of_mem _ (List.mem_append_right _ (List.mem_append_left _ h))
theorem gX4_verdictOfAll_X4_verdict_73 : GoodIn wpX4_verdictOfAll (wsV RX4 73 RX4 yX4_verdict wpX4_verdict) := fun w h => ⟨List.mem_cons_of_mem _ (List.mem_append_right _ (List.mem_append_right _ (List.mem_append_left _ h))), good_of_word (sp_gV gwX4_verdict w h)⟩
set_option maxHeartbeats 4000000 in
set_option maxRecDepth 100000 in
theorem lp_X4_verdictOfAll_4 {p : Program} {e : Env} {s : State} {m : MethodId} {below : List Frame} {meth : Method} {c : Code} {A : Nat → Prop} (l : Launch) (D : va_G) (cI cJ cZ : ClassId) (oR oP rr0 rr1 rr2 s0 s1 s2 s3 oN h2 : Nat) (rk : Nat → Int32) (ra : Nat → Int32) (rb : Nat → Int32) (e0 : Nat → Int32) (e1 : Nat → Int32) (e2 : Nat → Int32) (e3 : Nat → Int32) (rc : Int32) (sd : Int64) (hri : RI rc ra rb) (C0 : sp_C cX4_verdictOfAll (some .int) 5 wpX4_verdictOfAll yX4_verdictOfAll.cls yX4_verdictOfAll.name p s m ([.ref oR, .ref oP] : List Value).toArray meth c) (hA : ∀ q : Nat, s.heap.size ≤ q → A q) (hK : va_K D vwCl [(cI, .int), (cJ, .long), (cZ, .boolean)] s) :
    ∀ (fuel : Nat) (al : Int32) (i : Int32) (H : Heap) (locs : List Loc) (ls : Array Slot), (0 ≤ (i : Int32).toInt) → ((i : Int32).toInt ≤ (rc : Int32).toInt) → (kX4_verdictOfAll rk ra rb e0 e1 e2 e3 rc = kX4_verdictOfAll_l4 fuel rk ra rb e0 e1 e2 e3 rc al i) → ((rc : Int32).toInt - (i : Int32).toInt < (fuel : Int)) → va_P D vwCl [(oR, .inr (2, [.ref rr0, .ref rr1, .ref rr2, .int rc])), (rr0, .inl (cI, 12, .inl rk)), (rr1, .inl (cI, 12, .inl ra)), (rr2, .inl (cI, 12, .inl rb)), (oP, .inr (4, [.ref s0, .ref s1, .ref s2, .ref s3, .ref oN, .ref h2, .long sd])), (s0, .inl (cZ, 40, .inl e0)), (s1, .inl (cZ, 40, .inl e1)), (s2, .inl (cI, 40, .inl e2)), (s3, .inl (cI, 40, .inl e3))] H → va_D A [(oR, .inr (2, [.ref rr0, .ref rr1, .ref rr2, .int rc])), (rr0, .inl (cI, 12, .inl rk)), (rr1, .inl (cI, 12, .inl ra)), (rr2, .inl (cI, 12, .inl rb)), (oP, .inr (4, [.ref s0, .ref s1, .ref s2, .ref s3, .ref oN, .ref h2, .long sd])), (s0, .inl (cZ, 40, .inl e0)), (s1, .inl (cZ, 40, .inl e1)), (s2, .inl (cI, 40, .inl e2)), (s3, .inl (cI, 40, .inl e3))] → va_S A s.heap H locs → lv_has ls 5 [(0, .ref oR), (1, .ref oP), (2, .int al), (3, .int i)] → W p l e ({ frames := 3, cells := 0, slots := 0, locals := 69 }) s m (([.ref oR, .ref oP] : List Value).toArray) below meth c H locs 0 0 (MQ below (va_Qi (fun (r : Int32) (_ : Unit) => r = kX4_verdictOfAll rk ra rb e0 e1 e2 e3 rc) (sp_B D vwCl A (fun (_ : Unit) => [(oR, .inr (2, [.ref rr0, .ref rr1, .ref rr2, .int rc])), (rr0, .inl (cI, 12, .inl rk)), (rr1, .inl (cI, 12, .inl ra)), (rr2, .inl (cI, 12, .inl rb)), (oP, .inr (4, [.ref s0, .ref s1, .ref s2, .ref s3, .ref oN, .ref h2, .long sd])), (s0, .inl (cZ, 40, .inl e0)), (s1, .inl (cZ, 40, .inl e1)), (s2, .inl (cI, 40, .inl e2)), (s3, .inl (cI, 40, .inl e3))])) A) ([.ref oR, .ref oP] : List Value).toArray s 0 0 A) (F0 m 4 ls []) := by
  obtain ⟨hx, hb, hr, hts, hown, hlocks, hml, hin⟩ := id C0
  have hown : s.vm.findClass RX4 = some m.cls := hown
  intro fuel
  induction fuel with
  | zero =>
    intro al i H locs ls h0 h1 hk_r hm
    exact absurd hm (by omega)
  | succ fuel ih =>
    intro al i H locs ls h0 h1 hk_r hm hP hD hS hl
    obtain ⟨hc0, hc1, hci⟩ := id hri
    refine lv_iload_n hx hb dX4_verdictOfAll_4 rfl (lv_at hl 3 rfl) ?_
    refine lv_aload_n hx hb dX4_verdictOfAll_5 rfl (lv_at hl 0 rfl) ?_
    refine va_get (D := D) (ci := 2) (v := .int rc) (C := RX4) (T := TX4) (N := 4) hx hb hts iX4_verdictOfAll_X4 hown hK hP 0 rfl rfl 3 (by decide) (hts (.fieldLink RX4 21 "FloatSolver$Rules" "count" "I") (oX4_verdictOfAll_in _ (List.mem_of_getElem? (i := 0) rfl))) (fun _ h9 => h9) rfl dX4_verdictOfAll_6 ?_
    refine lv_icmp_ge (tgt := 41) hx hb dX4_verdictOfAll_9 (by decide) (fun c1 => ?_) (fun c1 => ?_)
    · skip
      have c1i : (rc : Int32).toInt ≤ (i : Int32).toInt := Int32.le_iff_toInt_le.mp c1
      refine lv_iload_n hx hb dX4_verdictOfAll_41 rfl (lv_at hl 2 rfl) ?_
      refine W.widen (k := 0) (n := 0) (by decide) (by decide) ?_
      exact sp_iret (u := ()) hx hb hr hlocks hS (Eq.symm (hk_r.trans ((if_pos c1i).trans rfl))) (hP.sub [0, 1, 2, 3, 4, 5, 6, 7, 8] rfl) (hD.sub [0, 1, 2, 3, 4, 5, 6, 7, 8] (by decide) rfl) dX4_verdictOfAll_42
    · skip
      have c1i : ¬ (rc : Int32).toInt ≤ (i : Int32).toInt := fun h => c1 (Int32.le_iff_toInt_le.mpr h)
      refine lv_aload_n hx hb dX4_verdictOfAll_12 rfl (lv_at hl 0 rfl) ?_
      refine lv_iload_n hx hb dX4_verdictOfAll_13 rfl (lv_at hl 3 rfl) ?_
      refine lv_aload_n hx hb dX4_verdictOfAll_14 rfl (lv_at hl 1 rfl) ?_
      refine sp_calli (wr := []) (wc := [(oR, .inr (2, [.ref rr0, .ref rr1, .ref rr2, .int rc])), (rr0, .inl (cI, 12, .inl rk)), (rr1, .inl (cI, 12, .inl ra)), (rr2, .inl (cI, 12, .inl rb)), (oP, .inr (4, [.ref s0, .ref s1, .ref s2, .ref s3, .ref oN, .ref h2, .long sd])), (s0, .inl (cZ, 40, .inl e0)), (s1, .inl (cZ, 40, .inl e1)), (s2, .inl (cI, 40, .inl e2)), (s3, .inl (cI, 40, .inl e3))]) hP hD hS hA [0, 1, 2, 3, 4, 5, 6, 7, 8] [] rfl rfl (by decide) (by decide) (va_runV (As := [.int i, .ref oP]) (rest := []) ⟨hx, hb, hml, hown, hts⟩ (c_X4_verdict l D cI cJ cZ H.size oR oP rr0 rr1 rr2 s0 s1 s2 s3 oN h2 rk ra rb e0 e1 e2 e3 i rc sd (by first | assumption | omega) (by first | omega | assumption)) (cwV 2 hts gX4_verdictOfAll_X4_verdict_73 rfl rfl rfl (by decide +kernel) ⟨Nat.le_of_ble_eq_true rfl, Nat.le_of_ble_eq_true rfl⟩) (sp_preV (ci := 2) (q0 := 0) [.int i, .ref oP] hK (hP.sub (ws' := [(oR, .inr (2, [.ref rr0, .ref rr1, .ref rr2, .int rc])), (rr0, .inl (cI, 12, .inl rk)), (rr1, .inl (cI, 12, .inl ra)), (rr2, .inl (cI, 12, .inl rb)), (oP, .inr (4, [.ref s0, .ref s1, .ref s2, .ref s3, .ref oN, .ref h2, .long sd])), (s0, .inl (cZ, 40, .inl e0)), (s1, .inl (cZ, 40, .inl e1)), (s2, .inl (cI, 40, .inl e2)), (s3, .inl (cI, 40, .inl e3))]) [0, 1, 2, 3, 4, 5, 6, 7, 8] rfl) (hD.sub (ws' := [(oR, .inr (2, [.ref rr0, .ref rr1, .ref rr2, .int rc])), (rr0, .inl (cI, 12, .inl rk)), (rr1, .inl (cI, 12, .inl ra)), (rr2, .inl (cI, 12, .inl rb)), (oP, .inr (4, [.ref s0, .ref s1, .ref s2, .ref s3, .ref oN, .ref h2, .long sd])), (s0, .inl (cZ, 40, .inl e0)), (s1, .inl (cZ, 40, .inl e1)), (s2, .inl (cI, 40, .inl e2)), (s3, .inl (cI, 40, .inl e3))]) [0, 1, 2, 3, 4, 5, 6, 7, 8] (by decide) rfl) rfl rfl) rfl rfl hl.1 rfl (lv_room (Nat.le_of_ble_eq_true rfl)) dX4_verdictOfAll_15 ⟨Nat.le_of_ble_eq_true rfl, Nat.le_of_ble_eq_true rfl⟩) (fun r2 u3 H locs hw4 hP hD hS => ?_)
      have hq_4_0 : r2 = (kX4_verdict rk ra rb e0 e1 e2 e3 i) := hw4
      subst r2
      have hP : va_P D vwCl [(oR, .inr (2, [.ref rr0, .ref rr1, .ref rr2, .int rc])), (rr0, .inl (cI, 12, .inl rk)), (rr1, .inl (cI, 12, .inl ra)), (rr2, .inl (cI, 12, .inl rb)), (oP, .inr (4, [.ref s0, .ref s1, .ref s2, .ref s3, .ref oN, .ref h2, .long sd])), (s0, .inl (cZ, 40, .inl e0)), (s1, .inl (cZ, 40, .inl e1)), (s2, .inl (cI, 40, .inl e2)), (s3, .inl (cI, 40, .inl e3))] H := hP
      have hD : va_D A [(oR, .inr (2, [.ref rr0, .ref rr1, .ref rr2, .int rc])), (rr0, .inl (cI, 12, .inl rk)), (rr1, .inl (cI, 12, .inl ra)), (rr2, .inl (cI, 12, .inl rb)), (oP, .inr (4, [.ref s0, .ref s1, .ref s2, .ref s3, .ref oN, .ref h2, .long sd])), (s0, .inl (cZ, 40, .inl e0)), (s1, .inl (cZ, 40, .inl e1)), (s2, .inl (cI, 40, .inl e2)), (s3, .inl (cI, 40, .inl e3))] := hD
      refine lv_istore (lv' := [(4, .int (kX4_verdictOfAll_l4_s18 rk ra rb e0 e1 e2 e3 rc al i)), (0, .ref oR), (1, .ref oP), (2, .int al), (3, .int i)]) hx hb dX4_verdictOfAll_18 hl (by decide) rfl (fun ls hl => ?_)
      refine lv_iload hx hb dX4_verdictOfAll_20 (lv_at hl 0 rfl) ?_
      refine lv_if_ne (tgt := 27) hx hb dX4_verdictOfAll_22 (by decide) (fun c5 => ?_) (fun c5 => ?_)
      · skip
        have c5i : ¬ ((kX4_verdictOfAll_l4_s18 rk ra rb e0 e1 e2 e3 rc al i) : Int32).toInt = 0 := fun h => c5 (Int32.toInt_inj.mp h)
        refine lv_iload hx hb dX4_verdictOfAll_27 (lv_at hl 0 rfl) ?_
        refine lv_iconst (v := 2) hx hb dX4_verdictOfAll_29 (by decide) ?_
        have hj10 : ∀ (z9 : Int32) (H : Heap) (locs : List Loc) (ls : Array Slot), (z9 = kX4_verdictOfAll_l4_35_z9 rk ra rb e0 e1 e2 e3 rc al i) → va_P D vwCl [(oR, .inr (2, [.ref rr0, .ref rr1, .ref rr2, .int rc])), (rr0, .inl (cI, 12, .inl rk)), (rr1, .inl (cI, 12, .inl ra)), (rr2, .inl (cI, 12, .inl rb)), (oP, .inr (4, [.ref s0, .ref s1, .ref s2, .ref s3, .ref oN, .ref h2, .long sd])), (s0, .inl (cZ, 40, .inl e0)), (s1, .inl (cZ, 40, .inl e1)), (s2, .inl (cI, 40, .inl e2)), (s3, .inl (cI, 40, .inl e3))] H → va_D A [(oR, .inr (2, [.ref rr0, .ref rr1, .ref rr2, .int rc])), (rr0, .inl (cI, 12, .inl rk)), (rr1, .inl (cI, 12, .inl ra)), (rr2, .inl (cI, 12, .inl rb)), (oP, .inr (4, [.ref s0, .ref s1, .ref s2, .ref s3, .ref oN, .ref h2, .long sd])), (s0, .inl (cZ, 40, .inl e0)), (s1, .inl (cZ, 40, .inl e1)), (s2, .inl (cI, 40, .inl e2)), (s3, .inl (cI, 40, .inl e3))] → va_S A s.heap H locs → lv_has ls 5 [(4, .int (kX4_verdictOfAll_l4_s18 rk ra rb e0 e1 e2 e3 rc al i)), (0, .ref oR), (1, .ref oP), (2, .int z9), (3, .int i)] → W p l e ({ frames := 3, cells := 0, slots := 0, locals := 69 }) s m (([.ref oR, .ref oP] : List Value).toArray) below meth c H locs 0 0 (MQ below (va_Qi (fun (r : Int32) (_ : Unit) => r = kX4_verdictOfAll rk ra rb e0 e1 e2 e3 rc) (sp_B D vwCl A (fun (_ : Unit) => [(oR, .inr (2, [.ref rr0, .ref rr1, .ref rr2, .int rc])), (rr0, .inl (cI, 12, .inl rk)), (rr1, .inl (cI, 12, .inl ra)), (rr2, .inl (cI, 12, .inl rb)), (oP, .inr (4, [.ref s0, .ref s1, .ref s2, .ref s3, .ref oN, .ref h2, .long sd])), (s0, .inl (cZ, 40, .inl e0)), (s1, .inl (cZ, 40, .inl e1)), (s2, .inl (cI, 40, .inl e2)), (s3, .inl (cI, 40, .inl e3))])) A) ([.ref oR, .ref oP] : List Value).toArray s 0 0 A) (F0 m 35 ls []) := by
          intro z9 H locs ls hz9 hP hD hS hl
          subst z9
          refine lv_iinc (v := (i + 1)) (lv' := [(3, .int (i + 1)), (4, .int (kX4_verdictOfAll_l4_s18 rk ra rb e0 e1 e2 e3 rc al i)), (0, .ref oR), (1, .ref oP), (2, .int (kX4_verdictOfAll_l4_35_z9 rk ra rb e0 e1 e2 e3 rc al i))]) hx hb dX4_verdictOfAll_35 hl (k := 4) rfl rfl (by decide) rfl (fun ls hl => ?_)
          have ii11 : ((i + 1) : Int32).toInt = (i : Int32).toInt + 1 := px_iadd (show -2147483648 ≤ (i : Int32).toInt + 1 by omega) (show (i : Int32).toInt + 1 < 2147483648 by omega)
          refine lv_goto (tgt := 4) hx hb dX4_verdictOfAll_38 (by decide) ?_
          exact ih ((kX4_verdictOfAll_l4_35_z9 rk ra rb e0 e1 e2 e3 rc al i)) ((i + 1)) _ _ _ (by first | assumption | omega) (by first | assumption | omega) (hk_r.trans ((if_neg c1i).trans ((if_neg c5i).trans rfl))) (by omega) (hP.sub [0, 1, 2, 3, 4, 5, 6, 7, 8] rfl) (hD.sub [0, 1, 2, 3, 4, 5, 6, 7, 8] (by decide) rfl) hS (lv_sub hl [2, 3, 4, 0] rfl)
        refine lv_icmp_ne (tgt := 35) hx hb dX4_verdictOfAll_30 (by decide) (fun c6 => ?_) (fun c6 => ?_)
        · skip
          have c6i : ¬ ((kX4_verdictOfAll_l4_s18 rk ra rb e0 e1 e2 e3 rc al i) : Int32).toInt = 2 := fun h => c6 (Int32.toInt_inj.mp h)
          exact hj10 (al) _ _ _ (Eq.symm ((if_neg c6i).trans rfl)) (hP.sub [0, 1, 2, 3, 4, 5, 6, 7, 8] rfl) (hD.sub [0, 1, 2, 3, 4, 5, 6, 7, 8] (by decide) rfl) hS (lv_sub hl [0, 1, 2, 3, 4] rfl)
        · skip
          have c6i : ((kX4_verdictOfAll_l4_s18 rk ra rb e0 e1 e2 e3 rc al i) : Int32).toInt = 2 := congrArg Int32.toInt c6
          refine lv_iconst (v := 2) hx hb dX4_verdictOfAll_33 (by decide) ?_
          refine lv_istore_n (lv' := [(2, .int 2), (4, .int (kX4_verdictOfAll_l4_s18 rk ra rb e0 e1 e2 e3 rc al i)), (0, .ref oR), (1, .ref oP), (3, .int i)]) hx hb dX4_verdictOfAll_34 rfl hl (by decide) rfl (fun ls hl => ?_)
          exact hj10 (2) _ _ _ (Eq.symm ((if_pos c6i).trans rfl)) (hP.sub [0, 1, 2, 3, 4, 5, 6, 7, 8] rfl) (hD.sub [0, 1, 2, 3, 4, 5, 6, 7, 8] (by decide) rfl) hS (lv_sub hl [1, 2, 3, 0, 4] rfl)
      · skip
        have c5i : ((kX4_verdictOfAll_l4_s18 rk ra rb e0 e1 e2 e3 rc al i) : Int32).toInt = 0 := congrArg Int32.toInt c5
        refine lv_iconst (v := 0) hx hb dX4_verdictOfAll_25 (by decide) ?_
        refine W.widen (k := 0) (n := 0) (by decide) (by decide) ?_
        exact sp_iret (u := ()) hx hb hr hlocks hS (Eq.symm (hk_r.trans ((if_neg c1i).trans ((if_pos c5i).trans rfl)))) (hP.sub [0, 1, 2, 3, 4, 5, 6, 7, 8] rfl) (hD.sub [0, 1, 2, 3, 4, 5, 6, 7, 8] (by decide) rfl) dX4_verdictOfAll_26
set_option maxHeartbeats 4000000 in
set_option maxRecDepth 100000 in
theorem c_X4_verdictOfAll (l : Launch) (D : va_G) (cI cJ cZ : ClassId) (sz : Nat) (oR oP rr0 rr1 rr2 s0 s1 s2 s3 oN h2 : Nat) (rk : Nat → Int32) (ra : Nat → Int32) (rb : Nat → Int32) (e0 : Nat → Int32) (e1 : Nat → Int32) (e2 : Nat → Int32) (e3 : Nat → Int32) (rc : Int32) (sd : Int64) (hri : RI rc ra rb) : Met l yX4_verdictOfAll wpX4_verdictOfAll ({ frames := 3, cells := 0, slots := 0, locals := 69 }) (va_Pc ([.ref oR, .ref oP] : List Value) (sp_pre D vwCl (sp_ty cI cJ cZ) [(oR, .inr (2, [.ref rr0, .ref rr1, .ref rr2, .int rc])), (rr0, .inl (cI, 12, .inl rk)), (rr1, .inl (cI, 12, .inl ra)), (rr2, .inl (cI, 12, .inl rb)), (oP, .inr (4, [.ref s0, .ref s1, .ref s2, .ref s3, .ref oN, .ref h2, .long sd])), (s0, .inl (cZ, 40, .inl e0)), (s1, .inl (cZ, 40, .inl e1)), (s2, .inl (cI, 40, .inl e2)), (s3, .inl (cI, 40, .inl e3))] sz)) (va_Qi (fun (r : Int32) (_ : Unit) => r = kX4_verdictOfAll rk ra rb e0 e1 e2 e3 rc) (sp_B D vwCl (va_A [(oR, .inr (2, [.ref rr0, .ref rr1, .ref rr2, .int rc])), (rr0, .inl (cI, 12, .inl rk)), (rr1, .inl (cI, 12, .inl ra)), (rr2, .inl (cI, 12, .inl rb)), (oP, .inr (4, [.ref s0, .ref s1, .ref s2, .ref s3, .ref oN, .ref h2, .long sd])), (s0, .inl (cZ, 40, .inl e0)), (s1, .inl (cZ, 40, .inl e1)), (s2, .inl (cI, 40, .inl e2)), (s3, .inl (cI, 40, .inl e3))] sz) (fun (_ : Unit) => [(oR, .inr (2, [.ref rr0, .ref rr1, .ref rr2, .int rc])), (rr0, .inl (cI, 12, .inl rk)), (rr1, .inl (cI, 12, .inl ra)), (rr2, .inl (cI, 12, .inl rb)), (oP, .inr (4, [.ref s0, .ref s1, .ref s2, .ref s3, .ref oN, .ref h2, .long sd])), (s0, .inl (cZ, 40, .inl e0)), (s1, .inl (cZ, 40, .inl e1)), (s2, .inl (cI, 40, .inl e2)), (s3, .inl (cI, 40, .inl e3))])) (va_A [(oR, .inr (2, [.ref rr0, .ref rr1, .ref rr2, .int rc])), (rr0, .inl (cI, 12, .inl rk)), (rr1, .inl (cI, 12, .inl ra)), (rr2, .inl (cI, 12, .inl rb)), (oP, .inr (4, [.ref s0, .ref s1, .ref s2, .ref s3, .ref oN, .ref h2, .long sd])), (s0, .inl (cZ, 40, .inl e0)), (s1, .inl (cZ, 40, .inl e1)), (s2, .inl (cI, 40, .inl e2)), (s3, .inl (cI, 40, .inl e3))] sz)) 0 0 (va_A [(oR, .inr (2, [.ref rr0, .ref rr1, .ref rr2, .int rc])), (rr0, .inl (cI, 12, .inl rk)), (rr1, .inl (cI, 12, .inl ra)), (rr2, .inl (cI, 12, .inl rb)), (oP, .inr (4, [.ref s0, .ref s1, .ref s2, .ref s3, .ref oN, .ref h2, .long sd])), (s0, .inl (cZ, 40, .inl e0)), (s1, .inl (cZ, 40, .inl e1)), (s2, .inl (cI, 40, .inl e2)), (s3, .inl (cI, 40, .inl e3))] sz) := by
  refine sp_ofW (Qc := fun A => va_Qi (fun (r : Int32) (_ : Unit) => r = kX4_verdictOfAll rk ra rb e0 e1 e2 e3 rc) (sp_B D vwCl A (fun (_ : Unit) => [(oR, .inr (2, [.ref rr0, .ref rr1, .ref rr2, .int rc])), (rr0, .inl (cI, 12, .inl rk)), (rr1, .inl (cI, 12, .inl ra)), (rr2, .inl (cI, 12, .inl rb)), (oP, .inr (4, [.ref s0, .ref s1, .ref s2, .ref s3, .ref oN, .ref h2, .long sd])), (s0, .inl (cZ, 40, .inl e0)), (s1, .inl (cZ, 40, .inl e1)), (s2, .inl (cI, 40, .inl e2)), (s3, .inl (cI, 40, .inl e3))])) A) (by decide) rfl (Nat.le_of_ble_eq_true rfl) (fun p e s m below meth c A ls H locs C0 hA hS hP hK hD hl => ?_)
  obtain ⟨hx, hb, hr, hts, hown, hlocks, hml, hin⟩ := id C0
  have hown : s.vm.findClass RX4 = some m.cls := hown
  have hl : lv_has ls 5 [(0, .ref oR), (1, .ref oP)] := hl
  have hK : va_K D vwCl [(cI, .int), (cJ, .long), (cZ, .boolean)] s := hK
  obtain ⟨hc0, hc1, hci⟩ := id hri
  refine lv_iconst (v := 1) hx hb dX4_verdictOfAll_0 (by decide) ?_
  refine lv_istore_n (lv' := [(2, .int 1), (0, .ref oR), (1, .ref oP)]) hx hb dX4_verdictOfAll_1 rfl hl (by decide) rfl (fun ls hl => ?_)
  refine lv_iconst (v := 0) hx hb dX4_verdictOfAll_2 (by decide) ?_
  refine lv_istore_n (lv' := [(3, .int 0), (2, .int 1), (0, .ref oR), (1, .ref oP)]) hx hb dX4_verdictOfAll_3 rfl hl (by decide) rfl (fun ls hl => ?_)
  have kk1 : ((1) : Int32).toInt = (1) := by decide
  have kk2 : ((0) : Int32).toInt = (0) := by decide
  exact lp_X4_verdictOfAll_4 l D cI cJ cZ oR oP rr0 rr1 rr2 s0 s1 s2 s3 oN h2 rk ra rb e0 e1 e2 e3 rc sd hri C0 hA hK 14 (1) (0) _ _ _ (by first | assumption | omega) (by first | assumption | omega) rfl (by omega) (hP.sub [0, 1, 2, 3, 4, 5, 6, 7, 8] rfl) (hD.sub [0, 1, 2, 3, 4, 5, 6, 7, 8] (by decide) rfl) hS (lv_sub hl [2, 3, 1, 0] rfl)
