def oX3_looksAtX : List Cond := []
def wpX3_looksAtX : List Cond := .code yX3_looksAtX cX3_looksAtX 1 (some .boolean) :: (oX3_looksAtX ++ ([] : List Cond))
theorem oX3_looksAtX_in : ∀ w ∈ oX3_looksAtX, w ∈ wpX3_looksAtX := fun w h => List.mem_cons_of_mem _ (List.mem_append_left _ h)
theorem gwoX3_looksAtX : ∀ w ∈ oX3_looksAtX, goodWord w = true := by decide +kernel
theorem gwX3_looksAtX : ∀ w ∈ wpX3_looksAtX, goodWord w = true := by
  unfold wpX3_looksAtX
  exact List.forall_mem_cons.mpr ⟨rfl, List.forall_mem_append.mpr ⟨gwoX3_looksAtX, fun _ h => absurd h List.not_mem_nil⟩⟩
set_option maxRecDepth 100000 in
theorem toX3_looksAtX : ∀ w ∈ oX3_looksAtX, w ∈ lw_tbl := by
  unfold oX3_looksAtX
  exact fun _ h => absurd h List.not_mem_nil
set_option maxRecDepth 100000 in
theorem tX3_looksAtX : ∀ w ∈ wpX3_looksAtX, w ∈ lw_tbl := by
  unfold wpX3_looksAtX
  exact List.forall_mem_cons.mpr ⟨(List.mem_of_getElem? (i := 267) (by rfl)), List.forall_mem_append.mpr ⟨toX3_looksAtX, fun _ h => absurd h List.not_mem_nil⟩⟩
set_option maxHeartbeats 4000000 in
set_option maxRecDepth 100000 in
theorem c_X3_looksAtX (l : Launch) (D : va_G) (cI cJ cZ : ClassId) (sz : Nat) (v : Int32) : Met l yX3_looksAtX wpX3_looksAtX ({ frames := 0, cells := 0, slots := 0, locals := 0 }) (va_Pc ([.int v] : List Value) (sp_pre D vwCl (sp_ty cI cJ cZ) [] sz)) (va_Qi (fun (r : Int32) (_ : Unit) => r = kX3_looksAtX v ∧ ((r = 1 ∧ (2 ≤ v.toInt ∧ v.toInt ≤ 15)) ∨ (r = 0 ∧ ¬ (2 ≤ v.toInt ∧ v.toInt ≤ 15)))) (sp_B D vwCl (va_A [] sz) (fun (_ : Unit) => [])) (va_A [] sz)) 0 0 (va_A [] sz) := by
  refine sp_ofW (Qc := fun A => va_Qi (fun (r : Int32) (_ : Unit) => r = kX3_looksAtX v ∧ ((r = 1 ∧ (2 ≤ v.toInt ∧ v.toInt ≤ 15)) ∨ (r = 0 ∧ ¬ (2 ≤ v.toInt ∧ v.toInt ≤ 15)))) (sp_B D vwCl A (fun (_ : Unit) => [])) A) (by decide) rfl (Nat.le_of_ble_eq_true rfl) (fun p e s m below meth c A ls H locs C0 hA hS hP hK hD hl => ?_)
  obtain ⟨hx, hb, hr, hts, hown, hlocks, hml, hin⟩ := id C0
  have hown : s.vm.findClass RX3 = some m.cls := hown
  have hl : lv_has ls 1 [(0, .int v)] := hl
  have hK : va_K D vwCl [(cI, .int), (cJ, .long), (cZ, .boolean)] s := hK
  refine lv_iload_n hx hb dX3_looksAtX_0 rfl (lv_at hl 0 rfl) ?_
  refine lv_iconst (v := 2) hx hb dX3_looksAtX_1 (by decide) ?_
  refine lv_icmp_lt (tgt := 15) hx hb dX3_looksAtX_2 (by decide) (fun c1 => ?_) (fun c1 => ?_)
  · skip
    have c1i : (v : Int32).toInt < 2 := Int32.lt_iff_toInt_lt.mp c1
    refine lv_iconst (v := 0) hx hb dX3_looksAtX_15 (by decide) ?_
    refine W.widen (k := 0) (n := 0) (by decide) (by decide) ?_
    exact sp_zret (u := ()) hx hb hr hlocks (by decide) hS ⟨(Eq.symm ((if_pos c1i).trans rfl)), (Or.inr ⟨rfl, by omega⟩)⟩ (hP.sub [] rfl) (hD.sub [] (by decide) rfl) dX3_looksAtX_16
  · skip
    have c1i : ¬ (v : Int32).toInt < 2 := fun h => c1 (Int32.lt_iff_toInt_lt.mpr h)
    refine lv_iload_n hx hb dX3_looksAtX_5 rfl (lv_at hl 0 rfl) ?_
    refine lv_bipush (v := 15) hx hb dX3_looksAtX_6 (by decide) ?_
    refine lv_icmp_gt (tgt := 15) hx hb dX3_looksAtX_8 (by decide) (fun c2 => ?_) (fun c2 => ?_)
    · skip
      have c2i : 15 < (v : Int32).toInt := Int32.lt_iff_toInt_lt.mp c2
      refine lv_iconst (v := 0) hx hb dX3_looksAtX_15 (by decide) ?_
      refine W.widen (k := 0) (n := 0) (by decide) (by decide) ?_
      exact sp_zret (u := ()) hx hb hr hlocks (by decide) hS ⟨(Eq.symm ((if_neg c1i).trans ((if_pos c2i).trans rfl))), (Or.inr ⟨rfl, by omega⟩)⟩ (hP.sub [] rfl) (hD.sub [] (by decide) rfl) dX3_looksAtX_16
    · skip
      have c2i : ¬ 15 < (v : Int32).toInt := fun h => c2 (Int32.lt_iff_toInt_lt.mpr h)
      refine lv_iconst (v := 1) hx hb dX3_looksAtX_11 (by decide) ?_
      refine lv_goto (tgt := 16) hx hb dX3_looksAtX_12 (by decide) ?_
      refine W.widen (k := 0) (n := 0) (by decide) (by decide) ?_
      exact sp_zret (u := ()) hx hb hr hlocks (by decide) hS ⟨(Eq.symm ((if_neg c1i).trans ((if_neg c2i).trans rfl))), (Or.inl ⟨rfl, by omega⟩)⟩ (hP.sub [] rfl) (hD.sub [] (by decide) rfl) dX3_looksAtX_16
def oX3_looksAtY : List Cond := []
def wpX3_looksAtY : List Cond := .code yX3_looksAtY cX3_looksAtY 1 (some .boolean) :: (oX3_looksAtY ++ ([] : List Cond))
theorem oX3_looksAtY_in : ∀ w ∈ oX3_looksAtY, w ∈ wpX3_looksAtY := fun w h => List.mem_cons_of_mem _ (List.mem_append_left _ h)
theorem gwoX3_looksAtY : ∀ w ∈ oX3_looksAtY, goodWord w = true := by decide +kernel
theorem gwX3_looksAtY : ∀ w ∈ wpX3_looksAtY, goodWord w = true := by
  unfold wpX3_looksAtY
  exact List.forall_mem_cons.mpr ⟨rfl, List.forall_mem_append.mpr ⟨gwoX3_looksAtY, fun _ h => absurd h List.not_mem_nil⟩⟩
set_option maxRecDepth 100000 in
theorem toX3_looksAtY : ∀ w ∈ oX3_looksAtY, w ∈ lw_tbl := by
  unfold oX3_looksAtY
  exact fun _ h => absurd h List.not_mem_nil
set_option maxRecDepth 100000 in
theorem tX3_looksAtY : ∀ w ∈ wpX3_looksAtY, w ∈ lw_tbl := by
  unfold wpX3_looksAtY
  exact List.forall_mem_cons.mpr ⟨(List.mem_of_getElem? (i := 274) (by rfl)), List.forall_mem_append.mpr ⟨toX3_looksAtY, fun _ h => absurd h List.not_mem_nil⟩⟩
set_option maxHeartbeats 4000000 in
set_option maxRecDepth 100000 in
theorem c_X3_looksAtY (l : Launch) (D : va_G) (cI cJ cZ : ClassId) (sz : Nat) (v : Int32) : Met l yX3_looksAtY wpX3_looksAtY ({ frames := 0, cells := 0, slots := 0, locals := 0 }) (va_Pc ([.int v] : List Value) (sp_pre D vwCl (sp_ty cI cJ cZ) [] sz)) (va_Qi (fun (r : Int32) (_ : Unit) => r = kX3_looksAtY v ∧ ((r = 1 ∧ ((2 ≤ v.toInt ∧ v.toInt ≤ 5) ∨ v.toInt = 8 ∨ v.toInt = 9 ∨ v.toInt = 14)) ∨ (r = 0 ∧ ¬ ((2 ≤ v.toInt ∧ v.toInt ≤ 5) ∨ v.toInt = 8 ∨ v.toInt = 9 ∨ v.toInt = 14)))) (sp_B D vwCl (va_A [] sz) (fun (_ : Unit) => [])) (va_A [] sz)) 0 0 (va_A [] sz) := by
  refine sp_ofW (Qc := fun A => va_Qi (fun (r : Int32) (_ : Unit) => r = kX3_looksAtY v ∧ ((r = 1 ∧ ((2 ≤ v.toInt ∧ v.toInt ≤ 5) ∨ v.toInt = 8 ∨ v.toInt = 9 ∨ v.toInt = 14)) ∨ (r = 0 ∧ ¬ ((2 ≤ v.toInt ∧ v.toInt ≤ 5) ∨ v.toInt = 8 ∨ v.toInt = 9 ∨ v.toInt = 14)))) (sp_B D vwCl A (fun (_ : Unit) => [])) A) (by decide) rfl (Nat.le_of_ble_eq_true rfl) (fun p e s m below meth c A ls H locs C0 hA hS hP hK hD hl => ?_)
  obtain ⟨hx, hb, hr, hts, hown, hlocks, hml, hin⟩ := id C0
  have hown : s.vm.findClass RX3 = some m.cls := hown
  have hl : lv_has ls 1 [(0, .int v)] := hl
  have hK : va_K D vwCl [(cI, .int), (cJ, .long), (cZ, .boolean)] s := hK
  refine lv_iload_n hx hb dX3_looksAtY_0 rfl (lv_at hl 0 rfl) ?_
  rcases (show (v : Int32).toInt < 2 ∨ 14 < (v : Int32).toInt ∨ (v : Int32).toInt = 2 ∨ (v : Int32).toInt = 3 ∨ (v : Int32).toInt = 4 ∨ (v : Int32).toInt = 5 ∨ (v : Int32).toInt = 6 ∨ (v : Int32).toInt = 7 ∨ (v : Int32).toInt = 8 ∨ (v : Int32).toInt = 9 ∨ (v : Int32).toInt = 10 ∨ (v : Int32).toInt = 11 ∨ (v : Int32).toInt = 12 ∨ (v : Int32).toInt = 13 ∨ (v : Int32).toInt = 14 by omega) with h1 | h1 | h1 | h1 | h1 | h1 | h1 | h1 | h1 | h1 | h1 | h1 | h1 | h1 | h1
  · skip
    refine lv_tableOut (tgt := 70) hx hb dX3_looksAtY_1 (Or.inl h1) (by decide) ?_
    refine lv_iconst (v := 0) hx hb dX3_looksAtY_70 (by decide) ?_
    refine W.widen (k := 0) (n := 0) (by decide) (by decide) ?_
    exact sp_zret (u := ()) hx hb hr hlocks (by decide) hS ⟨(Eq.symm ((if_pos h1).trans rfl)), (Or.inr ⟨rfl, by omega⟩)⟩ (hP.sub [] rfl) (hD.sub [] (by decide) rfl) dX3_looksAtY_71
  · skip
    refine lv_tableOut (tgt := 70) hx hb dX3_looksAtY_1 (Or.inr h1) (by decide) ?_
    refine lv_iconst (v := 0) hx hb dX3_looksAtY_70 (by decide) ?_
    refine W.widen (k := 0) (n := 0) (by decide) (by decide) ?_
    exact sp_zret (u := ()) hx hb hr hlocks (by decide) hS ⟨(Eq.symm ((if_neg (show ¬ ((v : Int32).toInt < 2) by omega)).trans ((if_pos h1).trans rfl))), (Or.inr ⟨rfl, by omega⟩)⟩ (hP.sub [] rfl) (hD.sub [] (by decide) rfl) dX3_looksAtY_71
  · skip
    refine lv_tableIn (off := 67) (tgt := 68) hx hb dX3_looksAtY_1 (by omega) (by omega) (by rw [h1]; rfl) (by decide) ?_
    refine lv_iconst (v := 1) hx hb dX3_looksAtY_68 (by decide) ?_
    refine W.widen (k := 0) (n := 0) (by decide) (by decide) ?_
    exact sp_zret (u := ()) hx hb hr hlocks (by decide) hS ⟨(Eq.symm ((if_neg (show ¬ ((v : Int32).toInt < 2) by omega)).trans ((if_neg (show ¬ (14 < (v : Int32).toInt) by omega)).trans ((if_pos h1).trans rfl)))), (Or.inl ⟨rfl, by omega⟩)⟩ (hP.sub [] rfl) (hD.sub [] (by decide) rfl) dX3_looksAtY_69
  · skip
    refine lv_tableIn (off := 67) (tgt := 68) hx hb dX3_looksAtY_1 (by omega) (by omega) (by rw [h1]; rfl) (by decide) ?_
    refine lv_iconst (v := 1) hx hb dX3_looksAtY_68 (by decide) ?_
    refine W.widen (k := 0) (n := 0) (by decide) (by decide) ?_
    exact sp_zret (u := ()) hx hb hr hlocks (by decide) hS ⟨(Eq.symm ((if_neg (show ¬ ((v : Int32).toInt < 2) by omega)).trans ((if_neg (show ¬ (14 < (v : Int32).toInt) by omega)).trans ((if_neg (show ¬ ((v : Int32).toInt = 2) by omega)).trans ((if_pos h1).trans rfl))))), (Or.inl ⟨rfl, by omega⟩)⟩ (hP.sub [] rfl) (hD.sub [] (by decide) rfl) dX3_looksAtY_69
  · skip
    refine lv_tableIn (off := 67) (tgt := 68) hx hb dX3_looksAtY_1 (by omega) (by omega) (by rw [h1]; rfl) (by decide) ?_
    refine lv_iconst (v := 1) hx hb dX3_looksAtY_68 (by decide) ?_
    refine W.widen (k := 0) (n := 0) (by decide) (by decide) ?_
    exact sp_zret (u := ()) hx hb hr hlocks (by decide) hS ⟨(Eq.symm ((if_neg (show ¬ ((v : Int32).toInt < 2) by omega)).trans ((if_neg (show ¬ (14 < (v : Int32).toInt) by omega)).trans ((if_neg (show ¬ ((v : Int32).toInt = 2) by omega)).trans ((if_neg (show ¬ ((v : Int32).toInt = 3) by omega)).trans ((if_pos h1).trans rfl)))))), (Or.inl ⟨rfl, by omega⟩)⟩ (hP.sub [] rfl) (hD.sub [] (by decide) rfl) dX3_looksAtY_69
  · skip
    refine lv_tableIn (off := 67) (tgt := 68) hx hb dX3_looksAtY_1 (by omega) (by omega) (by rw [h1]; rfl) (by decide) ?_
    refine lv_iconst (v := 1) hx hb dX3_looksAtY_68 (by decide) ?_
    refine W.widen (k := 0) (n := 0) (by decide) (by decide) ?_
    exact sp_zret (u := ()) hx hb hr hlocks (by decide) hS ⟨(Eq.symm ((if_neg (show ¬ ((v : Int32).toInt < 2) by omega)).trans ((if_neg (show ¬ (14 < (v : Int32).toInt) by omega)).trans ((if_neg (show ¬ ((v : Int32).toInt = 2) by omega)).trans ((if_neg (show ¬ ((v : Int32).toInt = 3) by omega)).trans ((if_neg (show ¬ ((v : Int32).toInt = 4) by omega)).trans ((if_pos h1).trans rfl))))))), (Or.inl ⟨rfl, by omega⟩)⟩ (hP.sub [] rfl) (hD.sub [] (by decide) rfl) dX3_looksAtY_69
  · skip
    refine lv_tableIn (off := 69) (tgt := 70) hx hb dX3_looksAtY_1 (by omega) (by omega) (by rw [h1]; rfl) (by decide) ?_
    refine lv_iconst (v := 0) hx hb dX3_looksAtY_70 (by decide) ?_
    refine W.widen (k := 0) (n := 0) (by decide) (by decide) ?_
    exact sp_zret (u := ()) hx hb hr hlocks (by decide) hS ⟨(Eq.symm ((if_neg (show ¬ ((v : Int32).toInt < 2) by omega)).trans ((if_neg (show ¬ (14 < (v : Int32).toInt) by omega)).trans ((if_neg (show ¬ ((v : Int32).toInt = 2) by omega)).trans ((if_neg (show ¬ ((v : Int32).toInt = 3) by omega)).trans ((if_neg (show ¬ ((v : Int32).toInt = 4) by omega)).trans ((if_neg (show ¬ ((v : Int32).toInt = 5) by omega)).trans ((if_pos h1).trans rfl)))))))), (Or.inr ⟨rfl, by omega⟩)⟩ (hP.sub [] rfl) (hD.sub [] (by decide) rfl) dX3_looksAtY_71
  · skip
    refine lv_tableIn (off := 69) (tgt := 70) hx hb dX3_looksAtY_1 (by omega) (by omega) (by rw [h1]; rfl) (by decide) ?_
    refine lv_iconst (v := 0) hx hb dX3_looksAtY_70 (by decide) ?_
    refine W.widen (k := 0) (n := 0) (by decide) (by decide) ?_
    exact sp_zret (u := ()) hx hb hr hlocks (by decide) hS ⟨(Eq.symm ((if_neg (show ¬ ((v : Int32).toInt < 2) by omega)).trans ((if_neg (show ¬ (14 < (v : Int32).toInt) by omega)).trans ((if_neg (show ¬ ((v : Int32).toInt = 2) by omega)).trans ((if_neg (show ¬ ((v : Int32).toInt = 3) by omega)).trans ((if_neg (show ¬ ((v : Int32).toInt = 4) by omega)).trans ((if_neg (show ¬ ((v : Int32).toInt = 5) by omega)).trans ((if_neg (show ¬ ((v : Int32).toInt = 6) by omega)).trans ((if_pos h1).trans rfl))))))))), (Or.inr ⟨rfl, by omega⟩)⟩ (hP.sub [] rfl) (hD.sub [] (by decide) rfl) dX3_looksAtY_71
  · skip
    refine lv_tableIn (off := 67) (tgt := 68) hx hb dX3_looksAtY_1 (by omega) (by omega) (by rw [h1]; rfl) (by decide) ?_
    refine lv_iconst (v := 1) hx hb dX3_looksAtY_68 (by decide) ?_
    refine W.widen (k := 0) (n := 0) (by decide) (by decide) ?_
    exact sp_zret (u := ()) hx hb hr hlocks (by decide) hS ⟨(Eq.symm ((if_neg (show ¬ ((v : Int32).toInt < 2) by omega)).trans ((if_neg (show ¬ (14 < (v : Int32).toInt) by omega)).trans ((if_neg (show ¬ ((v : Int32).toInt = 2) by omega)).trans ((if_neg (show ¬ ((v : Int32).toInt = 3) by omega)).trans ((if_neg (show ¬ ((v : Int32).toInt = 4) by omega)).trans ((if_neg (show ¬ ((v : Int32).toInt = 5) by omega)).trans ((if_neg (show ¬ ((v : Int32).toInt = 6) by omega)).trans ((if_neg (show ¬ ((v : Int32).toInt = 7) by omega)).trans ((if_pos h1).trans rfl)))))))))), (Or.inl ⟨rfl, by omega⟩)⟩ (hP.sub [] rfl) (hD.sub [] (by decide) rfl) dX3_looksAtY_69
  · skip
    refine lv_tableIn (off := 67) (tgt := 68) hx hb dX3_looksAtY_1 (by omega) (by omega) (by rw [h1]; rfl) (by decide) ?_
    refine lv_iconst (v := 1) hx hb dX3_looksAtY_68 (by decide) ?_
    refine W.widen (k := 0) (n := 0) (by decide) (by decide) ?_
    exact sp_zret (u := ()) hx hb hr hlocks (by decide) hS ⟨(Eq.symm ((if_neg (show ¬ ((v : Int32).toInt < 2) by omega)).trans ((if_neg (show ¬ (14 < (v : Int32).toInt) by omega)).trans ((if_neg (show ¬ ((v : Int32).toInt = 2) by omega)).trans ((if_neg (show ¬ ((v : Int32).toInt = 3) by omega)).trans ((if_neg (show ¬ ((v : Int32).toInt = 4) by omega)).trans ((if_neg (show ¬ ((v : Int32).toInt = 5) by omega)).trans ((if_neg (show ¬ ((v : Int32).toInt = 6) by omega)).trans ((if_neg (show ¬ ((v : Int32).toInt = 7) by omega)).trans ((if_neg (show ¬ ((v : Int32).toInt = 8) by omega)).trans ((if_pos h1).trans rfl))))))))))), (Or.inl ⟨rfl, by omega⟩)⟩ (hP.sub [] rfl) (hD.sub [] (by decide) rfl) dX3_looksAtY_69
  · skip
    refine lv_tableIn (off := 69) (tgt := 70) hx hb dX3_looksAtY_1 (by omega) (by omega) (by rw [h1]; rfl) (by decide) ?_
    refine lv_iconst (v := 0) hx hb dX3_looksAtY_70 (by decide) ?_
    refine W.widen (k := 0) (n := 0) (by decide) (by decide) ?_
    exact sp_zret (u := ()) hx hb hr hlocks (by decide) hS ⟨(Eq.symm ((if_neg (show ¬ ((v : Int32).toInt < 2) by omega)).trans ((if_neg (show ¬ (14 < (v : Int32).toInt) by omega)).trans ((if_neg (show ¬ ((v : Int32).toInt = 2) by omega)).trans ((if_neg (show ¬ ((v : Int32).toInt = 3) by omega)).trans ((if_neg (show ¬ ((v : Int32).toInt = 4) by omega)).trans ((if_neg (show ¬ ((v : Int32).toInt = 5) by omega)).trans ((if_neg (show ¬ ((v : Int32).toInt = 6) by omega)).trans ((if_neg (show ¬ ((v : Int32).toInt = 7) by omega)).trans ((if_neg (show ¬ ((v : Int32).toInt = 8) by omega)).trans ((if_neg (show ¬ ((v : Int32).toInt = 9) by omega)).trans ((if_pos h1).trans rfl)))))))))))), (Or.inr ⟨rfl, by omega⟩)⟩ (hP.sub [] rfl) (hD.sub [] (by decide) rfl) dX3_looksAtY_71
  · skip
    refine lv_tableIn (off := 69) (tgt := 70) hx hb dX3_looksAtY_1 (by omega) (by omega) (by rw [h1]; rfl) (by decide) ?_
    refine lv_iconst (v := 0) hx hb dX3_looksAtY_70 (by decide) ?_
    refine W.widen (k := 0) (n := 0) (by decide) (by decide) ?_
    exact sp_zret (u := ()) hx hb hr hlocks (by decide) hS ⟨(Eq.symm ((if_neg (show ¬ ((v : Int32).toInt < 2) by omega)).trans ((if_neg (show ¬ (14 < (v : Int32).toInt) by omega)).trans ((if_neg (show ¬ ((v : Int32).toInt = 2) by omega)).trans ((if_neg (show ¬ ((v : Int32).toInt = 3) by omega)).trans ((if_neg (show ¬ ((v : Int32).toInt = 4) by omega)).trans ((if_neg (show ¬ ((v : Int32).toInt = 5) by omega)).trans ((if_neg (show ¬ ((v : Int32).toInt = 6) by omega)).trans ((if_neg (show ¬ ((v : Int32).toInt = 7) by omega)).trans ((if_neg (show ¬ ((v : Int32).toInt = 8) by omega)).trans ((if_neg (show ¬ ((v : Int32).toInt = 9) by omega)).trans ((if_neg (show ¬ ((v : Int32).toInt = 10) by omega)).trans ((if_pos h1).trans rfl))))))))))))), (Or.inr ⟨rfl, by omega⟩)⟩ (hP.sub [] rfl) (hD.sub [] (by decide) rfl) dX3_looksAtY_71
  · skip
    refine lv_tableIn (off := 69) (tgt := 70) hx hb dX3_looksAtY_1 (by omega) (by omega) (by rw [h1]; rfl) (by decide) ?_
    refine lv_iconst (v := 0) hx hb dX3_looksAtY_70 (by decide) ?_
    refine W.widen (k := 0) (n := 0) (by decide) (by decide) ?_
    exact sp_zret (u := ()) hx hb hr hlocks (by decide) hS ⟨(Eq.symm ((if_neg (show ¬ ((v : Int32).toInt < 2) by omega)).trans ((if_neg (show ¬ (14 < (v : Int32).toInt) by omega)).trans ((if_neg (show ¬ ((v : Int32).toInt = 2) by omega)).trans ((if_neg (show ¬ ((v : Int32).toInt = 3) by omega)).trans ((if_neg (show ¬ ((v : Int32).toInt = 4) by omega)).trans ((if_neg (show ¬ ((v : Int32).toInt = 5) by omega)).trans ((if_neg (show ¬ ((v : Int32).toInt = 6) by omega)).trans ((if_neg (show ¬ ((v : Int32).toInt = 7) by omega)).trans ((if_neg (show ¬ ((v : Int32).toInt = 8) by omega)).trans ((if_neg (show ¬ ((v : Int32).toInt = 9) by omega)).trans ((if_neg (show ¬ ((v : Int32).toInt = 10) by omega)).trans ((if_neg (show ¬ ((v : Int32).toInt = 11) by omega)).trans ((if_pos h1).trans rfl)))))))))))))), (Or.inr ⟨rfl, by omega⟩)⟩ (hP.sub [] rfl) (hD.sub [] (by decide) rfl) dX3_looksAtY_71
  · skip
    refine lv_tableIn (off := 69) (tgt := 70) hx hb dX3_looksAtY_1 (by omega) (by omega) (by rw [h1]; rfl) (by decide) ?_
    refine lv_iconst (v := 0) hx hb dX3_looksAtY_70 (by decide) ?_
    refine W.widen (k := 0) (n := 0) (by decide) (by decide) ?_
    exact sp_zret (u := ()) hx hb hr hlocks (by decide) hS ⟨(Eq.symm ((if_neg (show ¬ ((v : Int32).toInt < 2) by omega)).trans ((if_neg (show ¬ (14 < (v : Int32).toInt) by omega)).trans ((if_neg (show ¬ ((v : Int32).toInt = 2) by omega)).trans ((if_neg (show ¬ ((v : Int32).toInt = 3) by omega)).trans ((if_neg (show ¬ ((v : Int32).toInt = 4) by omega)).trans ((if_neg (show ¬ ((v : Int32).toInt = 5) by omega)).trans ((if_neg (show ¬ ((v : Int32).toInt = 6) by omega)).trans ((if_neg (show ¬ ((v : Int32).toInt = 7) by omega)).trans ((if_neg (show ¬ ((v : Int32).toInt = 8) by omega)).trans ((if_neg (show ¬ ((v : Int32).toInt = 9) by omega)).trans ((if_neg (show ¬ ((v : Int32).toInt = 10) by omega)).trans ((if_neg (show ¬ ((v : Int32).toInt = 11) by omega)).trans ((if_neg (show ¬ ((v : Int32).toInt = 12) by omega)).trans ((if_pos h1).trans rfl))))))))))))))), (Or.inr ⟨rfl, by omega⟩)⟩ (hP.sub [] rfl) (hD.sub [] (by decide) rfl) dX3_looksAtY_71
  · skip
    refine lv_tableIn (off := 67) (tgt := 68) hx hb dX3_looksAtY_1 (by omega) (by omega) (by rw [h1]; rfl) (by decide) ?_
    refine lv_iconst (v := 1) hx hb dX3_looksAtY_68 (by decide) ?_
    refine W.widen (k := 0) (n := 0) (by decide) (by decide) ?_
    exact sp_zret (u := ()) hx hb hr hlocks (by decide) hS ⟨(Eq.symm ((if_neg (show ¬ ((v : Int32).toInt < 2) by omega)).trans ((if_neg (show ¬ (14 < (v : Int32).toInt) by omega)).trans ((if_neg (show ¬ ((v : Int32).toInt = 2) by omega)).trans ((if_neg (show ¬ ((v : Int32).toInt = 3) by omega)).trans ((if_neg (show ¬ ((v : Int32).toInt = 4) by omega)).trans ((if_neg (show ¬ ((v : Int32).toInt = 5) by omega)).trans ((if_neg (show ¬ ((v : Int32).toInt = 6) by omega)).trans ((if_neg (show ¬ ((v : Int32).toInt = 7) by omega)).trans ((if_neg (show ¬ ((v : Int32).toInt = 8) by omega)).trans ((if_neg (show ¬ ((v : Int32).toInt = 9) by omega)).trans ((if_neg (show ¬ ((v : Int32).toInt = 10) by omega)).trans ((if_neg (show ¬ ((v : Int32).toInt = 11) by omega)).trans ((if_neg (show ¬ ((v : Int32).toInt = 12) by omega)).trans ((if_neg (show ¬ ((v : Int32).toInt = 13) by omega)).trans ((if_pos h1).trans rfl)))))))))))))))), (Or.inl ⟨rfl, by omega⟩)⟩ (hP.sub [] rfl) (hD.sub [] (by decide) rfl) dX3_looksAtY_69
def oX3_has : List Cond := [.fieldLink RX3 31 "FloatSolver$Nodes" "count" "I"]
def wpX3_has : List Cond := .code yX3_has cX3_has 2 (some .boolean) :: (oX3_has ++ (wsX30 ++ ([] : List Cond)))
theorem oX3_has_in : ∀ w ∈ oX3_has, w ∈ wpX3_has := fun w h => List.mem_cons_of_mem _ (List.mem_append_left _ h)
theorem gwoX3_has : ∀ w ∈ oX3_has, goodWord w = true := by decide +kernel
theorem gwX3_has : ∀ w ∈ wpX3_has, goodWord w = true := by
  unfold wpX3_has
  exact List.forall_mem_cons.mpr ⟨rfl, List.forall_mem_append.mpr ⟨gwoX3_has, List.forall_mem_append.mpr ⟨gwX3, fun _ h => absurd h List.not_mem_nil⟩⟩⟩
set_option maxRecDepth 100000 in
theorem toX3_has : ∀ w ∈ oX3_has, w ∈ lw_tbl := by
  unfold oX3_has
  exact List.forall_mem_cons.mpr ⟨(List.mem_of_getElem? (i := 83) (by decide +kernel)), fun _ h => absurd h List.not_mem_nil⟩
set_option maxRecDepth 100000 in
theorem tX3_has : ∀ w ∈ wpX3_has, w ∈ lw_tbl := by
  unfold wpX3_has
  exact List.forall_mem_cons.mpr ⟨(List.mem_of_getElem? (i := 271) (by rfl)), List.forall_mem_append.mpr ⟨toX3_has, List.forall_mem_append.mpr ⟨in_wsX30, fun _ h => absurd h List.not_mem_nil⟩⟩⟩
theorem iX3_has_X3 : ∀ w ∈ wsX30, w ∈ wpX3_has := fun w h => List.mem_cons_of_mem _ (List.mem_append_right _ (List.mem_append_left _ h))
set_option maxHeartbeats 4000000 in
set_option maxRecDepth 100000 in
theorem c_X3_has (l : Launch) (D : va_G) (cI cJ cZ : ClassId) (sz : Nat) (oN n0 n1 n2 n3 n4 n5 : Nat) (i : Int32) (cn : Int32) : Met l yX3_has wpX3_has ({ frames := 0, cells := 0, slots := 0, locals := 0 }) (va_Pc ([.ref oN, .int i] : List Value) (sp_pre D vwCl (sp_ty cI cJ cZ) [(oN, .inr (1, [.ref n0, .ref n1, .ref n2, .ref n3, .ref n4, .ref n5, .int cn]))] sz)) (va_Qi (fun (r : Int32) (_ : Unit) => r = kX3_has i cn ∧ ((r = 1 ∧ (0 ≤ (i : Int32).toInt ∧ (i : Int32).toInt < (cn : Int32).toInt)) ∨ (r = 0 ∧ ¬ (0 ≤ (i : Int32).toInt ∧ (i : Int32).toInt < (cn : Int32).toInt)))) (sp_B D vwCl (va_A [(oN, .inr (1, [.ref n0, .ref n1, .ref n2, .ref n3, .ref n4, .ref n5, .int cn]))] sz) (fun (_ : Unit) => [(oN, .inr (1, [.ref n0, .ref n1, .ref n2, .ref n3, .ref n4, .ref n5, .int cn]))])) (va_A [(oN, .inr (1, [.ref n0, .ref n1, .ref n2, .ref n3, .ref n4, .ref n5, .int cn]))] sz)) 0 0 (va_A [(oN, .inr (1, [.ref n0, .ref n1, .ref n2, .ref n3, .ref n4, .ref n5, .int cn]))] sz) := by
  refine sp_ofW (Qc := fun A => va_Qi (fun (r : Int32) (_ : Unit) => r = kX3_has i cn ∧ ((r = 1 ∧ (0 ≤ (i : Int32).toInt ∧ (i : Int32).toInt < (cn : Int32).toInt)) ∨ (r = 0 ∧ ¬ (0 ≤ (i : Int32).toInt ∧ (i : Int32).toInt < (cn : Int32).toInt)))) (sp_B D vwCl A (fun (_ : Unit) => [(oN, .inr (1, [.ref n0, .ref n1, .ref n2, .ref n3, .ref n4, .ref n5, .int cn]))])) A) (by decide) rfl (Nat.le_of_ble_eq_true rfl) (fun p e s m below meth c A ls H locs C0 hA hS hP hK hD hl => ?_)
  obtain ⟨hx, hb, hr, hts, hown, hlocks, hml, hin⟩ := id C0
  have hown : s.vm.findClass RX3 = some m.cls := hown
  have hl : lv_has ls 2 [(0, .ref oN), (1, .int i)] := hl
  have hK : va_K D vwCl [(cI, .int), (cJ, .long), (cZ, .boolean)] s := hK
  refine lv_iload_n hx hb dX3_has_0 rfl (lv_at hl 1 rfl) ?_
  refine lv_if_lt (tgt := 16) hx hb dX3_has_1 (by decide) (fun c1 => ?_) (fun c1 => ?_)
  · skip
    have c1i : (i : Int32).toInt < 0 := Int32.lt_iff_toInt_lt.mp c1
    refine lv_iconst (v := 0) hx hb dX3_has_16 (by decide) ?_
    refine W.widen (k := 0) (n := 0) (by decide) (by decide) ?_
    exact sp_zret (u := ()) hx hb hr hlocks (by decide) hS ⟨(Eq.symm ((if_pos c1i).trans rfl)), (Or.inr ⟨rfl, by omega⟩)⟩ (hP.sub [0] rfl) (hD.sub [0] (by decide) rfl) dX3_has_17
  · skip
    have c1i : ¬ (i : Int32).toInt < 0 := fun h => c1 (Int32.lt_iff_toInt_lt.mpr h)
    refine lv_iload_n hx hb dX3_has_4 rfl (lv_at hl 1 rfl) ?_
    refine lv_aload_n hx hb dX3_has_5 rfl (lv_at hl 0 rfl) ?_
    refine va_get (D := D) (ci := 1) (v := .int cn) (C := RX3) (T := TX3) (N := 7) hx hb hts iX3_has_X3 hown hK hP 0 rfl rfl 6 (by decide) (hts (.fieldLink RX3 31 "FloatSolver$Nodes" "count" "I") (oX3_has_in _ (List.mem_of_getElem? (i := 0) rfl))) (fun _ h9 => h9) rfl dX3_has_6 ?_
    refine lv_icmp_ge (tgt := 16) hx hb dX3_has_9 (by decide) (fun c2 => ?_) (fun c2 => ?_)
    · skip
      have c2i : (cn : Int32).toInt ≤ (i : Int32).toInt := Int32.le_iff_toInt_le.mp c2
      refine lv_iconst (v := 0) hx hb dX3_has_16 (by decide) ?_
      refine W.widen (k := 0) (n := 0) (by decide) (by decide) ?_
      exact sp_zret (u := ()) hx hb hr hlocks (by decide) hS ⟨(Eq.symm ((if_neg c1i).trans ((if_pos c2i).trans rfl))), (Or.inr ⟨rfl, by omega⟩)⟩ (hP.sub [0] rfl) (hD.sub [0] (by decide) rfl) dX3_has_17
    · skip
      have c2i : ¬ (cn : Int32).toInt ≤ (i : Int32).toInt := fun h => c2 (Int32.le_iff_toInt_le.mpr h)
      refine lv_iconst (v := 1) hx hb dX3_has_12 (by decide) ?_
      refine lv_goto (tgt := 17) hx hb dX3_has_13 (by decide) ?_
      refine W.widen (k := 0) (n := 0) (by decide) (by decide) ?_
      exact sp_zret (u := ()) hx hb hr hlocks (by decide) hS ⟨(Eq.symm ((if_neg c1i).trans ((if_neg c2i).trans rfl))), (Or.inl ⟨rfl, by omega⟩)⟩ (hP.sub [0] rfl) (hD.sub [0] (by decide) rfl) dX3_has_17
def oX3_evaluate : List Cond := [.fieldLink RX3 31 "FloatSolver$Nodes" "count" "I", .fieldLink RX3 9 "FloatSolver$Nodes" "kind" "[I", .fieldLink RX3 21 "FloatSolver$Nodes" "values" "[I", .fieldLink RX3 15 "FloatSolver$Nodes" "x" "[I", .fieldLink RX3 18 "FloatSolver$Nodes" "y" "[I"]
def wpX3_evaluate : List Cond := .code yX3_evaluate cX3_evaluate 3 none :: (oX3_evaluate ++ (wsX30 ++ ((va_wsS RX3 42 yX3_looksAtY wpX3_looksAtY) ++ ((va_wsS RX3 62 yX0_ofOne wpX0_ofOne) ++ ((va_wsS RX3 56 yX0_ofTwo wpX0_ofTwo) ++ ((va_wsS RX3 52 yX2_bitsAt wpX2_bitsAt) ++ ([] : List Cond)))))))
theorem oX3_evaluate_in : ∀ w ∈ oX3_evaluate, w ∈ wpX3_evaluate := fun w h => List.mem_cons_of_mem _ (List.mem_append_left _ h)
theorem gwoX3_evaluate : ∀ w ∈ oX3_evaluate, goodWord w = true := by decide +kernel
theorem gwX3_evaluate : ∀ w ∈ wpX3_evaluate, goodWord w = true := by
  unfold wpX3_evaluate
  exact List.forall_mem_cons.mpr ⟨rfl, List.forall_mem_append.mpr ⟨gwoX3_evaluate, List.forall_mem_append.mpr ⟨gwX3, List.forall_mem_append.mpr ⟨(sp_gS gwX3_looksAtY), List.forall_mem_append.mpr ⟨(sp_gS gwX0_ofOne), List.forall_mem_append.mpr ⟨(sp_gS gwX0_ofTwo), List.forall_mem_append.mpr ⟨(sp_gS gwX2_bitsAt), fun _ h => absurd h List.not_mem_nil⟩⟩⟩⟩⟩⟩⟩
set_option maxRecDepth 100000 in
theorem toX3_evaluate : ∀ w ∈ oX3_evaluate, w ∈ lw_tbl := by
  unfold oX3_evaluate
  exact List.forall_mem_cons.mpr ⟨(List.mem_of_getElem? (i := 83) (by decide +kernel)), List.forall_mem_cons.mpr ⟨(List.mem_of_getElem? (i := 69) (by decide +kernel)), List.forall_mem_cons.mpr ⟨(List.mem_of_getElem? (i := 75) (by decide +kernel)), List.forall_mem_cons.mpr ⟨(List.mem_of_getElem? (i := 71) (by decide +kernel)), List.forall_mem_cons.mpr ⟨(List.mem_of_getElem? (i := 73) (by decide +kernel)), fun _ h => absurd h List.not_mem_nil⟩⟩⟩⟩⟩
set_option maxRecDepth 100000 in
theorem tX3_evaluate : ∀ w ∈ wpX3_evaluate, w ∈ lw_tbl := by
  unfold wpX3_evaluate
  exact List.forall_mem_cons.mpr ⟨(List.mem_of_getElem? (i := 347) (by rfl)), List.forall_mem_append.mpr ⟨toX3_evaluate, List.forall_mem_append.mpr ⟨in_wsX30, List.forall_mem_append.mpr ⟨(sp_tS (List.mem_of_getElem? (i := 285) (by decide +kernel)) (List.mem_of_getElem? (i := 273) (by decide +kernel)) (List.mem_of_getElem? (i := 39) (by decide +kernel)) tX3_looksAtY), List.forall_mem_append.mpr ⟨(sp_tS (List.mem_of_getElem? (i := 401) (by decide +kernel)) (List.mem_of_getElem? (i := 402) (by decide +kernel)) (List.mem_of_getElem? (i := 47) (by decide +kernel)) tX0_ofOne), List.forall_mem_append.mpr ⟨(sp_tS (List.mem_of_getElem? (i := 349) (by decide +kernel)) (List.mem_of_getElem? (i := 350) (by decide +kernel)) (List.mem_of_getElem? (i := 47) (by decide +kernel)) tX0_ofTwo), List.forall_mem_append.mpr ⟨(sp_tS (List.mem_of_getElem? (i := 348) (by decide +kernel)) (List.mem_of_getElem? (i := 338) (by decide +kernel)) (List.mem_of_getElem? (i := 46) (by decide +kernel)) tX2_bitsAt), fun _ h => absurd h List.not_mem_nil⟩⟩⟩⟩⟩⟩⟩
theorem iX3_evaluate_X3 : ∀ w ∈ wsX30, w ∈ wpX3_evaluate := fun w h => List.mem_cons_of_mem _ (List.mem_append_right _ (List.mem_append_left _ h))
theorem gX3_evaluate_X3_looksAtY_42 : GoodIn wpX3_evaluate (va_wsS RX3 42 yX3_looksAtY wpX3_looksAtY) := fun w h => ⟨List.mem_cons_of_mem _ (List.mem_append_right _ (List.mem_append_right _ (List.mem_append_left _ h))), good_of_word (sp_gS gwX3_looksAtY w h)⟩
theorem gX3_evaluate_X0_ofOne_62 : GoodIn wpX3_evaluate (va_wsS RX3 62 yX0_ofOne wpX0_ofOne) := fun w h => ⟨List.mem_cons_of_mem _ (List.mem_append_right _ (List.mem_append_right _ (List.mem_append_right _ (List.mem_append_left _ h)))), good_of_word (sp_gS gwX0_ofOne w h)⟩
theorem gX3_evaluate_X0_ofTwo_56 : GoodIn wpX3_evaluate (va_wsS RX3 56 yX0_ofTwo wpX0_ofTwo) := fun w h => ⟨List.mem_cons_of_mem _ (List.mem_append_right _ (List.mem_append_right _ (List.mem_append_right _ (List.mem_append_right _ (List.mem_append_left _ h))))), good_of_word (sp_gS gwX0_ofTwo w h)⟩
theorem gX3_evaluate_X2_bitsAt_52 : GoodIn wpX3_evaluate (va_wsS RX3 52 yX2_bitsAt wpX2_bitsAt) := fun w h => ⟨List.mem_cons_of_mem _ (List.mem_append_right _ (List.mem_append_right _ (List.mem_append_right _ (List.mem_append_right _ (List.mem_append_right _ (List.mem_append_left _ h)))))), good_of_word (sp_gS gwX2_bitsAt w h)⟩
set_option maxHeartbeats 4000000 in
set_option maxRecDepth 100000 in
theorem lp_X3_evaluate_2 {p : Program} {e : Env} {s : State} {m : MethodId} {below : List Frame} {meth : Method} {c : Code} {A : Nat → Prop} (l : Launch) (D : va_G) (cI cJ cZ : ClassId) (oN se n0 n1 n2 n3 n4 n5 : Nat) (k0 : Nat → Int32) (k1 : Nat → Int32) (k2 : Nat → Int32) (k3 : Nat → Int32) (fs : Nat → Int32) (cn : Int32) (hni : NI cn k0 k1 k2) (C0 : sp_C cX3_evaluate none 3 wpX3_evaluate yX3_evaluate.cls yX3_evaluate.name p s m ([.ref oN, .ref se] : List Value).toArray meth c) (hA : ∀ q : Nat, s.heap.size ≤ q → A q) (hK : va_K D vwCl [(cI, .int), (cJ, .long), (cZ, .boolean)] s) :
    ∀ (fuel : Nat) (i : Int32) (v3 : Nat → Int32) (H : Heap) (locs : List Loc) (ls : Array Slot), (0 ≤ (i : Int32).toInt) → ((i : Int32).toInt ≤ (cn : Int32).toInt) → (kX3_evaluate_v3 k0 k1 k2 k3 fs cn = kX3_evaluate_l2_v3 fuel k0 k1 k2 k3 fs cn i v3) → ((cn : Int32).toInt - (i : Int32).toInt < (fuel : Int)) → va_P D vwCl [(oN, .inr (1, [.ref n0, .ref n1, .ref n2, .ref n3, .ref n4, .ref n5, .int cn])), (n0, .inl (cI, 40, .inl k0)), (n1, .inl (cI, 40, .inl k1)), (n2, .inl (cI, 40, .inl k2)), (n3, .inl (cI, 40, .inl v3)), (se, .inl (cI, 4, .inl fs))] H → va_D A [(oN, .inr (1, [.ref n0, .ref n1, .ref n2, .ref n3, .ref n4, .ref n5, .int cn])), (n0, .inl (cI, 40, .inl k0)), (n1, .inl (cI, 40, .inl k1)), (n2, .inl (cI, 40, .inl k2)), (n3, .inl (cI, 40, .inl v3)), (se, .inl (cI, 4, .inl fs))] → va_S A s.heap H locs → lv_has ls 3 [(0, .ref oN), (1, .ref se), (2, .int i)] → W p l e ({ frames := 5, cells := 0, slots := 0, locals := 132 }) s m (([.ref oN, .ref se] : List Value).toArray) below meth c H locs 0 0 (MQ below (va_Qv (fun (u : (Nat → Int32)) => match u with | v3 => v3 = kX3_evaluate_v3 k0 k1 k2 k3 fs cn) (sp_B D vwCl A (fun (u : (Nat → Int32)) => match u with | v3 => [(oN, .inr (1, [.ref n0, .ref n1, .ref n2, .ref n3, .ref n4, .ref n5, .int cn])), (n0, .inl (cI, 40, .inl k0)), (n1, .inl (cI, 40, .inl k1)), (n2, .inl (cI, 40, .inl k2)), (n3, .inl (cI, 40, .inl v3)), (se, .inl (cI, 4, .inl fs))])) A) ([.ref oN, .ref se] : List Value).toArray s 0 0 A) (F0 m 2 ls []) := by
  obtain ⟨hx, hb, hr, hts, hown, hlocks, hml, hin⟩ := id C0
  have hown : s.vm.findClass RX3 = some m.cls := hown
  intro fuel
  induction fuel with
  | zero =>
    intro i v3 H locs ls h0 h1 hk_v3 hm
    exact absurd hm (by omega)
  | succ fuel ih =>
    intro i v3 H locs ls h0 h1 hk_v3 hm hP hD hS hl
    obtain ⟨hc0, hc1, hci⟩ := id hni
    refine lv_iload_n hx hb dX3_evaluate_2 rfl (lv_at hl 2 rfl) ?_
    refine lv_aload_n hx hb dX3_evaluate_3 rfl (lv_at hl 0 rfl) ?_
    refine va_get (D := D) (ci := 1) (v := .int cn) (C := RX3) (T := TX3) (N := 7) hx hb hts iX3_evaluate_X3 hown hK hP 0 rfl rfl 6 (by decide) (hts (.fieldLink RX3 31 "FloatSolver$Nodes" "count" "I") (oX3_evaluate_in _ (List.mem_of_getElem? (i := 0) rfl))) (fun _ h9 => h9) rfl dX3_evaluate_4 ?_
    refine lv_icmp_ge (tgt := 148) hx hb dX3_evaluate_7 (by decide) (fun c1 => ?_) (fun c1 => ?_)
    · skip
      have c1i : (cn : Int32).toInt ≤ (i : Int32).toInt := Int32.le_iff_toInt_le.mp c1
      refine W.widen (k := 0) (n := 0) (by decide) (by decide) ?_
      exact sp_vret (u := v3) hx hb hr hlocks hS (Eq.symm (hk_v3.trans ((if_pos c1i).trans rfl))) (hP.sub [0, 1, 2, 3, 4, 5] rfl) (hD.sub [0, 1, 2, 3, 4, 5] (by decide) rfl) dX3_evaluate_148
    · skip
      have c1i : ¬ (cn : Int32).toInt ≤ (i : Int32).toInt := fun h => c1 (Int32.le_iff_toInt_le.mpr h)
      have hN := NI.pt hni (i := i) (by omega) (by omega)
      refine lv_aload_n hx hb dX3_evaluate_10 rfl (lv_at hl 0 rfl) ?_
      refine va_get (D := D) (ci := 1) (v := .ref n0) (C := RX3) (T := TX3) (N := 7) hx hb hts iX3_evaluate_X3 hown hK hP 0 rfl rfl 0 (by decide) (hts (.fieldLink RX3 9 "FloatSolver$Nodes" "kind" "[I") (oX3_evaluate_in _ (List.mem_of_getElem? (i := 1) rfl))) (fun _ h9 => h9) rfl dX3_evaluate_11 ?_
      refine lv_iload_n hx hb dX3_evaluate_14 rfl (lv_at hl 2 rfl) ?_
      refine va_iald hx hb hK hP 1 0 rfl rfl (vp_in_iff.mpr ⟨by omega, by omega⟩) dX3_evaluate_15 ?_
      have hj29 : ∀ (z28 : Nat → Int32) (H : Heap) (locs : List Loc) (ls : Array Slot), (z28 = kX3_evaluate_l2_142_z28 k0 k1 k2 k3 fs cn i v3) → va_P D vwCl [(oN, .inr (1, [.ref n0, .ref n1, .ref n2, .ref n3, .ref n4, .ref n5, .int cn])), (n0, .inl (cI, 40, .inl k0)), (n1, .inl (cI, 40, .inl k1)), (n2, .inl (cI, 40, .inl k2)), (n3, .inl (cI, 40, .inl z28)), (se, .inl (cI, 4, .inl fs))] H → va_D A [(oN, .inr (1, [.ref n0, .ref n1, .ref n2, .ref n3, .ref n4, .ref n5, .int cn])), (n0, .inl (cI, 40, .inl k0)), (n1, .inl (cI, 40, .inl k1)), (n2, .inl (cI, 40, .inl k2)), (n3, .inl (cI, 40, .inl z28)), (se, .inl (cI, 4, .inl fs))] → va_S A s.heap H locs → lv_has ls 3 [(0, .ref oN), (1, .ref se), (2, .int i)] → W p l e ({ frames := 5, cells := 0, slots := 0, locals := 132 }) s m (([.ref oN, .ref se] : List Value).toArray) below meth c H locs 0 0 (MQ below (va_Qv (fun (u : (Nat → Int32)) => match u with | v3 => v3 = kX3_evaluate_v3 k0 k1 k2 k3 fs cn) (sp_B D vwCl A (fun (u : (Nat → Int32)) => match u with | v3 => [(oN, .inr (1, [.ref n0, .ref n1, .ref n2, .ref n3, .ref n4, .ref n5, .int cn])), (n0, .inl (cI, 40, .inl k0)), (n1, .inl (cI, 40, .inl k1)), (n2, .inl (cI, 40, .inl k2)), (n3, .inl (cI, 40, .inl v3)), (se, .inl (cI, 4, .inl fs))])) A) ([.ref oN, .ref se] : List Value).toArray s 0 0 A) (F0 m 142 ls []) := by
        intro z28 H locs ls hz28 hP hD hS hl
        subst z28
        refine lv_iinc (v := (i + 1)) (lv' := [(2, .int (i + 1)), (0, .ref oN), (1, .ref se)]) hx hb dX3_evaluate_142 hl (k := 2) rfl rfl (by decide) rfl (fun ls hl => ?_)
        have ii30 : ((i + 1) : Int32).toInt = (i : Int32).toInt + 1 := px_iadd (show -2147483648 ≤ (i : Int32).toInt + 1 by omega) (show (i : Int32).toInt + 1 < 2147483648 by omega)
        refine lv_goto (tgt := 2) hx hb dX3_evaluate_145 (by decide) ?_
        exact ih ((i + 1)) ((kX3_evaluate_l2_142_z28 k0 k1 k2 k3 fs cn i v3)) _ _ _ (by first | assumption | omega) (by first | assumption | omega) (hk_v3.trans ((if_neg c1i).trans rfl)) (by omega) (hP.sub [0, 1, 2, 3, 4, 5] rfl) (hD.sub [0, 1, 2, 3, 4, 5] (by decide) rfl) hS (lv_sub hl [1, 2, 0] rfl)
      refine lv_if_ne (tgt := 34) hx hb dX3_evaluate_16 (by decide) (fun c3 => ?_) (fun c3 => ?_)
      · skip
        have c3i : ¬ ((k0 (i : Int32).toNatClampNeg) : Int32).toInt = 0 := fun h => c3 (Int32.toInt_inj.mp h)
        refine lv_aload_n hx hb dX3_evaluate_34 rfl (lv_at hl 0 rfl) ?_
        refine va_get (D := D) (ci := 1) (v := .ref n0) (C := RX3) (T := TX3) (N := 7) hx hb hts iX3_evaluate_X3 hown hK hP 0 rfl rfl 0 (by decide) (hts (.fieldLink RX3 9 "FloatSolver$Nodes" "kind" "[I") (oX3_evaluate_in _ (List.mem_of_getElem? (i := 1) rfl))) (fun _ h9 => h9) rfl dX3_evaluate_35 ?_
        refine lv_iload_n hx hb dX3_evaluate_38 rfl (lv_at hl 2 rfl) ?_
        refine va_iald hx hb hK hP 1 0 rfl rfl (vp_in_iff.mpr ⟨by omega, by omega⟩) dX3_evaluate_39 ?_
        refine lv_iconst (v := 1) hx hb dX3_evaluate_40 (by decide) ?_
        have hj25 : ∀ (z24 : Nat → Int32) (H : Heap) (locs : List Loc) (ls : Array Slot), (z24 = kX3_evaluate_l2_142_z24 k0 k1 k2 k3 fs cn i v3) → va_P D vwCl [(oN, .inr (1, [.ref n0, .ref n1, .ref n2, .ref n3, .ref n4, .ref n5, .int cn])), (n0, .inl (cI, 40, .inl k0)), (n1, .inl (cI, 40, .inl k1)), (n2, .inl (cI, 40, .inl k2)), (n3, .inl (cI, 40, .inl z24)), (se, .inl (cI, 4, .inl fs))] H → va_D A [(oN, .inr (1, [.ref n0, .ref n1, .ref n2, .ref n3, .ref n4, .ref n5, .int cn])), (n0, .inl (cI, 40, .inl k0)), (n1, .inl (cI, 40, .inl k1)), (n2, .inl (cI, 40, .inl k2)), (n3, .inl (cI, 40, .inl z24)), (se, .inl (cI, 4, .inl fs))] → va_S A s.heap H locs → lv_has ls 3 [(0, .ref oN), (1, .ref se), (2, .int i)] → W p l e ({ frames := 5, cells := 0, slots := 0, locals := 132 }) s m (([.ref oN, .ref se] : List Value).toArray) below meth c H locs 0 0 (MQ below (va_Qv (fun (u : (Nat → Int32)) => match u with | v3 => v3 = kX3_evaluate_v3 k0 k1 k2 k3 fs cn) (sp_B D vwCl A (fun (u : (Nat → Int32)) => match u with | v3 => [(oN, .inr (1, [.ref n0, .ref n1, .ref n2, .ref n3, .ref n4, .ref n5, .int cn])), (n0, .inl (cI, 40, .inl k0)), (n1, .inl (cI, 40, .inl k1)), (n2, .inl (cI, 40, .inl k2)), (n3, .inl (cI, 40, .inl v3)), (se, .inl (cI, 4, .inl fs))])) A) ([.ref oN, .ref se] : List Value).toArray s 0 0 A) (F0 m 142 ls []) := by
          intro z24 H locs ls hz24 hP hD hS hl
          subst z24
          exact hj29 ((kX3_evaluate_l2_142_z24 k0 k1 k2 k3 fs cn i v3)) _ _ _ (Eq.symm ((if_neg c3i).trans rfl)) (hP.sub [0, 1, 2, 3, 4, 5] rfl) (hD.sub [0, 1, 2, 3, 4, 5] (by decide) rfl) hS (lv_sub hl [0, 1, 2] rfl)
        refine lv_icmp_ne (tgt := 64) hx hb dX3_evaluate_41 (by decide) (fun c4 => ?_) (fun c4 => ?_)
        · skip
          have c4i : ¬ ((k0 (i : Int32).toNatClampNeg) : Int32).toInt = 1 := fun h => c4 (Int32.toInt_inj.mp h)
          refine lv_aload_n hx hb dX3_evaluate_64 rfl (lv_at hl 0 rfl) ?_
          refine va_get (D := D) (ci := 1) (v := .ref n0) (C := RX3) (T := TX3) (N := 7) hx hb hts iX3_evaluate_X3 hown hK hP 0 rfl rfl 0 (by decide) (hts (.fieldLink RX3 9 "FloatSolver$Nodes" "kind" "[I") (oX3_evaluate_in _ (List.mem_of_getElem? (i := 1) rfl))) (fun _ h9 => h9) rfl dX3_evaluate_65 ?_
          refine lv_iload_n hx hb dX3_evaluate_68 rfl (lv_at hl 2 rfl) ?_
          refine va_iald hx hb hK hP 1 0 rfl rfl (vp_in_iff.mpr ⟨by omega, by omega⟩) dX3_evaluate_69 ?_
          refine sp_calli (wr := [(oN, .inr (1, [.ref n0, .ref n1, .ref n2, .ref n3, .ref n4, .ref n5, .int cn])), (n0, .inl (cI, 40, .inl k0)), (n1, .inl (cI, 40, .inl k1)), (n2, .inl (cI, 40, .inl k2)), (n3, .inl (cI, 40, .inl v3)), (se, .inl (cI, 4, .inl fs))]) (wc := []) hP hD hS hA [] [0, 1, 2, 3, 4, 5] rfl rfl (by decide) (by decide) (va_runS (As := [.int (k0 (i : Int32).toNatClampNeg)]) (rest := []) ⟨hx, hb, hml, hown, hts⟩ (c_X3_looksAtY l D cI cJ cZ H.size (k0 (i : Int32).toNatClampNeg)) (va_cwS 1 hts gX3_evaluate_X3_looksAtY_42 rfl rfl rfl (by decide +kernel) ⟨Nat.le_of_ble_eq_true rfl, Nat.le_of_ble_eq_true rfl⟩) (sp_preS [.int (k0 (i : Int32).toNatClampNeg)] hK (hP.sub (ws' := []) [] rfl) (hD.sub (ws' := []) [] (by decide) rfl)) rfl rfl hl.1 rfl (lv_room (Nat.le_of_ble_eq_true rfl)) dX3_evaluate_70 ⟨Nat.le_of_ble_eq_true rfl, Nat.le_of_ble_eq_true rfl⟩) (fun r5 u6 H locs hw7 hP hD hS => ?_)
          obtain ⟨hq_7_0, hm_1_⟩ : r5 = (kX3_looksAtY (k0 (i : Int32).toNatClampNeg)) ∧ _ := hw7
          subst r5
          have hm_1_i : (((kX3_looksAtY (k0 (i : Int32).toNatClampNeg)) : Int32).toInt = 1 ∧ ((2 ≤ ((k0 (i : Int32).toNatClampNeg) : Int32).toInt ∧ ((k0 (i : Int32).toNatClampNeg) : Int32).toInt ≤ 5) ∨ ((k0 (i : Int32).toNatClampNeg) : Int32).toInt = 8 ∨ ((k0 (i : Int32).toNatClampNeg) : Int32).toInt = 9 ∨ ((k0 (i : Int32).toNatClampNeg) : Int32).toInt = 14)) ∨ (((kX3_looksAtY (k0 (i : Int32).toNatClampNeg)) : Int32).toInt = 0 ∧ ¬ ((2 ≤ ((k0 (i : Int32).toNatClampNeg) : Int32).toInt ∧ ((k0 (i : Int32).toNatClampNeg) : Int32).toInt ≤ 5) ∨ ((k0 (i : Int32).toNatClampNeg) : Int32).toInt = 8 ∨ ((k0 (i : Int32).toNatClampNeg) : Int32).toInt = 9 ∨ ((k0 (i : Int32).toNatClampNeg) : Int32).toInt = 14)) := sp_bool hm_1_
          have hP : va_P D vwCl [(oN, .inr (1, [.ref n0, .ref n1, .ref n2, .ref n3, .ref n4, .ref n5, .int cn])), (n0, .inl (cI, 40, .inl k0)), (n1, .inl (cI, 40, .inl k1)), (n2, .inl (cI, 40, .inl k2)), (n3, .inl (cI, 40, .inl v3)), (se, .inl (cI, 4, .inl fs))] H := hP
          have hD : va_D A [(oN, .inr (1, [.ref n0, .ref n1, .ref n2, .ref n3, .ref n4, .ref n5, .int cn])), (n0, .inl (cI, 40, .inl k0)), (n1, .inl (cI, 40, .inl k1)), (n2, .inl (cI, 40, .inl k2)), (n3, .inl (cI, 40, .inl v3)), (se, .inl (cI, 4, .inl fs))] := hD
          have hj18 : ∀ (z17 : Nat → Int32) (H : Heap) (locs : List Loc) (ls : Array Slot), (z17 = kX3_evaluate_l2_142_z17 k0 k1 k2 k3 fs cn i v3) → va_P D vwCl [(oN, .inr (1, [.ref n0, .ref n1, .ref n2, .ref n3, .ref n4, .ref n5, .int cn])), (n0, .inl (cI, 40, .inl k0)), (n1, .inl (cI, 40, .inl k1)), (n2, .inl (cI, 40, .inl k2)), (n3, .inl (cI, 40, .inl z17)), (se, .inl (cI, 4, .inl fs))] H → va_D A [(oN, .inr (1, [.ref n0, .ref n1, .ref n2, .ref n3, .ref n4, .ref n5, .int cn])), (n0, .inl (cI, 40, .inl k0)), (n1, .inl (cI, 40, .inl k1)), (n2, .inl (cI, 40, .inl k2)), (n3, .inl (cI, 40, .inl z17)), (se, .inl (cI, 4, .inl fs))] → va_S A s.heap H locs → lv_has ls 3 [(0, .ref oN), (1, .ref se), (2, .int i)] → W p l e ({ frames := 5, cells := 0, slots := 0, locals := 132 }) s m (([.ref oN, .ref se] : List Value).toArray) below meth c H locs 0 0 (MQ below (va_Qv (fun (u : (Nat → Int32)) => match u with | v3 => v3 = kX3_evaluate_v3 k0 k1 k2 k3 fs cn) (sp_B D vwCl A (fun (u : (Nat → Int32)) => match u with | v3 => [(oN, .inr (1, [.ref n0, .ref n1, .ref n2, .ref n3, .ref n4, .ref n5, .int cn])), (n0, .inl (cI, 40, .inl k0)), (n1, .inl (cI, 40, .inl k1)), (n2, .inl (cI, 40, .inl k2)), (n3, .inl (cI, 40, .inl v3)), (se, .inl (cI, 4, .inl fs))])) A) ([.ref oN, .ref se] : List Value).toArray s 0 0 A) (F0 m 142 ls []) := by
            intro z17 H locs ls hz17 hP hD hS hl
            subst z17
            exact hj25 ((kX3_evaluate_l2_142_z17 k0 k1 k2 k3 fs cn i v3)) _ _ _ (Eq.symm ((if_neg c4i).trans rfl)) (hP.sub [0, 1, 2, 3, 4, 5] rfl) (hD.sub [0, 1, 2, 3, 4, 5] (by decide) rfl) hS (lv_sub hl [0, 1, 2] rfl)
          refine lv_if_eq (tgt := 116) hx hb dX3_evaluate_73 (by decide) (fun c8 => ?_) (fun c8 => ?_)
          · skip
            have c8i : ((kX3_looksAtY (k0 (i : Int32).toNatClampNeg)) : Int32).toInt = 0 := congrArg Int32.toInt c8
            refine lv_aload_n hx hb dX3_evaluate_116 rfl (lv_at hl 0 rfl) ?_
            refine va_get (D := D) (ci := 1) (v := .ref n3) (C := RX3) (T := TX3) (N := 7) hx hb hts iX3_evaluate_X3 hown hK hP 0 rfl rfl 3 (by decide) (hts (.fieldLink RX3 21 "FloatSolver$Nodes" "values" "[I") (oX3_evaluate_in _ (List.mem_of_getElem? (i := 2) rfl))) (fun _ h9 => h9) rfl dX3_evaluate_117 ?_
            refine lv_iload_n hx hb dX3_evaluate_120 rfl (lv_at hl 2 rfl) ?_
            refine lv_aload_n hx hb dX3_evaluate_121 rfl (lv_at hl 0 rfl) ?_
            refine va_get (D := D) (ci := 1) (v := .ref n0) (C := RX3) (T := TX3) (N := 7) hx hb hts iX3_evaluate_X3 hown hK hP 0 rfl rfl 0 (by decide) (hts (.fieldLink RX3 9 "FloatSolver$Nodes" "kind" "[I") (oX3_evaluate_in _ (List.mem_of_getElem? (i := 1) rfl))) (fun _ h9 => h9) rfl dX3_evaluate_122 ?_
            refine lv_iload_n hx hb dX3_evaluate_125 rfl (lv_at hl 2 rfl) ?_
            refine va_iald hx hb hK hP 1 0 rfl rfl (vp_in_iff.mpr ⟨by omega, by omega⟩) dX3_evaluate_126 ?_
            refine lv_aload_n hx hb dX3_evaluate_127 rfl (lv_at hl 0 rfl) ?_
            refine va_get (D := D) (ci := 1) (v := .ref n3) (C := RX3) (T := TX3) (N := 7) hx hb hts iX3_evaluate_X3 hown hK hP 0 rfl rfl 3 (by decide) (hts (.fieldLink RX3 21 "FloatSolver$Nodes" "values" "[I") (oX3_evaluate_in _ (List.mem_of_getElem? (i := 2) rfl))) (fun _ h9 => h9) rfl dX3_evaluate_128 ?_
            refine lv_aload_n hx hb dX3_evaluate_131 rfl (lv_at hl 0 rfl) ?_
            refine va_get (D := D) (ci := 1) (v := .ref n1) (C := RX3) (T := TX3) (N := 7) hx hb hts iX3_evaluate_X3 hown hK hP 0 rfl rfl 1 (by decide) (hts (.fieldLink RX3 15 "FloatSolver$Nodes" "x" "[I") (oX3_evaluate_in _ (List.mem_of_getElem? (i := 3) rfl))) (fun _ h9 => h9) rfl dX3_evaluate_132 ?_
            refine lv_iload_n hx hb dX3_evaluate_135 rfl (lv_at hl 2 rfl) ?_
            refine va_iald hx hb hK hP 2 0 rfl rfl (vp_in_iff.mpr ⟨by omega, by omega⟩) dX3_evaluate_136 ?_
            refine va_iald hx hb hK hP 4 0 rfl rfl (vp_in_iff.mpr ⟨by omega, by omega⟩) dX3_evaluate_137 ?_
            refine sp_calli (wr := [(oN, .inr (1, [.ref n0, .ref n1, .ref n2, .ref n3, .ref n4, .ref n5, .int cn])), (n0, .inl (cI, 40, .inl k0)), (n1, .inl (cI, 40, .inl k1)), (n2, .inl (cI, 40, .inl k2)), (n3, .inl (cI, 40, .inl v3)), (se, .inl (cI, 4, .inl fs))]) (wc := []) hP hD hS hA [] [0, 1, 2, 3, 4, 5] rfl rfl (by decide) (by decide) (va_runS (As := [.int (k0 (i : Int32).toNatClampNeg), .int (v3 ((k1 (i : Int32).toNatClampNeg) : Int32).toNatClampNeg)]) (rest := [.int i, .ref n3]) ⟨hx, hb, hml, hown, hts⟩ (c_X0_ofOne l D cI cJ cZ H.size (k0 (i : Int32).toNatClampNeg) (v3 ((k1 (i : Int32).toNatClampNeg) : Int32).toNatClampNeg)) (va_cwS 2 hts gX3_evaluate_X0_ofOne_62 rfl rfl rfl (by decide +kernel) ⟨Nat.le_of_ble_eq_true rfl, Nat.le_of_ble_eq_true rfl⟩) (sp_preS [.int (k0 (i : Int32).toNatClampNeg), .int (v3 ((k1 (i : Int32).toNatClampNeg) : Int32).toNatClampNeg)] hK (hP.sub (ws' := []) [] rfl) (hD.sub (ws' := []) [] (by decide) rfl)) rfl rfl hl.1 rfl (lv_room (Nat.le_of_ble_eq_true rfl)) dX3_evaluate_138 ⟨Nat.le_of_ble_eq_true rfl, Nat.le_of_ble_eq_true rfl⟩) (fun r9 u10 H locs hw11 hP hD hS => ?_)
            have hq_11_0 : r9 = (kX0_ofOne (k0 (i : Int32).toNatClampNeg) (v3 ((k1 (i : Int32).toNatClampNeg) : Int32).toNatClampNeg)) := hw11
            subst r9
            have hP : va_P D vwCl [(oN, .inr (1, [.ref n0, .ref n1, .ref n2, .ref n3, .ref n4, .ref n5, .int cn])), (n0, .inl (cI, 40, .inl k0)), (n1, .inl (cI, 40, .inl k1)), (n2, .inl (cI, 40, .inl k2)), (n3, .inl (cI, 40, .inl v3)), (se, .inl (cI, 4, .inl fs))] H := hP
            have hD : va_D A [(oN, .inr (1, [.ref n0, .ref n1, .ref n2, .ref n3, .ref n4, .ref n5, .int cn])), (n0, .inl (cI, 40, .inl k0)), (n1, .inl (cI, 40, .inl k1)), (n2, .inl (cI, 40, .inl k2)), (n3, .inl (cI, 40, .inl v3)), (se, .inl (cI, 4, .inl fs))] := hD
            refine va_iast hx hb hK hP hD hS 4 0 rfl rfl (vp_in_iff.mpr ⟨by omega, by omega⟩) dX3_evaluate_141 (fun H locs hP hD hS => ?_)
            have hP : va_P D vwCl [(oN, .inr (1, [.ref n0, .ref n1, .ref n2, .ref n3, .ref n4, .ref n5, .int cn])), (n0, .inl (cI, 40, .inl k0)), (n1, .inl (cI, 40, .inl k1)), (n2, .inl (cI, 40, .inl k2)), (n3, .inl (cI, 40, .inl (upd v3 ((i) : Int32).toNatClampNeg (kX0_ofOne (k0 (i : Int32).toNatClampNeg) (v3 ((k1 (i : Int32).toNatClampNeg) : Int32).toNatClampNeg))))), (se, .inl (cI, 4, .inl fs))] H := hP
            have hD : va_D A [(oN, .inr (1, [.ref n0, .ref n1, .ref n2, .ref n3, .ref n4, .ref n5, .int cn])), (n0, .inl (cI, 40, .inl k0)), (n1, .inl (cI, 40, .inl k1)), (n2, .inl (cI, 40, .inl k2)), (n3, .inl (cI, 40, .inl (upd v3 ((i) : Int32).toNatClampNeg (kX0_ofOne (k0 (i : Int32).toNatClampNeg) (v3 ((k1 (i : Int32).toNatClampNeg) : Int32).toNatClampNeg))))), (se, .inl (cI, 4, .inl fs))] := hD
            exact hj18 ((upd v3 ((i) : Int32).toNatClampNeg (kX0_ofOne (k0 (i : Int32).toNatClampNeg) (v3 ((k1 (i : Int32).toNatClampNeg) : Int32).toNatClampNeg)))) _ _ _ (Eq.symm ((if_pos c8i).trans rfl)) (hP.sub [0, 1, 2, 3, 4, 5] rfl) (hD.sub [0, 1, 2, 3, 4, 5] (by decide) rfl) hS (lv_sub hl [0, 1, 2] rfl)
          · skip
            have c8i : ¬ ((kX3_looksAtY (k0 (i : Int32).toNatClampNeg)) : Int32).toInt = 0 := fun h => c8 (Int32.toInt_inj.mp h)
            refine lv_aload_n hx hb dX3_evaluate_76 rfl (lv_at hl 0 rfl) ?_
            refine va_get (D := D) (ci := 1) (v := .ref n3) (C := RX3) (T := TX3) (N := 7) hx hb hts iX3_evaluate_X3 hown hK hP 0 rfl rfl 3 (by decide) (hts (.fieldLink RX3 21 "FloatSolver$Nodes" "values" "[I") (oX3_evaluate_in _ (List.mem_of_getElem? (i := 2) rfl))) (fun _ h9 => h9) rfl dX3_evaluate_77 ?_
            refine lv_iload_n hx hb dX3_evaluate_80 rfl (lv_at hl 2 rfl) ?_
            refine lv_aload_n hx hb dX3_evaluate_81 rfl (lv_at hl 0 rfl) ?_
            refine va_get (D := D) (ci := 1) (v := .ref n0) (C := RX3) (T := TX3) (N := 7) hx hb hts iX3_evaluate_X3 hown hK hP 0 rfl rfl 0 (by decide) (hts (.fieldLink RX3 9 "FloatSolver$Nodes" "kind" "[I") (oX3_evaluate_in _ (List.mem_of_getElem? (i := 1) rfl))) (fun _ h9 => h9) rfl dX3_evaluate_82 ?_
            refine lv_iload_n hx hb dX3_evaluate_85 rfl (lv_at hl 2 rfl) ?_
            refine va_iald hx hb hK hP 1 0 rfl rfl (vp_in_iff.mpr ⟨by omega, by omega⟩) dX3_evaluate_86 ?_
            refine lv_aload_n hx hb dX3_evaluate_87 rfl (lv_at hl 0 rfl) ?_
            refine va_get (D := D) (ci := 1) (v := .ref n3) (C := RX3) (T := TX3) (N := 7) hx hb hts iX3_evaluate_X3 hown hK hP 0 rfl rfl 3 (by decide) (hts (.fieldLink RX3 21 "FloatSolver$Nodes" "values" "[I") (oX3_evaluate_in _ (List.mem_of_getElem? (i := 2) rfl))) (fun _ h9 => h9) rfl dX3_evaluate_88 ?_
            refine lv_aload_n hx hb dX3_evaluate_91 rfl (lv_at hl 0 rfl) ?_
            refine va_get (D := D) (ci := 1) (v := .ref n1) (C := RX3) (T := TX3) (N := 7) hx hb hts iX3_evaluate_X3 hown hK hP 0 rfl rfl 1 (by decide) (hts (.fieldLink RX3 15 "FloatSolver$Nodes" "x" "[I") (oX3_evaluate_in _ (List.mem_of_getElem? (i := 3) rfl))) (fun _ h9 => h9) rfl dX3_evaluate_92 ?_
            refine lv_iload_n hx hb dX3_evaluate_95 rfl (lv_at hl 2 rfl) ?_
            refine va_iald hx hb hK hP 2 0 rfl rfl (vp_in_iff.mpr ⟨by omega, by omega⟩) dX3_evaluate_96 ?_
            refine va_iald hx hb hK hP 4 0 rfl rfl (vp_in_iff.mpr ⟨by omega, by omega⟩) dX3_evaluate_97 ?_
            refine lv_aload_n hx hb dX3_evaluate_98 rfl (lv_at hl 0 rfl) ?_
            refine va_get (D := D) (ci := 1) (v := .ref n3) (C := RX3) (T := TX3) (N := 7) hx hb hts iX3_evaluate_X3 hown hK hP 0 rfl rfl 3 (by decide) (hts (.fieldLink RX3 21 "FloatSolver$Nodes" "values" "[I") (oX3_evaluate_in _ (List.mem_of_getElem? (i := 2) rfl))) (fun _ h9 => h9) rfl dX3_evaluate_99 ?_
            refine lv_aload_n hx hb dX3_evaluate_102 rfl (lv_at hl 0 rfl) ?_
            refine va_get (D := D) (ci := 1) (v := .ref n2) (C := RX3) (T := TX3) (N := 7) hx hb hts iX3_evaluate_X3 hown hK hP 0 rfl rfl 2 (by decide) (hts (.fieldLink RX3 18 "FloatSolver$Nodes" "y" "[I") (oX3_evaluate_in _ (List.mem_of_getElem? (i := 4) rfl))) (fun _ h9 => h9) rfl dX3_evaluate_103 ?_
            refine lv_iload_n hx hb dX3_evaluate_106 rfl (lv_at hl 2 rfl) ?_
            refine va_iald hx hb hK hP 3 0 rfl rfl (vp_in_iff.mpr ⟨by omega, by omega⟩) dX3_evaluate_107 ?_
            refine va_iald hx hb hK hP 4 0 rfl rfl (vp_in_iff.mpr ⟨by omega, by omega⟩) dX3_evaluate_108 ?_
            refine sp_calli (wr := [(oN, .inr (1, [.ref n0, .ref n1, .ref n2, .ref n3, .ref n4, .ref n5, .int cn])), (n0, .inl (cI, 40, .inl k0)), (n1, .inl (cI, 40, .inl k1)), (n2, .inl (cI, 40, .inl k2)), (n3, .inl (cI, 40, .inl v3)), (se, .inl (cI, 4, .inl fs))]) (wc := []) hP hD hS hA [] [0, 1, 2, 3, 4, 5] rfl rfl (by decide) (by decide) (va_runS (As := [.int (k0 (i : Int32).toNatClampNeg), .int (v3 ((k1 (i : Int32).toNatClampNeg) : Int32).toNatClampNeg), .int (v3 ((k2 (i : Int32).toNatClampNeg) : Int32).toNatClampNeg)]) (rest := [.int i, .ref n3]) ⟨hx, hb, hml, hown, hts⟩ (c_X0_ofTwo l D cI cJ cZ H.size (k0 (i : Int32).toNatClampNeg) (v3 ((k1 (i : Int32).toNatClampNeg) : Int32).toNatClampNeg) (v3 ((k2 (i : Int32).toNatClampNeg) : Int32).toNatClampNeg)) (va_cwS 3 hts gX3_evaluate_X0_ofTwo_56 rfl rfl rfl (by decide +kernel) ⟨Nat.le_of_ble_eq_true rfl, Nat.le_of_ble_eq_true rfl⟩) (sp_preS [.int (k0 (i : Int32).toNatClampNeg), .int (v3 ((k1 (i : Int32).toNatClampNeg) : Int32).toNatClampNeg), .int (v3 ((k2 (i : Int32).toNatClampNeg) : Int32).toNatClampNeg)] hK (hP.sub (ws' := []) [] rfl) (hD.sub (ws' := []) [] (by decide) rfl)) rfl rfl hl.1 rfl (lv_room (Nat.le_of_ble_eq_true rfl)) dX3_evaluate_109 ⟨Nat.le_of_ble_eq_true rfl, Nat.le_of_ble_eq_true rfl⟩) (fun r13 u14 H locs hw15 hP hD hS => ?_)
            have hq_15_0 : r13 = (kX0_ofTwo (k0 (i : Int32).toNatClampNeg) (v3 ((k1 (i : Int32).toNatClampNeg) : Int32).toNatClampNeg) (v3 ((k2 (i : Int32).toNatClampNeg) : Int32).toNatClampNeg)) := hw15
            subst r13
            have hP : va_P D vwCl [(oN, .inr (1, [.ref n0, .ref n1, .ref n2, .ref n3, .ref n4, .ref n5, .int cn])), (n0, .inl (cI, 40, .inl k0)), (n1, .inl (cI, 40, .inl k1)), (n2, .inl (cI, 40, .inl k2)), (n3, .inl (cI, 40, .inl v3)), (se, .inl (cI, 4, .inl fs))] H := hP
            have hD : va_D A [(oN, .inr (1, [.ref n0, .ref n1, .ref n2, .ref n3, .ref n4, .ref n5, .int cn])), (n0, .inl (cI, 40, .inl k0)), (n1, .inl (cI, 40, .inl k1)), (n2, .inl (cI, 40, .inl k2)), (n3, .inl (cI, 40, .inl v3)), (se, .inl (cI, 4, .inl fs))] := hD
            refine va_iast hx hb hK hP hD hS 4 0 rfl rfl (vp_in_iff.mpr ⟨by omega, by omega⟩) dX3_evaluate_112 (fun H locs hP hD hS => ?_)
            have hP : va_P D vwCl [(oN, .inr (1, [.ref n0, .ref n1, .ref n2, .ref n3, .ref n4, .ref n5, .int cn])), (n0, .inl (cI, 40, .inl k0)), (n1, .inl (cI, 40, .inl k1)), (n2, .inl (cI, 40, .inl k2)), (n3, .inl (cI, 40, .inl (upd v3 ((i) : Int32).toNatClampNeg (kX0_ofTwo (k0 (i : Int32).toNatClampNeg) (v3 ((k1 (i : Int32).toNatClampNeg) : Int32).toNatClampNeg) (v3 ((k2 (i : Int32).toNatClampNeg) : Int32).toNatClampNeg))))), (se, .inl (cI, 4, .inl fs))] H := hP
            have hD : va_D A [(oN, .inr (1, [.ref n0, .ref n1, .ref n2, .ref n3, .ref n4, .ref n5, .int cn])), (n0, .inl (cI, 40, .inl k0)), (n1, .inl (cI, 40, .inl k1)), (n2, .inl (cI, 40, .inl k2)), (n3, .inl (cI, 40, .inl (upd v3 ((i) : Int32).toNatClampNeg (kX0_ofTwo (k0 (i : Int32).toNatClampNeg) (v3 ((k1 (i : Int32).toNatClampNeg) : Int32).toNatClampNeg) (v3 ((k2 (i : Int32).toNatClampNeg) : Int32).toNatClampNeg))))), (se, .inl (cI, 4, .inl fs))] := hD
            refine lv_goto (tgt := 142) hx hb dX3_evaluate_113 (by decide) ?_
            exact hj18 ((upd v3 ((i) : Int32).toNatClampNeg (kX0_ofTwo (k0 (i : Int32).toNatClampNeg) (v3 ((k1 (i : Int32).toNatClampNeg) : Int32).toNatClampNeg) (v3 ((k2 (i : Int32).toNatClampNeg) : Int32).toNatClampNeg)))) _ _ _ (Eq.symm ((if_neg c8i).trans rfl)) (hP.sub [0, 1, 2, 3, 4, 5] rfl) (hD.sub [0, 1, 2, 3, 4, 5] (by decide) rfl) hS (lv_sub hl [0, 1, 2] rfl)
        · skip
          have c4i : ((k0 (i : Int32).toNatClampNeg) : Int32).toInt = 1 := congrArg Int32.toInt c4
          refine lv_aload_n hx hb dX3_evaluate_44 rfl (lv_at hl 0 rfl) ?_
          refine va_get (D := D) (ci := 1) (v := .ref n3) (C := RX3) (T := TX3) (N := 7) hx hb hts iX3_evaluate_X3 hown hK hP 0 rfl rfl 3 (by decide) (hts (.fieldLink RX3 21 "FloatSolver$Nodes" "values" "[I") (oX3_evaluate_in _ (List.mem_of_getElem? (i := 2) rfl))) (fun _ h9 => h9) rfl dX3_evaluate_45 ?_
          refine lv_iload_n hx hb dX3_evaluate_48 rfl (lv_at hl 2 rfl) ?_
          refine lv_aload_n hx hb dX3_evaluate_49 rfl (lv_at hl 1 rfl) ?_
          refine lv_aload_n hx hb dX3_evaluate_50 rfl (lv_at hl 0 rfl) ?_
          refine va_get (D := D) (ci := 1) (v := .ref n1) (C := RX3) (T := TX3) (N := 7) hx hb hts iX3_evaluate_X3 hown hK hP 0 rfl rfl 1 (by decide) (hts (.fieldLink RX3 15 "FloatSolver$Nodes" "x" "[I") (oX3_evaluate_in _ (List.mem_of_getElem? (i := 3) rfl))) (fun _ h9 => h9) rfl dX3_evaluate_51 ?_
          refine lv_iload_n hx hb dX3_evaluate_54 rfl (lv_at hl 2 rfl) ?_
          refine va_iald hx hb hK hP 2 0 rfl rfl (vp_in_iff.mpr ⟨by omega, by omega⟩) dX3_evaluate_55 ?_
          refine va_iald hx hb hK hP 5 0 rfl rfl (vp_in_iff.mpr ⟨by omega, by omega⟩) dX3_evaluate_56 ?_
          refine sp_calli (wr := [(oN, .inr (1, [.ref n0, .ref n1, .ref n2, .ref n3, .ref n4, .ref n5, .int cn])), (n0, .inl (cI, 40, .inl k0)), (n1, .inl (cI, 40, .inl k1)), (n2, .inl (cI, 40, .inl k2)), (n3, .inl (cI, 40, .inl v3)), (se, .inl (cI, 4, .inl fs))]) (wc := []) hP hD hS hA [] [0, 1, 2, 3, 4, 5] rfl rfl (by decide) (by decide) (va_runS (As := [.int (fs ((k1 (i : Int32).toNatClampNeg) : Int32).toNatClampNeg)]) (rest := [.int i, .ref n3]) ⟨hx, hb, hml, hown, hts⟩ (c_X2_bitsAt l D cI cJ cZ H.size (fs ((k1 (i : Int32).toNatClampNeg) : Int32).toNatClampNeg)) (va_cwS 1 hts gX3_evaluate_X2_bitsAt_52 rfl rfl rfl (by decide +kernel) ⟨Nat.le_of_ble_eq_true rfl, Nat.le_of_ble_eq_true rfl⟩) (sp_preS [.int (fs ((k1 (i : Int32).toNatClampNeg) : Int32).toNatClampNeg)] hK (hP.sub (ws' := []) [] rfl) (hD.sub (ws' := []) [] (by decide) rfl)) rfl rfl hl.1 rfl (lv_room (Nat.le_of_ble_eq_true rfl)) dX3_evaluate_57 ⟨Nat.le_of_ble_eq_true rfl, Nat.le_of_ble_eq_true rfl⟩) (fun r20 u21 H locs hw22 hP hD hS => ?_)
          have hq_22_0 : r20 = (kX2_bitsAt (fs ((k1 (i : Int32).toNatClampNeg) : Int32).toNatClampNeg)) := hw22
          subst r20
          have hP : va_P D vwCl [(oN, .inr (1, [.ref n0, .ref n1, .ref n2, .ref n3, .ref n4, .ref n5, .int cn])), (n0, .inl (cI, 40, .inl k0)), (n1, .inl (cI, 40, .inl k1)), (n2, .inl (cI, 40, .inl k2)), (n3, .inl (cI, 40, .inl v3)), (se, .inl (cI, 4, .inl fs))] H := hP
          have hD : va_D A [(oN, .inr (1, [.ref n0, .ref n1, .ref n2, .ref n3, .ref n4, .ref n5, .int cn])), (n0, .inl (cI, 40, .inl k0)), (n1, .inl (cI, 40, .inl k1)), (n2, .inl (cI, 40, .inl k2)), (n3, .inl (cI, 40, .inl v3)), (se, .inl (cI, 4, .inl fs))] := hD
          refine va_iast hx hb hK hP hD hS 4 0 rfl rfl (vp_in_iff.mpr ⟨by omega, by omega⟩) dX3_evaluate_60 (fun H locs hP hD hS => ?_)
          have hP : va_P D vwCl [(oN, .inr (1, [.ref n0, .ref n1, .ref n2, .ref n3, .ref n4, .ref n5, .int cn])), (n0, .inl (cI, 40, .inl k0)), (n1, .inl (cI, 40, .inl k1)), (n2, .inl (cI, 40, .inl k2)), (n3, .inl (cI, 40, .inl (upd v3 ((i) : Int32).toNatClampNeg (kX2_bitsAt (fs ((k1 (i : Int32).toNatClampNeg) : Int32).toNatClampNeg))))), (se, .inl (cI, 4, .inl fs))] H := hP
          have hD : va_D A [(oN, .inr (1, [.ref n0, .ref n1, .ref n2, .ref n3, .ref n4, .ref n5, .int cn])), (n0, .inl (cI, 40, .inl k0)), (n1, .inl (cI, 40, .inl k1)), (n2, .inl (cI, 40, .inl k2)), (n3, .inl (cI, 40, .inl (upd v3 ((i) : Int32).toNatClampNeg (kX2_bitsAt (fs ((k1 (i : Int32).toNatClampNeg) : Int32).toNatClampNeg))))), (se, .inl (cI, 4, .inl fs))] := hD
          refine lv_goto (tgt := 142) hx hb dX3_evaluate_61 (by decide) ?_
          exact hj25 ((upd v3 ((i) : Int32).toNatClampNeg (kX2_bitsAt (fs ((k1 (i : Int32).toNatClampNeg) : Int32).toNatClampNeg)))) _ _ _ (Eq.symm ((if_pos c4i).trans rfl)) (hP.sub [0, 1, 2, 3, 4, 5] rfl) (hD.sub [0, 1, 2, 3, 4, 5] (by decide) rfl) hS (lv_sub hl [0, 1, 2] rfl)
      · skip
        have c3i : ((k0 (i : Int32).toNatClampNeg) : Int32).toInt = 0 := congrArg Int32.toInt c3
        refine lv_aload_n hx hb dX3_evaluate_19 rfl (lv_at hl 0 rfl) ?_
        refine va_get (D := D) (ci := 1) (v := .ref n3) (C := RX3) (T := TX3) (N := 7) hx hb hts iX3_evaluate_X3 hown hK hP 0 rfl rfl 3 (by decide) (hts (.fieldLink RX3 21 "FloatSolver$Nodes" "values" "[I") (oX3_evaluate_in _ (List.mem_of_getElem? (i := 2) rfl))) (fun _ h9 => h9) rfl dX3_evaluate_20 ?_
        refine lv_iload_n hx hb dX3_evaluate_23 rfl (lv_at hl 2 rfl) ?_
        refine lv_aload_n hx hb dX3_evaluate_24 rfl (lv_at hl 0 rfl) ?_
        refine va_get (D := D) (ci := 1) (v := .ref n1) (C := RX3) (T := TX3) (N := 7) hx hb hts iX3_evaluate_X3 hown hK hP 0 rfl rfl 1 (by decide) (hts (.fieldLink RX3 15 "FloatSolver$Nodes" "x" "[I") (oX3_evaluate_in _ (List.mem_of_getElem? (i := 3) rfl))) (fun _ h9 => h9) rfl dX3_evaluate_25 ?_
        refine lv_iload_n hx hb dX3_evaluate_28 rfl (lv_at hl 2 rfl) ?_
        refine va_iald hx hb hK hP 2 0 rfl rfl (vp_in_iff.mpr ⟨by omega, by omega⟩) dX3_evaluate_29 ?_
        refine va_iast hx hb hK hP hD hS 4 0 rfl rfl (vp_in_iff.mpr ⟨by omega, by omega⟩) dX3_evaluate_30 (fun H locs hP hD hS => ?_)
        have hP : va_P D vwCl [(oN, .inr (1, [.ref n0, .ref n1, .ref n2, .ref n3, .ref n4, .ref n5, .int cn])), (n0, .inl (cI, 40, .inl k0)), (n1, .inl (cI, 40, .inl k1)), (n2, .inl (cI, 40, .inl k2)), (n3, .inl (cI, 40, .inl (upd v3 ((i) : Int32).toNatClampNeg (k1 (i : Int32).toNatClampNeg)))), (se, .inl (cI, 4, .inl fs))] H := hP
        have hD : va_D A [(oN, .inr (1, [.ref n0, .ref n1, .ref n2, .ref n3, .ref n4, .ref n5, .int cn])), (n0, .inl (cI, 40, .inl k0)), (n1, .inl (cI, 40, .inl k1)), (n2, .inl (cI, 40, .inl k2)), (n3, .inl (cI, 40, .inl (upd v3 ((i) : Int32).toNatClampNeg (k1 (i : Int32).toNatClampNeg)))), (se, .inl (cI, 4, .inl fs))] := hD
        refine lv_goto (tgt := 142) hx hb dX3_evaluate_31 (by decide) ?_
        exact hj29 ((upd v3 ((i) : Int32).toNatClampNeg (k1 (i : Int32).toNatClampNeg))) _ _ _ (Eq.symm ((if_pos c3i).trans rfl)) (hP.sub [0, 1, 2, 3, 4, 5] rfl) (hD.sub [0, 1, 2, 3, 4, 5] (by decide) rfl) hS (lv_sub hl [0, 1, 2] rfl)
set_option maxHeartbeats 4000000 in
set_option maxRecDepth 100000 in
theorem c_X3_evaluate (l : Launch) (D : va_G) (cI cJ cZ : ClassId) (sz : Nat) (oN se n0 n1 n2 n3 n4 n5 : Nat) (k0 : Nat → Int32) (k1 : Nat → Int32) (k2 : Nat → Int32) (k3 : Nat → Int32) (fs : Nat → Int32) (cn : Int32) (hni : NI cn k0 k1 k2) : Met l yX3_evaluate wpX3_evaluate ({ frames := 5, cells := 0, slots := 0, locals := 132 }) (va_Pc ([.ref oN, .ref se] : List Value) (sp_pre D vwCl (sp_ty cI cJ cZ) [(oN, .inr (1, [.ref n0, .ref n1, .ref n2, .ref n3, .ref n4, .ref n5, .int cn])), (n0, .inl (cI, 40, .inl k0)), (n1, .inl (cI, 40, .inl k1)), (n2, .inl (cI, 40, .inl k2)), (n3, .inl (cI, 40, .inl k3)), (se, .inl (cI, 4, .inl fs))] sz)) (va_Qv (fun (u : (Nat → Int32)) => match u with | v3 => v3 = kX3_evaluate_v3 k0 k1 k2 k3 fs cn) (sp_B D vwCl (va_A [(oN, .inr (1, [.ref n0, .ref n1, .ref n2, .ref n3, .ref n4, .ref n5, .int cn])), (n0, .inl (cI, 40, .inl k0)), (n1, .inl (cI, 40, .inl k1)), (n2, .inl (cI, 40, .inl k2)), (n3, .inl (cI, 40, .inl k3)), (se, .inl (cI, 4, .inl fs))] sz) (fun (u : (Nat → Int32)) => match u with | v3 => [(oN, .inr (1, [.ref n0, .ref n1, .ref n2, .ref n3, .ref n4, .ref n5, .int cn])), (n0, .inl (cI, 40, .inl k0)), (n1, .inl (cI, 40, .inl k1)), (n2, .inl (cI, 40, .inl k2)), (n3, .inl (cI, 40, .inl v3)), (se, .inl (cI, 4, .inl fs))])) (va_A [(oN, .inr (1, [.ref n0, .ref n1, .ref n2, .ref n3, .ref n4, .ref n5, .int cn])), (n0, .inl (cI, 40, .inl k0)), (n1, .inl (cI, 40, .inl k1)), (n2, .inl (cI, 40, .inl k2)), (n3, .inl (cI, 40, .inl k3)), (se, .inl (cI, 4, .inl fs))] sz)) 0 0 (va_A [(oN, .inr (1, [.ref n0, .ref n1, .ref n2, .ref n3, .ref n4, .ref n5, .int cn])), (n0, .inl (cI, 40, .inl k0)), (n1, .inl (cI, 40, .inl k1)), (n2, .inl (cI, 40, .inl k2)), (n3, .inl (cI, 40, .inl k3)), (se, .inl (cI, 4, .inl fs))] sz) := by
  refine sp_ofW (Qc := fun A => va_Qv (fun (u : (Nat → Int32)) => match u with | v3 => v3 = kX3_evaluate_v3 k0 k1 k2 k3 fs cn) (sp_B D vwCl A (fun (u : (Nat → Int32)) => match u with | v3 => [(oN, .inr (1, [.ref n0, .ref n1, .ref n2, .ref n3, .ref n4, .ref n5, .int cn])), (n0, .inl (cI, 40, .inl k0)), (n1, .inl (cI, 40, .inl k1)), (n2, .inl (cI, 40, .inl k2)), (n3, .inl (cI, 40, .inl v3)), (se, .inl (cI, 4, .inl fs))])) A) (by decide) rfl (Nat.le_of_ble_eq_true rfl) (fun p e s m below meth c A ls H locs C0 hA hS hP hK hD hl => ?_)
  obtain ⟨hx, hb, hr, hts, hown, hlocks, hml, hin⟩ := id C0
  have hown : s.vm.findClass RX3 = some m.cls := hown
  have hl : lv_has ls 3 [(0, .ref oN), (1, .ref se)] := hl
  have hK : va_K D vwCl [(cI, .int), (cJ, .long), (cZ, .boolean)] s := hK
  obtain ⟨hc0, hc1, hci⟩ := id hni
  refine lv_iconst (v := 0) hx hb dX3_evaluate_0 (by decide) ?_
  refine lv_istore_n (lv' := [(2, .int 0), (0, .ref oN), (1, .ref se)]) hx hb dX3_evaluate_1 rfl hl (by decide) rfl (fun ls hl => ?_)
  have kk1 : ((0) : Int32).toInt = (0) := by decide
  exact lp_X3_evaluate_2 l D cI cJ cZ oN se n0 n1 n2 n3 n4 n5 k0 k1 k2 k3 fs cn hni C0 hA hK 42 (0) (k3) _ _ _ (by first | assumption | omega) (by first | assumption | omega) rfl (by omega) (hP.sub [0, 1, 2, 3, 4, 5] rfl) (hD.sub [0, 1, 2, 3, 4, 5] (by decide) rfl) hS (lv_sub hl [1, 2, 0] rfl)
