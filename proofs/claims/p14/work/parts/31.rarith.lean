theorem kz_mag (g : Int64) : 0 ≤ (kX8_magOf g : Int64).toInt ∧ ((kX8_isZero g : Int32).toInt = 0 → 1 ≤ (kX8_magOf g : Int64).toInt) := by
  have h1 : (1 : Int32).toInt = 1 := by decide
  unfold kX8_magOf kX8_magOf_15_z4 kX8_isZero
  by_cases hg : 0 ≤ g.toInt
  · rw [if_pos hg]
    refine ⟨hg, fun h => ?_⟩
    by_cases h0 : g.toInt = 0
    · rw [if_pos h0] at h
      omega
    · omega
  · rw [if_neg hg]
    have e := px_neg1 (g := g) (by omega)
    refine ⟨by omega, fun h => ?_⟩
    rw [if_neg (by omega)] at h
    by_cases h0 : g.toInt = -1
    · rw [if_pos h0] at h
      omega
    · omega
theorem kz_dpos {g : Int64} (h : (kX8_isZero g : Int32).toInt = 0) : 1 ≤ (kX8_digits g : Int64).toInt := by
  have hm := kz_mag g
  have h1 := hm.2 h
  unfold kX8_digits kX8_digits_26_z7
  by_cases hc : 8388608 ≤ (kX8_magOf g : Int64).toInt
  · rw [if_pos hc]
    have := px_dig hm.1
    omega
  · rw [if_neg hc]
    exact h1
theorem kz_dnz {q : Int64} (h : (kX8_isZero q : Int32).toInt = 0) : ¬ kX8_digits q = 0 := by
  have h1 := kz_dpos h
  intro e
  rw [e] at h1
  exact absurd h1 (by decide)
theorem kz_dnz' {q : Int64} (h : (kX8_isZero q : Int32).toInt = 0) : ¬ (kX8_digits q : Int64).toInt = 0 := by
  have h1 := kz_dpos h
  omega
def oX8_turned : List Cond := [.constantLong RX8 82 (9000000000), .constantLong RX8 74 (-1)]
def wpX8_turned : List Cond := .code yX8_turned cX8_turned 2 (some .long) :: (oX8_turned ++ ([] : List Cond))
theorem oX8_turned_in : ∀ w ∈ oX8_turned, w ∈ wpX8_turned := fun w h => List.mem_cons_of_mem _ (List.mem_append_left _ h)
theorem gwoX8_turned : ∀ w ∈ oX8_turned, goodWord w = true := by decide +kernel
theorem gwX8_turned : ∀ w ∈ wpX8_turned, goodWord w = true := by
  unfold wpX8_turned
  exact List.forall_mem_cons.mpr ⟨rfl, List.forall_mem_append.mpr ⟨gwoX8_turned, fun _ h => absurd h List.not_mem_nil⟩⟩
set_option maxRecDepth 100000 in
theorem toX8_turned : ∀ w ∈ oX8_turned, w ∈ lw_tbl := by
  unfold oX8_turned
  exact List.forall_mem_cons.mpr ⟨(List.mem_of_getElem? (i := 804) (by decide +kernel)), List.forall_mem_cons.mpr ⟨(List.mem_of_getElem? (i := 808) (by decide +kernel)), fun _ h => absurd h List.not_mem_nil⟩⟩
set_option maxRecDepth 100000 in
theorem tX8_turned : ∀ w ∈ wpX8_turned, w ∈ lw_tbl := by
  unfold wpX8_turned
  exact List.forall_mem_cons.mpr ⟨(List.mem_of_getElem? (i := 854) (by rfl)), List.forall_mem_append.mpr ⟨toX8_turned, fun _ h => absurd h List.not_mem_nil⟩⟩
set_option maxHeartbeats 4000000 in
set_option maxRecDepth 100000 in
theorem c_X8_turned (l : Launch) (D : va_G) (cI cJ cZ : ClassId) (sz : Nat) (g : Int64) : Met l yX8_turned wpX8_turned ({ frames := 0, cells := 0, slots := 0, locals := 0 }) (va_Pc ([.long g] : List Value) (sp_pre D vwCl (sp_ty cI cJ cZ) [] sz)) (va_Ql (fun (r : Int64) (_ : Unit) => r = kX8_turned g) (sp_B D vwCl (va_A [] sz) (fun (_ : Unit) => [])) (va_A [] sz)) 0 0 (va_A [] sz) := by
  refine sp_ofW (Qc := fun A => va_Ql (fun (r : Int64) (_ : Unit) => r = kX8_turned g) (sp_B D vwCl A (fun (_ : Unit) => [])) A) (by decide) rfl (Nat.le_of_ble_eq_true rfl) (fun p e s m below meth c A ls H locs C0 hA hS hP hK hD hl => ?_)
  obtain ⟨hx, hb, hr, hts, hown, hlocks, hml, hin⟩ := id C0
  have hown : s.vm.findClass RX8 = some m.cls := hown
  have hl : lv_has ls 2 [(0, .long g)] := hl
  have hK : va_K D vwCl [(cI, .int), (cJ, .long), (cZ, .boolean)] s := hK
  refine lv_lload_n hx hb dX8_turned_0 rfl (lv_at hl 0 rfl) ?_
  refine lv_ldc2 (v := 9000000000) hx hb hown (hts (.constantLong RX8 82 (9000000000)) (oX8_turned_in _ (List.mem_of_getElem? (i := 0) rfl))) dX8_turned_1 ?_
  refine W.lcmp hx hb dX8_turned_4 ?_
  refine lv_if_ne (tgt := 14) hx hb dX8_turned_5 (by decide) (fun c1 => ?_) (fun c1 => ?_)
  · skip
    have c1 := fun h => c1 ((lg_cmp_eq _ _).mpr h)
    have c1i : ¬ (g : Int64).toInt = 9000000000 := fun h => c1 (Int64.toInt_inj.mp h)
    refine lv_ldc2 (v := (-1)) hx hb hown (hts (.constantLong RX8 74 (-1)) (oX8_turned_in _ (List.mem_of_getElem? (i := 1) rfl))) dX8_turned_14 ?_
    refine lv_lload_n hx hb dX8_turned_17 rfl (lv_at hl 0 rfl) ?_
    refine lv_lsub hx hb dX8_turned_18 ?_
    refine W.widen (k := 0) (n := 0) (by decide) (by decide) ?_
    exact sp_lret (u := ()) hx hb hr hlocks hS (Eq.symm ((if_neg c1i).trans rfl)) (hP.sub [] rfl) (hD.sub [] (by decide) rfl) dX8_turned_19
  · skip
    have c1 := (lg_cmp_eq _ _).mp c1
    have c1i : (g : Int64).toInt = 9000000000 := congrArg Int64.toInt c1
    refine lv_ldc2 (v := 9000000000) hx hb hown (hts (.constantLong RX8 82 (9000000000)) (oX8_turned_in _ (List.mem_of_getElem? (i := 0) rfl))) dX8_turned_8 ?_
    refine lv_goto (tgt := 19) hx hb dX8_turned_11 (by decide) ?_
    refine W.widen (k := 0) (n := 0) (by decide) (by decide) ?_
    exact sp_lret (u := ()) hx hb hr hlocks hS (Eq.symm ((if_pos c1i).trans rfl)) (hP.sub [] rfl) (hD.sub [] (by decide) rfl) dX8_turned_19
def oX8_plus : List Cond := [.constantLong RX8 82 (9000000000)]
def wpX8_plus : List Cond := .code yX8_plus cX8_plus 19 (some .long) :: (oX8_plus ++ ((va_wsS RX8 94 yX8_isInfinite wpX8_isInfinite) ++ ((va_wsS RX8 98 yX8_power wpX8_power) ++ ((va_wsS RX8 102 yX8_digits wpX8_digits) ++ ((va_wsS RX8 105 yX8_pack wpX8_pack) ++ ([] : List Cond))))))
theorem oX8_plus_in : ∀ w ∈ oX8_plus, w ∈ wpX8_plus := fun w h => List.mem_cons_of_mem _ (List.mem_append_left _ h)
theorem gwoX8_plus : ∀ w ∈ oX8_plus, goodWord w = true := by decide +kernel
theorem gwX8_plus : ∀ w ∈ wpX8_plus, goodWord w = true := by
  unfold wpX8_plus
  exact List.forall_mem_cons.mpr ⟨rfl, List.forall_mem_append.mpr ⟨gwoX8_plus, List.forall_mem_append.mpr ⟨(sp_gS gwX8_isInfinite), List.forall_mem_append.mpr ⟨(sp_gS gwX8_power), List.forall_mem_append.mpr ⟨(sp_gS gwX8_digits), List.forall_mem_append.mpr ⟨(sp_gS gwX8_pack), fun _ h => absurd h List.not_mem_nil⟩⟩⟩⟩⟩⟩
set_option maxRecDepth 100000 in
theorem toX8_plus : ∀ w ∈ oX8_plus, w ∈ lw_tbl := by
  unfold oX8_plus
  exact List.forall_mem_cons.mpr ⟨(List.mem_of_getElem? (i := 804) (by decide +kernel)), fun _ h => absurd h List.not_mem_nil⟩
set_option maxRecDepth 100000 in
theorem tX8_plus : ∀ w ∈ wpX8_plus, w ∈ lw_tbl := by
  unfold wpX8_plus
  exact List.forall_mem_cons.mpr ⟨(List.mem_of_getElem? (i := 833) (by rfl)), List.forall_mem_append.mpr ⟨toX8_plus, List.forall_mem_append.mpr ⟨(sp_tS (List.mem_of_getElem? (i := 834) (by decide +kernel)) (List.mem_of_getElem? (i := 835) (by decide +kernel)) (List.mem_of_getElem? (i := 45) (by decide +kernel)) tX8_isInfinite), List.forall_mem_append.mpr ⟨(sp_tS (List.mem_of_getElem? (i := 840) (by decide +kernel)) (List.mem_of_getElem? (i := 841) (by decide +kernel)) (List.mem_of_getElem? (i := 45) (by decide +kernel)) tX8_power), List.forall_mem_append.mpr ⟨(sp_tS (List.mem_of_getElem? (i := 844) (by decide +kernel)) (List.mem_of_getElem? (i := 845) (by decide +kernel)) (List.mem_of_getElem? (i := 45) (by decide +kernel)) tX8_digits), List.forall_mem_append.mpr ⟨(sp_tS (List.mem_of_getElem? (i := 847) (by decide +kernel)) (List.mem_of_getElem? (i := 848) (by decide +kernel)) (List.mem_of_getElem? (i := 45) (by decide +kernel)) tX8_pack), fun _ h => absurd h List.not_mem_nil⟩⟩⟩⟩⟩⟩
theorem gX8_plus_X8_isInfinite_94 : GoodIn wpX8_plus (va_wsS RX8 94 yX8_isInfinite wpX8_isInfinite) := fun w h => ⟨List.mem_cons_of_mem _ (List.mem_append_right _ (List.mem_append_left _ h)), good_of_word (sp_gS gwX8_isInfinite w h)⟩
theorem gX8_plus_X8_power_98 : GoodIn wpX8_plus (va_wsS RX8 98 yX8_power wpX8_power) := fun w h => ⟨List.mem_cons_of_mem _ (List.mem_append_right _ (List.mem_append_right _ (List.mem_append_left _ h))), good_of_word (sp_gS gwX8_power w h)⟩
theorem gX8_plus_X8_digits_102 : GoodIn wpX8_plus (va_wsS RX8 102 yX8_digits wpX8_digits) := fun w h => ⟨List.mem_cons_of_mem _ (List.mem_append_right _ (List.mem_append_right _ (List.mem_append_right _ (List.mem_append_left _ h)))), good_of_word (sp_gS gwX8_digits w h)⟩
theorem gX8_plus_X8_pack_105 : GoodIn wpX8_plus (va_wsS RX8 105 yX8_pack wpX8_pack) := fun w h => ⟨List.mem_cons_of_mem _ (List.mem_append_right _ (List.mem_append_right _ (List.mem_append_right _ (List.mem_append_right _ (List.mem_append_left _ h))))), good_of_word (sp_gS gwX8_pack w h)⟩
set_option maxHeartbeats 4000000 in
set_option maxRecDepth 100000 in
theorem c_X8_plus (l : Launch) (D : va_G) (cI cJ cZ : ClassId) (sz : Nat) (g : Int64) (q : Int64) : Met l yX8_plus wpX8_plus ({ frames := 2, cells := 0, slots := 0, locals := 51 }) (va_Pc ([.long g, .long q] : List Value) (sp_pre D vwCl (sp_ty cI cJ cZ) [] sz)) (va_Ql (fun (r : Int64) (_ : Unit) => r = kX8_plus g q) (sp_B D vwCl (va_A [] sz) (fun (_ : Unit) => [])) (va_A [] sz)) 0 0 (va_A [] sz) := by
  refine sp_ofW (Qc := fun A => va_Ql (fun (r : Int64) (_ : Unit) => r = kX8_plus g q) (sp_B D vwCl A (fun (_ : Unit) => [])) A) (by decide) rfl (Nat.le_of_ble_eq_true rfl) (fun p e s m below meth c A ls H locs C0 hA hS hP hK hD hl => ?_)
  obtain ⟨hx, hb, hr, hts, hown, hlocks, hml, hin⟩ := id C0
  have hown : s.vm.findClass RX8 = some m.cls := hown
  have hl : lv_has ls 19 [(0, .long g), (2, .long q)] := hl
  have hK : va_K D vwCl [(cI, .int), (cJ, .long), (cZ, .boolean)] s := hK
  refine lv_lload_n hx hb dX8_plus_0 rfl (lv_at hl 0 rfl) ?_
  refine lv_ldc2 (v := 9000000000) hx hb hown (hts (.constantLong RX8 82 (9000000000)) (oX8_plus_in _ (List.mem_of_getElem? (i := 0) rfl))) dX8_plus_1 ?_
  refine W.lcmp hx hb dX8_plus_4 ?_
  refine lv_if_eq (tgt := 16) hx hb dX8_plus_5 (by decide) (fun c1 => ?_) (fun c1 => ?_)
  · skip
    have c1 := (lg_cmp_eq _ _).mp c1
    have c1i : (g : Int64).toInt = 9000000000 := congrArg Int64.toInt c1
    refine lv_ldc2 (v := 9000000000) hx hb hown (hts (.constantLong RX8 82 (9000000000)) (oX8_plus_in _ (List.mem_of_getElem? (i := 0) rfl))) dX8_plus_16 ?_
    refine W.widen (k := 0) (n := 0) (by decide) (by decide) ?_
    exact sp_lret (u := ()) hx hb hr hlocks hS (Eq.symm ((if_pos c1i).trans rfl)) (hP.sub [] rfl) (hD.sub [] (by decide) rfl) dX8_plus_19
  · skip
    have c1 := fun h => c1 ((lg_cmp_eq _ _).mpr h)
    have c1i : ¬ (g : Int64).toInt = 9000000000 := fun h => c1 (Int64.toInt_inj.mp h)
    refine lv_lload_n hx hb dX8_plus_8 rfl (lv_at hl 1 rfl) ?_
    refine lv_ldc2 (v := 9000000000) hx hb hown (hts (.constantLong RX8 82 (9000000000)) (oX8_plus_in _ (List.mem_of_getElem? (i := 0) rfl))) dX8_plus_9 ?_
    refine W.lcmp hx hb dX8_plus_12 ?_
    refine lv_if_ne (tgt := 20) hx hb dX8_plus_13 (by decide) (fun c2 => ?_) (fun c2 => ?_)
    · skip
      have c2 := fun h => c2 ((lg_cmp_eq _ _).mpr h)
      have c2i : ¬ (q : Int64).toInt = 9000000000 := fun h => c2 (Int64.toInt_inj.mp h)
      refine lv_lload_n hx hb dX8_plus_20 rfl (lv_at hl 0 rfl) ?_
      refine sp_calli (wr := []) (wc := []) hP hD hS hA [] [] rfl rfl (by decide) (by decide) (va_runS (As := [.long g]) (rest := []) ⟨hx, hb, hml, hown, hts⟩ (c_X8_isInfinite l D cI cJ cZ H.size g) (va_cwS 1 hts gX8_plus_X8_isInfinite_94 rfl rfl rfl (by decide +kernel) ⟨Nat.le_of_ble_eq_true rfl, Nat.le_of_ble_eq_true rfl⟩) (sp_preS [.long g] hK (hP.sub (ws' := []) [] rfl) (hD.sub (ws' := []) [] (by decide) rfl)) rfl rfl hl.1 rfl (lv_room (Nat.le_of_ble_eq_true rfl)) dX8_plus_21 ⟨Nat.le_of_ble_eq_true rfl, Nat.le_of_ble_eq_true rfl⟩) (fun r3 u4 H locs hw5 hP hD hS => ?_)
      have hq_5_0 : r3 = (kX8_isInfinite g) := hw5
      subst r3
      have hP : va_P D vwCl [] H := hP
      have hD : va_D A [] := hD
      refine lv_if_ne (tgt := 34) hx hb dX8_plus_24 (by decide) (fun c6 => ?_) (fun c6 => ?_)
      · skip
        have c6i : ¬ ((kX8_isInfinite g) : Int32).toInt = 0 := fun h => c6 (Int32.toInt_inj.mp h)
        refine lv_lload_n hx hb dX8_plus_34 rfl (lv_at hl 0 rfl) ?_
        refine sp_calli (wr := []) (wc := []) hP hD hS hA [] [] rfl rfl (by decide) (by decide) (va_runS (As := [.long g]) (rest := []) ⟨hx, hb, hml, hown, hts⟩ (c_X8_isInfinite l D cI cJ cZ H.size g) (va_cwS 1 hts gX8_plus_X8_isInfinite_94 rfl rfl rfl (by decide +kernel) ⟨Nat.le_of_ble_eq_true rfl, Nat.le_of_ble_eq_true rfl⟩) (sp_preS [.long g] hK (hP.sub (ws' := []) [] rfl) (hD.sub (ws' := []) [] (by decide) rfl)) rfl rfl hl.1 rfl (lv_room (Nat.le_of_ble_eq_true rfl)) dX8_plus_35 ⟨Nat.le_of_ble_eq_true rfl, Nat.le_of_ble_eq_true rfl⟩) (fun r7 u8 H locs hw9 hP hD hS => ?_)
        have hq_9_0 : r7 = (kX8_isInfinite g) := hw9
        subst r7
        have hP : va_P D vwCl [] H := hP
        have hD : va_D A [] := hD
        have hj51 : ∀ (z50 : Int64) (H : Heap) (locs : List Loc) (ls : Array Slot), (z50 = kX8_plus_72_z50 g q) → va_P D vwCl [] H → va_D A [] → va_S A s.heap H locs → lv_has ls 19 [(0, .long g), (2, .long q)] → W p l e ({ frames := 2, cells := 0, slots := 0, locals := 51 }) s m (([.long g, .long q] : List Value).toArray) below meth c H locs 0 0 (MQ below (va_Ql (fun (r : Int64) (_ : Unit) => r = kX8_plus g q) (sp_B D vwCl A (fun (_ : Unit) => [])) A) ([.long g, .long q] : List Value).toArray s 0 0 A) (F0 m 72 ls [.long z50]) := by
          intro z50 H locs ls hz50 hP hD hS hl
          subst z50
          refine W.widen (k := 0) (n := 0) (by decide) (by decide) ?_
          exact sp_lret (u := ()) hx hb hr hlocks hS (Eq.symm ((if_neg c1i).trans ((if_neg c2i).trans ((if_neg c6i).trans rfl)))) (hP.sub [] rfl) (hD.sub [] (by decide) rfl) dX8_plus_72
        refine lv_if_eq (tgt := 60) hx hb dX8_plus_38 (by decide) (fun c10 => ?_) (fun c10 => ?_)
        · skip
          have c10i : ((kX8_isInfinite g) : Int32).toInt = 0 := congrArg Int32.toInt c10
          refine lv_lload_n hx hb dX8_plus_60 rfl (lv_at hl 0 rfl) ?_
          refine sp_calli (wr := []) (wc := []) hP hD hS hA [] [] rfl rfl (by decide) (by decide) (va_runS (As := [.long g]) (rest := []) ⟨hx, hb, hml, hown, hts⟩ (c_X8_isInfinite l D cI cJ cZ H.size g) (va_cwS 1 hts gX8_plus_X8_isInfinite_94 rfl rfl rfl (by decide +kernel) ⟨Nat.le_of_ble_eq_true rfl, Nat.le_of_ble_eq_true rfl⟩) (sp_preS [.long g] hK (hP.sub (ws' := []) [] rfl) (hD.sub (ws' := []) [] (by decide) rfl)) rfl rfl hl.1 rfl (lv_room (Nat.le_of_ble_eq_true rfl)) dX8_plus_61 ⟨Nat.le_of_ble_eq_true rfl, Nat.le_of_ble_eq_true rfl⟩) (fun r11 u12 H locs hw13 hP hD hS => ?_)
          have hq_13_0 : r11 = (kX8_isInfinite g) := hw13
          subst r11
          have hP : va_P D vwCl [] H := hP
          have hD : va_D A [] := hD
          have hj18 : ∀ (z17 : Int64) (H : Heap) (locs : List Loc) (ls : Array Slot), (z17 = kX8_plus_72_z17 g q) → va_P D vwCl [] H → va_D A [] → va_S A s.heap H locs → lv_has ls 19 [(0, .long g), (2, .long q)] → W p l e ({ frames := 2, cells := 0, slots := 0, locals := 51 }) s m (([.long g, .long q] : List Value).toArray) below meth c H locs 0 0 (MQ below (va_Ql (fun (r : Int64) (_ : Unit) => r = kX8_plus g q) (sp_B D vwCl A (fun (_ : Unit) => [])) A) ([.long g, .long q] : List Value).toArray s 0 0 A) (F0 m 72 ls [.long z17]) := by
            intro z17 H locs ls hz17 hP hD hS hl
            subst z17
            exact hj51 ((kX8_plus_72_z17 g q)) _ _ _ (Eq.symm ((if_pos c10i).trans rfl)) (hP.sub [] rfl) (hD.sub [] (by decide) rfl) hS (lv_sub hl [0, 1] rfl)
          refine lv_if_eq (tgt := 71) hx hb dX8_plus_64 (by decide) (fun c14 => ?_) (fun c14 => ?_)
          · skip
            have c14i : ((kX8_isInfinite g) : Int32).toInt = 0 := congrArg Int32.toInt c14
            refine lv_lload_n hx hb dX8_plus_71 rfl (lv_at hl 1 rfl) ?_
            exact hj18 (q) _ _ _ (Eq.symm ((if_pos c14i).trans rfl)) (hP.sub [] rfl) (hD.sub [] (by decide) rfl) hS (lv_sub hl [0, 1] rfl)
          · skip
            have c14i : ¬ ((kX8_isInfinite g) : Int32).toInt = 0 := fun h => c14 (Int32.toInt_inj.mp h)
            refine lv_lload_n hx hb dX8_plus_67 rfl (lv_at hl 0 rfl) ?_
            refine lv_goto (tgt := 72) hx hb dX8_plus_68 (by decide) ?_
            exact hj18 (g) _ _ _ (Eq.symm ((if_neg c14i).trans rfl)) (hP.sub [] rfl) (hD.sub [] (by decide) rfl) hS (lv_sub hl [0, 1] rfl)
        · skip
          have c10i : ¬ ((kX8_isInfinite g) : Int32).toInt = 0 := fun h => c10 (Int32.toInt_inj.mp h)
          refine lv_lload_n hx hb dX8_plus_41 rfl (lv_at hl 1 rfl) ?_
          refine sp_calli (wr := []) (wc := []) hP hD hS hA [] [] rfl rfl (by decide) (by decide) (va_runS (As := [.long q]) (rest := []) ⟨hx, hb, hml, hown, hts⟩ (c_X8_isInfinite l D cI cJ cZ H.size q) (va_cwS 1 hts gX8_plus_X8_isInfinite_94 rfl rfl rfl (by decide +kernel) ⟨Nat.le_of_ble_eq_true rfl, Nat.le_of_ble_eq_true rfl⟩) (sp_preS [.long q] hK (hP.sub (ws' := []) [] rfl) (hD.sub (ws' := []) [] (by decide) rfl)) rfl rfl hl.1 rfl (lv_room (Nat.le_of_ble_eq_true rfl)) dX8_plus_42 ⟨Nat.le_of_ble_eq_true rfl, Nat.le_of_ble_eq_true rfl⟩) (fun r20 u21 H locs hw22 hP hD hS => ?_)
          have hq_22_0 : r20 = (kX8_isInfinite q) := hw22
          subst r20
          have hP : va_P D vwCl [] H := hP
          have hD : va_D A [] := hD
          have hj48 : ∀ (z47 : Int64) (H : Heap) (locs : List Loc) (ls : Array Slot), (z47 = kX8_plus_72_z47 g q) → va_P D vwCl [] H → va_D A [] → va_S A s.heap H locs → lv_has ls 19 [(0, .long g), (2, .long q)] → W p l e ({ frames := 2, cells := 0, slots := 0, locals := 51 }) s m (([.long g, .long q] : List Value).toArray) below meth c H locs 0 0 (MQ below (va_Ql (fun (r : Int64) (_ : Unit) => r = kX8_plus g q) (sp_B D vwCl A (fun (_ : Unit) => [])) A) ([.long g, .long q] : List Value).toArray s 0 0 A) (F0 m 72 ls [.long z47]) := by
            intro z47 H locs ls hz47 hP hD hS hl
            subst z47
            exact hj51 ((kX8_plus_72_z47 g q)) _ _ _ (Eq.symm ((if_neg c10i).trans rfl)) (hP.sub [] rfl) (hD.sub [] (by decide) rfl) hS (lv_sub hl [0, 1] rfl)
          refine lv_if_eq (tgt := 60) hx hb dX8_plus_45 (by decide) (fun c23 => ?_) (fun c23 => ?_)
          · skip
            have c23i : ((kX8_isInfinite q) : Int32).toInt = 0 := congrArg Int32.toInt c23
            refine lv_lload_n hx hb dX8_plus_60 rfl (lv_at hl 0 rfl) ?_
            refine sp_calli (wr := []) (wc := []) hP hD hS hA [] [] rfl rfl (by decide) (by decide) (va_runS (As := [.long g]) (rest := []) ⟨hx, hb, hml, hown, hts⟩ (c_X8_isInfinite l D cI cJ cZ H.size g) (va_cwS 1 hts gX8_plus_X8_isInfinite_94 rfl rfl rfl (by decide +kernel) ⟨Nat.le_of_ble_eq_true rfl, Nat.le_of_ble_eq_true rfl⟩) (sp_preS [.long g] hK (hP.sub (ws' := []) [] rfl) (hD.sub (ws' := []) [] (by decide) rfl)) rfl rfl hl.1 rfl (lv_room (Nat.le_of_ble_eq_true rfl)) dX8_plus_61 ⟨Nat.le_of_ble_eq_true rfl, Nat.le_of_ble_eq_true rfl⟩) (fun r24 u25 H locs hw26 hP hD hS => ?_)
            have hq_26_0 : r24 = (kX8_isInfinite g) := hw26
            subst r24
            have hP : va_P D vwCl [] H := hP
            have hD : va_D A [] := hD
            have hj31 : ∀ (z30 : Int64) (H : Heap) (locs : List Loc) (ls : Array Slot), (z30 = kX8_plus_72_z17 g q) → va_P D vwCl [] H → va_D A [] → va_S A s.heap H locs → lv_has ls 19 [(0, .long g), (2, .long q)] → W p l e ({ frames := 2, cells := 0, slots := 0, locals := 51 }) s m (([.long g, .long q] : List Value).toArray) below meth c H locs 0 0 (MQ below (va_Ql (fun (r : Int64) (_ : Unit) => r = kX8_plus g q) (sp_B D vwCl A (fun (_ : Unit) => [])) A) ([.long g, .long q] : List Value).toArray s 0 0 A) (F0 m 72 ls [.long z30]) := by
              intro z30 H locs ls hz30 hP hD hS hl
              subst z30
              exact hj48 ((kX8_plus_72_z17 g q)) _ _ _ (Eq.symm ((if_pos c23i).trans rfl)) (hP.sub [] rfl) (hD.sub [] (by decide) rfl) hS (lv_sub hl [0, 1] rfl)
            refine lv_if_eq (tgt := 71) hx hb dX8_plus_64 (by decide) (fun c27 => ?_) (fun c27 => ?_)
            · skip
              have c27i : ((kX8_isInfinite g) : Int32).toInt = 0 := congrArg Int32.toInt c27
              refine lv_lload_n hx hb dX8_plus_71 rfl (lv_at hl 1 rfl) ?_
              exact hj31 (q) _ _ _ (Eq.symm ((if_pos c27i).trans rfl)) (hP.sub [] rfl) (hD.sub [] (by decide) rfl) hS (lv_sub hl [0, 1] rfl)
            · skip
              have c27i : ¬ ((kX8_isInfinite g) : Int32).toInt = 0 := fun h => c27 (Int32.toInt_inj.mp h)
              refine lv_lload_n hx hb dX8_plus_67 rfl (lv_at hl 0 rfl) ?_
              refine lv_goto (tgt := 72) hx hb dX8_plus_68 (by decide) ?_
              exact hj31 (g) _ _ _ (Eq.symm ((if_neg c27i).trans rfl)) (hP.sub [] rfl) (hD.sub [] (by decide) rfl) hS (lv_sub hl [0, 1] rfl)
          · skip
            have c23i : ¬ ((kX8_isInfinite q) : Int32).toInt = 0 := fun h => c23 (Int32.toInt_inj.mp h)
            refine lv_lload_n hx hb dX8_plus_48 rfl (lv_at hl 0 rfl) ?_
            refine lv_lload_n hx hb dX8_plus_49 rfl (lv_at hl 1 rfl) ?_
            refine W.lcmp hx hb dX8_plus_50 ?_
            have hj45 : ∀ (z44 : Int64) (H : Heap) (locs : List Loc) (ls : Array Slot), (z44 = kX8_plus_72_z44 g q) → va_P D vwCl [] H → va_D A [] → va_S A s.heap H locs → lv_has ls 19 [(0, .long g), (2, .long q)] → W p l e ({ frames := 2, cells := 0, slots := 0, locals := 51 }) s m (([.long g, .long q] : List Value).toArray) below meth c H locs 0 0 (MQ below (va_Ql (fun (r : Int64) (_ : Unit) => r = kX8_plus g q) (sp_B D vwCl A (fun (_ : Unit) => [])) A) ([.long g, .long q] : List Value).toArray s 0 0 A) (F0 m 72 ls [.long z44]) := by
              intro z44 H locs ls hz44 hP hD hS hl
              subst z44
              exact hj48 ((kX8_plus_72_z44 g q)) _ _ _ (Eq.symm ((if_neg c23i).trans rfl)) (hP.sub [] rfl) (hD.sub [] (by decide) rfl) hS (lv_sub hl [0, 1] rfl)
            refine lv_if_eq (tgt := 60) hx hb dX8_plus_51 (by decide) (fun c33 => ?_) (fun c33 => ?_)
            · skip
              have c33 := (lg_cmp_eq _ _).mp c33
              have c33i : (g : Int64).toInt = (q : Int64).toInt := congrArg Int64.toInt c33
              refine lv_lload_n hx hb dX8_plus_60 rfl (lv_at hl 0 rfl) ?_
              refine sp_calli (wr := []) (wc := []) hP hD hS hA [] [] rfl rfl (by decide) (by decide) (va_runS (As := [.long g]) (rest := []) ⟨hx, hb, hml, hown, hts⟩ (c_X8_isInfinite l D cI cJ cZ H.size g) (va_cwS 1 hts gX8_plus_X8_isInfinite_94 rfl rfl rfl (by decide +kernel) ⟨Nat.le_of_ble_eq_true rfl, Nat.le_of_ble_eq_true rfl⟩) (sp_preS [.long g] hK (hP.sub (ws' := []) [] rfl) (hD.sub (ws' := []) [] (by decide) rfl)) rfl rfl hl.1 rfl (lv_room (Nat.le_of_ble_eq_true rfl)) dX8_plus_61 ⟨Nat.le_of_ble_eq_true rfl, Nat.le_of_ble_eq_true rfl⟩) (fun r34 u35 H locs hw36 hP hD hS => ?_)
              have hq_36_0 : r34 = (kX8_isInfinite g) := hw36
              subst r34
              have hP : va_P D vwCl [] H := hP
              have hD : va_D A [] := hD
              have hj41 : ∀ (z40 : Int64) (H : Heap) (locs : List Loc) (ls : Array Slot), (z40 = kX8_plus_72_z17 g q) → va_P D vwCl [] H → va_D A [] → va_S A s.heap H locs → lv_has ls 19 [(0, .long g), (2, .long q)] → W p l e ({ frames := 2, cells := 0, slots := 0, locals := 51 }) s m (([.long g, .long q] : List Value).toArray) below meth c H locs 0 0 (MQ below (va_Ql (fun (r : Int64) (_ : Unit) => r = kX8_plus g q) (sp_B D vwCl A (fun (_ : Unit) => [])) A) ([.long g, .long q] : List Value).toArray s 0 0 A) (F0 m 72 ls [.long z40]) := by
                intro z40 H locs ls hz40 hP hD hS hl
                subst z40
                exact hj45 ((kX8_plus_72_z17 g q)) _ _ _ (Eq.symm ((if_pos c33i).trans rfl)) (hP.sub [] rfl) (hD.sub [] (by decide) rfl) hS (lv_sub hl [0, 1] rfl)
              refine lv_if_eq (tgt := 71) hx hb dX8_plus_64 (by decide) (fun c37 => ?_) (fun c37 => ?_)
              · skip
                have c37i : ((kX8_isInfinite g) : Int32).toInt = 0 := congrArg Int32.toInt c37
                refine lv_lload_n hx hb dX8_plus_71 rfl (lv_at hl 1 rfl) ?_
                exact hj41 (q) _ _ _ (Eq.symm ((if_pos c37i).trans rfl)) (hP.sub [] rfl) (hD.sub [] (by decide) rfl) hS (lv_sub hl [0, 1] rfl)
              · skip
                have c37i : ¬ ((kX8_isInfinite g) : Int32).toInt = 0 := fun h => c37 (Int32.toInt_inj.mp h)
                refine lv_lload_n hx hb dX8_plus_67 rfl (lv_at hl 0 rfl) ?_
                refine lv_goto (tgt := 72) hx hb dX8_plus_68 (by decide) ?_
                exact hj41 (g) _ _ _ (Eq.symm ((if_neg c37i).trans rfl)) (hP.sub [] rfl) (hD.sub [] (by decide) rfl) hS (lv_sub hl [0, 1] rfl)
            · skip
              have c33 := fun h => c33 ((lg_cmp_eq _ _).mpr h)
              have c33i : ¬ (g : Int64).toInt = (q : Int64).toInt := fun h => c33 (Int64.toInt_inj.mp h)
              refine lv_ldc2 (v := 9000000000) hx hb hown (hts (.constantLong RX8 82 (9000000000)) (oX8_plus_in _ (List.mem_of_getElem? (i := 0) rfl))) dX8_plus_54 ?_
              refine lv_goto (tgt := 72) hx hb dX8_plus_57 (by decide) ?_
              exact hj45 (9000000000) _ _ _ (Eq.symm ((if_neg c33i).trans rfl)) (hP.sub [] rfl) (hD.sub [] (by decide) rfl) hS (lv_sub hl [0, 1] rfl)
      · skip
        have c6i : ((kX8_isInfinite g) : Int32).toInt = 0 := congrArg Int32.toInt c6
        refine lv_lload_n hx hb dX8_plus_27 rfl (lv_at hl 1 rfl) ?_
        refine sp_calli (wr := []) (wc := []) hP hD hS hA [] [] rfl rfl (by decide) (by decide) (va_runS (As := [.long q]) (rest := []) ⟨hx, hb, hml, hown, hts⟩ (c_X8_isInfinite l D cI cJ cZ H.size q) (va_cwS 1 hts gX8_plus_X8_isInfinite_94 rfl rfl rfl (by decide +kernel) ⟨Nat.le_of_ble_eq_true rfl, Nat.le_of_ble_eq_true rfl⟩) (sp_preS [.long q] hK (hP.sub (ws' := []) [] rfl) (hD.sub (ws' := []) [] (by decide) rfl)) rfl rfl hl.1 rfl (lv_room (Nat.le_of_ble_eq_true rfl)) dX8_plus_28 ⟨Nat.le_of_ble_eq_true rfl, Nat.le_of_ble_eq_true rfl⟩) (fun r52 u53 H locs hw54 hP hD hS => ?_)
        have hq_54_0 : r52 = (kX8_isInfinite q) := hw54
        subst r52
        have hP : va_P D vwCl [] H := hP
        have hD : va_D A [] := hD
        refine lv_if_eq (tgt := 73) hx hb dX8_plus_31 (by decide) (fun c55 => ?_) (fun c55 => ?_)
        · skip
          have c55i : ((kX8_isInfinite q) : Int32).toInt = 0 := congrArg Int32.toInt c55
          refine lv_lload_n hx hb dX8_plus_73 rfl (lv_at hl 0 rfl) ?_
          refine sp_calli (wr := []) (wc := []) hP hD hS hA [] [] rfl rfl (by decide) (by decide) (va_runS (As := [.long g]) (rest := []) ⟨hx, hb, hml, hown, hts⟩ (c_X8_power l D cI cJ cZ H.size g) (va_cwS 1 hts gX8_plus_X8_power_98 rfl rfl rfl (by decide +kernel) ⟨Nat.le_of_ble_eq_true rfl, Nat.le_of_ble_eq_true rfl⟩) (sp_preS [.long g] hK (hP.sub (ws' := []) [] rfl) (hD.sub (ws' := []) [] (by decide) rfl)) rfl rfl hl.1 rfl (lv_room (Nat.le_of_ble_eq_true rfl)) dX8_plus_74 ⟨Nat.le_of_ble_eq_true rfl, Nat.le_of_ble_eq_true rfl⟩) (fun r56 u57 H locs hw58 hP hD hS => ?_)
          have hq_58_0 : r56 = (kX8_power g) := hw58
          subst r56
          have hP : va_P D vwCl [] H := hP
          have hD : va_D A [] := hD
          refine lv_lload_n hx hb dX8_plus_77 rfl (lv_at hl 1 rfl) ?_
          refine sp_calli (wr := []) (wc := []) hP hD hS hA [] [] rfl rfl (by decide) (by decide) (va_runS (As := [.long q]) (rest := [.int (kX8_power g)]) ⟨hx, hb, hml, hown, hts⟩ (c_X8_power l D cI cJ cZ H.size q) (va_cwS 1 hts gX8_plus_X8_power_98 rfl rfl rfl (by decide +kernel) ⟨Nat.le_of_ble_eq_true rfl, Nat.le_of_ble_eq_true rfl⟩) (sp_preS [.long q] hK (hP.sub (ws' := []) [] rfl) (hD.sub (ws' := []) [] (by decide) rfl)) rfl rfl hl.1 rfl (lv_room (Nat.le_of_ble_eq_true rfl)) dX8_plus_78 ⟨Nat.le_of_ble_eq_true rfl, Nat.le_of_ble_eq_true rfl⟩) (fun r59 u60 H locs hw61 hP hD hS => ?_)
          have hq_61_0 : r59 = (kX8_power q) := hw61
          subst r59
          have hP : va_P D vwCl [] H := hP
          have hD : va_D A [] := hD
          have hj66 : ∀ (z65 : Int64) (H : Heap) (locs : List Loc) (ls : Array Slot), (z65 = kX8_plus_89_z65 g q) → va_P D vwCl [] H → va_D A [] → va_S A s.heap H locs → lv_has ls 19 [(0, .long g), (2, .long q)] → W p l e ({ frames := 2, cells := 0, slots := 0, locals := 51 }) s m (([.long g, .long q] : List Value).toArray) below meth c H locs 0 0 (MQ below (va_Ql (fun (r : Int64) (_ : Unit) => r = kX8_plus g q) (sp_B D vwCl A (fun (_ : Unit) => [])) A) ([.long g, .long q] : List Value).toArray s 0 0 A) (F0 m 89 ls [.long z65]) := by
            intro z65 H locs ls hz65 hP hD hS hl
            subst z65
            refine lv_lstore (lv' := [(4, .long (kX8_plus_89_z65 g q)), (0, .long g), (2, .long q)]) hx hb dX8_plus_89 hl (by decide) rfl (fun ls hl => ?_)
            refine lv_lload_n hx hb dX8_plus_91 rfl (lv_at hl 1 rfl) ?_
            refine sp_calli (wr := []) (wc := []) hP hD hS hA [] [] rfl rfl (by decide) (by decide) (va_runS (As := [.long g]) (rest := []) ⟨hx, hb, hml, hown, hts⟩ (c_X8_power l D cI cJ cZ H.size g) (va_cwS 1 hts gX8_plus_X8_power_98 rfl rfl rfl (by decide +kernel) ⟨Nat.le_of_ble_eq_true rfl, Nat.le_of_ble_eq_true rfl⟩) (sp_preS [.long g] hK (hP.sub (ws' := []) [] rfl) (hD.sub (ws' := []) [] (by decide) rfl)) rfl rfl hl.1 rfl (lv_room (Nat.le_of_ble_eq_true rfl)) dX8_plus_92 ⟨Nat.le_of_ble_eq_true rfl, Nat.le_of_ble_eq_true rfl⟩) (fun r67 u68 H locs hw69 hP hD hS => ?_)
            have hq_69_0 : r67 = (kX8_power g) := hw69
            subst r67
            have hP : va_P D vwCl [] H := hP
            have hD : va_D A [] := hD
            refine lv_lload_n hx hb dX8_plus_95 rfl (lv_at hl 2 rfl) ?_
            refine sp_calli (wr := []) (wc := []) hP hD hS hA [] [] rfl rfl (by decide) (by decide) (va_runS (As := [.long q]) (rest := [.int (kX8_power g)]) ⟨hx, hb, hml, hown, hts⟩ (c_X8_power l D cI cJ cZ H.size q) (va_cwS 1 hts gX8_plus_X8_power_98 rfl rfl rfl (by decide +kernel) ⟨Nat.le_of_ble_eq_true rfl, Nat.le_of_ble_eq_true rfl⟩) (sp_preS [.long q] hK (hP.sub (ws' := []) [] rfl) (hD.sub (ws' := []) [] (by decide) rfl)) rfl rfl hl.1 rfl (lv_room (Nat.le_of_ble_eq_true rfl)) dX8_plus_96 ⟨Nat.le_of_ble_eq_true rfl, Nat.le_of_ble_eq_true rfl⟩) (fun r70 u71 H locs hw72 hP hD hS => ?_)
            have hq_72_0 : r70 = (kX8_power q) := hw72
            subst r70
            have hP : va_P D vwCl [] H := hP
            have hD : va_D A [] := hD
            have hj77 : ∀ (z76 : Int64) (H : Heap) (locs : List Loc) (ls : Array Slot), (z76 = kX8_plus_107_z76 g q) → va_P D vwCl [] H → va_D A [] → va_S A s.heap H locs → lv_has ls 19 [(4, .long (kX8_plus_89_z65 g q)), (0, .long g), (2, .long q)] → W p l e ({ frames := 2, cells := 0, slots := 0, locals := 51 }) s m (([.long g, .long q] : List Value).toArray) below meth c H locs 0 0 (MQ below (va_Ql (fun (r : Int64) (_ : Unit) => r = kX8_plus g q) (sp_B D vwCl A (fun (_ : Unit) => [])) A) ([.long g, .long q] : List Value).toArray s 0 0 A) (F0 m 107 ls [.long z76]) := by
              intro z76 H locs ls hz76 hP hD hS hl
              subst z76
              refine lv_lstore (lv' := [(6, .long (kX8_plus_107_z76 g q)), (4, .long (kX8_plus_89_z65 g q)), (0, .long g), (2, .long q)]) hx hb dX8_plus_107 hl (by decide) rfl (fun ls hl => ?_)
              refine lv_lload hx hb dX8_plus_109 (lv_at hl 1 rfl) ?_
              refine sp_calli (wr := []) (wc := []) hP hD hS hA [] [] rfl rfl (by decide) (by decide) (va_runS (As := [.long (kX8_plus_89_z65 g q)]) (rest := []) ⟨hx, hb, hml, hown, hts⟩ (c_X8_power l D cI cJ cZ H.size (kX8_plus_89_z65 g q)) (va_cwS 1 hts gX8_plus_X8_power_98 rfl rfl rfl (by decide +kernel) ⟨Nat.le_of_ble_eq_true rfl, Nat.le_of_ble_eq_true rfl⟩) (sp_preS [.long (kX8_plus_89_z65 g q)] hK (hP.sub (ws' := []) [] rfl) (hD.sub (ws' := []) [] (by decide) rfl)) rfl rfl hl.1 rfl (lv_room (Nat.le_of_ble_eq_true rfl)) dX8_plus_111 ⟨Nat.le_of_ble_eq_true rfl, Nat.le_of_ble_eq_true rfl⟩) (fun r78 u79 H locs hw80 hP hD hS => ?_)
              have hq_80_0 : r78 = (kX8_power (kX8_plus_89_z65 g q)) := hw80
              subst r78
              have hP : va_P D vwCl [] H := hP
              have hD : va_D A [] := hD
              refine lv_lload hx hb dX8_plus_114 (lv_at hl 0 rfl) ?_
              refine sp_calli (wr := []) (wc := []) hP hD hS hA [] [] rfl rfl (by decide) (by decide) (va_runS (As := [.long (kX8_plus_107_z76 g q)]) (rest := [.int (kX8_power (kX8_plus_89_z65 g q))]) ⟨hx, hb, hml, hown, hts⟩ (c_X8_power l D cI cJ cZ H.size (kX8_plus_107_z76 g q)) (va_cwS 1 hts gX8_plus_X8_power_98 rfl rfl rfl (by decide +kernel) ⟨Nat.le_of_ble_eq_true rfl, Nat.le_of_ble_eq_true rfl⟩) (sp_preS [.long (kX8_plus_107_z76 g q)] hK (hP.sub (ws' := []) [] rfl) (hD.sub (ws' := []) [] (by decide) rfl)) rfl rfl hl.1 rfl (lv_room (Nat.le_of_ble_eq_true rfl)) dX8_plus_116 ⟨Nat.le_of_ble_eq_true rfl, Nat.le_of_ble_eq_true rfl⟩) (fun r81 u82 H locs hw83 hP hD hS => ?_)
              have hq_83_0 : r81 = (kX8_power (kX8_plus_107_z76 g q)) := hw83
              subst r81
              have hP : va_P D vwCl [] H := hP
              have hD : va_D A [] := hD
              refine lv_isub hx hb dX8_plus_119 ?_
              refine lv_istore (lv' := [(8, .int (kX8_plus_s120 g q)), (6, .long (kX8_plus_107_z76 g q)), (4, .long (kX8_plus_89_z65 g q)), (0, .long g), (2, .long q)]) hx hb dX8_plus_120 hl (by decide) rfl (fun ls hl => ?_)
              refine lv_iload hx hb dX8_plus_122 (lv_at hl 0 rfl) ?_
              refine lv_bipush (v := 38) hx hb dX8_plus_124 (by decide) ?_
              have hj88 : ∀ (z87 : Int32) (H : Heap) (locs : List Loc) (ls : Array Slot), (z87 = kX8_plus_136_z87 g q) → va_P D vwCl [] H → va_D A [] → va_S A s.heap H locs → lv_has ls 19 [(8, .int (kX8_plus_s120 g q)), (6, .long (kX8_plus_107_z76 g q)), (4, .long (kX8_plus_89_z65 g q)), (0, .long g), (2, .long q)] → W p l e ({ frames := 2, cells := 0, slots := 0, locals := 51 }) s m (([.long g, .long q] : List Value).toArray) below meth c H locs 0 0 (MQ below (va_Ql (fun (r : Int64) (_ : Unit) => r = kX8_plus g q) (sp_B D vwCl A (fun (_ : Unit) => [])) A) ([.long g, .long q] : List Value).toArray s 0 0 A) (F0 m 136 ls [.int z87]) := by
                intro z87 H locs ls hz87 hP hD hS hl
                subst z87
                refine lv_istore (lv' := [(9, .int (kX8_plus_136_z87 g q)), (8, .int (kX8_plus_s120 g q)), (6, .long (kX8_plus_107_z76 g q)), (4, .long (kX8_plus_89_z65 g q)), (0, .long g), (2, .long q)]) hx hb dX8_plus_136 hl (by decide) rfl (fun ls hl => ?_)
                refine lv_lload hx hb dX8_plus_138 (lv_at hl 3 rfl) ?_
                refine sp_callj (wr := []) (wc := []) hP hD hS hA [] [] rfl rfl (by decide) (by decide) (va_runS (As := [.long (kX8_plus_89_z65 g q)]) (rest := []) ⟨hx, hb, hml, hown, hts⟩ (c_X8_digits l D cI cJ cZ H.size (kX8_plus_89_z65 g q)) (va_cwS 1 hts gX8_plus_X8_digits_102 rfl rfl rfl (by decide +kernel) ⟨Nat.le_of_ble_eq_true rfl, Nat.le_of_ble_eq_true rfl⟩) (sp_preS [.long (kX8_plus_89_z65 g q)] hK (hP.sub (ws' := []) [] rfl) (hD.sub (ws' := []) [] (by decide) rfl)) rfl rfl hl.1 rfl (lv_room (Nat.le_of_ble_eq_true rfl)) dX8_plus_140 ⟨Nat.le_of_ble_eq_true rfl, Nat.le_of_ble_eq_true rfl⟩) (fun r89 u90 H locs hw91 hP hD hS => ?_)
                have hq_91_0 : r89 = (kX8_digits (kX8_plus_89_z65 g q)) := hw91
                subst r89
                have hP : va_P D vwCl [] H := hP
                have hD : va_D A [] := hD
                refine lv_iload hx hb dX8_plus_143 (lv_at hl 0 rfl) ?_
                refine lv_lshl (v := _) hx hb dX8_plus_145 rfl ?_
                refine lv_lstore (lv' := [(10, .long (kX8_plus_s146 g q)), (9, .int (kX8_plus_136_z87 g q)), (8, .int (kX8_plus_s120 g q)), (6, .long (kX8_plus_107_z76 g q)), (4, .long (kX8_plus_89_z65 g q)), (0, .long g), (2, .long q)]) hx hb dX8_plus_146 hl (by decide) rfl (fun ls hl => ?_)
                refine lv_lload hx hb dX8_plus_148 (lv_at hl 4 rfl) ?_
                refine sp_calli (wr := []) (wc := []) hP hD hS hA [] [] rfl rfl (by decide) (by decide) (va_runS (As := [.long (kX8_plus_89_z65 g q)]) (rest := []) ⟨hx, hb, hml, hown, hts⟩ (c_X8_power l D cI cJ cZ H.size (kX8_plus_89_z65 g q)) (va_cwS 1 hts gX8_plus_X8_power_98 rfl rfl rfl (by decide +kernel) ⟨Nat.le_of_ble_eq_true rfl, Nat.le_of_ble_eq_true rfl⟩) (sp_preS [.long (kX8_plus_89_z65 g q)] hK (hP.sub (ws' := []) [] rfl) (hD.sub (ws' := []) [] (by decide) rfl)) rfl rfl hl.1 rfl (lv_room (Nat.le_of_ble_eq_true rfl)) dX8_plus_150 ⟨Nat.le_of_ble_eq_true rfl, Nat.le_of_ble_eq_true rfl⟩) (fun r92 u93 H locs hw94 hP hD hS => ?_)
                have hq_94_0 : r92 = (kX8_power (kX8_plus_89_z65 g q)) := hw94
                subst r92
                have hP : va_P D vwCl [] H := hP
                have hD : va_D A [] := hD
                refine lv_iload hx hb dX8_plus_153 (lv_at hl 1 rfl) ?_
                refine lv_isub hx hb dX8_plus_155 ?_
                refine lv_istore (lv' := [(12, .int (kX8_plus_s156 g q)), (10, .long (kX8_plus_s146 g q)), (9, .int (kX8_plus_136_z87 g q)), (8, .int (kX8_plus_s120 g q)), (6, .long (kX8_plus_107_z76 g q)), (4, .long (kX8_plus_89_z65 g q)), (0, .long g), (2, .long q)]) hx hb dX8_plus_156 hl (by decide) rfl (fun ls hl => ?_)
                refine lv_iload hx hb dX8_plus_158 (lv_at hl 3 rfl) ?_
                refine lv_iload hx hb dX8_plus_160 (lv_at hl 2 rfl) ?_
                refine lv_isub hx hb dX8_plus_162 ?_
                refine lv_istore (lv' := [(13, .int (kX8_plus_s163 g q)), (12, .int (kX8_plus_s156 g q)), (10, .long (kX8_plus_s146 g q)), (9, .int (kX8_plus_136_z87 g q)), (8, .int (kX8_plus_s120 g q)), (6, .long (kX8_plus_107_z76 g q)), (4, .long (kX8_plus_89_z65 g q)), (0, .long g), (2, .long q)]) hx hb dX8_plus_163 hl (by decide) rfl (fun ls hl => ?_)
                refine lv_iload hx hb dX8_plus_165 (lv_at hl 0 rfl) ?_
                refine lv_bipush (v := 40) hx hb dX8_plus_167 (by decide) ?_
                have hj102 : ∀ (z101 : Int64) (H : Heap) (locs : List Loc) (ls : Array Slot), (z101 = kX8_plus_184_z101 g q) → va_P D vwCl [] H → va_D A [] → va_S A s.heap H locs → lv_has ls 19 [(13, .int (kX8_plus_s163 g q)), (12, .int (kX8_plus_s156 g q)), (10, .long (kX8_plus_s146 g q)), (9, .int (kX8_plus_136_z87 g q)), (8, .int (kX8_plus_s120 g q)), (6, .long (kX8_plus_107_z76 g q)), (4, .long (kX8_plus_89_z65 g q)), (0, .long g), (2, .long q)] → W p l e ({ frames := 2, cells := 0, slots := 0, locals := 51 }) s m (([.long g, .long q] : List Value).toArray) below meth c H locs 0 0 (MQ below (va_Ql (fun (r : Int64) (_ : Unit) => r = kX8_plus g q) (sp_B D vwCl A (fun (_ : Unit) => [])) A) ([.long g, .long q] : List Value).toArray s 0 0 A) (F0 m 184 ls [.long z101]) := by
                  intro z101 H locs ls hz101 hP hD hS hl
                  subst z101
                  refine lv_lstore (lv' := [(14, .long (kX8_plus_184_z101 g q)), (13, .int (kX8_plus_s163 g q)), (12, .int (kX8_plus_s156 g q)), (10, .long (kX8_plus_s146 g q)), (9, .int (kX8_plus_136_z87 g q)), (8, .int (kX8_plus_s120 g q)), (6, .long (kX8_plus_107_z76 g q)), (4, .long (kX8_plus_89_z65 g q)), (0, .long g), (2, .long q)]) hx hb dX8_plus_184 hl (by decide) rfl (fun ls hl => ?_)
                  refine lv_iload hx hb dX8_plus_186 (lv_at hl 1 rfl) ?_
                  refine lv_bipush (v := 40) hx hb dX8_plus_188 (by decide) ?_
                  have hj123 : ∀ (z122 : Int32) (H : Heap) (locs : List Loc) (ls : Array Slot), (z122 = kX8_plus_230_z122 g q) → va_P D vwCl [] H → va_D A [] → va_S A s.heap H locs → lv_has ls 19 [(14, .long (kX8_plus_184_z101 g q)), (13, .int (kX8_plus_s163 g q)), (12, .int (kX8_plus_s156 g q)), (10, .long (kX8_plus_s146 g q)), (9, .int (kX8_plus_136_z87 g q)), (8, .int (kX8_plus_s120 g q)), (6, .long (kX8_plus_107_z76 g q)), (4, .long (kX8_plus_89_z65 g q)), (0, .long g), (2, .long q)] → W p l e ({ frames := 2, cells := 0, slots := 0, locals := 51 }) s m (([.long g, .long q] : List Value).toArray) below meth c H locs 0 0 (MQ below (va_Ql (fun (r : Int64) (_ : Unit) => r = kX8_plus g q) (sp_B D vwCl A (fun (_ : Unit) => [])) A) ([.long g, .long q] : List Value).toArray s 0 0 A) (F0 m 230 ls [.int z122]) := by
                    intro z122 H locs ls hz122 hP hD hS hl
                    subst z122
                    refine lv_istore (lv' := [(16, .int (kX8_plus_230_z122 g q)), (14, .long (kX8_plus_184_z101 g q)), (13, .int (kX8_plus_s163 g q)), (12, .int (kX8_plus_s156 g q)), (10, .long (kX8_plus_s146 g q)), (9, .int (kX8_plus_136_z87 g q)), (8, .int (kX8_plus_s120 g q)), (6, .long (kX8_plus_107_z76 g q)), (4, .long (kX8_plus_89_z65 g q)), (0, .long g), (2, .long q)]) hx hb dX8_plus_230 hl (by decide) rfl (fun ls hl => ?_)
                    refine lv_lload hx hb dX8_plus_232 (lv_at hl 8 rfl) ?_
                    refine lv_lconst (v := 0) hx hb dX8_plus_234 (by decide) ?_
                    refine W.lcmp hx hb dX8_plus_235 ?_
                    have hj128 : ∀ (z127 : Int32) (H : Heap) (locs : List Loc) (ls : Array Slot), (z127 = kX8_plus_244_z127 g q) → va_P D vwCl [] H → va_D A [] → va_S A s.heap H locs → lv_has ls 19 [(16, .int (kX8_plus_230_z122 g q)), (14, .long (kX8_plus_184_z101 g q)), (13, .int (kX8_plus_s163 g q)), (12, .int (kX8_plus_s156 g q)), (10, .long (kX8_plus_s146 g q)), (9, .int (kX8_plus_136_z87 g q)), (8, .int (kX8_plus_s120 g q)), (6, .long (kX8_plus_107_z76 g q)), (4, .long (kX8_plus_89_z65 g q)), (0, .long g), (2, .long q)] → W p l e ({ frames := 2, cells := 0, slots := 0, locals := 51 }) s m (([.long g, .long q] : List Value).toArray) below meth c H locs 0 0 (MQ below (va_Ql (fun (r : Int64) (_ : Unit) => r = kX8_plus g q) (sp_B D vwCl A (fun (_ : Unit) => [])) A) ([.long g, .long q] : List Value).toArray s 0 0 A) (F0 m 244 ls [.int z127]) := by
                      intro z127 H locs ls hz127 hP hD hS hl
                      subst z127
                      refine lv_lload hx hb dX8_plus_244 (lv_at hl 7 rfl) ?_
                      refine lv_lconst (v := 0) hx hb dX8_plus_246 (by decide) ?_
                      refine W.lcmp hx hb dX8_plus_247 ?_
                      have hj133 : ∀ (z132 : Int32) (H : Heap) (locs : List Loc) (ls : Array Slot), (z132 = kX8_plus_256_z132 g q) → va_P D vwCl [] H → va_D A [] → va_S A s.heap H locs → lv_has ls 19 [(16, .int (kX8_plus_230_z122 g q)), (14, .long (kX8_plus_184_z101 g q)), (13, .int (kX8_plus_s163 g q)), (12, .int (kX8_plus_s156 g q)), (10, .long (kX8_plus_s146 g q)), (9, .int (kX8_plus_136_z87 g q)), (8, .int (kX8_plus_s120 g q)), (6, .long (kX8_plus_107_z76 g q)), (4, .long (kX8_plus_89_z65 g q)), (0, .long g), (2, .long q)] → W p l e ({ frames := 2, cells := 0, slots := 0, locals := 51 }) s m (([.long g, .long q] : List Value).toArray) below meth c H locs 0 0 (MQ below (va_Ql (fun (r : Int64) (_ : Unit) => r = kX8_plus g q) (sp_B D vwCl A (fun (_ : Unit) => [])) A) ([.long g, .long q] : List Value).toArray s 0 0 A) (F0 m 256 ls [.int z132, .int (kX8_plus_244_z127 g q)]) := by
                        intro z132 H locs ls hz132 hP hD hS hl
                        subst z132
                        refine lv_icmp_ne (tgt := 284) hx hb dX8_plus_256 (by decide) (fun c134 => ?_) (fun c134 => ?_)
                        · skip
                          have c134i : ¬ ((kX8_plus_244_z127 g q) : Int32).toInt = ((kX8_plus_256_z132 g q) : Int32).toInt := fun h => c134 (Int32.toInt_inj.mp h)
                          refine lv_lload hx hb dX8_plus_284 (lv_at hl 4 rfl) ?_
                          refine lv_lload hx hb dX8_plus_286 (lv_at hl 1 rfl) ?_
                          refine lv_lsub hx hb dX8_plus_288 ?_
                          refine lv_iload hx hb dX8_plus_289 (lv_at hl 0 rfl) ?_
                          have hj139 : ∀ (z138 : Int64) (H : Heap) (locs : List Loc) (ls : Array Slot), (z138 = kX8_plus_299_z138 g q) → va_P D vwCl [] H → va_D A [] → va_S A s.heap H locs → lv_has ls 19 [(16, .int (kX8_plus_230_z122 g q)), (14, .long (kX8_plus_184_z101 g q)), (13, .int (kX8_plus_s163 g q)), (12, .int (kX8_plus_s156 g q)), (10, .long (kX8_plus_s146 g q)), (9, .int (kX8_plus_136_z87 g q)), (8, .int (kX8_plus_s120 g q)), (6, .long (kX8_plus_107_z76 g q)), (4, .long (kX8_plus_89_z65 g q)), (0, .long g), (2, .long q)] → W p l e ({ frames := 2, cells := 0, slots := 0, locals := 51 }) s m (([.long g, .long q] : List Value).toArray) below meth c H locs 0 0 (MQ below (va_Ql (fun (r : Int64) (_ : Unit) => r = kX8_plus g q) (sp_B D vwCl A (fun (_ : Unit) => [])) A) ([.long g, .long q] : List Value).toArray s 0 0 A) (F0 m 299 ls [.long z138, .long ((kX8_plus_s146 g q) - (kX8_plus_184_z101 g q))]) := by
                            intro z138 H locs ls hz138 hP hD hS hl
                            subst z138
                            refine lv_lsub hx hb dX8_plus_299 ?_
                            refine lv_lstore (lv' := [(17, .long (kX8_plus_s300 g q)), (16, .int (kX8_plus_230_z122 g q)), (14, .long (kX8_plus_184_z101 g q)), (13, .int (kX8_plus_s163 g q)), (12, .int (kX8_plus_s156 g q)), (10, .long (kX8_plus_s146 g q)), (9, .int (kX8_plus_136_z87 g q)), (8, .int (kX8_plus_s120 g q)), (6, .long (kX8_plus_107_z76 g q)), (4, .long (kX8_plus_89_z65 g q)), (0, .long g), (2, .long q)]) hx hb dX8_plus_300 hl (by decide) rfl (fun ls hl => ?_)
                            refine lv_lload hx hb dX8_plus_302 (lv_at hl 0 rfl) ?_
                            refine lv_lconst (v := 0) hx hb dX8_plus_304 (by decide) ?_
                            refine W.lcmp hx hb dX8_plus_305 ?_
                            refine lv_if_ne (tgt := 316) hx hb dX8_plus_306 (by decide) (fun c140 => ?_) (fun c140 => ?_)
                            · skip
                              have c140 := fun h => c140 ((lg_cmp_eq _ _).mpr h)
                              have c140i : ¬ ((kX8_plus_s300 g q) : Int64).toInt = 0 := fun h => c140 (Int64.toInt_inj.mp h)
                              refine lv_lload hx hb dX8_plus_316 (lv_at hl 0 rfl) ?_
                              refine lv_lconst (v := 0) hx hb dX8_plus_318 (by decide) ?_
                              refine W.lcmp hx hb dX8_plus_319 ?_
                              have hj161 : ∀ (z160 : Int64) (H : Heap) (locs : List Loc) (ls : Array Slot), (z160 = kX8_plus_368_z160 g q) → va_P D vwCl [] H → va_D A [] → va_S A s.heap H locs → lv_has ls 19 [(17, .long (kX8_plus_s300 g q)), (16, .int (kX8_plus_230_z122 g q)), (14, .long (kX8_plus_184_z101 g q)), (13, .int (kX8_plus_s163 g q)), (12, .int (kX8_plus_s156 g q)), (10, .long (kX8_plus_s146 g q)), (9, .int (kX8_plus_136_z87 g q)), (8, .int (kX8_plus_s120 g q)), (6, .long (kX8_plus_107_z76 g q)), (4, .long (kX8_plus_89_z65 g q)), (0, .long g), (2, .long q)] → W p l e ({ frames := 2, cells := 0, slots := 0, locals := 51 }) s m (([.long g, .long q] : List Value).toArray) below meth c H locs 0 0 (MQ below (va_Ql (fun (r : Int64) (_ : Unit) => r = kX8_plus g q) (sp_B D vwCl A (fun (_ : Unit) => [])) A) ([.long g, .long q] : List Value).toArray s 0 0 A) (F0 m 368 ls [.long z160]) := by
                                intro z160 H locs ls hz160 hP hD hS hl
                                subst z160
                                refine W.widen (k := 0) (n := 0) (by decide) (by decide) ?_
                                exact sp_lret (u := ()) hx hb hr hlocks hS (Eq.symm ((if_neg c1i).trans ((if_neg c2i).trans ((if_pos c6i).trans ((if_pos c55i).trans ((if_neg c134i).trans ((if_neg c140i).trans rfl))))))) (hP.sub [] rfl) (hD.sub [] (by decide) rfl) dX8_plus_368
                              refine lv_if_ge (tgt := 347) hx hb dX8_plus_320 (by decide) (fun c141 => ?_) (fun c141 => ?_)
                              · skip
                                have c141 := (lg_cmp_ge _ _).mp c141
                                have c141i : 0 ≤ ((kX8_plus_s300 g q) : Int64).toInt := Int64.le_iff_toInt_le.mp c141
                                refine lv_lload hx hb dX8_plus_347 (lv_at hl 9 rfl) ?_
                                refine lv_lconst (v := 0) hx hb dX8_plus_349 (by decide) ?_
                                refine W.lcmp hx hb dX8_plus_350 ?_
                                have hj146 : ∀ (z145 : Int32) (H : Heap) (locs : List Loc) (ls : Array Slot), (z145 = kX8_plus_244_z127 g q) → va_P D vwCl [] H → va_D A [] → va_S A s.heap H locs → lv_has ls 19 [(17, .long (kX8_plus_s300 g q)), (16, .int (kX8_plus_230_z122 g q)), (14, .long (kX8_plus_184_z101 g q)), (13, .int (kX8_plus_s163 g q)), (12, .int (kX8_plus_s156 g q)), (10, .long (kX8_plus_s146 g q)), (9, .int (kX8_plus_136_z87 g q)), (8, .int (kX8_plus_s120 g q)), (6, .long (kX8_plus_107_z76 g q)), (4, .long (kX8_plus_89_z65 g q)), (0, .long g), (2, .long q)] → W p l e ({ frames := 2, cells := 0, slots := 0, locals := 51 }) s m (([.long g, .long q] : List Value).toArray) below meth c H locs 0 0 (MQ below (va_Ql (fun (r : Int64) (_ : Unit) => r = kX8_plus g q) (sp_B D vwCl A (fun (_ : Unit) => [])) A) ([.long g, .long q] : List Value).toArray s 0 0 A) (F0 m 359 ls [.int z145]) := by
                                  intro z145 H locs ls hz145 hP hD hS hl
                                  subst z145
                                  refine lv_lload hx hb dX8_plus_359 (lv_at hl 0 rfl) ?_
                                  refine lv_iload hx hb dX8_plus_361 (lv_at hl 4 rfl) ?_
                                  refine lv_iload hx hb dX8_plus_363 (lv_at hl 1 rfl) ?_
                                  refine sp_callj (wr := []) (wc := []) hP hD hS hA [] [] rfl rfl (by decide) (by decide) (va_runS (As := [.int (kX8_plus_244_z127 g q), .long (kX8_plus_s300 g q), .int (kX8_plus_s156 g q), .int (kX8_plus_230_z122 g q)]) (rest := []) ⟨hx, hb, hml, hown, hts⟩ (c_X8_pack l D cI cJ cZ H.size (kX8_plus_244_z127 g q) (kX8_plus_s300 g q) (kX8_plus_s156 g q) (kX8_plus_230_z122 g q)) (va_cwS 4 hts gX8_plus_X8_pack_105 rfl rfl rfl (by decide +kernel) ⟨Nat.le_of_ble_eq_true rfl, Nat.le_of_ble_eq_true rfl⟩) (sp_preS [.int (kX8_plus_244_z127 g q), .long (kX8_plus_s300 g q), .int (kX8_plus_s156 g q), .int (kX8_plus_230_z122 g q)] hK (hP.sub (ws' := []) [] rfl) (hD.sub (ws' := []) [] (by decide) rfl)) rfl rfl hl.1 rfl (lv_room (Nat.le_of_ble_eq_true rfl)) dX8_plus_365 ⟨Nat.le_of_ble_eq_true rfl, Nat.le_of_ble_eq_true rfl⟩) (fun r147 u148 H locs hw149 hP hD hS => ?_)
                                  have hq_149_0 : r147 = (kX8_pack (kX8_plus_244_z127 g q) (kX8_plus_s300 g q) (kX8_plus_s156 g q) (kX8_plus_230_z122 g q)) := hw149
                                  subst r147
                                  have hP : va_P D vwCl [] H := hP
                                  have hD : va_D A [] := hD
                                  exact hj161 ((kX8_pack (kX8_plus_244_z127 g q) (kX8_plus_s300 g q) (kX8_plus_s156 g q) (kX8_plus_230_z122 g q))) _ _ _ (Eq.symm ((if_pos c141i).trans rfl)) (hP.sub [] rfl) (hD.sub [] (by decide) rfl) hS (lv_sub hl [0, 1, 2, 3, 4, 5, 6, 7, 8, 9, 10, 11] rfl)
                                refine lv_if_ge (tgt := 358) hx hb dX8_plus_351 (by decide) (fun c142 => ?_) (fun c142 => ?_)
                                · skip
                                  have c142 := (lg_cmp_ge _ _).mp c142
                                  have c142i : 0 ≤ ((kX8_plus_89_z65 g q) : Int64).toInt := Int64.le_iff_toInt_le.mp c142
                                  refine lv_iconst (v := 0) hx hb dX8_plus_358 (by decide) ?_
                                  exact hj146 (0) _ _ _ (Eq.symm ((if_pos c142i).trans rfl)) (hP.sub [] rfl) (hD.sub [] (by decide) rfl) hS (lv_sub hl [0, 1, 2, 3, 4, 5, 6, 7, 8, 9, 10, 11] rfl)
                                · skip
                                  have c142 := fun h => c142 ((lg_cmp_ge _ _).mpr h)
                                  have c142i : ¬ 0 ≤ ((kX8_plus_89_z65 g q) : Int64).toInt := fun h => c142 (Int64.le_iff_toInt_le.mpr h)
                                  refine lv_iconst (v := 1) hx hb dX8_plus_354 (by decide) ?_
                                  refine lv_goto (tgt := 359) hx hb dX8_plus_355 (by decide) ?_
                                  exact hj146 (1) _ _ _ (Eq.symm ((if_neg c142i).trans rfl)) (hP.sub [] rfl) (hD.sub [] (by decide) rfl) hS (lv_sub hl [0, 1, 2, 3, 4, 5, 6, 7, 8, 9, 10, 11] rfl)
                              · skip
                                have c141 := fun h => c141 ((lg_cmp_ge _ _).mpr h)
                                have c141i : ¬ 0 ≤ ((kX8_plus_s300 g q) : Int64).toInt := fun h => c141 (Int64.le_iff_toInt_le.mpr h)
                                refine lv_lload hx hb dX8_plus_323 (lv_at hl 8 rfl) ?_
                                refine lv_lconst (v := 0) hx hb dX8_plus_325 (by decide) ?_
                                refine W.lcmp hx hb dX8_plus_326 ?_
                                have hj155 : ∀ (z154 : Int32) (H : Heap) (locs : List Loc) (ls : Array Slot), (z154 = kX8_plus_256_z132 g q) → va_P D vwCl [] H → va_D A [] → va_S A s.heap H locs → lv_has ls 19 [(17, .long (kX8_plus_s300 g q)), (16, .int (kX8_plus_230_z122 g q)), (14, .long (kX8_plus_184_z101 g q)), (13, .int (kX8_plus_s163 g q)), (12, .int (kX8_plus_s156 g q)), (10, .long (kX8_plus_s146 g q)), (9, .int (kX8_plus_136_z87 g q)), (8, .int (kX8_plus_s120 g q)), (6, .long (kX8_plus_107_z76 g q)), (4, .long (kX8_plus_89_z65 g q)), (0, .long g), (2, .long q)] → W p l e ({ frames := 2, cells := 0, slots := 0, locals := 51 }) s m (([.long g, .long q] : List Value).toArray) below meth c H locs 0 0 (MQ below (va_Ql (fun (r : Int64) (_ : Unit) => r = kX8_plus g q) (sp_B D vwCl A (fun (_ : Unit) => [])) A) ([.long g, .long q] : List Value).toArray s 0 0 A) (F0 m 335 ls [.int z154]) := by
                                  intro z154 H locs ls hz154 hP hD hS hl
                                  subst z154
                                  refine lv_lload hx hb dX8_plus_335 (lv_at hl 0 rfl) ?_
                                  refine lv_lneg hx hb dX8_plus_337 ?_
                                  refine lv_iload hx hb dX8_plus_338 (lv_at hl 4 rfl) ?_
                                  refine lv_iconst (v := 0) hx hb dX8_plus_340 (by decide) ?_
                                  refine sp_callj (wr := []) (wc := []) hP hD hS hA [] [] rfl rfl (by decide) (by decide) (va_runS (As := [.int (kX8_plus_256_z132 g q), .long (-(kX8_plus_s300 g q)), .int (kX8_plus_s156 g q), .int 0]) (rest := []) ⟨hx, hb, hml, hown, hts⟩ (c_X8_pack l D cI cJ cZ H.size (kX8_plus_256_z132 g q) (-(kX8_plus_s300 g q)) (kX8_plus_s156 g q) 0) (va_cwS 4 hts gX8_plus_X8_pack_105 rfl rfl rfl (by decide +kernel) ⟨Nat.le_of_ble_eq_true rfl, Nat.le_of_ble_eq_true rfl⟩) (sp_preS [.int (kX8_plus_256_z132 g q), .long (-(kX8_plus_s300 g q)), .int (kX8_plus_s156 g q), .int 0] hK (hP.sub (ws' := []) [] rfl) (hD.sub (ws' := []) [] (by decide) rfl)) rfl rfl hl.1 rfl (lv_room (Nat.le_of_ble_eq_true rfl)) dX8_plus_341 ⟨Nat.le_of_ble_eq_true rfl, Nat.le_of_ble_eq_true rfl⟩) (fun r156 u157 H locs hw158 hP hD hS => ?_)
                                  have hq_158_0 : r156 = (kX8_pack (kX8_plus_256_z132 g q) (-(kX8_plus_s300 g q)) (kX8_plus_s156 g q) 0) := hw158
                                  subst r156
                                  have hP : va_P D vwCl [] H := hP
                                  have hD : va_D A [] := hD
                                  refine lv_goto (tgt := 368) hx hb dX8_plus_344 (by decide) ?_
                                  exact hj161 ((kX8_pack (kX8_plus_256_z132 g q) (-(kX8_plus_s300 g q)) (kX8_plus_s156 g q) 0)) _ _ _ (Eq.symm ((if_neg c141i).trans rfl)) (hP.sub [] rfl) (hD.sub [] (by decide) rfl) hS (lv_sub hl [0, 1, 2, 3, 4, 5, 6, 7, 8, 9, 10, 11] rfl)
                                refine lv_if_ge (tgt := 334) hx hb dX8_plus_327 (by decide) (fun c151 => ?_) (fun c151 => ?_)
                                · skip
                                  have c151 := (lg_cmp_ge _ _).mp c151
                                  have c151i : 0 ≤ ((kX8_plus_107_z76 g q) : Int64).toInt := Int64.le_iff_toInt_le.mp c151
                                  refine lv_iconst (v := 0) hx hb dX8_plus_334 (by decide) ?_
                                  exact hj155 (0) _ _ _ (Eq.symm ((if_pos c151i).trans rfl)) (hP.sub [] rfl) (hD.sub [] (by decide) rfl) hS (lv_sub hl [0, 1, 2, 3, 4, 5, 6, 7, 8, 9, 10, 11] rfl)
                                · skip
                                  have c151 := fun h => c151 ((lg_cmp_ge _ _).mpr h)
                                  have c151i : ¬ 0 ≤ ((kX8_plus_107_z76 g q) : Int64).toInt := fun h => c151 (Int64.le_iff_toInt_le.mpr h)
                                  refine lv_iconst (v := 1) hx hb dX8_plus_330 (by decide) ?_
                                  refine lv_goto (tgt := 335) hx hb dX8_plus_331 (by decide) ?_
                                  exact hj155 (1) _ _ _ (Eq.symm ((if_neg c151i).trans rfl)) (hP.sub [] rfl) (hD.sub [] (by decide) rfl) hS (lv_sub hl [0, 1, 2, 3, 4, 5, 6, 7, 8, 9, 10, 11] rfl)
                            · skip
                              have c140 := (lg_cmp_eq _ _).mp c140
                              have c140i : ((kX8_plus_s300 g q) : Int64).toInt = 0 := congrArg Int64.toInt c140
                              refine lv_iload hx hb dX8_plus_309 (lv_at hl 1 rfl) ?_
                              refine lv_if_ne (tgt := 316) hx hb dX8_plus_311 (by decide) (fun c162 => ?_) (fun c162 => ?_)
                              · skip
                                have c162i : ¬ ((kX8_plus_230_z122 g q) : Int32).toInt = 0 := fun h => c162 (Int32.toInt_inj.mp h)
                                refine lv_lload hx hb dX8_plus_316 (lv_at hl 0 rfl) ?_
                                refine lv_lconst (v := 0) hx hb dX8_plus_318 (by decide) ?_
                                refine W.lcmp hx hb dX8_plus_319 ?_
                                have hj183 : ∀ (z182 : Int64) (H : Heap) (locs : List Loc) (ls : Array Slot), (z182 = kX8_plus_368_z160 g q) → va_P D vwCl [] H → va_D A [] → va_S A s.heap H locs → lv_has ls 19 [(17, .long (kX8_plus_s300 g q)), (16, .int (kX8_plus_230_z122 g q)), (14, .long (kX8_plus_184_z101 g q)), (13, .int (kX8_plus_s163 g q)), (12, .int (kX8_plus_s156 g q)), (10, .long (kX8_plus_s146 g q)), (9, .int (kX8_plus_136_z87 g q)), (8, .int (kX8_plus_s120 g q)), (6, .long (kX8_plus_107_z76 g q)), (4, .long (kX8_plus_89_z65 g q)), (0, .long g), (2, .long q)] → W p l e ({ frames := 2, cells := 0, slots := 0, locals := 51 }) s m (([.long g, .long q] : List Value).toArray) below meth c H locs 0 0 (MQ below (va_Ql (fun (r : Int64) (_ : Unit) => r = kX8_plus g q) (sp_B D vwCl A (fun (_ : Unit) => [])) A) ([.long g, .long q] : List Value).toArray s 0 0 A) (F0 m 368 ls [.long z182]) := by
                                  intro z182 H locs ls hz182 hP hD hS hl
                                  subst z182
                                  refine W.widen (k := 0) (n := 0) (by decide) (by decide) ?_
                                  exact sp_lret (u := ()) hx hb hr hlocks hS (Eq.symm ((if_neg c1i).trans ((if_neg c2i).trans ((if_pos c6i).trans ((if_pos c55i).trans ((if_neg c134i).trans ((if_pos c140i).trans ((if_neg c162i).trans rfl)))))))) (hP.sub [] rfl) (hD.sub [] (by decide) rfl) dX8_plus_368
                                refine lv_if_ge (tgt := 347) hx hb dX8_plus_320 (by decide) (fun c163 => ?_) (fun c163 => ?_)
                                · skip
                                  have c163 := (lg_cmp_ge _ _).mp c163
                                  have c163i : 0 ≤ ((kX8_plus_s300 g q) : Int64).toInt := Int64.le_iff_toInt_le.mp c163
                                  refine lv_lload hx hb dX8_plus_347 (lv_at hl 9 rfl) ?_
                                  refine lv_lconst (v := 0) hx hb dX8_plus_349 (by decide) ?_
                                  refine W.lcmp hx hb dX8_plus_350 ?_
                                  have hj168 : ∀ (z167 : Int32) (H : Heap) (locs : List Loc) (ls : Array Slot), (z167 = kX8_plus_244_z127 g q) → va_P D vwCl [] H → va_D A [] → va_S A s.heap H locs → lv_has ls 19 [(17, .long (kX8_plus_s300 g q)), (16, .int (kX8_plus_230_z122 g q)), (14, .long (kX8_plus_184_z101 g q)), (13, .int (kX8_plus_s163 g q)), (12, .int (kX8_plus_s156 g q)), (10, .long (kX8_plus_s146 g q)), (9, .int (kX8_plus_136_z87 g q)), (8, .int (kX8_plus_s120 g q)), (6, .long (kX8_plus_107_z76 g q)), (4, .long (kX8_plus_89_z65 g q)), (0, .long g), (2, .long q)] → W p l e ({ frames := 2, cells := 0, slots := 0, locals := 51 }) s m (([.long g, .long q] : List Value).toArray) below meth c H locs 0 0 (MQ below (va_Ql (fun (r : Int64) (_ : Unit) => r = kX8_plus g q) (sp_B D vwCl A (fun (_ : Unit) => [])) A) ([.long g, .long q] : List Value).toArray s 0 0 A) (F0 m 359 ls [.int z167]) := by
                                    intro z167 H locs ls hz167 hP hD hS hl
                                    subst z167
                                    refine lv_lload hx hb dX8_plus_359 (lv_at hl 0 rfl) ?_
                                    refine lv_iload hx hb dX8_plus_361 (lv_at hl 4 rfl) ?_
                                    refine lv_iload hx hb dX8_plus_363 (lv_at hl 1 rfl) ?_
                                    refine sp_callj (wr := []) (wc := []) hP hD hS hA [] [] rfl rfl (by decide) (by decide) (va_runS (As := [.int (kX8_plus_244_z127 g q), .long (kX8_plus_s300 g q), .int (kX8_plus_s156 g q), .int (kX8_plus_230_z122 g q)]) (rest := []) ⟨hx, hb, hml, hown, hts⟩ (c_X8_pack l D cI cJ cZ H.size (kX8_plus_244_z127 g q) (kX8_plus_s300 g q) (kX8_plus_s156 g q) (kX8_plus_230_z122 g q)) (va_cwS 4 hts gX8_plus_X8_pack_105 rfl rfl rfl (by decide +kernel) ⟨Nat.le_of_ble_eq_true rfl, Nat.le_of_ble_eq_true rfl⟩) (sp_preS [.int (kX8_plus_244_z127 g q), .long (kX8_plus_s300 g q), .int (kX8_plus_s156 g q), .int (kX8_plus_230_z122 g q)] hK (hP.sub (ws' := []) [] rfl) (hD.sub (ws' := []) [] (by decide) rfl)) rfl rfl hl.1 rfl (lv_room (Nat.le_of_ble_eq_true rfl)) dX8_plus_365 ⟨Nat.le_of_ble_eq_true rfl, Nat.le_of_ble_eq_true rfl⟩) (fun r169 u170 H locs hw171 hP hD hS => ?_)
                                    have hq_171_0 : r169 = (kX8_pack (kX8_plus_244_z127 g q) (kX8_plus_s300 g q) (kX8_plus_s156 g q) (kX8_plus_230_z122 g q)) := hw171
                                    subst r169
                                    have hP : va_P D vwCl [] H := hP
                                    have hD : va_D A [] := hD
                                    exact hj183 ((kX8_pack (kX8_plus_244_z127 g q) (kX8_plus_s300 g q) (kX8_plus_s156 g q) (kX8_plus_230_z122 g q))) _ _ _ (Eq.symm ((if_pos c163i).trans rfl)) (hP.sub [] rfl) (hD.sub [] (by decide) rfl) hS (lv_sub hl [0, 1, 2, 3, 4, 5, 6, 7, 8, 9, 10, 11] rfl)
                                  refine lv_if_ge (tgt := 358) hx hb dX8_plus_351 (by decide) (fun c164 => ?_) (fun c164 => ?_)
                                  · skip
                                    have c164 := (lg_cmp_ge _ _).mp c164
                                    have c164i : 0 ≤ ((kX8_plus_89_z65 g q) : Int64).toInt := Int64.le_iff_toInt_le.mp c164
                                    refine lv_iconst (v := 0) hx hb dX8_plus_358 (by decide) ?_
                                    exact hj168 (0) _ _ _ (Eq.symm ((if_pos c164i).trans rfl)) (hP.sub [] rfl) (hD.sub [] (by decide) rfl) hS (lv_sub hl [0, 1, 2, 3, 4, 5, 6, 7, 8, 9, 10, 11] rfl)
                                  · skip
                                    have c164 := fun h => c164 ((lg_cmp_ge _ _).mpr h)
                                    have c164i : ¬ 0 ≤ ((kX8_plus_89_z65 g q) : Int64).toInt := fun h => c164 (Int64.le_iff_toInt_le.mpr h)
                                    refine lv_iconst (v := 1) hx hb dX8_plus_354 (by decide) ?_
                                    refine lv_goto (tgt := 359) hx hb dX8_plus_355 (by decide) ?_
                                    exact hj168 (1) _ _ _ (Eq.symm ((if_neg c164i).trans rfl)) (hP.sub [] rfl) (hD.sub [] (by decide) rfl) hS (lv_sub hl [0, 1, 2, 3, 4, 5, 6, 7, 8, 9, 10, 11] rfl)
                                · skip
                                  have c163 := fun h => c163 ((lg_cmp_ge _ _).mpr h)
                                  have c163i : ¬ 0 ≤ ((kX8_plus_s300 g q) : Int64).toInt := fun h => c163 (Int64.le_iff_toInt_le.mpr h)
                                  refine lv_lload hx hb dX8_plus_323 (lv_at hl 8 rfl) ?_
                                  refine lv_lconst (v := 0) hx hb dX8_plus_325 (by decide) ?_
                                  refine W.lcmp hx hb dX8_plus_326 ?_
                                  have hj177 : ∀ (z176 : Int32) (H : Heap) (locs : List Loc) (ls : Array Slot), (z176 = kX8_plus_256_z132 g q) → va_P D vwCl [] H → va_D A [] → va_S A s.heap H locs → lv_has ls 19 [(17, .long (kX8_plus_s300 g q)), (16, .int (kX8_plus_230_z122 g q)), (14, .long (kX8_plus_184_z101 g q)), (13, .int (kX8_plus_s163 g q)), (12, .int (kX8_plus_s156 g q)), (10, .long (kX8_plus_s146 g q)), (9, .int (kX8_plus_136_z87 g q)), (8, .int (kX8_plus_s120 g q)), (6, .long (kX8_plus_107_z76 g q)), (4, .long (kX8_plus_89_z65 g q)), (0, .long g), (2, .long q)] → W p l e ({ frames := 2, cells := 0, slots := 0, locals := 51 }) s m (([.long g, .long q] : List Value).toArray) below meth c H locs 0 0 (MQ below (va_Ql (fun (r : Int64) (_ : Unit) => r = kX8_plus g q) (sp_B D vwCl A (fun (_ : Unit) => [])) A) ([.long g, .long q] : List Value).toArray s 0 0 A) (F0 m 335 ls [.int z176]) := by
                                    intro z176 H locs ls hz176 hP hD hS hl
                                    subst z176
                                    refine lv_lload hx hb dX8_plus_335 (lv_at hl 0 rfl) ?_
                                    refine lv_lneg hx hb dX8_plus_337 ?_
                                    refine lv_iload hx hb dX8_plus_338 (lv_at hl 4 rfl) ?_
                                    refine lv_iconst (v := 0) hx hb dX8_plus_340 (by decide) ?_
                                    refine sp_callj (wr := []) (wc := []) hP hD hS hA [] [] rfl rfl (by decide) (by decide) (va_runS (As := [.int (kX8_plus_256_z132 g q), .long (-(kX8_plus_s300 g q)), .int (kX8_plus_s156 g q), .int 0]) (rest := []) ⟨hx, hb, hml, hown, hts⟩ (c_X8_pack l D cI cJ cZ H.size (kX8_plus_256_z132 g q) (-(kX8_plus_s300 g q)) (kX8_plus_s156 g q) 0) (va_cwS 4 hts gX8_plus_X8_pack_105 rfl rfl rfl (by decide +kernel) ⟨Nat.le_of_ble_eq_true rfl, Nat.le_of_ble_eq_true rfl⟩) (sp_preS [.int (kX8_plus_256_z132 g q), .long (-(kX8_plus_s300 g q)), .int (kX8_plus_s156 g q), .int 0] hK (hP.sub (ws' := []) [] rfl) (hD.sub (ws' := []) [] (by decide) rfl)) rfl rfl hl.1 rfl (lv_room (Nat.le_of_ble_eq_true rfl)) dX8_plus_341 ⟨Nat.le_of_ble_eq_true rfl, Nat.le_of_ble_eq_true rfl⟩) (fun r178 u179 H locs hw180 hP hD hS => ?_)
                                    have hq_180_0 : r178 = (kX8_pack (kX8_plus_256_z132 g q) (-(kX8_plus_s300 g q)) (kX8_plus_s156 g q) 0) := hw180
                                    subst r178
                                    have hP : va_P D vwCl [] H := hP
                                    have hD : va_D A [] := hD
                                    refine lv_goto (tgt := 368) hx hb dX8_plus_344 (by decide) ?_
                                    exact hj183 ((kX8_pack (kX8_plus_256_z132 g q) (-(kX8_plus_s300 g q)) (kX8_plus_s156 g q) 0)) _ _ _ (Eq.symm ((if_neg c163i).trans rfl)) (hP.sub [] rfl) (hD.sub [] (by decide) rfl) hS (lv_sub hl [0, 1, 2, 3, 4, 5, 6, 7, 8, 9, 10, 11] rfl)
                                  refine lv_if_ge (tgt := 334) hx hb dX8_plus_327 (by decide) (fun c173 => ?_) (fun c173 => ?_)
                                  · skip
                                    have c173 := (lg_cmp_ge _ _).mp c173
                                    have c173i : 0 ≤ ((kX8_plus_107_z76 g q) : Int64).toInt := Int64.le_iff_toInt_le.mp c173
                                    refine lv_iconst (v := 0) hx hb dX8_plus_334 (by decide) ?_
                                    exact hj177 (0) _ _ _ (Eq.symm ((if_pos c173i).trans rfl)) (hP.sub [] rfl) (hD.sub [] (by decide) rfl) hS (lv_sub hl [0, 1, 2, 3, 4, 5, 6, 7, 8, 9, 10, 11] rfl)
                                  · skip
                                    have c173 := fun h => c173 ((lg_cmp_ge _ _).mpr h)
                                    have c173i : ¬ 0 ≤ ((kX8_plus_107_z76 g q) : Int64).toInt := fun h => c173 (Int64.le_iff_toInt_le.mpr h)
                                    refine lv_iconst (v := 1) hx hb dX8_plus_330 (by decide) ?_
                                    refine lv_goto (tgt := 335) hx hb dX8_plus_331 (by decide) ?_
                                    exact hj177 (1) _ _ _ (Eq.symm ((if_neg c173i).trans rfl)) (hP.sub [] rfl) (hD.sub [] (by decide) rfl) hS (lv_sub hl [0, 1, 2, 3, 4, 5, 6, 7, 8, 9, 10, 11] rfl)
                              · skip
                                have c162i : ((kX8_plus_230_z122 g q) : Int32).toInt = 0 := congrArg Int32.toInt c162
                                refine lv_lconst (v := 0) hx hb dX8_plus_314 (by decide) ?_
                                refine W.widen (k := 0) (n := 0) (by decide) (by decide) ?_
                                exact sp_lret (u := ()) hx hb hr hlocks hS (Eq.symm ((if_neg c1i).trans ((if_neg c2i).trans ((if_pos c6i).trans ((if_pos c55i).trans ((if_neg c134i).trans ((if_pos c140i).trans ((if_pos c162i).trans rfl)))))))) (hP.sub [] rfl) (hD.sub [] (by decide) rfl) dX8_plus_315
                          refine lv_if_eq (tgt := 298) hx hb dX8_plus_291 (by decide) (fun c135 => ?_) (fun c135 => ?_)
                          · skip
                            have c135i : ((kX8_plus_230_z122 g q) : Int32).toInt = 0 := congrArg Int32.toInt c135
                            refine lv_lconst (v := 0) hx hb dX8_plus_298 (by decide) ?_
                            exact hj139 (0) _ _ _ (Eq.symm ((if_pos c135i).trans rfl)) (hP.sub [] rfl) (hD.sub [] (by decide) rfl) hS (lv_sub hl [0, 1, 2, 3, 4, 5, 6, 7, 8, 9, 10] rfl)
                          · skip
                            have c135i : ¬ ((kX8_plus_230_z122 g q) : Int32).toInt = 0 := fun h => c135 (Int32.toInt_inj.mp h)
                            refine lv_lconst (v := 1) hx hb dX8_plus_294 (by decide) ?_
                            refine lv_goto (tgt := 299) hx hb dX8_plus_295 (by decide) ?_
                            exact hj139 (1) _ _ _ (Eq.symm ((if_neg c135i).trans rfl)) (hP.sub [] rfl) (hD.sub [] (by decide) rfl) hS (lv_sub hl [0, 1, 2, 3, 4, 5, 6, 7, 8, 9, 10] rfl)
                        · skip
                          have c134i : ((kX8_plus_244_z127 g q) : Int32).toInt = ((kX8_plus_256_z132 g q) : Int32).toInt := congrArg Int32.toInt c134
                          refine lv_lload hx hb dX8_plus_259 (lv_at hl 8 rfl) ?_
                          refine lv_lconst (v := 0) hx hb dX8_plus_261 (by decide) ?_
                          refine W.lcmp hx hb dX8_plus_262 ?_
                          have hj188 : ∀ (z187 : Int32) (H : Heap) (locs : List Loc) (ls : Array Slot), (z187 = kX8_plus_244_z127 g q) → va_P D vwCl [] H → va_D A [] → va_S A s.heap H locs → lv_has ls 19 [(16, .int (kX8_plus_230_z122 g q)), (14, .long (kX8_plus_184_z101 g q)), (13, .int (kX8_plus_s163 g q)), (12, .int (kX8_plus_s156 g q)), (10, .long (kX8_plus_s146 g q)), (9, .int (kX8_plus_136_z87 g q)), (8, .int (kX8_plus_s120 g q)), (6, .long (kX8_plus_107_z76 g q)), (4, .long (kX8_plus_89_z65 g q)), (0, .long g), (2, .long q)] → W p l e ({ frames := 2, cells := 0, slots := 0, locals := 51 }) s m (([.long g, .long q] : List Value).toArray) below meth c H locs 0 0 (MQ below (va_Ql (fun (r : Int64) (_ : Unit) => r = kX8_plus g q) (sp_B D vwCl A (fun (_ : Unit) => [])) A) ([.long g, .long q] : List Value).toArray s 0 0 A) (F0 m 271 ls [.int z187]) := by
                            intro z187 H locs ls hz187 hP hD hS hl
                            subst z187
                            refine lv_lload hx hb dX8_plus_271 (lv_at hl 4 rfl) ?_
                            refine lv_lload hx hb dX8_plus_273 (lv_at hl 1 rfl) ?_
                            refine lv_ladd hx hb dX8_plus_275 ?_
                            refine lv_iload hx hb dX8_plus_276 (lv_at hl 3 rfl) ?_
                            refine lv_iload hx hb dX8_plus_278 (lv_at hl 0 rfl) ?_
                            refine sp_callj (wr := []) (wc := []) hP hD hS hA [] [] rfl rfl (by decide) (by decide) (va_runS (As := [.int (kX8_plus_244_z127 g q), .long ((kX8_plus_s146 g q) + (kX8_plus_184_z101 g q)), .int (kX8_plus_s156 g q), .int (kX8_plus_230_z122 g q)]) (rest := []) ⟨hx, hb, hml, hown, hts⟩ (c_X8_pack l D cI cJ cZ H.size (kX8_plus_244_z127 g q) ((kX8_plus_s146 g q) + (kX8_plus_184_z101 g q)) (kX8_plus_s156 g q) (kX8_plus_230_z122 g q)) (va_cwS 4 hts gX8_plus_X8_pack_105 rfl rfl rfl (by decide +kernel) ⟨Nat.le_of_ble_eq_true rfl, Nat.le_of_ble_eq_true rfl⟩) (sp_preS [.int (kX8_plus_244_z127 g q), .long ((kX8_plus_s146 g q) + (kX8_plus_184_z101 g q)), .int (kX8_plus_s156 g q), .int (kX8_plus_230_z122 g q)] hK (hP.sub (ws' := []) [] rfl) (hD.sub (ws' := []) [] (by decide) rfl)) rfl rfl hl.1 rfl (lv_room (Nat.le_of_ble_eq_true rfl)) dX8_plus_280 ⟨Nat.le_of_ble_eq_true rfl, Nat.le_of_ble_eq_true rfl⟩) (fun r189 u190 H locs hw191 hP hD hS => ?_)
                            have hq_191_0 : r189 = (kX8_pack (kX8_plus_244_z127 g q) ((kX8_plus_s146 g q) + (kX8_plus_184_z101 g q)) (kX8_plus_s156 g q) (kX8_plus_230_z122 g q)) := hw191
                            subst r189
                            have hP : va_P D vwCl [] H := hP
                            have hD : va_D A [] := hD
                            refine W.widen (k := 0) (n := 0) (by decide) (by decide) ?_
                            exact sp_lret (u := ()) hx hb hr hlocks hS (Eq.symm ((if_neg c1i).trans ((if_neg c2i).trans ((if_pos c6i).trans ((if_pos c55i).trans ((if_pos c134i).trans rfl)))))) (hP.sub [] rfl) (hD.sub [] (by decide) rfl) dX8_plus_283
                          refine lv_if_ge (tgt := 270) hx hb dX8_plus_263 (by decide) (fun c184 => ?_) (fun c184 => ?_)
                          · skip
                            have c184 := (lg_cmp_ge _ _).mp c184
                            have c184i : 0 ≤ ((kX8_plus_89_z65 g q) : Int64).toInt := Int64.le_iff_toInt_le.mp c184
                            refine lv_iconst (v := 0) hx hb dX8_plus_270 (by decide) ?_
                            exact hj188 (0) _ _ _ (Eq.symm ((if_pos c184i).trans rfl)) (hP.sub [] rfl) (hD.sub [] (by decide) rfl) hS (lv_sub hl [0, 1, 2, 3, 4, 5, 6, 7, 8, 9, 10] rfl)
                          · skip
                            have c184 := fun h => c184 ((lg_cmp_ge _ _).mpr h)
                            have c184i : ¬ 0 ≤ ((kX8_plus_89_z65 g q) : Int64).toInt := fun h => c184 (Int64.le_iff_toInt_le.mpr h)
                            refine lv_iconst (v := 1) hx hb dX8_plus_266 (by decide) ?_
                            refine lv_goto (tgt := 271) hx hb dX8_plus_267 (by decide) ?_
                            exact hj188 (1) _ _ _ (Eq.symm ((if_neg c184i).trans rfl)) (hP.sub [] rfl) (hD.sub [] (by decide) rfl) hS (lv_sub hl [0, 1, 2, 3, 4, 5, 6, 7, 8, 9, 10] rfl)
                      refine lv_if_ge (tgt := 255) hx hb dX8_plus_248 (by decide) (fun c129 => ?_) (fun c129 => ?_)
                      · skip
                        have c129 := (lg_cmp_ge _ _).mp c129
                        have c129i : 0 ≤ ((kX8_plus_107_z76 g q) : Int64).toInt := Int64.le_iff_toInt_le.mp c129
                        refine lv_iconst (v := 0) hx hb dX8_plus_255 (by decide) ?_
                        exact hj133 (0) _ _ _ (Eq.symm ((if_pos c129i).trans rfl)) (hP.sub [] rfl) (hD.sub [] (by decide) rfl) hS (lv_sub hl [0, 1, 2, 3, 4, 5, 6, 7, 8, 9, 10] rfl)
                      · skip
                        have c129 := fun h => c129 ((lg_cmp_ge _ _).mpr h)
                        have c129i : ¬ 0 ≤ ((kX8_plus_107_z76 g q) : Int64).toInt := fun h => c129 (Int64.le_iff_toInt_le.mpr h)
                        refine lv_iconst (v := 1) hx hb dX8_plus_251 (by decide) ?_
                        refine lv_goto (tgt := 256) hx hb dX8_plus_252 (by decide) ?_
                        exact hj133 (1) _ _ _ (Eq.symm ((if_neg c129i).trans rfl)) (hP.sub [] rfl) (hD.sub [] (by decide) rfl) hS (lv_sub hl [0, 1, 2, 3, 4, 5, 6, 7, 8, 9, 10] rfl)
                    refine lv_if_ge (tgt := 243) hx hb dX8_plus_236 (by decide) (fun c124 => ?_) (fun c124 => ?_)
                    · skip
                      have c124 := (lg_cmp_ge _ _).mp c124
                      have c124i : 0 ≤ ((kX8_plus_89_z65 g q) : Int64).toInt := Int64.le_iff_toInt_le.mp c124
                      refine lv_iconst (v := 0) hx hb dX8_plus_243 (by decide) ?_
                      exact hj128 (0) _ _ _ (Eq.symm ((if_pos c124i).trans rfl)) (hP.sub [] rfl) (hD.sub [] (by decide) rfl) hS (lv_sub hl [0, 1, 2, 3, 4, 5, 6, 7, 8, 9, 10] rfl)
                    · skip
                      have c124 := fun h => c124 ((lg_cmp_ge _ _).mpr h)
                      have c124i : ¬ 0 ≤ ((kX8_plus_89_z65 g q) : Int64).toInt := fun h => c124 (Int64.le_iff_toInt_le.mpr h)
                      refine lv_iconst (v := 1) hx hb dX8_plus_239 (by decide) ?_
                      refine lv_goto (tgt := 244) hx hb dX8_plus_240 (by decide) ?_
                      exact hj128 (1) _ _ _ (Eq.symm ((if_neg c124i).trans rfl)) (hP.sub [] rfl) (hD.sub [] (by decide) rfl) hS (lv_sub hl [0, 1, 2, 3, 4, 5, 6, 7, 8, 9, 10] rfl)
                  refine lv_icmp_le (tgt := 211) hx hb dX8_plus_190 (by decide) (fun c103 => ?_) (fun c103 => ?_)
                  · skip
                    have c103i : ((kX8_plus_s163 g q) : Int32).toInt ≤ 40 := Int32.le_iff_toInt_le.mp c103
                    refine lv_lload hx hb dX8_plus_211 (lv_at hl 0 rfl) ?_
                    refine lv_iload hx hb dX8_plus_213 (lv_at hl 1 rfl) ?_
                    refine lv_lshl (v := _) hx hb dX8_plus_215 rfl ?_
                    refine lv_lload hx hb dX8_plus_216 (lv_at hl 6 rfl) ?_
                    refine sp_callj (wr := []) (wc := []) hP hD hS hA [] [] rfl rfl (by decide) (by decide) (va_runS (As := [.long (kX8_plus_107_z76 g q)]) (rest := [.long ((kX8_plus_184_z101 g q) <<< (((kX8_plus_s163 g q) : Int32).toInt64 &&& 63))]) ⟨hx, hb, hml, hown, hts⟩ (c_X8_digits l D cI cJ cZ H.size (kX8_plus_107_z76 g q)) (va_cwS 1 hts gX8_plus_X8_digits_102 rfl rfl rfl (by decide +kernel) ⟨Nat.le_of_ble_eq_true rfl, Nat.le_of_ble_eq_true rfl⟩) (sp_preS [.long (kX8_plus_107_z76 g q)] hK (hP.sub (ws' := []) [] rfl) (hD.sub (ws' := []) [] (by decide) rfl)) rfl rfl hl.1 rfl (lv_room (Nat.le_of_ble_eq_true rfl)) dX8_plus_218 ⟨Nat.le_of_ble_eq_true rfl, Nat.le_of_ble_eq_true rfl⟩) (fun r104 u105 H locs hw106 hP hD hS => ?_)
                    have hq_106_0 : r104 = (kX8_digits (kX8_plus_107_z76 g q)) := hw106
                    subst r104
                    have hP : va_P D vwCl [] H := hP
                    have hD : va_D A [] := hD
                    refine W.lcmp hx hb dX8_plus_221 ?_
                    have hj111 : ∀ (z110 : Int32) (H : Heap) (locs : List Loc) (ls : Array Slot), (z110 = kX8_plus_230_z110 g q) → va_P D vwCl [] H → va_D A [] → va_S A s.heap H locs → lv_has ls 19 [(14, .long (kX8_plus_184_z101 g q)), (13, .int (kX8_plus_s163 g q)), (12, .int (kX8_plus_s156 g q)), (10, .long (kX8_plus_s146 g q)), (9, .int (kX8_plus_136_z87 g q)), (8, .int (kX8_plus_s120 g q)), (6, .long (kX8_plus_107_z76 g q)), (4, .long (kX8_plus_89_z65 g q)), (0, .long g), (2, .long q)] → W p l e ({ frames := 2, cells := 0, slots := 0, locals := 51 }) s m (([.long g, .long q] : List Value).toArray) below meth c H locs 0 0 (MQ below (va_Ql (fun (r : Int64) (_ : Unit) => r = kX8_plus g q) (sp_B D vwCl A (fun (_ : Unit) => [])) A) ([.long g, .long q] : List Value).toArray s 0 0 A) (F0 m 230 ls [.int z110]) := by
                      intro z110 H locs ls hz110 hP hD hS hl
                      subst z110
                      exact hj123 ((kX8_plus_230_z110 g q)) _ _ _ (Eq.symm ((if_pos c103i).trans rfl)) (hP.sub [] rfl) (hD.sub [] (by decide) rfl) hS (lv_sub hl [0, 1, 2, 3, 4, 5, 6, 7, 8, 9] rfl)
                    refine lv_if_eq (tgt := 229) hx hb dX8_plus_222 (by decide) (fun c107 => ?_) (fun c107 => ?_)
                    · skip
                      have c107 := (lg_cmp_eq _ _).mp c107
                      have c107i : (((kX8_plus_184_z101 g q) <<< (((kX8_plus_s163 g q) : Int32).toInt64 &&& 63)) : Int64).toInt = ((kX8_digits (kX8_plus_107_z76 g q)) : Int64).toInt := congrArg Int64.toInt c107
                      refine lv_iconst (v := 0) hx hb dX8_plus_229 (by decide) ?_
                      exact hj111 (0) _ _ _ (Eq.symm ((if_pos c107i).trans rfl)) (hP.sub [] rfl) (hD.sub [] (by decide) rfl) hS (lv_sub hl [0, 1, 2, 3, 4, 5, 6, 7, 8, 9] rfl)
                    · skip
                      have c107 := fun h => c107 ((lg_cmp_eq _ _).mpr h)
                      have c107i : ¬ (((kX8_plus_184_z101 g q) <<< (((kX8_plus_s163 g q) : Int32).toInt64 &&& 63)) : Int64).toInt = ((kX8_digits (kX8_plus_107_z76 g q)) : Int64).toInt := fun h => c107 (Int64.toInt_inj.mp h)
                      refine lv_iconst (v := 1) hx hb dX8_plus_225 (by decide) ?_
                      refine lv_goto (tgt := 230) hx hb dX8_plus_226 (by decide) ?_
                      exact hj111 (1) _ _ _ (Eq.symm ((if_neg c107i).trans rfl)) (hP.sub [] rfl) (hD.sub [] (by decide) rfl) hS (lv_sub hl [0, 1, 2, 3, 4, 5, 6, 7, 8, 9] rfl)
                  · skip
                    have c103i : ¬ ((kX8_plus_s163 g q) : Int32).toInt ≤ 40 := fun h => c103 (Int32.le_iff_toInt_le.mpr h)
                    refine lv_lload hx hb dX8_plus_193 (lv_at hl 6 rfl) ?_
                    refine sp_callj (wr := []) (wc := []) hP hD hS hA [] [] rfl rfl (by decide) (by decide) (va_runS (As := [.long (kX8_plus_107_z76 g q)]) (rest := []) ⟨hx, hb, hml, hown, hts⟩ (c_X8_digits l D cI cJ cZ H.size (kX8_plus_107_z76 g q)) (va_cwS 1 hts gX8_plus_X8_digits_102 rfl rfl rfl (by decide +kernel) ⟨Nat.le_of_ble_eq_true rfl, Nat.le_of_ble_eq_true rfl⟩) (sp_preS [.long (kX8_plus_107_z76 g q)] hK (hP.sub (ws' := []) [] rfl) (hD.sub (ws' := []) [] (by decide) rfl)) rfl rfl hl.1 rfl (lv_room (Nat.le_of_ble_eq_true rfl)) dX8_plus_195 ⟨Nat.le_of_ble_eq_true rfl, Nat.le_of_ble_eq_true rfl⟩) (fun r113 u114 H locs hw115 hP hD hS => ?_)
                    have hq_115_0 : r113 = (kX8_digits (kX8_plus_107_z76 g q)) := hw115
                    subst r113
                    have hP : va_P D vwCl [] H := hP
                    have hD : va_D A [] := hD
                    refine lv_lconst (v := 0) hx hb dX8_plus_198 (by decide) ?_
                    refine W.lcmp hx hb dX8_plus_199 ?_
                    have hj120 : ∀ (z119 : Int32) (H : Heap) (locs : List Loc) (ls : Array Slot), (z119 = kX8_plus_230_z119 g q) → va_P D vwCl [] H → va_D A [] → va_S A s.heap H locs → lv_has ls 19 [(14, .long (kX8_plus_184_z101 g q)), (13, .int (kX8_plus_s163 g q)), (12, .int (kX8_plus_s156 g q)), (10, .long (kX8_plus_s146 g q)), (9, .int (kX8_plus_136_z87 g q)), (8, .int (kX8_plus_s120 g q)), (6, .long (kX8_plus_107_z76 g q)), (4, .long (kX8_plus_89_z65 g q)), (0, .long g), (2, .long q)] → W p l e ({ frames := 2, cells := 0, slots := 0, locals := 51 }) s m (([.long g, .long q] : List Value).toArray) below meth c H locs 0 0 (MQ below (va_Ql (fun (r : Int64) (_ : Unit) => r = kX8_plus g q) (sp_B D vwCl A (fun (_ : Unit) => [])) A) ([.long g, .long q] : List Value).toArray s 0 0 A) (F0 m 230 ls [.int z119]) := by
                      intro z119 H locs ls hz119 hP hD hS hl
                      subst z119
                      exact hj123 ((kX8_plus_230_z119 g q)) _ _ _ (Eq.symm ((if_neg c103i).trans rfl)) (hP.sub [] rfl) (hD.sub [] (by decide) rfl) hS (lv_sub hl [0, 1, 2, 3, 4, 5, 6, 7, 8, 9] rfl)
                    refine lv_if_eq (tgt := 207) hx hb dX8_plus_200 (by decide) (fun c116 => ?_) (fun c116 => ?_)
                    · skip
                      have c116 := (lg_cmp_eq _ _).mp c116
                      have c116i : ((kX8_digits (kX8_plus_107_z76 g q)) : Int64).toInt = 0 := congrArg Int64.toInt c116
                      refine lv_iconst (v := 0) hx hb dX8_plus_207 (by decide) ?_
                      refine lv_goto (tgt := 230) hx hb dX8_plus_208 (by decide) ?_
                      exact hj120 (0) _ _ _ (Eq.symm ((if_pos c116i).trans rfl)) (hP.sub [] rfl) (hD.sub [] (by decide) rfl) hS (lv_sub hl [0, 1, 2, 3, 4, 5, 6, 7, 8, 9] rfl)
                    · skip
                      have c116 := fun h => c116 ((lg_cmp_eq _ _).mpr h)
                      have c116i : ¬ ((kX8_digits (kX8_plus_107_z76 g q)) : Int64).toInt = 0 := fun h => c116 (Int64.toInt_inj.mp h)
                      refine lv_iconst (v := 1) hx hb dX8_plus_203 (by decide) ?_
                      refine lv_goto (tgt := 230) hx hb dX8_plus_204 (by decide) ?_
                      exact hj120 (1) _ _ _ (Eq.symm ((if_neg c116i).trans rfl)) (hP.sub [] rfl) (hD.sub [] (by decide) rfl) hS (lv_sub hl [0, 1, 2, 3, 4, 5, 6, 7, 8, 9] rfl)
                refine lv_icmp_le (tgt := 176) hx hb dX8_plus_169 (by decide) (fun c95 => ?_) (fun c95 => ?_)
                · skip
                  have c95i : ((kX8_plus_s163 g q) : Int32).toInt ≤ 40 := Int32.le_iff_toInt_le.mp c95
                  refine lv_lload hx hb dX8_plus_176 (lv_at hl 5 rfl) ?_
                  refine sp_callj (wr := []) (wc := []) hP hD hS hA [] [] rfl rfl (by decide) (by decide) (va_runS (As := [.long (kX8_plus_107_z76 g q)]) (rest := []) ⟨hx, hb, hml, hown, hts⟩ (c_X8_digits l D cI cJ cZ H.size (kX8_plus_107_z76 g q)) (va_cwS 1 hts gX8_plus_X8_digits_102 rfl rfl rfl (by decide +kernel) ⟨Nat.le_of_ble_eq_true rfl, Nat.le_of_ble_eq_true rfl⟩) (sp_preS [.long (kX8_plus_107_z76 g q)] hK (hP.sub (ws' := []) [] rfl) (hD.sub (ws' := []) [] (by decide) rfl)) rfl rfl hl.1 rfl (lv_room (Nat.le_of_ble_eq_true rfl)) dX8_plus_178 ⟨Nat.le_of_ble_eq_true rfl, Nat.le_of_ble_eq_true rfl⟩) (fun r96 u97 H locs hw98 hP hD hS => ?_)
                  have hq_98_0 : r96 = (kX8_digits (kX8_plus_107_z76 g q)) := hw98
                  subst r96
                  have hP : va_P D vwCl [] H := hP
                  have hD : va_D A [] := hD
                  refine lv_iload hx hb dX8_plus_181 (lv_at hl 0 rfl) ?_
                  refine lv_lshr (v := _) hx hb dX8_plus_183 rfl ?_
                  exact hj102 (((kX8_digits (kX8_plus_107_z76 g q)) >>> (((kX8_plus_s163 g q) : Int32).toInt64 &&& 63))) _ _ _ (Eq.symm ((if_pos c95i).trans rfl)) (hP.sub [] rfl) (hD.sub [] (by decide) rfl) hS (lv_sub hl [0, 1, 2, 3, 4, 5, 6, 7, 8] rfl)
                · skip
                  have c95i : ¬ ((kX8_plus_s163 g q) : Int32).toInt ≤ 40 := fun h => c95 (Int32.le_iff_toInt_le.mpr h)
                  refine lv_lconst (v := 0) hx hb dX8_plus_172 (by decide) ?_
                  refine lv_goto (tgt := 184) hx hb dX8_plus_173 (by decide) ?_
                  exact hj102 (0) _ _ _ (Eq.symm ((if_neg c95i).trans rfl)) (hP.sub [] rfl) (hD.sub [] (by decide) rfl) hS (lv_sub hl [0, 1, 2, 3, 4, 5, 6, 7, 8] rfl)
              refine lv_icmp_ge (tgt := 134) hx hb dX8_plus_126 (by decide) (fun c84 => ?_) (fun c84 => ?_)
              · skip
                have c84i : 38 ≤ ((kX8_plus_s120 g q) : Int32).toInt := Int32.le_iff_toInt_le.mp c84
                refine lv_bipush (v := 38) hx hb dX8_plus_134 (by decide) ?_
                exact hj88 (38) _ _ _ (Eq.symm ((if_pos c84i).trans rfl)) (hP.sub [] rfl) (hD.sub [] (by decide) rfl) hS (lv_sub hl [0, 1, 2, 3, 4] rfl)
              · skip
                have c84i : ¬ 38 ≤ ((kX8_plus_s120 g q) : Int32).toInt := fun h => c84 (Int32.le_iff_toInt_le.mpr h)
                refine lv_iload hx hb dX8_plus_129 (lv_at hl 0 rfl) ?_
                refine lv_goto (tgt := 136) hx hb dX8_plus_131 (by decide) ?_
                exact hj88 ((kX8_plus_s120 g q)) _ _ _ (Eq.symm ((if_neg c84i).trans rfl)) (hP.sub [] rfl) (hD.sub [] (by decide) rfl) hS (lv_sub hl [0, 1, 2, 3, 4] rfl)
            refine lv_icmp_lt (tgt := 106) hx hb dX8_plus_99 (by decide) (fun c73 => ?_) (fun c73 => ?_)
            · skip
              have c73i : ((kX8_power g) : Int32).toInt < ((kX8_power q) : Int32).toInt := Int32.lt_iff_toInt_lt.mp c73
              refine lv_lload_n hx hb dX8_plus_106 rfl (lv_at hl 1 rfl) ?_
              exact hj77 (g) _ _ _ (Eq.symm ((if_pos c73i).trans rfl)) (hP.sub [] rfl) (hD.sub [] (by decide) rfl) hS (lv_sub hl [0, 1, 2] rfl)
            · skip
              have c73i : ¬ ((kX8_power g) : Int32).toInt < ((kX8_power q) : Int32).toInt := fun h => c73 (Int32.lt_iff_toInt_lt.mpr h)
              refine lv_lload_n hx hb dX8_plus_102 rfl (lv_at hl 2 rfl) ?_
              refine lv_goto (tgt := 107) hx hb dX8_plus_103 (by decide) ?_
              exact hj77 (q) _ _ _ (Eq.symm ((if_neg c73i).trans rfl)) (hP.sub [] rfl) (hD.sub [] (by decide) rfl) hS (lv_sub hl [0, 1, 2] rfl)
          refine lv_icmp_lt (tgt := 88) hx hb dX8_plus_81 (by decide) (fun c62 => ?_) (fun c62 => ?_)
          · skip
            have c62i : ((kX8_power g) : Int32).toInt < ((kX8_power q) : Int32).toInt := Int32.lt_iff_toInt_lt.mp c62
            refine lv_lload_n hx hb dX8_plus_88 rfl (lv_at hl 1 rfl) ?_
            exact hj66 (q) _ _ _ (Eq.symm ((if_pos c62i).trans rfl)) (hP.sub [] rfl) (hD.sub [] (by decide) rfl) hS (lv_sub hl [0, 1] rfl)
          · skip
            have c62i : ¬ ((kX8_power g) : Int32).toInt < ((kX8_power q) : Int32).toInt := fun h => c62 (Int32.lt_iff_toInt_lt.mpr h)
            refine lv_lload_n hx hb dX8_plus_84 rfl (lv_at hl 0 rfl) ?_
            refine lv_goto (tgt := 89) hx hb dX8_plus_85 (by decide) ?_
            exact hj66 (g) _ _ _ (Eq.symm ((if_neg c62i).trans rfl)) (hP.sub [] rfl) (hD.sub [] (by decide) rfl) hS (lv_sub hl [0, 1] rfl)
        · skip
          have c55i : ¬ ((kX8_isInfinite q) : Int32).toInt = 0 := fun h => c55 (Int32.toInt_inj.mp h)
          refine lv_lload_n hx hb dX8_plus_34 rfl (lv_at hl 0 rfl) ?_
          refine sp_calli (wr := []) (wc := []) hP hD hS hA [] [] rfl rfl (by decide) (by decide) (va_runS (As := [.long g]) (rest := []) ⟨hx, hb, hml, hown, hts⟩ (c_X8_isInfinite l D cI cJ cZ H.size g) (va_cwS 1 hts gX8_plus_X8_isInfinite_94 rfl rfl rfl (by decide +kernel) ⟨Nat.le_of_ble_eq_true rfl, Nat.le_of_ble_eq_true rfl⟩) (sp_preS [.long g] hK (hP.sub (ws' := []) [] rfl) (hD.sub (ws' := []) [] (by decide) rfl)) rfl rfl hl.1 rfl (lv_room (Nat.le_of_ble_eq_true rfl)) dX8_plus_35 ⟨Nat.le_of_ble_eq_true rfl, Nat.le_of_ble_eq_true rfl⟩) (fun r192 u193 H locs hw194 hP hD hS => ?_)
          have hq_194_0 : r192 = (kX8_isInfinite g) := hw194
          subst r192
          have hP : va_P D vwCl [] H := hP
          have hD : va_D A [] := hD
          have hj236 : ∀ (z235 : Int64) (H : Heap) (locs : List Loc) (ls : Array Slot), (z235 = kX8_plus_72_z50 g q) → va_P D vwCl [] H → va_D A [] → va_S A s.heap H locs → lv_has ls 19 [(0, .long g), (2, .long q)] → W p l e ({ frames := 2, cells := 0, slots := 0, locals := 51 }) s m (([.long g, .long q] : List Value).toArray) below meth c H locs 0 0 (MQ below (va_Ql (fun (r : Int64) (_ : Unit) => r = kX8_plus g q) (sp_B D vwCl A (fun (_ : Unit) => [])) A) ([.long g, .long q] : List Value).toArray s 0 0 A) (F0 m 72 ls [.long z235]) := by
            intro z235 H locs ls hz235 hP hD hS hl
            subst z235
            refine W.widen (k := 0) (n := 0) (by decide) (by decide) ?_
            exact sp_lret (u := ()) hx hb hr hlocks hS (Eq.symm ((if_neg c1i).trans ((if_neg c2i).trans ((if_pos c6i).trans ((if_neg c55i).trans rfl))))) (hP.sub [] rfl) (hD.sub [] (by decide) rfl) dX8_plus_72
          refine lv_if_eq (tgt := 60) hx hb dX8_plus_38 (by decide) (fun c195 => ?_) (fun c195 => ?_)
          · skip
            have c195i : ((kX8_isInfinite g) : Int32).toInt = 0 := congrArg Int32.toInt c195
            refine lv_lload_n hx hb dX8_plus_60 rfl (lv_at hl 0 rfl) ?_
            refine sp_calli (wr := []) (wc := []) hP hD hS hA [] [] rfl rfl (by decide) (by decide) (va_runS (As := [.long g]) (rest := []) ⟨hx, hb, hml, hown, hts⟩ (c_X8_isInfinite l D cI cJ cZ H.size g) (va_cwS 1 hts gX8_plus_X8_isInfinite_94 rfl rfl rfl (by decide +kernel) ⟨Nat.le_of_ble_eq_true rfl, Nat.le_of_ble_eq_true rfl⟩) (sp_preS [.long g] hK (hP.sub (ws' := []) [] rfl) (hD.sub (ws' := []) [] (by decide) rfl)) rfl rfl hl.1 rfl (lv_room (Nat.le_of_ble_eq_true rfl)) dX8_plus_61 ⟨Nat.le_of_ble_eq_true rfl, Nat.le_of_ble_eq_true rfl⟩) (fun r196 u197 H locs hw198 hP hD hS => ?_)
            have hq_198_0 : r196 = (kX8_isInfinite g) := hw198
            subst r196
            have hP : va_P D vwCl [] H := hP
            have hD : va_D A [] := hD
            have hj203 : ∀ (z202 : Int64) (H : Heap) (locs : List Loc) (ls : Array Slot), (z202 = kX8_plus_72_z17 g q) → va_P D vwCl [] H → va_D A [] → va_S A s.heap H locs → lv_has ls 19 [(0, .long g), (2, .long q)] → W p l e ({ frames := 2, cells := 0, slots := 0, locals := 51 }) s m (([.long g, .long q] : List Value).toArray) below meth c H locs 0 0 (MQ below (va_Ql (fun (r : Int64) (_ : Unit) => r = kX8_plus g q) (sp_B D vwCl A (fun (_ : Unit) => [])) A) ([.long g, .long q] : List Value).toArray s 0 0 A) (F0 m 72 ls [.long z202]) := by
              intro z202 H locs ls hz202 hP hD hS hl
              subst z202
              exact hj236 ((kX8_plus_72_z17 g q)) _ _ _ (Eq.symm ((if_pos c195i).trans rfl)) (hP.sub [] rfl) (hD.sub [] (by decide) rfl) hS (lv_sub hl [0, 1] rfl)
            refine lv_if_eq (tgt := 71) hx hb dX8_plus_64 (by decide) (fun c199 => ?_) (fun c199 => ?_)
            · skip
              have c199i : ((kX8_isInfinite g) : Int32).toInt = 0 := congrArg Int32.toInt c199
              refine lv_lload_n hx hb dX8_plus_71 rfl (lv_at hl 1 rfl) ?_
              exact hj203 (q) _ _ _ (Eq.symm ((if_pos c199i).trans rfl)) (hP.sub [] rfl) (hD.sub [] (by decide) rfl) hS (lv_sub hl [0, 1] rfl)
            · skip
              have c199i : ¬ ((kX8_isInfinite g) : Int32).toInt = 0 := fun h => c199 (Int32.toInt_inj.mp h)
              refine lv_lload_n hx hb dX8_plus_67 rfl (lv_at hl 0 rfl) ?_
              refine lv_goto (tgt := 72) hx hb dX8_plus_68 (by decide) ?_
              exact hj203 (g) _ _ _ (Eq.symm ((if_neg c199i).trans rfl)) (hP.sub [] rfl) (hD.sub [] (by decide) rfl) hS (lv_sub hl [0, 1] rfl)
          · skip
            have c195i : ¬ ((kX8_isInfinite g) : Int32).toInt = 0 := fun h => c195 (Int32.toInt_inj.mp h)
            refine lv_lload_n hx hb dX8_plus_41 rfl (lv_at hl 1 rfl) ?_
            refine sp_calli (wr := []) (wc := []) hP hD hS hA [] [] rfl rfl (by decide) (by decide) (va_runS (As := [.long q]) (rest := []) ⟨hx, hb, hml, hown, hts⟩ (c_X8_isInfinite l D cI cJ cZ H.size q) (va_cwS 1 hts gX8_plus_X8_isInfinite_94 rfl rfl rfl (by decide +kernel) ⟨Nat.le_of_ble_eq_true rfl, Nat.le_of_ble_eq_true rfl⟩) (sp_preS [.long q] hK (hP.sub (ws' := []) [] rfl) (hD.sub (ws' := []) [] (by decide) rfl)) rfl rfl hl.1 rfl (lv_room (Nat.le_of_ble_eq_true rfl)) dX8_plus_42 ⟨Nat.le_of_ble_eq_true rfl, Nat.le_of_ble_eq_true rfl⟩) (fun r205 u206 H locs hw207 hP hD hS => ?_)
            have hq_207_0 : r205 = (kX8_isInfinite q) := hw207
            subst r205
            have hP : va_P D vwCl [] H := hP
            have hD : va_D A [] := hD
            have hj233 : ∀ (z232 : Int64) (H : Heap) (locs : List Loc) (ls : Array Slot), (z232 = kX8_plus_72_z47 g q) → va_P D vwCl [] H → va_D A [] → va_S A s.heap H locs → lv_has ls 19 [(0, .long g), (2, .long q)] → W p l e ({ frames := 2, cells := 0, slots := 0, locals := 51 }) s m (([.long g, .long q] : List Value).toArray) below meth c H locs 0 0 (MQ below (va_Ql (fun (r : Int64) (_ : Unit) => r = kX8_plus g q) (sp_B D vwCl A (fun (_ : Unit) => [])) A) ([.long g, .long q] : List Value).toArray s 0 0 A) (F0 m 72 ls [.long z232]) := by
              intro z232 H locs ls hz232 hP hD hS hl
              subst z232
              exact hj236 ((kX8_plus_72_z47 g q)) _ _ _ (Eq.symm ((if_neg c195i).trans rfl)) (hP.sub [] rfl) (hD.sub [] (by decide) rfl) hS (lv_sub hl [0, 1] rfl)
            refine lv_if_eq (tgt := 60) hx hb dX8_plus_45 (by decide) (fun c208 => ?_) (fun c208 => ?_)
            · skip
              have c208i : ((kX8_isInfinite q) : Int32).toInt = 0 := congrArg Int32.toInt c208
              refine lv_lload_n hx hb dX8_plus_60 rfl (lv_at hl 0 rfl) ?_
              refine sp_calli (wr := []) (wc := []) hP hD hS hA [] [] rfl rfl (by decide) (by decide) (va_runS (As := [.long g]) (rest := []) ⟨hx, hb, hml, hown, hts⟩ (c_X8_isInfinite l D cI cJ cZ H.size g) (va_cwS 1 hts gX8_plus_X8_isInfinite_94 rfl rfl rfl (by decide +kernel) ⟨Nat.le_of_ble_eq_true rfl, Nat.le_of_ble_eq_true rfl⟩) (sp_preS [.long g] hK (hP.sub (ws' := []) [] rfl) (hD.sub (ws' := []) [] (by decide) rfl)) rfl rfl hl.1 rfl (lv_room (Nat.le_of_ble_eq_true rfl)) dX8_plus_61 ⟨Nat.le_of_ble_eq_true rfl, Nat.le_of_ble_eq_true rfl⟩) (fun r209 u210 H locs hw211 hP hD hS => ?_)
              have hq_211_0 : r209 = (kX8_isInfinite g) := hw211
              subst r209
              have hP : va_P D vwCl [] H := hP
              have hD : va_D A [] := hD
              have hj216 : ∀ (z215 : Int64) (H : Heap) (locs : List Loc) (ls : Array Slot), (z215 = kX8_plus_72_z17 g q) → va_P D vwCl [] H → va_D A [] → va_S A s.heap H locs → lv_has ls 19 [(0, .long g), (2, .long q)] → W p l e ({ frames := 2, cells := 0, slots := 0, locals := 51 }) s m (([.long g, .long q] : List Value).toArray) below meth c H locs 0 0 (MQ below (va_Ql (fun (r : Int64) (_ : Unit) => r = kX8_plus g q) (sp_B D vwCl A (fun (_ : Unit) => [])) A) ([.long g, .long q] : List Value).toArray s 0 0 A) (F0 m 72 ls [.long z215]) := by
                intro z215 H locs ls hz215 hP hD hS hl
                subst z215
                exact hj233 ((kX8_plus_72_z17 g q)) _ _ _ (Eq.symm ((if_pos c208i).trans rfl)) (hP.sub [] rfl) (hD.sub [] (by decide) rfl) hS (lv_sub hl [0, 1] rfl)
              refine lv_if_eq (tgt := 71) hx hb dX8_plus_64 (by decide) (fun c212 => ?_) (fun c212 => ?_)
              · skip
                have c212i : ((kX8_isInfinite g) : Int32).toInt = 0 := congrArg Int32.toInt c212
                refine lv_lload_n hx hb dX8_plus_71 rfl (lv_at hl 1 rfl) ?_
                exact hj216 (q) _ _ _ (Eq.symm ((if_pos c212i).trans rfl)) (hP.sub [] rfl) (hD.sub [] (by decide) rfl) hS (lv_sub hl [0, 1] rfl)
              · skip
                have c212i : ¬ ((kX8_isInfinite g) : Int32).toInt = 0 := fun h => c212 (Int32.toInt_inj.mp h)
                refine lv_lload_n hx hb dX8_plus_67 rfl (lv_at hl 0 rfl) ?_
                refine lv_goto (tgt := 72) hx hb dX8_plus_68 (by decide) ?_
                exact hj216 (g) _ _ _ (Eq.symm ((if_neg c212i).trans rfl)) (hP.sub [] rfl) (hD.sub [] (by decide) rfl) hS (lv_sub hl [0, 1] rfl)
            · skip
              have c208i : ¬ ((kX8_isInfinite q) : Int32).toInt = 0 := fun h => c208 (Int32.toInt_inj.mp h)
              refine lv_lload_n hx hb dX8_plus_48 rfl (lv_at hl 0 rfl) ?_
              refine lv_lload_n hx hb dX8_plus_49 rfl (lv_at hl 1 rfl) ?_
              refine W.lcmp hx hb dX8_plus_50 ?_
              have hj230 : ∀ (z229 : Int64) (H : Heap) (locs : List Loc) (ls : Array Slot), (z229 = kX8_plus_72_z44 g q) → va_P D vwCl [] H → va_D A [] → va_S A s.heap H locs → lv_has ls 19 [(0, .long g), (2, .long q)] → W p l e ({ frames := 2, cells := 0, slots := 0, locals := 51 }) s m (([.long g, .long q] : List Value).toArray) below meth c H locs 0 0 (MQ below (va_Ql (fun (r : Int64) (_ : Unit) => r = kX8_plus g q) (sp_B D vwCl A (fun (_ : Unit) => [])) A) ([.long g, .long q] : List Value).toArray s 0 0 A) (F0 m 72 ls [.long z229]) := by
                intro z229 H locs ls hz229 hP hD hS hl
                subst z229
                exact hj233 ((kX8_plus_72_z44 g q)) _ _ _ (Eq.symm ((if_neg c208i).trans rfl)) (hP.sub [] rfl) (hD.sub [] (by decide) rfl) hS (lv_sub hl [0, 1] rfl)
              refine lv_if_eq (tgt := 60) hx hb dX8_plus_51 (by decide) (fun c218 => ?_) (fun c218 => ?_)
              · skip
                have c218 := (lg_cmp_eq _ _).mp c218
                have c218i : (g : Int64).toInt = (q : Int64).toInt := congrArg Int64.toInt c218
                refine lv_lload_n hx hb dX8_plus_60 rfl (lv_at hl 0 rfl) ?_
                refine sp_calli (wr := []) (wc := []) hP hD hS hA [] [] rfl rfl (by decide) (by decide) (va_runS (As := [.long g]) (rest := []) ⟨hx, hb, hml, hown, hts⟩ (c_X8_isInfinite l D cI cJ cZ H.size g) (va_cwS 1 hts gX8_plus_X8_isInfinite_94 rfl rfl rfl (by decide +kernel) ⟨Nat.le_of_ble_eq_true rfl, Nat.le_of_ble_eq_true rfl⟩) (sp_preS [.long g] hK (hP.sub (ws' := []) [] rfl) (hD.sub (ws' := []) [] (by decide) rfl)) rfl rfl hl.1 rfl (lv_room (Nat.le_of_ble_eq_true rfl)) dX8_plus_61 ⟨Nat.le_of_ble_eq_true rfl, Nat.le_of_ble_eq_true rfl⟩) (fun r219 u220 H locs hw221 hP hD hS => ?_)
                have hq_221_0 : r219 = (kX8_isInfinite g) := hw221
                subst r219
                have hP : va_P D vwCl [] H := hP
                have hD : va_D A [] := hD
                have hj226 : ∀ (z225 : Int64) (H : Heap) (locs : List Loc) (ls : Array Slot), (z225 = kX8_plus_72_z17 g q) → va_P D vwCl [] H → va_D A [] → va_S A s.heap H locs → lv_has ls 19 [(0, .long g), (2, .long q)] → W p l e ({ frames := 2, cells := 0, slots := 0, locals := 51 }) s m (([.long g, .long q] : List Value).toArray) below meth c H locs 0 0 (MQ below (va_Ql (fun (r : Int64) (_ : Unit) => r = kX8_plus g q) (sp_B D vwCl A (fun (_ : Unit) => [])) A) ([.long g, .long q] : List Value).toArray s 0 0 A) (F0 m 72 ls [.long z225]) := by
                  intro z225 H locs ls hz225 hP hD hS hl
                  subst z225
                  exact hj230 ((kX8_plus_72_z17 g q)) _ _ _ (Eq.symm ((if_pos c218i).trans rfl)) (hP.sub [] rfl) (hD.sub [] (by decide) rfl) hS (lv_sub hl [0, 1] rfl)
                refine lv_if_eq (tgt := 71) hx hb dX8_plus_64 (by decide) (fun c222 => ?_) (fun c222 => ?_)
                · skip
                  have c222i : ((kX8_isInfinite g) : Int32).toInt = 0 := congrArg Int32.toInt c222
                  refine lv_lload_n hx hb dX8_plus_71 rfl (lv_at hl 1 rfl) ?_
                  exact hj226 (q) _ _ _ (Eq.symm ((if_pos c222i).trans rfl)) (hP.sub [] rfl) (hD.sub [] (by decide) rfl) hS (lv_sub hl [0, 1] rfl)
                · skip
                  have c222i : ¬ ((kX8_isInfinite g) : Int32).toInt = 0 := fun h => c222 (Int32.toInt_inj.mp h)
                  refine lv_lload_n hx hb dX8_plus_67 rfl (lv_at hl 0 rfl) ?_
                  refine lv_goto (tgt := 72) hx hb dX8_plus_68 (by decide) ?_
                  exact hj226 (g) _ _ _ (Eq.symm ((if_neg c222i).trans rfl)) (hP.sub [] rfl) (hD.sub [] (by decide) rfl) hS (lv_sub hl [0, 1] rfl)
              · skip
                have c218 := fun h => c218 ((lg_cmp_eq _ _).mpr h)
                have c218i : ¬ (g : Int64).toInt = (q : Int64).toInt := fun h => c218 (Int64.toInt_inj.mp h)
                refine lv_ldc2 (v := 9000000000) hx hb hown (hts (.constantLong RX8 82 (9000000000)) (oX8_plus_in _ (List.mem_of_getElem? (i := 0) rfl))) dX8_plus_54 ?_
                refine lv_goto (tgt := 72) hx hb dX8_plus_57 (by decide) ?_
                exact hj230 (9000000000) _ _ _ (Eq.symm ((if_neg c218i).trans rfl)) (hP.sub [] rfl) (hD.sub [] (by decide) rfl) hS (lv_sub hl [0, 1] rfl)
    · skip
      have c2 := (lg_cmp_eq _ _).mp c2
      have c2i : (q : Int64).toInt = 9000000000 := congrArg Int64.toInt c2
      refine lv_ldc2 (v := 9000000000) hx hb hown (hts (.constantLong RX8 82 (9000000000)) (oX8_plus_in _ (List.mem_of_getElem? (i := 0) rfl))) dX8_plus_16 ?_
      refine W.widen (k := 0) (n := 0) (by decide) (by decide) ?_
      exact sp_lret (u := ()) hx hb hr hlocks hS (Eq.symm ((if_neg c1i).trans ((if_pos c2i).trans rfl))) (hP.sub [] rfl) (hD.sub [] (by decide) rfl) dX8_plus_19
def oX8_timesOf : List Cond := [.constantLong RX8 82 (9000000000), .constantLong RX8 68 (2139095040)]
def wpX8_timesOf : List Cond := .code yX8_timesOf cX8_timesOf 5 (some .long) :: (oX8_timesOf ++ ((va_wsS RX8 94 yX8_isInfinite wpX8_isInfinite) ++ ((va_wsS RX8 109 yX8_isZero wpX8_isZero) ++ ((va_wsS RX8 84 yX8_placeOf wpX8_placeOf) ++ ((va_wsS RX8 102 yX8_digits wpX8_digits) ++ ((va_wsS RX8 98 yX8_power wpX8_power) ++ ((va_wsS RX8 105 yX8_pack wpX8_pack) ++ ([] : List Cond))))))))
theorem oX8_timesOf_in : ∀ w ∈ oX8_timesOf, w ∈ wpX8_timesOf := fun w h => List.mem_cons_of_mem _ (List.mem_append_left _ h)
theorem gwoX8_timesOf : ∀ w ∈ oX8_timesOf, goodWord w = true := by decide +kernel
theorem gwX8_timesOf : ∀ w ∈ wpX8_timesOf, goodWord w = true := by
  unfold wpX8_timesOf
  exact List.forall_mem_cons.mpr ⟨rfl, List.forall_mem_append.mpr ⟨gwoX8_timesOf, List.forall_mem_append.mpr ⟨(sp_gS gwX8_isInfinite), List.forall_mem_append.mpr ⟨(sp_gS gwX8_isZero), List.forall_mem_append.mpr ⟨(sp_gS gwX8_placeOf), List.forall_mem_append.mpr ⟨(sp_gS gwX8_digits), List.forall_mem_append.mpr ⟨(sp_gS gwX8_power), List.forall_mem_append.mpr ⟨(sp_gS gwX8_pack), fun _ h => absurd h List.not_mem_nil⟩⟩⟩⟩⟩⟩⟩⟩
set_option maxRecDepth 100000 in
theorem toX8_timesOf : ∀ w ∈ oX8_timesOf, w ∈ lw_tbl := by
  unfold oX8_timesOf
  exact List.forall_mem_cons.mpr ⟨(List.mem_of_getElem? (i := 804) (by decide +kernel)), List.forall_mem_cons.mpr ⟨(List.mem_of_getElem? (i := 682) (by decide +kernel)), fun _ h => absurd h List.not_mem_nil⟩⟩
set_option maxRecDepth 100000 in
theorem tX8_timesOf : ∀ w ∈ wpX8_timesOf, w ∈ lw_tbl := by
  unfold wpX8_timesOf
  exact List.forall_mem_cons.mpr ⟨(List.mem_of_getElem? (i := 857) (by rfl)), List.forall_mem_append.mpr ⟨toX8_timesOf, List.forall_mem_append.mpr ⟨(sp_tS (List.mem_of_getElem? (i := 834) (by decide +kernel)) (List.mem_of_getElem? (i := 835) (by decide +kernel)) (List.mem_of_getElem? (i := 45) (by decide +kernel)) tX8_isInfinite), List.forall_mem_append.mpr ⟨(sp_tS (List.mem_of_getElem? (i := 858) (by decide +kernel)) (List.mem_of_getElem? (i := 859) (by decide +kernel)) (List.mem_of_getElem? (i := 45) (by decide +kernel)) tX8_isZero), List.forall_mem_append.mpr ⟨(sp_tS (List.mem_of_getElem? (i := 805) (by decide +kernel)) (List.mem_of_getElem? (i := 806) (by decide +kernel)) (List.mem_of_getElem? (i := 45) (by decide +kernel)) tX8_placeOf), List.forall_mem_append.mpr ⟨(sp_tS (List.mem_of_getElem? (i := 844) (by decide +kernel)) (List.mem_of_getElem? (i := 845) (by decide +kernel)) (List.mem_of_getElem? (i := 45) (by decide +kernel)) tX8_digits), List.forall_mem_append.mpr ⟨(sp_tS (List.mem_of_getElem? (i := 840) (by decide +kernel)) (List.mem_of_getElem? (i := 841) (by decide +kernel)) (List.mem_of_getElem? (i := 45) (by decide +kernel)) tX8_power), List.forall_mem_append.mpr ⟨(sp_tS (List.mem_of_getElem? (i := 847) (by decide +kernel)) (List.mem_of_getElem? (i := 848) (by decide +kernel)) (List.mem_of_getElem? (i := 45) (by decide +kernel)) tX8_pack), fun _ h => absurd h List.not_mem_nil⟩⟩⟩⟩⟩⟩⟩⟩
theorem gX8_timesOf_X8_isInfinite_94 : GoodIn wpX8_timesOf (va_wsS RX8 94 yX8_isInfinite wpX8_isInfinite) := fun w h => ⟨List.mem_cons_of_mem _ (List.mem_append_right _ (List.mem_append_left _ h)), good_of_word (sp_gS gwX8_isInfinite w h)⟩
theorem gX8_timesOf_X8_isZero_109 : GoodIn wpX8_timesOf (va_wsS RX8 109 yX8_isZero wpX8_isZero) := fun w h => ⟨List.mem_cons_of_mem _ (List.mem_append_right _ (List.mem_append_right _ (List.mem_append_left _ h))), good_of_word (sp_gS gwX8_isZero w h)⟩
theorem gX8_timesOf_X8_placeOf_84 : GoodIn wpX8_timesOf (va_wsS RX8 84 yX8_placeOf wpX8_placeOf) := fun w h => ⟨List.mem_cons_of_mem _ (List.mem_append_right _ (List.mem_append_right _ (List.mem_append_right _ (List.mem_append_left _ h)))), good_of_word (sp_gS gwX8_placeOf w h)⟩
theorem gX8_timesOf_X8_digits_102 : GoodIn wpX8_timesOf (va_wsS RX8 102 yX8_digits wpX8_digits) := fun w h => ⟨List.mem_cons_of_mem _ (List.mem_append_right _ (List.mem_append_right _ (List.mem_append_right _ (List.mem_append_right _ (List.mem_append_left _ h))))), good_of_word (sp_gS gwX8_digits w h)⟩
theorem gX8_timesOf_X8_power_98 : GoodIn wpX8_timesOf (va_wsS RX8 98 yX8_power wpX8_power) := fun w h => ⟨List.mem_cons_of_mem _ (List.mem_append_right _ (List.mem_append_right _ (List.mem_append_right _ (List.mem_append_right _ (List.mem_append_right _ (List.mem_append_left _ h)))))), good_of_word (sp_gS gwX8_power w h)⟩
theorem gX8_timesOf_X8_pack_105 : GoodIn wpX8_timesOf (va_wsS RX8 105 yX8_pack wpX8_pack) := fun w h => ⟨List.mem_cons_of_mem _ (List.mem_append_right _ (List.mem_append_right _ (List.mem_append_right _ (List.mem_append_right _ (List.mem_append_right _ (List.mem_append_right _ (List.mem_append_left _ h))))))), good_of_word (sp_gS gwX8_pack w h)⟩
set_option maxHeartbeats 4000000 in
set_option maxRecDepth 100000 in
theorem c_X8_timesOf (l : Launch) (D : va_G) (cI cJ cZ : ClassId) (sz : Nat) (g : Int64) (q : Int64) : Met l yX8_timesOf wpX8_timesOf ({ frames := 2, cells := 0, slots := 0, locals := 51 }) (va_Pc ([.long g, .long q] : List Value) (sp_pre D vwCl (sp_ty cI cJ cZ) [] sz)) (va_Ql (fun (r : Int64) (_ : Unit) => r = kX8_timesOf g q) (sp_B D vwCl (va_A [] sz) (fun (_ : Unit) => [])) (va_A [] sz)) 0 0 (va_A [] sz) := by
  refine sp_ofW (Qc := fun A => va_Ql (fun (r : Int64) (_ : Unit) => r = kX8_timesOf g q) (sp_B D vwCl A (fun (_ : Unit) => [])) A) (by decide) rfl (Nat.le_of_ble_eq_true rfl) (fun p e s m below meth c A ls H locs C0 hA hS hP hK hD hl => ?_)
  obtain ⟨hx, hb, hr, hts, hown, hlocks, hml, hin⟩ := id C0
  have hown : s.vm.findClass RX8 = some m.cls := hown
  have hl : lv_has ls 5 [(0, .long g), (2, .long q)] := hl
  have hK : va_K D vwCl [(cI, .int), (cJ, .long), (cZ, .boolean)] s := hK
  refine lv_lload_n hx hb dX8_timesOf_0 rfl (lv_at hl 0 rfl) ?_
  refine lv_ldc2 (v := 9000000000) hx hb hown (hts (.constantLong RX8 82 (9000000000)) (oX8_timesOf_in _ (List.mem_of_getElem? (i := 0) rfl))) dX8_timesOf_1 ?_
  refine W.lcmp hx hb dX8_timesOf_4 ?_
  refine lv_if_eq (tgt := 44) hx hb dX8_timesOf_5 (by decide) (fun c1 => ?_) (fun c1 => ?_)
  · skip
    have c1 := (lg_cmp_eq _ _).mp c1
    have c1i : (g : Int64).toInt = 9000000000 := congrArg Int64.toInt c1
    refine lv_ldc2 (v := 9000000000) hx hb hown (hts (.constantLong RX8 82 (9000000000)) (oX8_timesOf_in _ (List.mem_of_getElem? (i := 0) rfl))) dX8_timesOf_44 ?_
    refine W.widen (k := 0) (n := 0) (by decide) (by decide) ?_
    exact sp_lret (u := ()) hx hb hr hlocks hS (Eq.symm ((if_pos c1i).trans rfl)) (hP.sub [] rfl) (hD.sub [] (by decide) rfl) dX8_timesOf_47
  · skip
    have c1 := fun h => c1 ((lg_cmp_eq _ _).mpr h)
    have c1i : ¬ (g : Int64).toInt = 9000000000 := fun h => c1 (Int64.toInt_inj.mp h)
    refine lv_lload_n hx hb dX8_timesOf_8 rfl (lv_at hl 1 rfl) ?_
    refine lv_ldc2 (v := 9000000000) hx hb hown (hts (.constantLong RX8 82 (9000000000)) (oX8_timesOf_in _ (List.mem_of_getElem? (i := 0) rfl))) dX8_timesOf_9 ?_
    refine W.lcmp hx hb dX8_timesOf_12 ?_
    refine lv_if_eq (tgt := 44) hx hb dX8_timesOf_13 (by decide) (fun c2 => ?_) (fun c2 => ?_)
    · skip
      have c2 := (lg_cmp_eq _ _).mp c2
      have c2i : (q : Int64).toInt = 9000000000 := congrArg Int64.toInt c2
      refine lv_ldc2 (v := 9000000000) hx hb hown (hts (.constantLong RX8 82 (9000000000)) (oX8_timesOf_in _ (List.mem_of_getElem? (i := 0) rfl))) dX8_timesOf_44 ?_
      refine W.widen (k := 0) (n := 0) (by decide) (by decide) ?_
      exact sp_lret (u := ()) hx hb hr hlocks hS (Eq.symm ((if_neg c1i).trans ((if_pos c2i).trans rfl))) (hP.sub [] rfl) (hD.sub [] (by decide) rfl) dX8_timesOf_47
    · skip
      have c2 := fun h => c2 ((lg_cmp_eq _ _).mpr h)
      have c2i : ¬ (q : Int64).toInt = 9000000000 := fun h => c2 (Int64.toInt_inj.mp h)
      refine lv_lload_n hx hb dX8_timesOf_16 rfl (lv_at hl 0 rfl) ?_
      refine sp_calli (wr := []) (wc := []) hP hD hS hA [] [] rfl rfl (by decide) (by decide) (va_runS (As := [.long g]) (rest := []) ⟨hx, hb, hml, hown, hts⟩ (c_X8_isInfinite l D cI cJ cZ H.size g) (va_cwS 1 hts gX8_timesOf_X8_isInfinite_94 rfl rfl rfl (by decide +kernel) ⟨Nat.le_of_ble_eq_true rfl, Nat.le_of_ble_eq_true rfl⟩) (sp_preS [.long g] hK (hP.sub (ws' := []) [] rfl) (hD.sub (ws' := []) [] (by decide) rfl)) rfl rfl hl.1 rfl (lv_room (Nat.le_of_ble_eq_true rfl)) dX8_timesOf_17 ⟨Nat.le_of_ble_eq_true rfl, Nat.le_of_ble_eq_true rfl⟩) (fun r3 u4 H locs hw5 hP hD hS => ?_)
      have hq_5_0 : r3 = (kX8_isInfinite g) := hw5
      subst r3
      have hP : va_P D vwCl [] H := hP
      have hD : va_D A [] := hD
      refine lv_if_eq (tgt := 30) hx hb dX8_timesOf_20 (by decide) (fun c6 => ?_) (fun c6 => ?_)
      · skip
        have c6i : ((kX8_isInfinite g) : Int32).toInt = 0 := congrArg Int32.toInt c6
        refine lv_lload_n hx hb dX8_timesOf_30 rfl (lv_at hl 0 rfl) ?_
        refine sp_calli (wr := []) (wc := []) hP hD hS hA [] [] rfl rfl (by decide) (by decide) (va_runS (As := [.long g]) (rest := []) ⟨hx, hb, hml, hown, hts⟩ (c_X8_isZero l D cI cJ cZ H.size g) (va_cwS 1 hts gX8_timesOf_X8_isZero_109 rfl rfl rfl (by decide +kernel) ⟨Nat.le_of_ble_eq_true rfl, Nat.le_of_ble_eq_true rfl⟩) (sp_preS [.long g] hK (hP.sub (ws' := []) [] rfl) (hD.sub (ws' := []) [] (by decide) rfl)) rfl rfl hl.1 rfl (lv_room (Nat.le_of_ble_eq_true rfl)) dX8_timesOf_31 ⟨Nat.le_of_ble_eq_true rfl, Nat.le_of_ble_eq_true rfl⟩) (fun r7 u8 H locs hw9 hP hD hS => ?_)
        obtain ⟨hq_9_0, hm_1_⟩ : r7 = (kX8_isZero g) ∧ _ := hw9
        subst r7
        have hm_1_i : (((kX8_isZero g) : Int32).toInt = 1 ∧ ((g : Int64).toInt = 0 ∨ (g : Int64).toInt = -1)) ∨ (((kX8_isZero g) : Int32).toInt = 0 ∧ ¬ ((g : Int64).toInt = 0 ∨ (g : Int64).toInt = -1)) := sp_bool hm_1_
        have hP : va_P D vwCl [] H := hP
        have hD : va_D A [] := hD
        refine lv_if_eq (tgt := 48) hx hb dX8_timesOf_34 (by decide) (fun c10 => ?_) (fun c10 => ?_)
        · skip
          have c10i : ((kX8_isZero g) : Int32).toInt = 0 := congrArg Int32.toInt c10
          refine lv_lload_n hx hb dX8_timesOf_48 rfl (lv_at hl 0 rfl) ?_
          refine lv_lconst (v := 0) hx hb dX8_timesOf_49 (by decide) ?_
          refine W.lcmp hx hb dX8_timesOf_50 ?_
          have hj15 : ∀ (z14 : Int32) (H : Heap) (locs : List Loc) (ls : Array Slot), (z14 = kX8_timesOf_59_z14 g q) → va_P D vwCl [] H → va_D A [] → va_S A s.heap H locs → lv_has ls 5 [(0, .long g), (2, .long q)] → W p l e ({ frames := 2, cells := 0, slots := 0, locals := 51 }) s m (([.long g, .long q] : List Value).toArray) below meth c H locs 0 0 (MQ below (va_Ql (fun (r : Int64) (_ : Unit) => r = kX8_timesOf g q) (sp_B D vwCl A (fun (_ : Unit) => [])) A) ([.long g, .long q] : List Value).toArray s 0 0 A) (F0 m 59 ls [.int z14]) := by
            intro z14 H locs ls hz14 hP hD hS hl
            subst z14
            refine lv_lload_n hx hb dX8_timesOf_59 rfl (lv_at hl 1 rfl) ?_
            refine lv_lconst (v := 0) hx hb dX8_timesOf_60 (by decide) ?_
            refine W.lcmp hx hb dX8_timesOf_61 ?_
            have hj20 : ∀ (z19 : Int32) (H : Heap) (locs : List Loc) (ls : Array Slot), (z19 = kX8_timesOf_70_z19 g q) → va_P D vwCl [] H → va_D A [] → va_S A s.heap H locs → lv_has ls 5 [(0, .long g), (2, .long q)] → W p l e ({ frames := 2, cells := 0, slots := 0, locals := 51 }) s m (([.long g, .long q] : List Value).toArray) below meth c H locs 0 0 (MQ below (va_Ql (fun (r : Int64) (_ : Unit) => r = kX8_timesOf g q) (sp_B D vwCl A (fun (_ : Unit) => [])) A) ([.long g, .long q] : List Value).toArray s 0 0 A) (F0 m 70 ls [.int z19, .int (kX8_timesOf_59_z14 g q)]) := by
              intro z19 H locs ls hz19 hP hD hS hl
              subst z19
              have hj25 : ∀ (z24 : Int32) (H : Heap) (locs : List Loc) (ls : Array Slot), (z24 = kX8_timesOf_78_z24 g q) → va_P D vwCl [] H → va_D A [] → va_S A s.heap H locs → lv_has ls 5 [(0, .long g), (2, .long q)] → W p l e ({ frames := 2, cells := 0, slots := 0, locals := 51 }) s m (([.long g, .long q] : List Value).toArray) below meth c H locs 0 0 (MQ below (va_Ql (fun (r : Int64) (_ : Unit) => r = kX8_timesOf g q) (sp_B D vwCl A (fun (_ : Unit) => [])) A) ([.long g, .long q] : List Value).toArray s 0 0 A) (F0 m 78 ls [.int z24]) := by
                intro z24 H locs ls hz24 hP hD hS hl
                subst z24
                refine lv_istore (lv' := [(4, .int (kX8_timesOf_78_z24 g q)), (0, .long g), (2, .long q)]) hx hb dX8_timesOf_78 hl (by decide) rfl (fun ls hl => ?_)
                refine lv_lload_n hx hb dX8_timesOf_80 rfl (lv_at hl 1 rfl) ?_
                refine sp_calli (wr := []) (wc := []) hP hD hS hA [] [] rfl rfl (by decide) (by decide) (va_runS (As := [.long g]) (rest := []) ⟨hx, hb, hml, hown, hts⟩ (c_X8_isInfinite l D cI cJ cZ H.size g) (va_cwS 1 hts gX8_timesOf_X8_isInfinite_94 rfl rfl rfl (by decide +kernel) ⟨Nat.le_of_ble_eq_true rfl, Nat.le_of_ble_eq_true rfl⟩) (sp_preS [.long g] hK (hP.sub (ws' := []) [] rfl) (hD.sub (ws' := []) [] (by decide) rfl)) rfl rfl hl.1 rfl (lv_room (Nat.le_of_ble_eq_true rfl)) dX8_timesOf_81 ⟨Nat.le_of_ble_eq_true rfl, Nat.le_of_ble_eq_true rfl⟩) (fun r26 u27 H locs hw28 hP hD hS => ?_)
                have hq_28_0 : r26 = (kX8_isInfinite g) := hw28
                subst r26
                have hP : va_P D vwCl [] H := hP
                have hD : va_D A [] := hD
                refine lv_if_ne (tgt := 94) hx hb dX8_timesOf_84 (by decide) (fun c29 => ?_) (fun c29 => ?_)
                · skip
                  have c29i : ¬ ((kX8_isInfinite g) : Int32).toInt = 0 := fun h => c29 (Int32.toInt_inj.mp h)
                  refine lv_iload hx hb dX8_timesOf_94 (lv_at hl 0 rfl) ?_
                  refine lv_ldc2 (v := 2139095040) hx hb hown (hts (.constantLong RX8 68 (2139095040)) (oX8_timesOf_in _ (List.mem_of_getElem? (i := 1) rfl))) dX8_timesOf_96 ?_
                  refine sp_callj (wr := []) (wc := []) hP hD hS hA [] [] rfl rfl (by decide) (by decide) (va_runS (As := [.int (kX8_timesOf_78_z24 g q), .long 2139095040]) (rest := []) ⟨hx, hb, hml, hown, hts⟩ (c_X8_placeOf l D cI cJ cZ H.size (kX8_timesOf_78_z24 g q) 2139095040) (va_cwS 2 hts gX8_timesOf_X8_placeOf_84 rfl rfl rfl (by decide +kernel) ⟨Nat.le_of_ble_eq_true rfl, Nat.le_of_ble_eq_true rfl⟩) (sp_preS [.int (kX8_timesOf_78_z24 g q), .long 2139095040] hK (hP.sub (ws' := []) [] rfl) (hD.sub (ws' := []) [] (by decide) rfl)) rfl rfl hl.1 rfl (lv_room (Nat.le_of_ble_eq_true rfl)) dX8_timesOf_99 ⟨Nat.le_of_ble_eq_true rfl, Nat.le_of_ble_eq_true rfl⟩) (fun r30 u31 H locs hw32 hP hD hS => ?_)
                  have hq_32_0 : r30 = (kX8_placeOf (kX8_timesOf_78_z24 g q) 2139095040) := hw32
                  subst r30
                  have hP : va_P D vwCl [] H := hP
                  have hD : va_D A [] := hD
                  refine W.widen (k := 0) (n := 0) (by decide) (by decide) ?_
                  exact sp_lret (u := ()) hx hb hr hlocks hS (Eq.symm ((if_neg c1i).trans ((if_neg c2i).trans ((if_pos c6i).trans ((if_pos c10i).trans ((if_neg c29i).trans rfl)))))) (hP.sub [] rfl) (hD.sub [] (by decide) rfl) dX8_timesOf_102
                · skip
                  have c29i : ((kX8_isInfinite g) : Int32).toInt = 0 := congrArg Int32.toInt c29
                  refine lv_lload_n hx hb dX8_timesOf_87 rfl (lv_at hl 2 rfl) ?_
                  refine sp_calli (wr := []) (wc := []) hP hD hS hA [] [] rfl rfl (by decide) (by decide) (va_runS (As := [.long q]) (rest := []) ⟨hx, hb, hml, hown, hts⟩ (c_X8_isInfinite l D cI cJ cZ H.size q) (va_cwS 1 hts gX8_timesOf_X8_isInfinite_94 rfl rfl rfl (by decide +kernel) ⟨Nat.le_of_ble_eq_true rfl, Nat.le_of_ble_eq_true rfl⟩) (sp_preS [.long q] hK (hP.sub (ws' := []) [] rfl) (hD.sub (ws' := []) [] (by decide) rfl)) rfl rfl hl.1 rfl (lv_room (Nat.le_of_ble_eq_true rfl)) dX8_timesOf_88 ⟨Nat.le_of_ble_eq_true rfl, Nat.le_of_ble_eq_true rfl⟩) (fun r33 u34 H locs hw35 hP hD hS => ?_)
                  have hq_35_0 : r33 = (kX8_isInfinite q) := hw35
                  subst r33
                  have hP : va_P D vwCl [] H := hP
                  have hD : va_D A [] := hD
                  refine lv_if_eq (tgt := 103) hx hb dX8_timesOf_91 (by decide) (fun c36 => ?_) (fun c36 => ?_)
                  · skip
                    have c36i : ((kX8_isInfinite q) : Int32).toInt = 0 := congrArg Int32.toInt c36
                    refine lv_iload hx hb dX8_timesOf_103 (lv_at hl 0 rfl) ?_
                    refine lv_lload_n hx hb dX8_timesOf_105 rfl (lv_at hl 1 rfl) ?_
                    refine sp_callj (wr := []) (wc := []) hP hD hS hA [] [] rfl rfl (by decide) (by decide) (va_runS (As := [.long g]) (rest := [.int (kX8_timesOf_78_z24 g q)]) ⟨hx, hb, hml, hown, hts⟩ (c_X8_digits l D cI cJ cZ H.size g) (va_cwS 1 hts gX8_timesOf_X8_digits_102 rfl rfl rfl (by decide +kernel) ⟨Nat.le_of_ble_eq_true rfl, Nat.le_of_ble_eq_true rfl⟩) (sp_preS [.long g] hK (hP.sub (ws' := []) [] rfl) (hD.sub (ws' := []) [] (by decide) rfl)) rfl rfl hl.1 rfl (lv_room (Nat.le_of_ble_eq_true rfl)) dX8_timesOf_106 ⟨Nat.le_of_ble_eq_true rfl, Nat.le_of_ble_eq_true rfl⟩) (fun r37 u38 H locs hw39 hP hD hS => ?_)
                    have hq_39_0 : r37 = (kX8_digits g) := hw39
                    subst r37
                    have hP : va_P D vwCl [] H := hP
                    have hD : va_D A [] := hD
                    refine lv_lload_n hx hb dX8_timesOf_109 rfl (lv_at hl 2 rfl) ?_
                    refine sp_callj (wr := []) (wc := []) hP hD hS hA [] [] rfl rfl (by decide) (by decide) (va_runS (As := [.long q]) (rest := [.long (kX8_digits g), .int (kX8_timesOf_78_z24 g q)]) ⟨hx, hb, hml, hown, hts⟩ (c_X8_digits l D cI cJ cZ H.size q) (va_cwS 1 hts gX8_timesOf_X8_digits_102 rfl rfl rfl (by decide +kernel) ⟨Nat.le_of_ble_eq_true rfl, Nat.le_of_ble_eq_true rfl⟩) (sp_preS [.long q] hK (hP.sub (ws' := []) [] rfl) (hD.sub (ws' := []) [] (by decide) rfl)) rfl rfl hl.1 rfl (lv_room (Nat.le_of_ble_eq_true rfl)) dX8_timesOf_110 ⟨Nat.le_of_ble_eq_true rfl, Nat.le_of_ble_eq_true rfl⟩) (fun r40 u41 H locs hw42 hP hD hS => ?_)
                    have hq_42_0 : r40 = (kX8_digits q) := hw42
                    subst r40
                    have hP : va_P D vwCl [] H := hP
                    have hD : va_D A [] := hD
                    refine lv_lmul hx hb dX8_timesOf_113 ?_
                    refine lv_lload_n hx hb dX8_timesOf_114 rfl (lv_at hl 1 rfl) ?_
                    refine sp_calli (wr := []) (wc := []) hP hD hS hA [] [] rfl rfl (by decide) (by decide) (va_runS (As := [.long g]) (rest := [.long ((kX8_digits g) * (kX8_digits q)), .int (kX8_timesOf_78_z24 g q)]) ⟨hx, hb, hml, hown, hts⟩ (c_X8_power l D cI cJ cZ H.size g) (va_cwS 1 hts gX8_timesOf_X8_power_98 rfl rfl rfl (by decide +kernel) ⟨Nat.le_of_ble_eq_true rfl, Nat.le_of_ble_eq_true rfl⟩) (sp_preS [.long g] hK (hP.sub (ws' := []) [] rfl) (hD.sub (ws' := []) [] (by decide) rfl)) rfl rfl hl.1 rfl (lv_room (Nat.le_of_ble_eq_true rfl)) dX8_timesOf_115 ⟨Nat.le_of_ble_eq_true rfl, Nat.le_of_ble_eq_true rfl⟩) (fun r43 u44 H locs hw45 hP hD hS => ?_)
                    have hq_45_0 : r43 = (kX8_power g) := hw45
                    subst r43
                    have hP : va_P D vwCl [] H := hP
                    have hD : va_D A [] := hD
                    refine lv_lload_n hx hb dX8_timesOf_118 rfl (lv_at hl 2 rfl) ?_
                    refine sp_calli (wr := []) (wc := []) hP hD hS hA [] [] rfl rfl (by decide) (by decide) (va_runS (As := [.long q]) (rest := [.int (kX8_power g), .long ((kX8_digits g) * (kX8_digits q)), .int (kX8_timesOf_78_z24 g q)]) ⟨hx, hb, hml, hown, hts⟩ (c_X8_power l D cI cJ cZ H.size q) (va_cwS 1 hts gX8_timesOf_X8_power_98 rfl rfl rfl (by decide +kernel) ⟨Nat.le_of_ble_eq_true rfl, Nat.le_of_ble_eq_true rfl⟩) (sp_preS [.long q] hK (hP.sub (ws' := []) [] rfl) (hD.sub (ws' := []) [] (by decide) rfl)) rfl rfl hl.1 rfl (lv_room (Nat.le_of_ble_eq_true rfl)) dX8_timesOf_119 ⟨Nat.le_of_ble_eq_true rfl, Nat.le_of_ble_eq_true rfl⟩) (fun r46 u47 H locs hw48 hP hD hS => ?_)
                    have hq_48_0 : r46 = (kX8_power q) := hw48
                    subst r46
                    have hP : va_P D vwCl [] H := hP
                    have hD : va_D A [] := hD
                    refine lv_iadd hx hb dX8_timesOf_122 ?_
                    refine lv_iconst (v := 0) hx hb dX8_timesOf_123 (by decide) ?_
                    refine sp_callj (wr := []) (wc := []) hP hD hS hA [] [] rfl rfl (by decide) (by decide) (va_runS (As := [.int (kX8_timesOf_78_z24 g q), .long ((kX8_digits g) * (kX8_digits q)), .int ((kX8_power g) + (kX8_power q)), .int 0]) (rest := []) ⟨hx, hb, hml, hown, hts⟩ (c_X8_pack l D cI cJ cZ H.size (kX8_timesOf_78_z24 g q) ((kX8_digits g) * (kX8_digits q)) ((kX8_power g) + (kX8_power q)) 0) (va_cwS 4 hts gX8_timesOf_X8_pack_105 rfl rfl rfl (by decide +kernel) ⟨Nat.le_of_ble_eq_true rfl, Nat.le_of_ble_eq_true rfl⟩) (sp_preS [.int (kX8_timesOf_78_z24 g q), .long ((kX8_digits g) * (kX8_digits q)), .int ((kX8_power g) + (kX8_power q)), .int 0] hK (hP.sub (ws' := []) [] rfl) (hD.sub (ws' := []) [] (by decide) rfl)) rfl rfl hl.1 rfl (lv_room (Nat.le_of_ble_eq_true rfl)) dX8_timesOf_124 ⟨Nat.le_of_ble_eq_true rfl, Nat.le_of_ble_eq_true rfl⟩) (fun r49 u50 H locs hw51 hP hD hS => ?_)
                    have hq_51_0 : r49 = (kX8_pack (kX8_timesOf_78_z24 g q) ((kX8_digits g) * (kX8_digits q)) ((kX8_power g) + (kX8_power q)) 0) := hw51
                    subst r49
                    have hP : va_P D vwCl [] H := hP
                    have hD : va_D A [] := hD
                    refine W.widen (k := 0) (n := 0) (by decide) (by decide) ?_
                    exact sp_lret (u := ()) hx hb hr hlocks hS (Eq.symm ((if_neg c1i).trans ((if_neg c2i).trans ((if_pos c6i).trans ((if_pos c10i).trans ((if_pos c29i).trans ((if_pos c36i).trans rfl))))))) (hP.sub [] rfl) (hD.sub [] (by decide) rfl) dX8_timesOf_127
                  · skip
                    have c36i : ¬ ((kX8_isInfinite q) : Int32).toInt = 0 := fun h => c36 (Int32.toInt_inj.mp h)
                    refine lv_iload hx hb dX8_timesOf_94 (lv_at hl 0 rfl) ?_
                    refine lv_ldc2 (v := 2139095040) hx hb hown (hts (.constantLong RX8 68 (2139095040)) (oX8_timesOf_in _ (List.mem_of_getElem? (i := 1) rfl))) dX8_timesOf_96 ?_
                    refine sp_callj (wr := []) (wc := []) hP hD hS hA [] [] rfl rfl (by decide) (by decide) (va_runS (As := [.int (kX8_timesOf_78_z24 g q), .long 2139095040]) (rest := []) ⟨hx, hb, hml, hown, hts⟩ (c_X8_placeOf l D cI cJ cZ H.size (kX8_timesOf_78_z24 g q) 2139095040) (va_cwS 2 hts gX8_timesOf_X8_placeOf_84 rfl rfl rfl (by decide +kernel) ⟨Nat.le_of_ble_eq_true rfl, Nat.le_of_ble_eq_true rfl⟩) (sp_preS [.int (kX8_timesOf_78_z24 g q), .long 2139095040] hK (hP.sub (ws' := []) [] rfl) (hD.sub (ws' := []) [] (by decide) rfl)) rfl rfl hl.1 rfl (lv_room (Nat.le_of_ble_eq_true rfl)) dX8_timesOf_99 ⟨Nat.le_of_ble_eq_true rfl, Nat.le_of_ble_eq_true rfl⟩) (fun r52 u53 H locs hw54 hP hD hS => ?_)
                    have hq_54_0 : r52 = (kX8_placeOf (kX8_timesOf_78_z24 g q) 2139095040) := hw54
                    subst r52
                    have hP : va_P D vwCl [] H := hP
                    have hD : va_D A [] := hD
                    refine W.widen (k := 0) (n := 0) (by decide) (by decide) ?_
                    exact sp_lret (u := ()) hx hb hr hlocks hS (Eq.symm ((if_neg c1i).trans ((if_neg c2i).trans ((if_pos c6i).trans ((if_pos c10i).trans ((if_pos c29i).trans ((if_neg c36i).trans rfl))))))) (hP.sub [] rfl) (hD.sub [] (by decide) rfl) dX8_timesOf_102
              refine lv_icmp_eq (tgt := 77) hx hb dX8_timesOf_70 (by decide) (fun c21 => ?_) (fun c21 => ?_)
              · skip
                have c21i : ((kX8_timesOf_59_z14 g q) : Int32).toInt = ((kX8_timesOf_70_z19 g q) : Int32).toInt := congrArg Int32.toInt c21
                refine lv_iconst (v := 0) hx hb dX8_timesOf_77 (by decide) ?_
                exact hj25 (0) _ _ _ (Eq.symm ((if_pos c21i).trans rfl)) (hP.sub [] rfl) (hD.sub [] (by decide) rfl) hS (lv_sub hl [0, 1] rfl)
              · skip
                have c21i : ¬ ((kX8_timesOf_59_z14 g q) : Int32).toInt = ((kX8_timesOf_70_z19 g q) : Int32).toInt := fun h => c21 (Int32.toInt_inj.mp h)
                refine lv_iconst (v := 1) hx hb dX8_timesOf_73 (by decide) ?_
                refine lv_goto (tgt := 78) hx hb dX8_timesOf_74 (by decide) ?_
                exact hj25 (1) _ _ _ (Eq.symm ((if_neg c21i).trans rfl)) (hP.sub [] rfl) (hD.sub [] (by decide) rfl) hS (lv_sub hl [0, 1] rfl)
            refine lv_if_ge (tgt := 69) hx hb dX8_timesOf_62 (by decide) (fun c16 => ?_) (fun c16 => ?_)
            · skip
              have c16 := (lg_cmp_ge _ _).mp c16
              have c16i : 0 ≤ (q : Int64).toInt := Int64.le_iff_toInt_le.mp c16
              refine lv_iconst (v := 0) hx hb dX8_timesOf_69 (by decide) ?_
              exact hj20 (0) _ _ _ (Eq.symm ((if_pos c16i).trans rfl)) (hP.sub [] rfl) (hD.sub [] (by decide) rfl) hS (lv_sub hl [0, 1] rfl)
            · skip
              have c16 := fun h => c16 ((lg_cmp_ge _ _).mpr h)
              have c16i : ¬ 0 ≤ (q : Int64).toInt := fun h => c16 (Int64.le_iff_toInt_le.mpr h)
              refine lv_iconst (v := 1) hx hb dX8_timesOf_65 (by decide) ?_
              refine lv_goto (tgt := 70) hx hb dX8_timesOf_66 (by decide) ?_
              exact hj20 (1) _ _ _ (Eq.symm ((if_neg c16i).trans rfl)) (hP.sub [] rfl) (hD.sub [] (by decide) rfl) hS (lv_sub hl [0, 1] rfl)
          refine lv_if_ge (tgt := 58) hx hb dX8_timesOf_51 (by decide) (fun c11 => ?_) (fun c11 => ?_)
          · skip
            have c11 := (lg_cmp_ge _ _).mp c11
            have c11i : 0 ≤ (g : Int64).toInt := Int64.le_iff_toInt_le.mp c11
            refine lv_iconst (v := 0) hx hb dX8_timesOf_58 (by decide) ?_
            exact hj15 (0) _ _ _ (Eq.symm ((if_pos c11i).trans rfl)) (hP.sub [] rfl) (hD.sub [] (by decide) rfl) hS (lv_sub hl [0, 1] rfl)
          · skip
            have c11 := fun h => c11 ((lg_cmp_ge _ _).mpr h)
            have c11i : ¬ 0 ≤ (g : Int64).toInt := fun h => c11 (Int64.le_iff_toInt_le.mpr h)
            refine lv_iconst (v := 1) hx hb dX8_timesOf_54 (by decide) ?_
            refine lv_goto (tgt := 59) hx hb dX8_timesOf_55 (by decide) ?_
            exact hj15 (1) _ _ _ (Eq.symm ((if_neg c11i).trans rfl)) (hP.sub [] rfl) (hD.sub [] (by decide) rfl) hS (lv_sub hl [0, 1] rfl)
        · skip
          have c10i : ¬ ((kX8_isZero g) : Int32).toInt = 0 := fun h => c10 (Int32.toInt_inj.mp h)
          refine lv_lload_n hx hb dX8_timesOf_37 rfl (lv_at hl 1 rfl) ?_
          refine sp_calli (wr := []) (wc := []) hP hD hS hA [] [] rfl rfl (by decide) (by decide) (va_runS (As := [.long q]) (rest := []) ⟨hx, hb, hml, hown, hts⟩ (c_X8_isInfinite l D cI cJ cZ H.size q) (va_cwS 1 hts gX8_timesOf_X8_isInfinite_94 rfl rfl rfl (by decide +kernel) ⟨Nat.le_of_ble_eq_true rfl, Nat.le_of_ble_eq_true rfl⟩) (sp_preS [.long q] hK (hP.sub (ws' := []) [] rfl) (hD.sub (ws' := []) [] (by decide) rfl)) rfl rfl hl.1 rfl (lv_room (Nat.le_of_ble_eq_true rfl)) dX8_timesOf_38 ⟨Nat.le_of_ble_eq_true rfl, Nat.le_of_ble_eq_true rfl⟩) (fun r55 u56 H locs hw57 hP hD hS => ?_)
          have hq_57_0 : r55 = (kX8_isInfinite q) := hw57
          subst r55
          have hP : va_P D vwCl [] H := hP
          have hD : va_D A [] := hD
          refine lv_if_eq (tgt := 48) hx hb dX8_timesOf_41 (by decide) (fun c58 => ?_) (fun c58 => ?_)
          · skip
            have c58i : ((kX8_isInfinite q) : Int32).toInt = 0 := congrArg Int32.toInt c58
            refine lv_lload_n hx hb dX8_timesOf_48 rfl (lv_at hl 0 rfl) ?_
            refine lv_lconst (v := 0) hx hb dX8_timesOf_49 (by decide) ?_
            refine W.lcmp hx hb dX8_timesOf_50 ?_
            have hj63 : ∀ (z62 : Int32) (H : Heap) (locs : List Loc) (ls : Array Slot), (z62 = kX8_timesOf_59_z14 g q) → va_P D vwCl [] H → va_D A [] → va_S A s.heap H locs → lv_has ls 5 [(0, .long g), (2, .long q)] → W p l e ({ frames := 2, cells := 0, slots := 0, locals := 51 }) s m (([.long g, .long q] : List Value).toArray) below meth c H locs 0 0 (MQ below (va_Ql (fun (r : Int64) (_ : Unit) => r = kX8_timesOf g q) (sp_B D vwCl A (fun (_ : Unit) => [])) A) ([.long g, .long q] : List Value).toArray s 0 0 A) (F0 m 59 ls [.int z62]) := by
              intro z62 H locs ls hz62 hP hD hS hl
              subst z62
              refine lv_lload_n hx hb dX8_timesOf_59 rfl (lv_at hl 1 rfl) ?_
              refine lv_lconst (v := 0) hx hb dX8_timesOf_60 (by decide) ?_
              refine W.lcmp hx hb dX8_timesOf_61 ?_
              have hj68 : ∀ (z67 : Int32) (H : Heap) (locs : List Loc) (ls : Array Slot), (z67 = kX8_timesOf_70_z19 g q) → va_P D vwCl [] H → va_D A [] → va_S A s.heap H locs → lv_has ls 5 [(0, .long g), (2, .long q)] → W p l e ({ frames := 2, cells := 0, slots := 0, locals := 51 }) s m (([.long g, .long q] : List Value).toArray) below meth c H locs 0 0 (MQ below (va_Ql (fun (r : Int64) (_ : Unit) => r = kX8_timesOf g q) (sp_B D vwCl A (fun (_ : Unit) => [])) A) ([.long g, .long q] : List Value).toArray s 0 0 A) (F0 m 70 ls [.int z67, .int (kX8_timesOf_59_z14 g q)]) := by
                intro z67 H locs ls hz67 hP hD hS hl
                subst z67
                have hj73 : ∀ (z72 : Int32) (H : Heap) (locs : List Loc) (ls : Array Slot), (z72 = kX8_timesOf_78_z24 g q) → va_P D vwCl [] H → va_D A [] → va_S A s.heap H locs → lv_has ls 5 [(0, .long g), (2, .long q)] → W p l e ({ frames := 2, cells := 0, slots := 0, locals := 51 }) s m (([.long g, .long q] : List Value).toArray) below meth c H locs 0 0 (MQ below (va_Ql (fun (r : Int64) (_ : Unit) => r = kX8_timesOf g q) (sp_B D vwCl A (fun (_ : Unit) => [])) A) ([.long g, .long q] : List Value).toArray s 0 0 A) (F0 m 78 ls [.int z72]) := by
                  intro z72 H locs ls hz72 hP hD hS hl
                  subst z72
                  refine lv_istore (lv' := [(4, .int (kX8_timesOf_78_z24 g q)), (0, .long g), (2, .long q)]) hx hb dX8_timesOf_78 hl (by decide) rfl (fun ls hl => ?_)
                  refine lv_lload_n hx hb dX8_timesOf_80 rfl (lv_at hl 1 rfl) ?_
                  refine sp_calli (wr := []) (wc := []) hP hD hS hA [] [] rfl rfl (by decide) (by decide) (va_runS (As := [.long g]) (rest := []) ⟨hx, hb, hml, hown, hts⟩ (c_X8_isInfinite l D cI cJ cZ H.size g) (va_cwS 1 hts gX8_timesOf_X8_isInfinite_94 rfl rfl rfl (by decide +kernel) ⟨Nat.le_of_ble_eq_true rfl, Nat.le_of_ble_eq_true rfl⟩) (sp_preS [.long g] hK (hP.sub (ws' := []) [] rfl) (hD.sub (ws' := []) [] (by decide) rfl)) rfl rfl hl.1 rfl (lv_room (Nat.le_of_ble_eq_true rfl)) dX8_timesOf_81 ⟨Nat.le_of_ble_eq_true rfl, Nat.le_of_ble_eq_true rfl⟩) (fun r74 u75 H locs hw76 hP hD hS => ?_)
                  have hq_76_0 : r74 = (kX8_isInfinite g) := hw76
                  subst r74
                  have hP : va_P D vwCl [] H := hP
                  have hD : va_D A [] := hD
                  refine lv_if_ne (tgt := 94) hx hb dX8_timesOf_84 (by decide) (fun c77 => ?_) (fun c77 => ?_)
                  · skip
                    have c77i : ¬ ((kX8_isInfinite g) : Int32).toInt = 0 := fun h => c77 (Int32.toInt_inj.mp h)
                    refine lv_iload hx hb dX8_timesOf_94 (lv_at hl 0 rfl) ?_
                    refine lv_ldc2 (v := 2139095040) hx hb hown (hts (.constantLong RX8 68 (2139095040)) (oX8_timesOf_in _ (List.mem_of_getElem? (i := 1) rfl))) dX8_timesOf_96 ?_
                    refine sp_callj (wr := []) (wc := []) hP hD hS hA [] [] rfl rfl (by decide) (by decide) (va_runS (As := [.int (kX8_timesOf_78_z24 g q), .long 2139095040]) (rest := []) ⟨hx, hb, hml, hown, hts⟩ (c_X8_placeOf l D cI cJ cZ H.size (kX8_timesOf_78_z24 g q) 2139095040) (va_cwS 2 hts gX8_timesOf_X8_placeOf_84 rfl rfl rfl (by decide +kernel) ⟨Nat.le_of_ble_eq_true rfl, Nat.le_of_ble_eq_true rfl⟩) (sp_preS [.int (kX8_timesOf_78_z24 g q), .long 2139095040] hK (hP.sub (ws' := []) [] rfl) (hD.sub (ws' := []) [] (by decide) rfl)) rfl rfl hl.1 rfl (lv_room (Nat.le_of_ble_eq_true rfl)) dX8_timesOf_99 ⟨Nat.le_of_ble_eq_true rfl, Nat.le_of_ble_eq_true rfl⟩) (fun r78 u79 H locs hw80 hP hD hS => ?_)
                    have hq_80_0 : r78 = (kX8_placeOf (kX8_timesOf_78_z24 g q) 2139095040) := hw80
                    subst r78
                    have hP : va_P D vwCl [] H := hP
                    have hD : va_D A [] := hD
                    refine W.widen (k := 0) (n := 0) (by decide) (by decide) ?_
                    exact sp_lret (u := ()) hx hb hr hlocks hS (Eq.symm ((if_neg c1i).trans ((if_neg c2i).trans ((if_pos c6i).trans ((if_neg c10i).trans ((if_pos c58i).trans ((if_neg c77i).trans rfl))))))) (hP.sub [] rfl) (hD.sub [] (by decide) rfl) dX8_timesOf_102
                  · skip
                    have c77i : ((kX8_isInfinite g) : Int32).toInt = 0 := congrArg Int32.toInt c77
                    refine lv_lload_n hx hb dX8_timesOf_87 rfl (lv_at hl 2 rfl) ?_
                    refine sp_calli (wr := []) (wc := []) hP hD hS hA [] [] rfl rfl (by decide) (by decide) (va_runS (As := [.long q]) (rest := []) ⟨hx, hb, hml, hown, hts⟩ (c_X8_isInfinite l D cI cJ cZ H.size q) (va_cwS 1 hts gX8_timesOf_X8_isInfinite_94 rfl rfl rfl (by decide +kernel) ⟨Nat.le_of_ble_eq_true rfl, Nat.le_of_ble_eq_true rfl⟩) (sp_preS [.long q] hK (hP.sub (ws' := []) [] rfl) (hD.sub (ws' := []) [] (by decide) rfl)) rfl rfl hl.1 rfl (lv_room (Nat.le_of_ble_eq_true rfl)) dX8_timesOf_88 ⟨Nat.le_of_ble_eq_true rfl, Nat.le_of_ble_eq_true rfl⟩) (fun r81 u82 H locs hw83 hP hD hS => ?_)
                    have hq_83_0 : r81 = (kX8_isInfinite q) := hw83
                    subst r81
                    have hP : va_P D vwCl [] H := hP
                    have hD : va_D A [] := hD
                    refine lv_if_eq (tgt := 103) hx hb dX8_timesOf_91 (by decide) (fun c84 => ?_) (fun c84 => ?_)
                    · skip
                      have c84i : ((kX8_isInfinite q) : Int32).toInt = 0 := congrArg Int32.toInt c84
                      refine lv_iload hx hb dX8_timesOf_103 (lv_at hl 0 rfl) ?_
                      refine lv_lload_n hx hb dX8_timesOf_105 rfl (lv_at hl 1 rfl) ?_
                      refine sp_callj (wr := []) (wc := []) hP hD hS hA [] [] rfl rfl (by decide) (by decide) (va_runS (As := [.long g]) (rest := [.int (kX8_timesOf_78_z24 g q)]) ⟨hx, hb, hml, hown, hts⟩ (c_X8_digits l D cI cJ cZ H.size g) (va_cwS 1 hts gX8_timesOf_X8_digits_102 rfl rfl rfl (by decide +kernel) ⟨Nat.le_of_ble_eq_true rfl, Nat.le_of_ble_eq_true rfl⟩) (sp_preS [.long g] hK (hP.sub (ws' := []) [] rfl) (hD.sub (ws' := []) [] (by decide) rfl)) rfl rfl hl.1 rfl (lv_room (Nat.le_of_ble_eq_true rfl)) dX8_timesOf_106 ⟨Nat.le_of_ble_eq_true rfl, Nat.le_of_ble_eq_true rfl⟩) (fun r85 u86 H locs hw87 hP hD hS => ?_)
                      have hq_87_0 : r85 = (kX8_digits g) := hw87
                      subst r85
                      have hP : va_P D vwCl [] H := hP
                      have hD : va_D A [] := hD
                      refine lv_lload_n hx hb dX8_timesOf_109 rfl (lv_at hl 2 rfl) ?_
                      refine sp_callj (wr := []) (wc := []) hP hD hS hA [] [] rfl rfl (by decide) (by decide) (va_runS (As := [.long q]) (rest := [.long (kX8_digits g), .int (kX8_timesOf_78_z24 g q)]) ⟨hx, hb, hml, hown, hts⟩ (c_X8_digits l D cI cJ cZ H.size q) (va_cwS 1 hts gX8_timesOf_X8_digits_102 rfl rfl rfl (by decide +kernel) ⟨Nat.le_of_ble_eq_true rfl, Nat.le_of_ble_eq_true rfl⟩) (sp_preS [.long q] hK (hP.sub (ws' := []) [] rfl) (hD.sub (ws' := []) [] (by decide) rfl)) rfl rfl hl.1 rfl (lv_room (Nat.le_of_ble_eq_true rfl)) dX8_timesOf_110 ⟨Nat.le_of_ble_eq_true rfl, Nat.le_of_ble_eq_true rfl⟩) (fun r88 u89 H locs hw90 hP hD hS => ?_)
                      have hq_90_0 : r88 = (kX8_digits q) := hw90
                      subst r88
                      have hP : va_P D vwCl [] H := hP
                      have hD : va_D A [] := hD
                      refine lv_lmul hx hb dX8_timesOf_113 ?_
                      refine lv_lload_n hx hb dX8_timesOf_114 rfl (lv_at hl 1 rfl) ?_
                      refine sp_calli (wr := []) (wc := []) hP hD hS hA [] [] rfl rfl (by decide) (by decide) (va_runS (As := [.long g]) (rest := [.long ((kX8_digits g) * (kX8_digits q)), .int (kX8_timesOf_78_z24 g q)]) ⟨hx, hb, hml, hown, hts⟩ (c_X8_power l D cI cJ cZ H.size g) (va_cwS 1 hts gX8_timesOf_X8_power_98 rfl rfl rfl (by decide +kernel) ⟨Nat.le_of_ble_eq_true rfl, Nat.le_of_ble_eq_true rfl⟩) (sp_preS [.long g] hK (hP.sub (ws' := []) [] rfl) (hD.sub (ws' := []) [] (by decide) rfl)) rfl rfl hl.1 rfl (lv_room (Nat.le_of_ble_eq_true rfl)) dX8_timesOf_115 ⟨Nat.le_of_ble_eq_true rfl, Nat.le_of_ble_eq_true rfl⟩) (fun r91 u92 H locs hw93 hP hD hS => ?_)
                      have hq_93_0 : r91 = (kX8_power g) := hw93
                      subst r91
                      have hP : va_P D vwCl [] H := hP
                      have hD : va_D A [] := hD
                      refine lv_lload_n hx hb dX8_timesOf_118 rfl (lv_at hl 2 rfl) ?_
                      refine sp_calli (wr := []) (wc := []) hP hD hS hA [] [] rfl rfl (by decide) (by decide) (va_runS (As := [.long q]) (rest := [.int (kX8_power g), .long ((kX8_digits g) * (kX8_digits q)), .int (kX8_timesOf_78_z24 g q)]) ⟨hx, hb, hml, hown, hts⟩ (c_X8_power l D cI cJ cZ H.size q) (va_cwS 1 hts gX8_timesOf_X8_power_98 rfl rfl rfl (by decide +kernel) ⟨Nat.le_of_ble_eq_true rfl, Nat.le_of_ble_eq_true rfl⟩) (sp_preS [.long q] hK (hP.sub (ws' := []) [] rfl) (hD.sub (ws' := []) [] (by decide) rfl)) rfl rfl hl.1 rfl (lv_room (Nat.le_of_ble_eq_true rfl)) dX8_timesOf_119 ⟨Nat.le_of_ble_eq_true rfl, Nat.le_of_ble_eq_true rfl⟩) (fun r94 u95 H locs hw96 hP hD hS => ?_)
                      have hq_96_0 : r94 = (kX8_power q) := hw96
                      subst r94
                      have hP : va_P D vwCl [] H := hP
                      have hD : va_D A [] := hD
                      refine lv_iadd hx hb dX8_timesOf_122 ?_
                      refine lv_iconst (v := 0) hx hb dX8_timesOf_123 (by decide) ?_
                      refine sp_callj (wr := []) (wc := []) hP hD hS hA [] [] rfl rfl (by decide) (by decide) (va_runS (As := [.int (kX8_timesOf_78_z24 g q), .long ((kX8_digits g) * (kX8_digits q)), .int ((kX8_power g) + (kX8_power q)), .int 0]) (rest := []) ⟨hx, hb, hml, hown, hts⟩ (c_X8_pack l D cI cJ cZ H.size (kX8_timesOf_78_z24 g q) ((kX8_digits g) * (kX8_digits q)) ((kX8_power g) + (kX8_power q)) 0) (va_cwS 4 hts gX8_timesOf_X8_pack_105 rfl rfl rfl (by decide +kernel) ⟨Nat.le_of_ble_eq_true rfl, Nat.le_of_ble_eq_true rfl⟩) (sp_preS [.int (kX8_timesOf_78_z24 g q), .long ((kX8_digits g) * (kX8_digits q)), .int ((kX8_power g) + (kX8_power q)), .int 0] hK (hP.sub (ws' := []) [] rfl) (hD.sub (ws' := []) [] (by decide) rfl)) rfl rfl hl.1 rfl (lv_room (Nat.le_of_ble_eq_true rfl)) dX8_timesOf_124 ⟨Nat.le_of_ble_eq_true rfl, Nat.le_of_ble_eq_true rfl⟩) (fun r97 u98 H locs hw99 hP hD hS => ?_)
                      have hq_99_0 : r97 = (kX8_pack (kX8_timesOf_78_z24 g q) ((kX8_digits g) * (kX8_digits q)) ((kX8_power g) + (kX8_power q)) 0) := hw99
                      subst r97
                      have hP : va_P D vwCl [] H := hP
                      have hD : va_D A [] := hD
                      refine W.widen (k := 0) (n := 0) (by decide) (by decide) ?_
                      exact sp_lret (u := ()) hx hb hr hlocks hS (Eq.symm ((if_neg c1i).trans ((if_neg c2i).trans ((if_pos c6i).trans ((if_neg c10i).trans ((if_pos c58i).trans ((if_pos c77i).trans ((if_pos c84i).trans rfl)))))))) (hP.sub [] rfl) (hD.sub [] (by decide) rfl) dX8_timesOf_127
                    · skip
                      have c84i : ¬ ((kX8_isInfinite q) : Int32).toInt = 0 := fun h => c84 (Int32.toInt_inj.mp h)
                      refine lv_iload hx hb dX8_timesOf_94 (lv_at hl 0 rfl) ?_
                      refine lv_ldc2 (v := 2139095040) hx hb hown (hts (.constantLong RX8 68 (2139095040)) (oX8_timesOf_in _ (List.mem_of_getElem? (i := 1) rfl))) dX8_timesOf_96 ?_
                      refine sp_callj (wr := []) (wc := []) hP hD hS hA [] [] rfl rfl (by decide) (by decide) (va_runS (As := [.int (kX8_timesOf_78_z24 g q), .long 2139095040]) (rest := []) ⟨hx, hb, hml, hown, hts⟩ (c_X8_placeOf l D cI cJ cZ H.size (kX8_timesOf_78_z24 g q) 2139095040) (va_cwS 2 hts gX8_timesOf_X8_placeOf_84 rfl rfl rfl (by decide +kernel) ⟨Nat.le_of_ble_eq_true rfl, Nat.le_of_ble_eq_true rfl⟩) (sp_preS [.int (kX8_timesOf_78_z24 g q), .long 2139095040] hK (hP.sub (ws' := []) [] rfl) (hD.sub (ws' := []) [] (by decide) rfl)) rfl rfl hl.1 rfl (lv_room (Nat.le_of_ble_eq_true rfl)) dX8_timesOf_99 ⟨Nat.le_of_ble_eq_true rfl, Nat.le_of_ble_eq_true rfl⟩) (fun r100 u101 H locs hw102 hP hD hS => ?_)
                      have hq_102_0 : r100 = (kX8_placeOf (kX8_timesOf_78_z24 g q) 2139095040) := hw102
                      subst r100
                      have hP : va_P D vwCl [] H := hP
                      have hD : va_D A [] := hD
                      refine W.widen (k := 0) (n := 0) (by decide) (by decide) ?_
                      exact sp_lret (u := ()) hx hb hr hlocks hS (Eq.symm ((if_neg c1i).trans ((if_neg c2i).trans ((if_pos c6i).trans ((if_neg c10i).trans ((if_pos c58i).trans ((if_pos c77i).trans ((if_neg c84i).trans rfl)))))))) (hP.sub [] rfl) (hD.sub [] (by decide) rfl) dX8_timesOf_102
                refine lv_icmp_eq (tgt := 77) hx hb dX8_timesOf_70 (by decide) (fun c69 => ?_) (fun c69 => ?_)
                · skip
                  have c69i : ((kX8_timesOf_59_z14 g q) : Int32).toInt = ((kX8_timesOf_70_z19 g q) : Int32).toInt := congrArg Int32.toInt c69
                  refine lv_iconst (v := 0) hx hb dX8_timesOf_77 (by decide) ?_
                  exact hj73 (0) _ _ _ (Eq.symm ((if_pos c69i).trans rfl)) (hP.sub [] rfl) (hD.sub [] (by decide) rfl) hS (lv_sub hl [0, 1] rfl)
                · skip
                  have c69i : ¬ ((kX8_timesOf_59_z14 g q) : Int32).toInt = ((kX8_timesOf_70_z19 g q) : Int32).toInt := fun h => c69 (Int32.toInt_inj.mp h)
                  refine lv_iconst (v := 1) hx hb dX8_timesOf_73 (by decide) ?_
                  refine lv_goto (tgt := 78) hx hb dX8_timesOf_74 (by decide) ?_
                  exact hj73 (1) _ _ _ (Eq.symm ((if_neg c69i).trans rfl)) (hP.sub [] rfl) (hD.sub [] (by decide) rfl) hS (lv_sub hl [0, 1] rfl)
              refine lv_if_ge (tgt := 69) hx hb dX8_timesOf_62 (by decide) (fun c64 => ?_) (fun c64 => ?_)
              · skip
                have c64 := (lg_cmp_ge _ _).mp c64
                have c64i : 0 ≤ (q : Int64).toInt := Int64.le_iff_toInt_le.mp c64
                refine lv_iconst (v := 0) hx hb dX8_timesOf_69 (by decide) ?_
                exact hj68 (0) _ _ _ (Eq.symm ((if_pos c64i).trans rfl)) (hP.sub [] rfl) (hD.sub [] (by decide) rfl) hS (lv_sub hl [0, 1] rfl)
              · skip
                have c64 := fun h => c64 ((lg_cmp_ge _ _).mpr h)
                have c64i : ¬ 0 ≤ (q : Int64).toInt := fun h => c64 (Int64.le_iff_toInt_le.mpr h)
                refine lv_iconst (v := 1) hx hb dX8_timesOf_65 (by decide) ?_
                refine lv_goto (tgt := 70) hx hb dX8_timesOf_66 (by decide) ?_
                exact hj68 (1) _ _ _ (Eq.symm ((if_neg c64i).trans rfl)) (hP.sub [] rfl) (hD.sub [] (by decide) rfl) hS (lv_sub hl [0, 1] rfl)
            refine lv_if_ge (tgt := 58) hx hb dX8_timesOf_51 (by decide) (fun c59 => ?_) (fun c59 => ?_)
            · skip
              have c59 := (lg_cmp_ge _ _).mp c59
              have c59i : 0 ≤ (g : Int64).toInt := Int64.le_iff_toInt_le.mp c59
              refine lv_iconst (v := 0) hx hb dX8_timesOf_58 (by decide) ?_
              exact hj63 (0) _ _ _ (Eq.symm ((if_pos c59i).trans rfl)) (hP.sub [] rfl) (hD.sub [] (by decide) rfl) hS (lv_sub hl [0, 1] rfl)
            · skip
              have c59 := fun h => c59 ((lg_cmp_ge _ _).mpr h)
              have c59i : ¬ 0 ≤ (g : Int64).toInt := fun h => c59 (Int64.le_iff_toInt_le.mpr h)
              refine lv_iconst (v := 1) hx hb dX8_timesOf_54 (by decide) ?_
              refine lv_goto (tgt := 59) hx hb dX8_timesOf_55 (by decide) ?_
              exact hj63 (1) _ _ _ (Eq.symm ((if_neg c59i).trans rfl)) (hP.sub [] rfl) (hD.sub [] (by decide) rfl) hS (lv_sub hl [0, 1] rfl)
          · skip
            have c58i : ¬ ((kX8_isInfinite q) : Int32).toInt = 0 := fun h => c58 (Int32.toInt_inj.mp h)
            refine lv_ldc2 (v := 9000000000) hx hb hown (hts (.constantLong RX8 82 (9000000000)) (oX8_timesOf_in _ (List.mem_of_getElem? (i := 0) rfl))) dX8_timesOf_44 ?_
            refine W.widen (k := 0) (n := 0) (by decide) (by decide) ?_
            exact sp_lret (u := ()) hx hb hr hlocks hS (Eq.symm ((if_neg c1i).trans ((if_neg c2i).trans ((if_pos c6i).trans ((if_neg c10i).trans ((if_neg c58i).trans rfl)))))) (hP.sub [] rfl) (hD.sub [] (by decide) rfl) dX8_timesOf_47
      · skip
        have c6i : ¬ ((kX8_isInfinite g) : Int32).toInt = 0 := fun h => c6 (Int32.toInt_inj.mp h)
        refine lv_lload_n hx hb dX8_timesOf_23 rfl (lv_at hl 1 rfl) ?_
        refine sp_calli (wr := []) (wc := []) hP hD hS hA [] [] rfl rfl (by decide) (by decide) (va_runS (As := [.long q]) (rest := []) ⟨hx, hb, hml, hown, hts⟩ (c_X8_isZero l D cI cJ cZ H.size q) (va_cwS 1 hts gX8_timesOf_X8_isZero_109 rfl rfl rfl (by decide +kernel) ⟨Nat.le_of_ble_eq_true rfl, Nat.le_of_ble_eq_true rfl⟩) (sp_preS [.long q] hK (hP.sub (ws' := []) [] rfl) (hD.sub (ws' := []) [] (by decide) rfl)) rfl rfl hl.1 rfl (lv_room (Nat.le_of_ble_eq_true rfl)) dX8_timesOf_24 ⟨Nat.le_of_ble_eq_true rfl, Nat.le_of_ble_eq_true rfl⟩) (fun r103 u104 H locs hw105 hP hD hS => ?_)
        obtain ⟨hq_105_0, hm_2_⟩ : r103 = (kX8_isZero q) ∧ _ := hw105
        subst r103
        have hm_2_i : (((kX8_isZero q) : Int32).toInt = 1 ∧ ((q : Int64).toInt = 0 ∨ (q : Int64).toInt = -1)) ∨ (((kX8_isZero q) : Int32).toInt = 0 ∧ ¬ ((q : Int64).toInt = 0 ∨ (q : Int64).toInt = -1)) := sp_bool hm_2_
        have hP : va_P D vwCl [] H := hP
        have hD : va_D A [] := hD
        refine lv_if_ne (tgt := 44) hx hb dX8_timesOf_27 (by decide) (fun c106 => ?_) (fun c106 => ?_)
        · skip
          have c106i : ¬ ((kX8_isZero q) : Int32).toInt = 0 := fun h => c106 (Int32.toInt_inj.mp h)
          refine lv_ldc2 (v := 9000000000) hx hb hown (hts (.constantLong RX8 82 (9000000000)) (oX8_timesOf_in _ (List.mem_of_getElem? (i := 0) rfl))) dX8_timesOf_44 ?_
          refine W.widen (k := 0) (n := 0) (by decide) (by decide) ?_
          exact sp_lret (u := ()) hx hb hr hlocks hS (Eq.symm ((if_neg c1i).trans ((if_neg c2i).trans ((if_neg c6i).trans ((if_neg c106i).trans rfl))))) (hP.sub [] rfl) (hD.sub [] (by decide) rfl) dX8_timesOf_47
        · skip
          have c106i : ((kX8_isZero q) : Int32).toInt = 0 := congrArg Int32.toInt c106
          refine lv_lload_n hx hb dX8_timesOf_30 rfl (lv_at hl 0 rfl) ?_
          refine sp_calli (wr := []) (wc := []) hP hD hS hA [] [] rfl rfl (by decide) (by decide) (va_runS (As := [.long g]) (rest := []) ⟨hx, hb, hml, hown, hts⟩ (c_X8_isZero l D cI cJ cZ H.size g) (va_cwS 1 hts gX8_timesOf_X8_isZero_109 rfl rfl rfl (by decide +kernel) ⟨Nat.le_of_ble_eq_true rfl, Nat.le_of_ble_eq_true rfl⟩) (sp_preS [.long g] hK (hP.sub (ws' := []) [] rfl) (hD.sub (ws' := []) [] (by decide) rfl)) rfl rfl hl.1 rfl (lv_room (Nat.le_of_ble_eq_true rfl)) dX8_timesOf_31 ⟨Nat.le_of_ble_eq_true rfl, Nat.le_of_ble_eq_true rfl⟩) (fun r107 u108 H locs hw109 hP hD hS => ?_)
          obtain ⟨hq_109_0, hm_3_⟩ : r107 = (kX8_isZero g) ∧ _ := hw109
          subst r107
          have hm_3_i : (((kX8_isZero g) : Int32).toInt = 1 ∧ ((g : Int64).toInt = 0 ∨ (g : Int64).toInt = -1)) ∨ (((kX8_isZero g) : Int32).toInt = 0 ∧ ¬ ((g : Int64).toInt = 0 ∨ (g : Int64).toInt = -1)) := sp_bool hm_3_
          have hP : va_P D vwCl [] H := hP
          have hD : va_D A [] := hD
          refine lv_if_eq (tgt := 48) hx hb dX8_timesOf_34 (by decide) (fun c110 => ?_) (fun c110 => ?_)
          · skip
            have c110i : ((kX8_isZero g) : Int32).toInt = 0 := congrArg Int32.toInt c110
            refine lv_lload_n hx hb dX8_timesOf_48 rfl (lv_at hl 0 rfl) ?_
            refine lv_lconst (v := 0) hx hb dX8_timesOf_49 (by decide) ?_
            refine W.lcmp hx hb dX8_timesOf_50 ?_
            have hj115 : ∀ (z114 : Int32) (H : Heap) (locs : List Loc) (ls : Array Slot), (z114 = kX8_timesOf_59_z14 g q) → va_P D vwCl [] H → va_D A [] → va_S A s.heap H locs → lv_has ls 5 [(0, .long g), (2, .long q)] → W p l e ({ frames := 2, cells := 0, slots := 0, locals := 51 }) s m (([.long g, .long q] : List Value).toArray) below meth c H locs 0 0 (MQ below (va_Ql (fun (r : Int64) (_ : Unit) => r = kX8_timesOf g q) (sp_B D vwCl A (fun (_ : Unit) => [])) A) ([.long g, .long q] : List Value).toArray s 0 0 A) (F0 m 59 ls [.int z114]) := by
              intro z114 H locs ls hz114 hP hD hS hl
              subst z114
              refine lv_lload_n hx hb dX8_timesOf_59 rfl (lv_at hl 1 rfl) ?_
              refine lv_lconst (v := 0) hx hb dX8_timesOf_60 (by decide) ?_
              refine W.lcmp hx hb dX8_timesOf_61 ?_
              have hj120 : ∀ (z119 : Int32) (H : Heap) (locs : List Loc) (ls : Array Slot), (z119 = kX8_timesOf_70_z19 g q) → va_P D vwCl [] H → va_D A [] → va_S A s.heap H locs → lv_has ls 5 [(0, .long g), (2, .long q)] → W p l e ({ frames := 2, cells := 0, slots := 0, locals := 51 }) s m (([.long g, .long q] : List Value).toArray) below meth c H locs 0 0 (MQ below (va_Ql (fun (r : Int64) (_ : Unit) => r = kX8_timesOf g q) (sp_B D vwCl A (fun (_ : Unit) => [])) A) ([.long g, .long q] : List Value).toArray s 0 0 A) (F0 m 70 ls [.int z119, .int (kX8_timesOf_59_z14 g q)]) := by
                intro z119 H locs ls hz119 hP hD hS hl
                subst z119
                have hj125 : ∀ (z124 : Int32) (H : Heap) (locs : List Loc) (ls : Array Slot), (z124 = kX8_timesOf_78_z24 g q) → va_P D vwCl [] H → va_D A [] → va_S A s.heap H locs → lv_has ls 5 [(0, .long g), (2, .long q)] → W p l e ({ frames := 2, cells := 0, slots := 0, locals := 51 }) s m (([.long g, .long q] : List Value).toArray) below meth c H locs 0 0 (MQ below (va_Ql (fun (r : Int64) (_ : Unit) => r = kX8_timesOf g q) (sp_B D vwCl A (fun (_ : Unit) => [])) A) ([.long g, .long q] : List Value).toArray s 0 0 A) (F0 m 78 ls [.int z124]) := by
                  intro z124 H locs ls hz124 hP hD hS hl
                  subst z124
                  refine lv_istore (lv' := [(4, .int (kX8_timesOf_78_z24 g q)), (0, .long g), (2, .long q)]) hx hb dX8_timesOf_78 hl (by decide) rfl (fun ls hl => ?_)
                  refine lv_lload_n hx hb dX8_timesOf_80 rfl (lv_at hl 1 rfl) ?_
                  refine sp_calli (wr := []) (wc := []) hP hD hS hA [] [] rfl rfl (by decide) (by decide) (va_runS (As := [.long g]) (rest := []) ⟨hx, hb, hml, hown, hts⟩ (c_X8_isInfinite l D cI cJ cZ H.size g) (va_cwS 1 hts gX8_timesOf_X8_isInfinite_94 rfl rfl rfl (by decide +kernel) ⟨Nat.le_of_ble_eq_true rfl, Nat.le_of_ble_eq_true rfl⟩) (sp_preS [.long g] hK (hP.sub (ws' := []) [] rfl) (hD.sub (ws' := []) [] (by decide) rfl)) rfl rfl hl.1 rfl (lv_room (Nat.le_of_ble_eq_true rfl)) dX8_timesOf_81 ⟨Nat.le_of_ble_eq_true rfl, Nat.le_of_ble_eq_true rfl⟩) (fun r126 u127 H locs hw128 hP hD hS => ?_)
                  have hq_128_0 : r126 = (kX8_isInfinite g) := hw128
                  subst r126
                  have hP : va_P D vwCl [] H := hP
                  have hD : va_D A [] := hD
                  refine lv_if_ne (tgt := 94) hx hb dX8_timesOf_84 (by decide) (fun c129 => ?_) (fun c129 => ?_)
                  · skip
                    have c129i : ¬ ((kX8_isInfinite g) : Int32).toInt = 0 := fun h => c129 (Int32.toInt_inj.mp h)
                    refine lv_iload hx hb dX8_timesOf_94 (lv_at hl 0 rfl) ?_
                    refine lv_ldc2 (v := 2139095040) hx hb hown (hts (.constantLong RX8 68 (2139095040)) (oX8_timesOf_in _ (List.mem_of_getElem? (i := 1) rfl))) dX8_timesOf_96 ?_
                    refine sp_callj (wr := []) (wc := []) hP hD hS hA [] [] rfl rfl (by decide) (by decide) (va_runS (As := [.int (kX8_timesOf_78_z24 g q), .long 2139095040]) (rest := []) ⟨hx, hb, hml, hown, hts⟩ (c_X8_placeOf l D cI cJ cZ H.size (kX8_timesOf_78_z24 g q) 2139095040) (va_cwS 2 hts gX8_timesOf_X8_placeOf_84 rfl rfl rfl (by decide +kernel) ⟨Nat.le_of_ble_eq_true rfl, Nat.le_of_ble_eq_true rfl⟩) (sp_preS [.int (kX8_timesOf_78_z24 g q), .long 2139095040] hK (hP.sub (ws' := []) [] rfl) (hD.sub (ws' := []) [] (by decide) rfl)) rfl rfl hl.1 rfl (lv_room (Nat.le_of_ble_eq_true rfl)) dX8_timesOf_99 ⟨Nat.le_of_ble_eq_true rfl, Nat.le_of_ble_eq_true rfl⟩) (fun r130 u131 H locs hw132 hP hD hS => ?_)
                    have hq_132_0 : r130 = (kX8_placeOf (kX8_timesOf_78_z24 g q) 2139095040) := hw132
                    subst r130
                    have hP : va_P D vwCl [] H := hP
                    have hD : va_D A [] := hD
                    refine W.widen (k := 0) (n := 0) (by decide) (by decide) ?_
                    exact sp_lret (u := ()) hx hb hr hlocks hS (Eq.symm ((if_neg c1i).trans ((if_neg c2i).trans ((if_neg c6i).trans ((if_pos c106i).trans ((if_pos c110i).trans ((if_neg c129i).trans rfl))))))) (hP.sub [] rfl) (hD.sub [] (by decide) rfl) dX8_timesOf_102
                  · skip
                    have c129i : ((kX8_isInfinite g) : Int32).toInt = 0 := congrArg Int32.toInt c129
                    refine lv_lload_n hx hb dX8_timesOf_87 rfl (lv_at hl 2 rfl) ?_
                    refine sp_calli (wr := []) (wc := []) hP hD hS hA [] [] rfl rfl (by decide) (by decide) (va_runS (As := [.long q]) (rest := []) ⟨hx, hb, hml, hown, hts⟩ (c_X8_isInfinite l D cI cJ cZ H.size q) (va_cwS 1 hts gX8_timesOf_X8_isInfinite_94 rfl rfl rfl (by decide +kernel) ⟨Nat.le_of_ble_eq_true rfl, Nat.le_of_ble_eq_true rfl⟩) (sp_preS [.long q] hK (hP.sub (ws' := []) [] rfl) (hD.sub (ws' := []) [] (by decide) rfl)) rfl rfl hl.1 rfl (lv_room (Nat.le_of_ble_eq_true rfl)) dX8_timesOf_88 ⟨Nat.le_of_ble_eq_true rfl, Nat.le_of_ble_eq_true rfl⟩) (fun r133 u134 H locs hw135 hP hD hS => ?_)
                    have hq_135_0 : r133 = (kX8_isInfinite q) := hw135
                    subst r133
                    have hP : va_P D vwCl [] H := hP
                    have hD : va_D A [] := hD
                    refine lv_if_eq (tgt := 103) hx hb dX8_timesOf_91 (by decide) (fun c136 => ?_) (fun c136 => ?_)
                    · skip
                      have c136i : ((kX8_isInfinite q) : Int32).toInt = 0 := congrArg Int32.toInt c136
                      refine lv_iload hx hb dX8_timesOf_103 (lv_at hl 0 rfl) ?_
                      refine lv_lload_n hx hb dX8_timesOf_105 rfl (lv_at hl 1 rfl) ?_
                      refine sp_callj (wr := []) (wc := []) hP hD hS hA [] [] rfl rfl (by decide) (by decide) (va_runS (As := [.long g]) (rest := [.int (kX8_timesOf_78_z24 g q)]) ⟨hx, hb, hml, hown, hts⟩ (c_X8_digits l D cI cJ cZ H.size g) (va_cwS 1 hts gX8_timesOf_X8_digits_102 rfl rfl rfl (by decide +kernel) ⟨Nat.le_of_ble_eq_true rfl, Nat.le_of_ble_eq_true rfl⟩) (sp_preS [.long g] hK (hP.sub (ws' := []) [] rfl) (hD.sub (ws' := []) [] (by decide) rfl)) rfl rfl hl.1 rfl (lv_room (Nat.le_of_ble_eq_true rfl)) dX8_timesOf_106 ⟨Nat.le_of_ble_eq_true rfl, Nat.le_of_ble_eq_true rfl⟩) (fun r137 u138 H locs hw139 hP hD hS => ?_)
                      have hq_139_0 : r137 = (kX8_digits g) := hw139
                      subst r137
                      have hP : va_P D vwCl [] H := hP
                      have hD : va_D A [] := hD
                      refine lv_lload_n hx hb dX8_timesOf_109 rfl (lv_at hl 2 rfl) ?_
                      refine sp_callj (wr := []) (wc := []) hP hD hS hA [] [] rfl rfl (by decide) (by decide) (va_runS (As := [.long q]) (rest := [.long (kX8_digits g), .int (kX8_timesOf_78_z24 g q)]) ⟨hx, hb, hml, hown, hts⟩ (c_X8_digits l D cI cJ cZ H.size q) (va_cwS 1 hts gX8_timesOf_X8_digits_102 rfl rfl rfl (by decide +kernel) ⟨Nat.le_of_ble_eq_true rfl, Nat.le_of_ble_eq_true rfl⟩) (sp_preS [.long q] hK (hP.sub (ws' := []) [] rfl) (hD.sub (ws' := []) [] (by decide) rfl)) rfl rfl hl.1 rfl (lv_room (Nat.le_of_ble_eq_true rfl)) dX8_timesOf_110 ⟨Nat.le_of_ble_eq_true rfl, Nat.le_of_ble_eq_true rfl⟩) (fun r140 u141 H locs hw142 hP hD hS => ?_)
                      have hq_142_0 : r140 = (kX8_digits q) := hw142
                      subst r140
                      have hP : va_P D vwCl [] H := hP
                      have hD : va_D A [] := hD
                      refine lv_lmul hx hb dX8_timesOf_113 ?_
                      refine lv_lload_n hx hb dX8_timesOf_114 rfl (lv_at hl 1 rfl) ?_
                      refine sp_calli (wr := []) (wc := []) hP hD hS hA [] [] rfl rfl (by decide) (by decide) (va_runS (As := [.long g]) (rest := [.long ((kX8_digits g) * (kX8_digits q)), .int (kX8_timesOf_78_z24 g q)]) ⟨hx, hb, hml, hown, hts⟩ (c_X8_power l D cI cJ cZ H.size g) (va_cwS 1 hts gX8_timesOf_X8_power_98 rfl rfl rfl (by decide +kernel) ⟨Nat.le_of_ble_eq_true rfl, Nat.le_of_ble_eq_true rfl⟩) (sp_preS [.long g] hK (hP.sub (ws' := []) [] rfl) (hD.sub (ws' := []) [] (by decide) rfl)) rfl rfl hl.1 rfl (lv_room (Nat.le_of_ble_eq_true rfl)) dX8_timesOf_115 ⟨Nat.le_of_ble_eq_true rfl, Nat.le_of_ble_eq_true rfl⟩) (fun r143 u144 H locs hw145 hP hD hS => ?_)
                      have hq_145_0 : r143 = (kX8_power g) := hw145
                      subst r143
                      have hP : va_P D vwCl [] H := hP
                      have hD : va_D A [] := hD
                      refine lv_lload_n hx hb dX8_timesOf_118 rfl (lv_at hl 2 rfl) ?_
                      refine sp_calli (wr := []) (wc := []) hP hD hS hA [] [] rfl rfl (by decide) (by decide) (va_runS (As := [.long q]) (rest := [.int (kX8_power g), .long ((kX8_digits g) * (kX8_digits q)), .int (kX8_timesOf_78_z24 g q)]) ⟨hx, hb, hml, hown, hts⟩ (c_X8_power l D cI cJ cZ H.size q) (va_cwS 1 hts gX8_timesOf_X8_power_98 rfl rfl rfl (by decide +kernel) ⟨Nat.le_of_ble_eq_true rfl, Nat.le_of_ble_eq_true rfl⟩) (sp_preS [.long q] hK (hP.sub (ws' := []) [] rfl) (hD.sub (ws' := []) [] (by decide) rfl)) rfl rfl hl.1 rfl (lv_room (Nat.le_of_ble_eq_true rfl)) dX8_timesOf_119 ⟨Nat.le_of_ble_eq_true rfl, Nat.le_of_ble_eq_true rfl⟩) (fun r146 u147 H locs hw148 hP hD hS => ?_)
                      have hq_148_0 : r146 = (kX8_power q) := hw148
                      subst r146
                      have hP : va_P D vwCl [] H := hP
                      have hD : va_D A [] := hD
                      refine lv_iadd hx hb dX8_timesOf_122 ?_
                      refine lv_iconst (v := 0) hx hb dX8_timesOf_123 (by decide) ?_
                      refine sp_callj (wr := []) (wc := []) hP hD hS hA [] [] rfl rfl (by decide) (by decide) (va_runS (As := [.int (kX8_timesOf_78_z24 g q), .long ((kX8_digits g) * (kX8_digits q)), .int ((kX8_power g) + (kX8_power q)), .int 0]) (rest := []) ⟨hx, hb, hml, hown, hts⟩ (c_X8_pack l D cI cJ cZ H.size (kX8_timesOf_78_z24 g q) ((kX8_digits g) * (kX8_digits q)) ((kX8_power g) + (kX8_power q)) 0) (va_cwS 4 hts gX8_timesOf_X8_pack_105 rfl rfl rfl (by decide +kernel) ⟨Nat.le_of_ble_eq_true rfl, Nat.le_of_ble_eq_true rfl⟩) (sp_preS [.int (kX8_timesOf_78_z24 g q), .long ((kX8_digits g) * (kX8_digits q)), .int ((kX8_power g) + (kX8_power q)), .int 0] hK (hP.sub (ws' := []) [] rfl) (hD.sub (ws' := []) [] (by decide) rfl)) rfl rfl hl.1 rfl (lv_room (Nat.le_of_ble_eq_true rfl)) dX8_timesOf_124 ⟨Nat.le_of_ble_eq_true rfl, Nat.le_of_ble_eq_true rfl⟩) (fun r149 u150 H locs hw151 hP hD hS => ?_)
                      have hq_151_0 : r149 = (kX8_pack (kX8_timesOf_78_z24 g q) ((kX8_digits g) * (kX8_digits q)) ((kX8_power g) + (kX8_power q)) 0) := hw151
                      subst r149
                      have hP : va_P D vwCl [] H := hP
                      have hD : va_D A [] := hD
                      refine W.widen (k := 0) (n := 0) (by decide) (by decide) ?_
                      exact sp_lret (u := ()) hx hb hr hlocks hS (Eq.symm ((if_neg c1i).trans ((if_neg c2i).trans ((if_neg c6i).trans ((if_pos c106i).trans ((if_pos c110i).trans ((if_pos c129i).trans ((if_pos c136i).trans rfl)))))))) (hP.sub [] rfl) (hD.sub [] (by decide) rfl) dX8_timesOf_127
                    · skip
                      have c136i : ¬ ((kX8_isInfinite q) : Int32).toInt = 0 := fun h => c136 (Int32.toInt_inj.mp h)
                      refine lv_iload hx hb dX8_timesOf_94 (lv_at hl 0 rfl) ?_
                      refine lv_ldc2 (v := 2139095040) hx hb hown (hts (.constantLong RX8 68 (2139095040)) (oX8_timesOf_in _ (List.mem_of_getElem? (i := 1) rfl))) dX8_timesOf_96 ?_
                      refine sp_callj (wr := []) (wc := []) hP hD hS hA [] [] rfl rfl (by decide) (by decide) (va_runS (As := [.int (kX8_timesOf_78_z24 g q), .long 2139095040]) (rest := []) ⟨hx, hb, hml, hown, hts⟩ (c_X8_placeOf l D cI cJ cZ H.size (kX8_timesOf_78_z24 g q) 2139095040) (va_cwS 2 hts gX8_timesOf_X8_placeOf_84 rfl rfl rfl (by decide +kernel) ⟨Nat.le_of_ble_eq_true rfl, Nat.le_of_ble_eq_true rfl⟩) (sp_preS [.int (kX8_timesOf_78_z24 g q), .long 2139095040] hK (hP.sub (ws' := []) [] rfl) (hD.sub (ws' := []) [] (by decide) rfl)) rfl rfl hl.1 rfl (lv_room (Nat.le_of_ble_eq_true rfl)) dX8_timesOf_99 ⟨Nat.le_of_ble_eq_true rfl, Nat.le_of_ble_eq_true rfl⟩) (fun r152 u153 H locs hw154 hP hD hS => ?_)
                      have hq_154_0 : r152 = (kX8_placeOf (kX8_timesOf_78_z24 g q) 2139095040) := hw154
                      subst r152
                      have hP : va_P D vwCl [] H := hP
                      have hD : va_D A [] := hD
                      refine W.widen (k := 0) (n := 0) (by decide) (by decide) ?_
                      exact sp_lret (u := ()) hx hb hr hlocks hS (Eq.symm ((if_neg c1i).trans ((if_neg c2i).trans ((if_neg c6i).trans ((if_pos c106i).trans ((if_pos c110i).trans ((if_pos c129i).trans ((if_neg c136i).trans rfl)))))))) (hP.sub [] rfl) (hD.sub [] (by decide) rfl) dX8_timesOf_102
                refine lv_icmp_eq (tgt := 77) hx hb dX8_timesOf_70 (by decide) (fun c121 => ?_) (fun c121 => ?_)
                · skip
                  have c121i : ((kX8_timesOf_59_z14 g q) : Int32).toInt = ((kX8_timesOf_70_z19 g q) : Int32).toInt := congrArg Int32.toInt c121
                  refine lv_iconst (v := 0) hx hb dX8_timesOf_77 (by decide) ?_
                  exact hj125 (0) _ _ _ (Eq.symm ((if_pos c121i).trans rfl)) (hP.sub [] rfl) (hD.sub [] (by decide) rfl) hS (lv_sub hl [0, 1] rfl)
                · skip
                  have c121i : ¬ ((kX8_timesOf_59_z14 g q) : Int32).toInt = ((kX8_timesOf_70_z19 g q) : Int32).toInt := fun h => c121 (Int32.toInt_inj.mp h)
                  refine lv_iconst (v := 1) hx hb dX8_timesOf_73 (by decide) ?_
                  refine lv_goto (tgt := 78) hx hb dX8_timesOf_74 (by decide) ?_
                  exact hj125 (1) _ _ _ (Eq.symm ((if_neg c121i).trans rfl)) (hP.sub [] rfl) (hD.sub [] (by decide) rfl) hS (lv_sub hl [0, 1] rfl)
              refine lv_if_ge (tgt := 69) hx hb dX8_timesOf_62 (by decide) (fun c116 => ?_) (fun c116 => ?_)
              · skip
                have c116 := (lg_cmp_ge _ _).mp c116
                have c116i : 0 ≤ (q : Int64).toInt := Int64.le_iff_toInt_le.mp c116
                refine lv_iconst (v := 0) hx hb dX8_timesOf_69 (by decide) ?_
                exact hj120 (0) _ _ _ (Eq.symm ((if_pos c116i).trans rfl)) (hP.sub [] rfl) (hD.sub [] (by decide) rfl) hS (lv_sub hl [0, 1] rfl)
              · skip
                have c116 := fun h => c116 ((lg_cmp_ge _ _).mpr h)
                have c116i : ¬ 0 ≤ (q : Int64).toInt := fun h => c116 (Int64.le_iff_toInt_le.mpr h)
                refine lv_iconst (v := 1) hx hb dX8_timesOf_65 (by decide) ?_
                refine lv_goto (tgt := 70) hx hb dX8_timesOf_66 (by decide) ?_
                exact hj120 (1) _ _ _ (Eq.symm ((if_neg c116i).trans rfl)) (hP.sub [] rfl) (hD.sub [] (by decide) rfl) hS (lv_sub hl [0, 1] rfl)
            refine lv_if_ge (tgt := 58) hx hb dX8_timesOf_51 (by decide) (fun c111 => ?_) (fun c111 => ?_)
            · skip
              have c111 := (lg_cmp_ge _ _).mp c111
              have c111i : 0 ≤ (g : Int64).toInt := Int64.le_iff_toInt_le.mp c111
              refine lv_iconst (v := 0) hx hb dX8_timesOf_58 (by decide) ?_
              exact hj115 (0) _ _ _ (Eq.symm ((if_pos c111i).trans rfl)) (hP.sub [] rfl) (hD.sub [] (by decide) rfl) hS (lv_sub hl [0, 1] rfl)
            · skip
              have c111 := fun h => c111 ((lg_cmp_ge _ _).mpr h)
              have c111i : ¬ 0 ≤ (g : Int64).toInt := fun h => c111 (Int64.le_iff_toInt_le.mpr h)
              refine lv_iconst (v := 1) hx hb dX8_timesOf_54 (by decide) ?_
              refine lv_goto (tgt := 59) hx hb dX8_timesOf_55 (by decide) ?_
              exact hj115 (1) _ _ _ (Eq.symm ((if_neg c111i).trans rfl)) (hP.sub [] rfl) (hD.sub [] (by decide) rfl) hS (lv_sub hl [0, 1] rfl)
          · skip
            have c110i : ¬ ((kX8_isZero g) : Int32).toInt = 0 := fun h => c110 (Int32.toInt_inj.mp h)
            refine lv_lload_n hx hb dX8_timesOf_37 rfl (lv_at hl 1 rfl) ?_
            refine sp_calli (wr := []) (wc := []) hP hD hS hA [] [] rfl rfl (by decide) (by decide) (va_runS (As := [.long q]) (rest := []) ⟨hx, hb, hml, hown, hts⟩ (c_X8_isInfinite l D cI cJ cZ H.size q) (va_cwS 1 hts gX8_timesOf_X8_isInfinite_94 rfl rfl rfl (by decide +kernel) ⟨Nat.le_of_ble_eq_true rfl, Nat.le_of_ble_eq_true rfl⟩) (sp_preS [.long q] hK (hP.sub (ws' := []) [] rfl) (hD.sub (ws' := []) [] (by decide) rfl)) rfl rfl hl.1 rfl (lv_room (Nat.le_of_ble_eq_true rfl)) dX8_timesOf_38 ⟨Nat.le_of_ble_eq_true rfl, Nat.le_of_ble_eq_true rfl⟩) (fun r155 u156 H locs hw157 hP hD hS => ?_)
            have hq_157_0 : r155 = (kX8_isInfinite q) := hw157
            subst r155
            have hP : va_P D vwCl [] H := hP
            have hD : va_D A [] := hD
            refine lv_if_eq (tgt := 48) hx hb dX8_timesOf_41 (by decide) (fun c158 => ?_) (fun c158 => ?_)
            · skip
              have c158i : ((kX8_isInfinite q) : Int32).toInt = 0 := congrArg Int32.toInt c158
              refine lv_lload_n hx hb dX8_timesOf_48 rfl (lv_at hl 0 rfl) ?_
              refine lv_lconst (v := 0) hx hb dX8_timesOf_49 (by decide) ?_
              refine W.lcmp hx hb dX8_timesOf_50 ?_
              have hj163 : ∀ (z162 : Int32) (H : Heap) (locs : List Loc) (ls : Array Slot), (z162 = kX8_timesOf_59_z14 g q) → va_P D vwCl [] H → va_D A [] → va_S A s.heap H locs → lv_has ls 5 [(0, .long g), (2, .long q)] → W p l e ({ frames := 2, cells := 0, slots := 0, locals := 51 }) s m (([.long g, .long q] : List Value).toArray) below meth c H locs 0 0 (MQ below (va_Ql (fun (r : Int64) (_ : Unit) => r = kX8_timesOf g q) (sp_B D vwCl A (fun (_ : Unit) => [])) A) ([.long g, .long q] : List Value).toArray s 0 0 A) (F0 m 59 ls [.int z162]) := by
                intro z162 H locs ls hz162 hP hD hS hl
                subst z162
                refine lv_lload_n hx hb dX8_timesOf_59 rfl (lv_at hl 1 rfl) ?_
                refine lv_lconst (v := 0) hx hb dX8_timesOf_60 (by decide) ?_
                refine W.lcmp hx hb dX8_timesOf_61 ?_
                have hj168 : ∀ (z167 : Int32) (H : Heap) (locs : List Loc) (ls : Array Slot), (z167 = kX8_timesOf_70_z19 g q) → va_P D vwCl [] H → va_D A [] → va_S A s.heap H locs → lv_has ls 5 [(0, .long g), (2, .long q)] → W p l e ({ frames := 2, cells := 0, slots := 0, locals := 51 }) s m (([.long g, .long q] : List Value).toArray) below meth c H locs 0 0 (MQ below (va_Ql (fun (r : Int64) (_ : Unit) => r = kX8_timesOf g q) (sp_B D vwCl A (fun (_ : Unit) => [])) A) ([.long g, .long q] : List Value).toArray s 0 0 A) (F0 m 70 ls [.int z167, .int (kX8_timesOf_59_z14 g q)]) := by
                  intro z167 H locs ls hz167 hP hD hS hl
                  subst z167
                  have hj173 : ∀ (z172 : Int32) (H : Heap) (locs : List Loc) (ls : Array Slot), (z172 = kX8_timesOf_78_z24 g q) → va_P D vwCl [] H → va_D A [] → va_S A s.heap H locs → lv_has ls 5 [(0, .long g), (2, .long q)] → W p l e ({ frames := 2, cells := 0, slots := 0, locals := 51 }) s m (([.long g, .long q] : List Value).toArray) below meth c H locs 0 0 (MQ below (va_Ql (fun (r : Int64) (_ : Unit) => r = kX8_timesOf g q) (sp_B D vwCl A (fun (_ : Unit) => [])) A) ([.long g, .long q] : List Value).toArray s 0 0 A) (F0 m 78 ls [.int z172]) := by
                    intro z172 H locs ls hz172 hP hD hS hl
                    subst z172
                    refine lv_istore (lv' := [(4, .int (kX8_timesOf_78_z24 g q)), (0, .long g), (2, .long q)]) hx hb dX8_timesOf_78 hl (by decide) rfl (fun ls hl => ?_)
                    refine lv_lload_n hx hb dX8_timesOf_80 rfl (lv_at hl 1 rfl) ?_
                    refine sp_calli (wr := []) (wc := []) hP hD hS hA [] [] rfl rfl (by decide) (by decide) (va_runS (As := [.long g]) (rest := []) ⟨hx, hb, hml, hown, hts⟩ (c_X8_isInfinite l D cI cJ cZ H.size g) (va_cwS 1 hts gX8_timesOf_X8_isInfinite_94 rfl rfl rfl (by decide +kernel) ⟨Nat.le_of_ble_eq_true rfl, Nat.le_of_ble_eq_true rfl⟩) (sp_preS [.long g] hK (hP.sub (ws' := []) [] rfl) (hD.sub (ws' := []) [] (by decide) rfl)) rfl rfl hl.1 rfl (lv_room (Nat.le_of_ble_eq_true rfl)) dX8_timesOf_81 ⟨Nat.le_of_ble_eq_true rfl, Nat.le_of_ble_eq_true rfl⟩) (fun r174 u175 H locs hw176 hP hD hS => ?_)
                    have hq_176_0 : r174 = (kX8_isInfinite g) := hw176
                    subst r174
                    have hP : va_P D vwCl [] H := hP
                    have hD : va_D A [] := hD
                    refine lv_if_ne (tgt := 94) hx hb dX8_timesOf_84 (by decide) (fun c177 => ?_) (fun c177 => ?_)
                    · skip
                      have c177i : ¬ ((kX8_isInfinite g) : Int32).toInt = 0 := fun h => c177 (Int32.toInt_inj.mp h)
                      refine lv_iload hx hb dX8_timesOf_94 (lv_at hl 0 rfl) ?_
                      refine lv_ldc2 (v := 2139095040) hx hb hown (hts (.constantLong RX8 68 (2139095040)) (oX8_timesOf_in _ (List.mem_of_getElem? (i := 1) rfl))) dX8_timesOf_96 ?_
                      refine sp_callj (wr := []) (wc := []) hP hD hS hA [] [] rfl rfl (by decide) (by decide) (va_runS (As := [.int (kX8_timesOf_78_z24 g q), .long 2139095040]) (rest := []) ⟨hx, hb, hml, hown, hts⟩ (c_X8_placeOf l D cI cJ cZ H.size (kX8_timesOf_78_z24 g q) 2139095040) (va_cwS 2 hts gX8_timesOf_X8_placeOf_84 rfl rfl rfl (by decide +kernel) ⟨Nat.le_of_ble_eq_true rfl, Nat.le_of_ble_eq_true rfl⟩) (sp_preS [.int (kX8_timesOf_78_z24 g q), .long 2139095040] hK (hP.sub (ws' := []) [] rfl) (hD.sub (ws' := []) [] (by decide) rfl)) rfl rfl hl.1 rfl (lv_room (Nat.le_of_ble_eq_true rfl)) dX8_timesOf_99 ⟨Nat.le_of_ble_eq_true rfl, Nat.le_of_ble_eq_true rfl⟩) (fun r178 u179 H locs hw180 hP hD hS => ?_)
                      have hq_180_0 : r178 = (kX8_placeOf (kX8_timesOf_78_z24 g q) 2139095040) := hw180
                      subst r178
                      have hP : va_P D vwCl [] H := hP
                      have hD : va_D A [] := hD
                      refine W.widen (k := 0) (n := 0) (by decide) (by decide) ?_
                      exact sp_lret (u := ()) hx hb hr hlocks hS (Eq.symm ((if_neg c1i).trans ((if_neg c2i).trans ((if_neg c6i).trans ((if_pos c106i).trans ((if_neg c110i).trans ((if_pos c158i).trans ((if_neg c177i).trans rfl)))))))) (hP.sub [] rfl) (hD.sub [] (by decide) rfl) dX8_timesOf_102
                    · skip
                      have c177i : ((kX8_isInfinite g) : Int32).toInt = 0 := congrArg Int32.toInt c177
                      refine lv_lload_n hx hb dX8_timesOf_87 rfl (lv_at hl 2 rfl) ?_
                      refine sp_calli (wr := []) (wc := []) hP hD hS hA [] [] rfl rfl (by decide) (by decide) (va_runS (As := [.long q]) (rest := []) ⟨hx, hb, hml, hown, hts⟩ (c_X8_isInfinite l D cI cJ cZ H.size q) (va_cwS 1 hts gX8_timesOf_X8_isInfinite_94 rfl rfl rfl (by decide +kernel) ⟨Nat.le_of_ble_eq_true rfl, Nat.le_of_ble_eq_true rfl⟩) (sp_preS [.long q] hK (hP.sub (ws' := []) [] rfl) (hD.sub (ws' := []) [] (by decide) rfl)) rfl rfl hl.1 rfl (lv_room (Nat.le_of_ble_eq_true rfl)) dX8_timesOf_88 ⟨Nat.le_of_ble_eq_true rfl, Nat.le_of_ble_eq_true rfl⟩) (fun r181 u182 H locs hw183 hP hD hS => ?_)
                      have hq_183_0 : r181 = (kX8_isInfinite q) := hw183
                      subst r181
                      have hP : va_P D vwCl [] H := hP
                      have hD : va_D A [] := hD
                      refine lv_if_eq (tgt := 103) hx hb dX8_timesOf_91 (by decide) (fun c184 => ?_) (fun c184 => ?_)
                      · skip
                        have c184i : ((kX8_isInfinite q) : Int32).toInt = 0 := congrArg Int32.toInt c184
                        refine lv_iload hx hb dX8_timesOf_103 (lv_at hl 0 rfl) ?_
                        refine lv_lload_n hx hb dX8_timesOf_105 rfl (lv_at hl 1 rfl) ?_
                        refine sp_callj (wr := []) (wc := []) hP hD hS hA [] [] rfl rfl (by decide) (by decide) (va_runS (As := [.long g]) (rest := [.int (kX8_timesOf_78_z24 g q)]) ⟨hx, hb, hml, hown, hts⟩ (c_X8_digits l D cI cJ cZ H.size g) (va_cwS 1 hts gX8_timesOf_X8_digits_102 rfl rfl rfl (by decide +kernel) ⟨Nat.le_of_ble_eq_true rfl, Nat.le_of_ble_eq_true rfl⟩) (sp_preS [.long g] hK (hP.sub (ws' := []) [] rfl) (hD.sub (ws' := []) [] (by decide) rfl)) rfl rfl hl.1 rfl (lv_room (Nat.le_of_ble_eq_true rfl)) dX8_timesOf_106 ⟨Nat.le_of_ble_eq_true rfl, Nat.le_of_ble_eq_true rfl⟩) (fun r185 u186 H locs hw187 hP hD hS => ?_)
                        have hq_187_0 : r185 = (kX8_digits g) := hw187
                        subst r185
                        have hP : va_P D vwCl [] H := hP
                        have hD : va_D A [] := hD
                        refine lv_lload_n hx hb dX8_timesOf_109 rfl (lv_at hl 2 rfl) ?_
                        refine sp_callj (wr := []) (wc := []) hP hD hS hA [] [] rfl rfl (by decide) (by decide) (va_runS (As := [.long q]) (rest := [.long (kX8_digits g), .int (kX8_timesOf_78_z24 g q)]) ⟨hx, hb, hml, hown, hts⟩ (c_X8_digits l D cI cJ cZ H.size q) (va_cwS 1 hts gX8_timesOf_X8_digits_102 rfl rfl rfl (by decide +kernel) ⟨Nat.le_of_ble_eq_true rfl, Nat.le_of_ble_eq_true rfl⟩) (sp_preS [.long q] hK (hP.sub (ws' := []) [] rfl) (hD.sub (ws' := []) [] (by decide) rfl)) rfl rfl hl.1 rfl (lv_room (Nat.le_of_ble_eq_true rfl)) dX8_timesOf_110 ⟨Nat.le_of_ble_eq_true rfl, Nat.le_of_ble_eq_true rfl⟩) (fun r188 u189 H locs hw190 hP hD hS => ?_)
                        have hq_190_0 : r188 = (kX8_digits q) := hw190
                        subst r188
                        have hP : va_P D vwCl [] H := hP
                        have hD : va_D A [] := hD
                        refine lv_lmul hx hb dX8_timesOf_113 ?_
                        refine lv_lload_n hx hb dX8_timesOf_114 rfl (lv_at hl 1 rfl) ?_
                        refine sp_calli (wr := []) (wc := []) hP hD hS hA [] [] rfl rfl (by decide) (by decide) (va_runS (As := [.long g]) (rest := [.long ((kX8_digits g) * (kX8_digits q)), .int (kX8_timesOf_78_z24 g q)]) ⟨hx, hb, hml, hown, hts⟩ (c_X8_power l D cI cJ cZ H.size g) (va_cwS 1 hts gX8_timesOf_X8_power_98 rfl rfl rfl (by decide +kernel) ⟨Nat.le_of_ble_eq_true rfl, Nat.le_of_ble_eq_true rfl⟩) (sp_preS [.long g] hK (hP.sub (ws' := []) [] rfl) (hD.sub (ws' := []) [] (by decide) rfl)) rfl rfl hl.1 rfl (lv_room (Nat.le_of_ble_eq_true rfl)) dX8_timesOf_115 ⟨Nat.le_of_ble_eq_true rfl, Nat.le_of_ble_eq_true rfl⟩) (fun r191 u192 H locs hw193 hP hD hS => ?_)
                        have hq_193_0 : r191 = (kX8_power g) := hw193
                        subst r191
                        have hP : va_P D vwCl [] H := hP
                        have hD : va_D A [] := hD
                        refine lv_lload_n hx hb dX8_timesOf_118 rfl (lv_at hl 2 rfl) ?_
                        refine sp_calli (wr := []) (wc := []) hP hD hS hA [] [] rfl rfl (by decide) (by decide) (va_runS (As := [.long q]) (rest := [.int (kX8_power g), .long ((kX8_digits g) * (kX8_digits q)), .int (kX8_timesOf_78_z24 g q)]) ⟨hx, hb, hml, hown, hts⟩ (c_X8_power l D cI cJ cZ H.size q) (va_cwS 1 hts gX8_timesOf_X8_power_98 rfl rfl rfl (by decide +kernel) ⟨Nat.le_of_ble_eq_true rfl, Nat.le_of_ble_eq_true rfl⟩) (sp_preS [.long q] hK (hP.sub (ws' := []) [] rfl) (hD.sub (ws' := []) [] (by decide) rfl)) rfl rfl hl.1 rfl (lv_room (Nat.le_of_ble_eq_true rfl)) dX8_timesOf_119 ⟨Nat.le_of_ble_eq_true rfl, Nat.le_of_ble_eq_true rfl⟩) (fun r194 u195 H locs hw196 hP hD hS => ?_)
                        have hq_196_0 : r194 = (kX8_power q) := hw196
                        subst r194
                        have hP : va_P D vwCl [] H := hP
                        have hD : va_D A [] := hD
                        refine lv_iadd hx hb dX8_timesOf_122 ?_
                        refine lv_iconst (v := 0) hx hb dX8_timesOf_123 (by decide) ?_
                        refine sp_callj (wr := []) (wc := []) hP hD hS hA [] [] rfl rfl (by decide) (by decide) (va_runS (As := [.int (kX8_timesOf_78_z24 g q), .long ((kX8_digits g) * (kX8_digits q)), .int ((kX8_power g) + (kX8_power q)), .int 0]) (rest := []) ⟨hx, hb, hml, hown, hts⟩ (c_X8_pack l D cI cJ cZ H.size (kX8_timesOf_78_z24 g q) ((kX8_digits g) * (kX8_digits q)) ((kX8_power g) + (kX8_power q)) 0) (va_cwS 4 hts gX8_timesOf_X8_pack_105 rfl rfl rfl (by decide +kernel) ⟨Nat.le_of_ble_eq_true rfl, Nat.le_of_ble_eq_true rfl⟩) (sp_preS [.int (kX8_timesOf_78_z24 g q), .long ((kX8_digits g) * (kX8_digits q)), .int ((kX8_power g) + (kX8_power q)), .int 0] hK (hP.sub (ws' := []) [] rfl) (hD.sub (ws' := []) [] (by decide) rfl)) rfl rfl hl.1 rfl (lv_room (Nat.le_of_ble_eq_true rfl)) dX8_timesOf_124 ⟨Nat.le_of_ble_eq_true rfl, Nat.le_of_ble_eq_true rfl⟩) (fun r197 u198 H locs hw199 hP hD hS => ?_)
                        have hq_199_0 : r197 = (kX8_pack (kX8_timesOf_78_z24 g q) ((kX8_digits g) * (kX8_digits q)) ((kX8_power g) + (kX8_power q)) 0) := hw199
                        subst r197
                        have hP : va_P D vwCl [] H := hP
                        have hD : va_D A [] := hD
                        refine W.widen (k := 0) (n := 0) (by decide) (by decide) ?_
                        exact sp_lret (u := ()) hx hb hr hlocks hS (Eq.symm ((if_neg c1i).trans ((if_neg c2i).trans ((if_neg c6i).trans ((if_pos c106i).trans ((if_neg c110i).trans ((if_pos c158i).trans ((if_pos c177i).trans ((if_pos c184i).trans rfl))))))))) (hP.sub [] rfl) (hD.sub [] (by decide) rfl) dX8_timesOf_127
                      · skip
                        have c184i : ¬ ((kX8_isInfinite q) : Int32).toInt = 0 := fun h => c184 (Int32.toInt_inj.mp h)
                        refine lv_iload hx hb dX8_timesOf_94 (lv_at hl 0 rfl) ?_
                        refine lv_ldc2 (v := 2139095040) hx hb hown (hts (.constantLong RX8 68 (2139095040)) (oX8_timesOf_in _ (List.mem_of_getElem? (i := 1) rfl))) dX8_timesOf_96 ?_
                        refine sp_callj (wr := []) (wc := []) hP hD hS hA [] [] rfl rfl (by decide) (by decide) (va_runS (As := [.int (kX8_timesOf_78_z24 g q), .long 2139095040]) (rest := []) ⟨hx, hb, hml, hown, hts⟩ (c_X8_placeOf l D cI cJ cZ H.size (kX8_timesOf_78_z24 g q) 2139095040) (va_cwS 2 hts gX8_timesOf_X8_placeOf_84 rfl rfl rfl (by decide +kernel) ⟨Nat.le_of_ble_eq_true rfl, Nat.le_of_ble_eq_true rfl⟩) (sp_preS [.int (kX8_timesOf_78_z24 g q), .long 2139095040] hK (hP.sub (ws' := []) [] rfl) (hD.sub (ws' := []) [] (by decide) rfl)) rfl rfl hl.1 rfl (lv_room (Nat.le_of_ble_eq_true rfl)) dX8_timesOf_99 ⟨Nat.le_of_ble_eq_true rfl, Nat.le_of_ble_eq_true rfl⟩) (fun r200 u201 H locs hw202 hP hD hS => ?_)
                        have hq_202_0 : r200 = (kX8_placeOf (kX8_timesOf_78_z24 g q) 2139095040) := hw202
                        subst r200
                        have hP : va_P D vwCl [] H := hP
                        have hD : va_D A [] := hD
                        refine W.widen (k := 0) (n := 0) (by decide) (by decide) ?_
                        exact sp_lret (u := ()) hx hb hr hlocks hS (Eq.symm ((if_neg c1i).trans ((if_neg c2i).trans ((if_neg c6i).trans ((if_pos c106i).trans ((if_neg c110i).trans ((if_pos c158i).trans ((if_pos c177i).trans ((if_neg c184i).trans rfl))))))))) (hP.sub [] rfl) (hD.sub [] (by decide) rfl) dX8_timesOf_102
                  refine lv_icmp_eq (tgt := 77) hx hb dX8_timesOf_70 (by decide) (fun c169 => ?_) (fun c169 => ?_)
                  · skip
                    have c169i : ((kX8_timesOf_59_z14 g q) : Int32).toInt = ((kX8_timesOf_70_z19 g q) : Int32).toInt := congrArg Int32.toInt c169
                    refine lv_iconst (v := 0) hx hb dX8_timesOf_77 (by decide) ?_
                    exact hj173 (0) _ _ _ (Eq.symm ((if_pos c169i).trans rfl)) (hP.sub [] rfl) (hD.sub [] (by decide) rfl) hS (lv_sub hl [0, 1] rfl)
                  · skip
                    have c169i : ¬ ((kX8_timesOf_59_z14 g q) : Int32).toInt = ((kX8_timesOf_70_z19 g q) : Int32).toInt := fun h => c169 (Int32.toInt_inj.mp h)
                    refine lv_iconst (v := 1) hx hb dX8_timesOf_73 (by decide) ?_
                    refine lv_goto (tgt := 78) hx hb dX8_timesOf_74 (by decide) ?_
                    exact hj173 (1) _ _ _ (Eq.symm ((if_neg c169i).trans rfl)) (hP.sub [] rfl) (hD.sub [] (by decide) rfl) hS (lv_sub hl [0, 1] rfl)
                refine lv_if_ge (tgt := 69) hx hb dX8_timesOf_62 (by decide) (fun c164 => ?_) (fun c164 => ?_)
                · skip
                  have c164 := (lg_cmp_ge _ _).mp c164
                  have c164i : 0 ≤ (q : Int64).toInt := Int64.le_iff_toInt_le.mp c164
                  refine lv_iconst (v := 0) hx hb dX8_timesOf_69 (by decide) ?_
                  exact hj168 (0) _ _ _ (Eq.symm ((if_pos c164i).trans rfl)) (hP.sub [] rfl) (hD.sub [] (by decide) rfl) hS (lv_sub hl [0, 1] rfl)
                · skip
                  have c164 := fun h => c164 ((lg_cmp_ge _ _).mpr h)
                  have c164i : ¬ 0 ≤ (q : Int64).toInt := fun h => c164 (Int64.le_iff_toInt_le.mpr h)
                  refine lv_iconst (v := 1) hx hb dX8_timesOf_65 (by decide) ?_
                  refine lv_goto (tgt := 70) hx hb dX8_timesOf_66 (by decide) ?_
                  exact hj168 (1) _ _ _ (Eq.symm ((if_neg c164i).trans rfl)) (hP.sub [] rfl) (hD.sub [] (by decide) rfl) hS (lv_sub hl [0, 1] rfl)
              refine lv_if_ge (tgt := 58) hx hb dX8_timesOf_51 (by decide) (fun c159 => ?_) (fun c159 => ?_)
              · skip
                have c159 := (lg_cmp_ge _ _).mp c159
                have c159i : 0 ≤ (g : Int64).toInt := Int64.le_iff_toInt_le.mp c159
                refine lv_iconst (v := 0) hx hb dX8_timesOf_58 (by decide) ?_
                exact hj163 (0) _ _ _ (Eq.symm ((if_pos c159i).trans rfl)) (hP.sub [] rfl) (hD.sub [] (by decide) rfl) hS (lv_sub hl [0, 1] rfl)
              · skip
                have c159 := fun h => c159 ((lg_cmp_ge _ _).mpr h)
                have c159i : ¬ 0 ≤ (g : Int64).toInt := fun h => c159 (Int64.le_iff_toInt_le.mpr h)
                refine lv_iconst (v := 1) hx hb dX8_timesOf_54 (by decide) ?_
                refine lv_goto (tgt := 59) hx hb dX8_timesOf_55 (by decide) ?_
                exact hj163 (1) _ _ _ (Eq.symm ((if_neg c159i).trans rfl)) (hP.sub [] rfl) (hD.sub [] (by decide) rfl) hS (lv_sub hl [0, 1] rfl)
            · skip
              have c158i : ¬ ((kX8_isInfinite q) : Int32).toInt = 0 := fun h => c158 (Int32.toInt_inj.mp h)
              refine lv_ldc2 (v := 9000000000) hx hb hown (hts (.constantLong RX8 82 (9000000000)) (oX8_timesOf_in _ (List.mem_of_getElem? (i := 0) rfl))) dX8_timesOf_44 ?_
              refine W.widen (k := 0) (n := 0) (by decide) (by decide) ?_
              exact sp_lret (u := ()) hx hb hr hlocks hS (Eq.symm ((if_neg c1i).trans ((if_neg c2i).trans ((if_neg c6i).trans ((if_pos c106i).trans ((if_neg c110i).trans ((if_neg c158i).trans rfl))))))) (hP.sub [] rfl) (hD.sub [] (by decide) rfl) dX8_timesOf_47
def oX8_byOf : List Cond := [.constantLong RX8 80 (8388608), .constantLong RX8 90 (2), .constantLong RX8 82 (9000000000), .constantLong RX8 68 (2139095040)]
def wpX8_byOf : List Cond := .code yX8_byOf cX8_byOf 12 (some .long) :: (oX8_byOf ++ ((va_wsS RX8 102 yX8_digits wpX8_digits) ++ ((va_wsS RX8 98 yX8_power wpX8_power) ++ ((va_wsS RX8 105 yX8_pack wpX8_pack) ++ ((va_wsS RX8 94 yX8_isInfinite wpX8_isInfinite) ++ ((va_wsS RX8 109 yX8_isZero wpX8_isZero) ++ ((va_wsS RX8 84 yX8_placeOf wpX8_placeOf) ++ ([] : List Cond))))))))
theorem oX8_byOf_in : ∀ w ∈ oX8_byOf, w ∈ wpX8_byOf := fun w h => List.mem_cons_of_mem _ (List.mem_append_left _ h)
theorem gwoX8_byOf : ∀ w ∈ oX8_byOf, goodWord w = true := by decide +kernel
theorem gwX8_byOf : ∀ w ∈ wpX8_byOf, goodWord w = true := by
  unfold wpX8_byOf
  exact List.forall_mem_cons.mpr ⟨rfl, List.forall_mem_append.mpr ⟨gwoX8_byOf, List.forall_mem_append.mpr ⟨(sp_gS gwX8_digits), List.forall_mem_append.mpr ⟨(sp_gS gwX8_power), List.forall_mem_append.mpr ⟨(sp_gS gwX8_pack), List.forall_mem_append.mpr ⟨(sp_gS gwX8_isInfinite), List.forall_mem_append.mpr ⟨(sp_gS gwX8_isZero), List.forall_mem_append.mpr ⟨(sp_gS gwX8_placeOf), fun _ h => absurd h List.not_mem_nil⟩⟩⟩⟩⟩⟩⟩⟩
set_option maxRecDepth 100000 in
theorem toX8_byOf : ∀ w ∈ oX8_byOf, w ∈ lw_tbl := by
  unfold oX8_byOf
  exact List.forall_mem_cons.mpr ⟨(List.mem_of_getElem? (i := 843) (by decide +kernel)), List.forall_mem_cons.mpr ⟨(List.mem_of_getElem? (i := 770) (by decide +kernel)), List.forall_mem_cons.mpr ⟨(List.mem_of_getElem? (i := 804) (by decide +kernel)), List.forall_mem_cons.mpr ⟨(List.mem_of_getElem? (i := 682) (by decide +kernel)), fun _ h => absurd h List.not_mem_nil⟩⟩⟩⟩
set_option maxRecDepth 100000 in
theorem tX8_byOf : ∀ w ∈ wpX8_byOf, w ∈ lw_tbl := by
  unfold wpX8_byOf
  exact List.forall_mem_cons.mpr ⟨(List.mem_of_getElem? (i := 863) (by rfl)), List.forall_mem_append.mpr ⟨toX8_byOf, List.forall_mem_append.mpr ⟨(sp_tS (List.mem_of_getElem? (i := 844) (by decide +kernel)) (List.mem_of_getElem? (i := 845) (by decide +kernel)) (List.mem_of_getElem? (i := 45) (by decide +kernel)) tX8_digits), List.forall_mem_append.mpr ⟨(sp_tS (List.mem_of_getElem? (i := 840) (by decide +kernel)) (List.mem_of_getElem? (i := 841) (by decide +kernel)) (List.mem_of_getElem? (i := 45) (by decide +kernel)) tX8_power), List.forall_mem_append.mpr ⟨(sp_tS (List.mem_of_getElem? (i := 847) (by decide +kernel)) (List.mem_of_getElem? (i := 848) (by decide +kernel)) (List.mem_of_getElem? (i := 45) (by decide +kernel)) tX8_pack), List.forall_mem_append.mpr ⟨(sp_tS (List.mem_of_getElem? (i := 834) (by decide +kernel)) (List.mem_of_getElem? (i := 835) (by decide +kernel)) (List.mem_of_getElem? (i := 45) (by decide +kernel)) tX8_isInfinite), List.forall_mem_append.mpr ⟨(sp_tS (List.mem_of_getElem? (i := 858) (by decide +kernel)) (List.mem_of_getElem? (i := 859) (by decide +kernel)) (List.mem_of_getElem? (i := 45) (by decide +kernel)) tX8_isZero), List.forall_mem_append.mpr ⟨(sp_tS (List.mem_of_getElem? (i := 805) (by decide +kernel)) (List.mem_of_getElem? (i := 806) (by decide +kernel)) (List.mem_of_getElem? (i := 45) (by decide +kernel)) tX8_placeOf), fun _ h => absurd h List.not_mem_nil⟩⟩⟩⟩⟩⟩⟩⟩
theorem gX8_byOf_X8_digits_102 : GoodIn wpX8_byOf (va_wsS RX8 102 yX8_digits wpX8_digits) := fun w h => ⟨List.mem_cons_of_mem _ (List.mem_append_right _ (List.mem_append_left _ h)), good_of_word (sp_gS gwX8_digits w h)⟩
theorem gX8_byOf_X8_power_98 : GoodIn wpX8_byOf (va_wsS RX8 98 yX8_power wpX8_power) := fun w h => ⟨List.mem_cons_of_mem _ (List.mem_append_right _ (List.mem_append_right _ (List.mem_append_left _ h))), good_of_word (sp_gS gwX8_power w h)⟩
theorem gX8_byOf_X8_pack_105 : GoodIn wpX8_byOf (va_wsS RX8 105 yX8_pack wpX8_pack) := fun w h => ⟨List.mem_cons_of_mem _ (List.mem_append_right _ (List.mem_append_right _ (List.mem_append_right _ (List.mem_append_left _ h)))), good_of_word (sp_gS gwX8_pack w h)⟩
theorem gX8_byOf_X8_isInfinite_94 : GoodIn wpX8_byOf (va_wsS RX8 94 yX8_isInfinite wpX8_isInfinite) := fun w h => ⟨List.mem_cons_of_mem _ (List.mem_append_right _ (List.mem_append_right _ (List.mem_append_right _ (List.mem_append_right _ (List.mem_append_left _ h))))), good_of_word (sp_gS gwX8_isInfinite w h)⟩
theorem gX8_byOf_X8_isZero_109 : GoodIn wpX8_byOf (va_wsS RX8 109 yX8_isZero wpX8_isZero) := fun w h => ⟨List.mem_cons_of_mem _ (List.mem_append_right _ (List.mem_append_right _ (List.mem_append_right _ (List.mem_append_right _ (List.mem_append_right _ (List.mem_append_left _ h)))))), good_of_word (sp_gS gwX8_isZero w h)⟩
theorem gX8_byOf_X8_placeOf_84 : GoodIn wpX8_byOf (va_wsS RX8 84 yX8_placeOf wpX8_placeOf) := fun w h => ⟨List.mem_cons_of_mem _ (List.mem_append_right _ (List.mem_append_right _ (List.mem_append_right _ (List.mem_append_right _ (List.mem_append_right _ (List.mem_append_right _ (List.mem_append_left _ h))))))), good_of_word (sp_gS gwX8_placeOf w h)⟩
set_option maxHeartbeats 4000000 in
set_option maxRecDepth 100000 in
theorem lp_X8_byOf_136 {p : Program} {e : Env} {s : State} {m : MethodId} {below : List Frame} {meth : Method} {c : Code} {A : Nat → Prop} (l : Launch) (D : va_G) (cI cJ cZ : ClassId) (g : Int64) (q : Int64) (C0 : sp_C cX8_byOf (some .long) 12 wpX8_byOf yX8_byOf.cls yX8_byOf.name p s m ([.long g, .long q] : List Value).toArray meth c) (hA : ∀ q : Nat, s.heap.size ≤ q → A q) (hK : va_K D vwCl [(cI, .int), (cJ, .long), (cZ, .boolean)] s) :
    ∀ (fuel : Nat) (mi : Int32) (mm : Int64) (ee : Int32) (H : Heap) (locs : List Loc) (ls : Array Slot), ((kX8_isZero q : Int32).toInt = 0) → (1 ≤ (mm : Int64).toInt) → (kX8_byOf g q = kX8_byOf_l136 fuel g q mi mm ee) → ((if (mm : Int64).toInt < 8388608 then 8388608 - (mm : Int64).toInt else 0) < (fuel : Int)) → va_P D vwCl [] H → va_D A [] → va_S A s.heap H locs → lv_has ls 12 [(0, .long g), (2, .long q), (4, .int mi), (5, .long mm), (7, .int ee)] → W p l e ({ frames := 2, cells := 0, slots := 0, locals := 51 }) s m (([.long g, .long q] : List Value).toArray) below meth c H locs 0 0 (MQ below (va_Ql (fun (r : Int64) (_ : Unit) => r = kX8_byOf g q) (sp_B D vwCl A (fun (_ : Unit) => [])) A) ([.long g, .long q] : List Value).toArray s 0 0 A) (F0 m 136 ls []) := by
  obtain ⟨hx, hb, hr, hts, hown, hlocks, hml, hin⟩ := id C0
  have hown : s.vm.findClass RX8 = some m.cls := hown
  intro fuel
  induction fuel with
  | zero =>
    intro mi mm ee H locs ls hqz h1 hk_r hm
    exact absurd hm (by omega)
  | succ fuel ih =>
    intro mi mm ee H locs ls hqz h1 hk_r hm hP hD hS hl
    refine lv_lload hx hb dX8_byOf_136 (lv_at hl 3 rfl) ?_
    refine lv_ldc2 (v := 8388608) hx hb hown (hts (.constantLong RX8 80 (8388608)) (oX8_byOf_in _ (List.mem_of_getElem? (i := 0) rfl))) dX8_byOf_138 ?_
    refine W.lcmp hx hb dX8_byOf_141 ?_
    refine lv_if_ge (tgt := 159) hx hb dX8_byOf_142 (by decide) (fun c1 => ?_) (fun c1 => ?_)
    · skip
      have c1 := (lg_cmp_ge _ _).mp c1
      have c1i : 8388608 ≤ (mm : Int64).toInt := Int64.le_iff_toInt_le.mp c1
      refine lv_lload_n hx hb dX8_byOf_159 rfl (lv_at hl 1 rfl) ?_
      refine sp_callj (wr := []) (wc := []) hP hD hS hA [] [] rfl rfl (by decide) (by decide) (va_runS (As := [.long q]) (rest := []) ⟨hx, hb, hml, hown, hts⟩ (c_X8_digits l D cI cJ cZ H.size q) (va_cwS 1 hts gX8_byOf_X8_digits_102 rfl rfl rfl (by decide +kernel) ⟨Nat.le_of_ble_eq_true rfl, Nat.le_of_ble_eq_true rfl⟩) (sp_preS [.long q] hK (hP.sub (ws' := []) [] rfl) (hD.sub (ws' := []) [] (by decide) rfl)) rfl rfl hl.1 rfl (lv_room (Nat.le_of_ble_eq_true rfl)) dX8_byOf_160 ⟨Nat.le_of_ble_eq_true rfl, Nat.le_of_ble_eq_true rfl⟩) (fun r3 u4 H locs hw5 hP hD hS => ?_)
      have hq_5_0 : r3 = (kX8_digits q) := hw5
      subst r3
      have hP : va_P D vwCl [] H := hP
      have hD : va_D A [] := hD
      refine lv_lstore (lv' := [(8, .long (kX8_digits q)), (0, .long g), (2, .long q), (4, .int mi), (5, .long mm), (7, .int ee)]) hx hb dX8_byOf_163 hl (by decide) rfl (fun ls hl => ?_)
      refine lv_lload hx hb dX8_byOf_165 (lv_at hl 4 rfl) ?_
      refine lv_bipush (v := 38) hx hb dX8_byOf_167 (by decide) ?_
      refine lv_lshl (v := _) hx hb dX8_byOf_169 rfl ?_
      refine lv_lstore (lv' := [(10, .long (kX8_byOf_l136_s170 g q mi mm ee)), (8, .long (kX8_digits q)), (0, .long g), (2, .long q), (4, .int mi), (5, .long mm), (7, .int ee)]) hx hb dX8_byOf_170 hl (by decide) rfl (fun ls hl => ?_)
      refine lv_iload hx hb dX8_byOf_172 (lv_at hl 4 rfl) ?_
      refine lv_lload hx hb dX8_byOf_174 (lv_at hl 0 rfl) ?_
      refine lv_lload hx hb dX8_byOf_176 (lv_at hl 1 rfl) ?_
      refine lv_ldiv hx hb dX8_byOf_178 (kz_dnz (by assumption)) ?_
      refine lv_iload hx hb dX8_byOf_179 (lv_at hl 6 rfl) ?_
      refine lv_bipush (v := 38) hx hb dX8_byOf_181 (by decide) ?_
      refine lv_isub hx hb dX8_byOf_183 ?_
      refine lv_lload_n hx hb dX8_byOf_184 rfl (lv_at hl 3 rfl) ?_
      refine sp_calli (wr := []) (wc := []) hP hD hS hA [] [] rfl rfl (by decide) (by decide) (va_runS (As := [.long q]) (rest := [.int (ee - 38), .long ((kX8_byOf_l136_s170 g q mi mm ee) / (kX8_digits q)), .int mi]) ⟨hx, hb, hml, hown, hts⟩ (c_X8_power l D cI cJ cZ H.size q) (va_cwS 1 hts gX8_byOf_X8_power_98 rfl rfl rfl (by decide +kernel) ⟨Nat.le_of_ble_eq_true rfl, Nat.le_of_ble_eq_true rfl⟩) (sp_preS [.long q] hK (hP.sub (ws' := []) [] rfl) (hD.sub (ws' := []) [] (by decide) rfl)) rfl rfl hl.1 rfl (lv_room (Nat.le_of_ble_eq_true rfl)) dX8_byOf_185 ⟨Nat.le_of_ble_eq_true rfl, Nat.le_of_ble_eq_true rfl⟩) (fun r6 u7 H locs hw8 hP hD hS => ?_)
      have hq_8_0 : r6 = (kX8_power q) := hw8
      subst r6
      have hP : va_P D vwCl [] H := hP
      have hD : va_D A [] := hD
      refine lv_isub hx hb dX8_byOf_188 ?_
      refine lv_lload hx hb dX8_byOf_189 (lv_at hl 0 rfl) ?_
      refine lv_lload hx hb dX8_byOf_191 (lv_at hl 1 rfl) ?_
      refine lv_lrem hx hb dX8_byOf_193 (kz_dnz (by assumption)) ?_
      refine lv_lconst (v := 0) hx hb dX8_byOf_194 (by decide) ?_
      refine W.lcmp hx hb dX8_byOf_195 ?_
      have hj13 : ∀ (z12 : Int32) (H : Heap) (locs : List Loc) (ls : Array Slot), (z12 = kX8_byOf_l136_204_z12 g q mi mm ee) → va_P D vwCl [] H → va_D A [] → va_S A s.heap H locs → lv_has ls 12 [(10, .long (kX8_byOf_l136_s170 g q mi mm ee)), (8, .long (kX8_digits q)), (0, .long g), (2, .long q), (4, .int mi), (5, .long mm), (7, .int ee)] → W p l e ({ frames := 2, cells := 0, slots := 0, locals := 51 }) s m (([.long g, .long q] : List Value).toArray) below meth c H locs 0 0 (MQ below (va_Ql (fun (r : Int64) (_ : Unit) => r = kX8_byOf g q) (sp_B D vwCl A (fun (_ : Unit) => [])) A) ([.long g, .long q] : List Value).toArray s 0 0 A) (F0 m 204 ls [.int z12, .int ((ee - 38) - (kX8_power q)), .long ((kX8_byOf_l136_s170 g q mi mm ee) / (kX8_digits q)), .int mi]) := by
        intro z12 H locs ls hz12 hP hD hS hl
        subst z12
        refine sp_callj (wr := []) (wc := []) hP hD hS hA [] [] rfl rfl (by decide) (by decide) (va_runS (As := [.int mi, .long ((kX8_byOf_l136_s170 g q mi mm ee) / (kX8_digits q)), .int ((ee - 38) - (kX8_power q)), .int (kX8_byOf_l136_204_z12 g q mi mm ee)]) (rest := []) ⟨hx, hb, hml, hown, hts⟩ (c_X8_pack l D cI cJ cZ H.size mi ((kX8_byOf_l136_s170 g q mi mm ee) / (kX8_digits q)) ((ee - 38) - (kX8_power q)) (kX8_byOf_l136_204_z12 g q mi mm ee)) (va_cwS 4 hts gX8_byOf_X8_pack_105 rfl rfl rfl (by decide +kernel) ⟨Nat.le_of_ble_eq_true rfl, Nat.le_of_ble_eq_true rfl⟩) (sp_preS [.int mi, .long ((kX8_byOf_l136_s170 g q mi mm ee) / (kX8_digits q)), .int ((ee - 38) - (kX8_power q)), .int (kX8_byOf_l136_204_z12 g q mi mm ee)] hK (hP.sub (ws' := []) [] rfl) (hD.sub (ws' := []) [] (by decide) rfl)) rfl rfl hl.1 rfl (lv_room (Nat.le_of_ble_eq_true rfl)) dX8_byOf_204 ⟨Nat.le_of_ble_eq_true rfl, Nat.le_of_ble_eq_true rfl⟩) (fun r14 u15 H locs hw16 hP hD hS => ?_)
        have hq_16_0 : r14 = (kX8_pack mi ((kX8_byOf_l136_s170 g q mi mm ee) / (kX8_digits q)) ((ee - 38) - (kX8_power q)) (kX8_byOf_l136_204_z12 g q mi mm ee)) := hw16
        subst r14
        have hP : va_P D vwCl [] H := hP
        have hD : va_D A [] := hD
        refine W.widen (k := 0) (n := 0) (by decide) (by decide) ?_
        exact sp_lret (u := ()) hx hb hr hlocks hS (Eq.symm (hk_r.trans ((if_pos c1i).trans rfl))) (hP.sub [] rfl) (hD.sub [] (by decide) rfl) dX8_byOf_207
      refine lv_if_eq (tgt := 203) hx hb dX8_byOf_196 (by decide) (fun c9 => ?_) (fun c9 => ?_)
      · skip
        have c9 := (lg_cmp_eq _ _).mp c9
        have c9i : (((kX8_byOf_l136_s170 g q mi mm ee) - (kX8_byOf_l136_s170 g q mi mm ee) / (kX8_digits q) * (kX8_digits q)) : Int64).toInt = 0 := congrArg Int64.toInt c9
        refine lv_iconst (v := 0) hx hb dX8_byOf_203 (by decide) ?_
        exact hj13 (0) _ _ _ (Eq.symm ((if_pos c9i).trans rfl)) (hP.sub [] rfl) (hD.sub [] (by decide) rfl) hS (lv_sub hl [0, 1, 2, 3, 4, 5, 6] rfl)
      · skip
        have c9 := fun h => c9 ((lg_cmp_eq _ _).mpr h)
        have c9i : ¬ (((kX8_byOf_l136_s170 g q mi mm ee) - (kX8_byOf_l136_s170 g q mi mm ee) / (kX8_digits q) * (kX8_digits q)) : Int64).toInt = 0 := fun h => c9 (Int64.toInt_inj.mp h)
        refine lv_iconst (v := 1) hx hb dX8_byOf_199 (by decide) ?_
        refine lv_goto (tgt := 204) hx hb dX8_byOf_200 (by decide) ?_
        exact hj13 (1) _ _ _ (Eq.symm ((if_neg c9i).trans rfl)) (hP.sub [] rfl) (hD.sub [] (by decide) rfl) hS (lv_sub hl [0, 1, 2, 3, 4, 5, 6] rfl)
    · skip
      have c1 := fun h => c1 ((lg_cmp_ge _ _).mpr h)
      have c1i : ¬ 8388608 ≤ (mm : Int64).toInt := fun h => c1 (Int64.le_iff_toInt_le.mpr h)
      refine lv_lload hx hb dX8_byOf_145 (lv_at hl 3 rfl) ?_
      refine lv_ldc2 (v := 2) hx hb hown (hts (.constantLong RX8 90 (2)) (oX8_byOf_in _ (List.mem_of_getElem? (i := 1) rfl))) dX8_byOf_147 ?_
      refine lv_lmul hx hb dX8_byOf_150 ?_
      refine lv_lstore (lv' := [(5, .long (mm * 2)), (0, .long g), (2, .long q), (4, .int mi), (7, .int ee)]) hx hb dX8_byOf_151 hl (by decide) rfl (fun ls hl => ?_)
      refine lv_iinc (v := (ee + (-1))) (lv' := [(7, .int (ee + (-1))), (5, .long (mm * 2)), (0, .long g), (2, .long q), (4, .int mi)]) hx hb dX8_byOf_153 hl (k := 4) rfl rfl (by decide) rfl (fun ls hl => ?_)
      refine lv_goto (tgt := 136) hx hb dX8_byOf_156 (by decide) ?_
      have hd := px_dbl (x := mm) (by omega) (by omega)
      exact ih (mi) ((mm * 2)) ((ee + (-1))) _ _ _ (by first | assumption | omega) (by first | assumption | omega) (hk_r.trans ((if_neg c1i).trans rfl)) (by omega) (hP.sub [] rfl) (hD.sub [] (by decide) rfl) hS (lv_sub hl [2, 3, 4, 1, 0] rfl)
set_option maxHeartbeats 4000000 in
set_option maxRecDepth 100000 in
theorem c_X8_byOf (l : Launch) (D : va_G) (cI cJ cZ : ClassId) (sz : Nat) (g : Int64) (q : Int64) : Met l yX8_byOf wpX8_byOf ({ frames := 2, cells := 0, slots := 0, locals := 51 }) (va_Pc ([.long g, .long q] : List Value) (sp_pre D vwCl (sp_ty cI cJ cZ) [] sz)) (va_Ql (fun (r : Int64) (_ : Unit) => r = kX8_byOf g q) (sp_B D vwCl (va_A [] sz) (fun (_ : Unit) => [])) (va_A [] sz)) 0 0 (va_A [] sz) := by
  refine sp_ofW (Qc := fun A => va_Ql (fun (r : Int64) (_ : Unit) => r = kX8_byOf g q) (sp_B D vwCl A (fun (_ : Unit) => [])) A) (by decide) rfl (Nat.le_of_ble_eq_true rfl) (fun p e s m below meth c A ls H locs C0 hA hS hP hK hD hl => ?_)
  obtain ⟨hx, hb, hr, hts, hown, hlocks, hml, hin⟩ := id C0
  have hown : s.vm.findClass RX8 = some m.cls := hown
  have hl : lv_has ls 12 [(0, .long g), (2, .long q)] := hl
  have hK : va_K D vwCl [(cI, .int), (cJ, .long), (cZ, .boolean)] s := hK
  refine lv_lload_n hx hb dX8_byOf_0 rfl (lv_at hl 0 rfl) ?_
  refine lv_ldc2 (v := 9000000000) hx hb hown (hts (.constantLong RX8 82 (9000000000)) (oX8_byOf_in _ (List.mem_of_getElem? (i := 2) rfl))) dX8_byOf_1 ?_
  refine W.lcmp hx hb dX8_byOf_4 ?_
  refine lv_if_eq (tgt := 44) hx hb dX8_byOf_5 (by decide) (fun c1 => ?_) (fun c1 => ?_)
  · skip
    have c1 := (lg_cmp_eq _ _).mp c1
    have c1i : (g : Int64).toInt = 9000000000 := congrArg Int64.toInt c1
    refine lv_ldc2 (v := 9000000000) hx hb hown (hts (.constantLong RX8 82 (9000000000)) (oX8_byOf_in _ (List.mem_of_getElem? (i := 2) rfl))) dX8_byOf_44 ?_
    refine W.widen (k := 0) (n := 0) (by decide) (by decide) ?_
    exact sp_lret (u := ()) hx hb hr hlocks hS (Eq.symm ((if_pos c1i).trans rfl)) (hP.sub [] rfl) (hD.sub [] (by decide) rfl) dX8_byOf_47
  · skip
    have c1 := fun h => c1 ((lg_cmp_eq _ _).mpr h)
    have c1i : ¬ (g : Int64).toInt = 9000000000 := fun h => c1 (Int64.toInt_inj.mp h)
    refine lv_lload_n hx hb dX8_byOf_8 rfl (lv_at hl 1 rfl) ?_
    refine lv_ldc2 (v := 9000000000) hx hb hown (hts (.constantLong RX8 82 (9000000000)) (oX8_byOf_in _ (List.mem_of_getElem? (i := 2) rfl))) dX8_byOf_9 ?_
    refine W.lcmp hx hb dX8_byOf_12 ?_
    refine lv_if_eq (tgt := 44) hx hb dX8_byOf_13 (by decide) (fun c2 => ?_) (fun c2 => ?_)
    · skip
      have c2 := (lg_cmp_eq _ _).mp c2
      have c2i : (q : Int64).toInt = 9000000000 := congrArg Int64.toInt c2
      refine lv_ldc2 (v := 9000000000) hx hb hown (hts (.constantLong RX8 82 (9000000000)) (oX8_byOf_in _ (List.mem_of_getElem? (i := 2) rfl))) dX8_byOf_44 ?_
      refine W.widen (k := 0) (n := 0) (by decide) (by decide) ?_
      exact sp_lret (u := ()) hx hb hr hlocks hS (Eq.symm ((if_neg c1i).trans ((if_pos c2i).trans rfl))) (hP.sub [] rfl) (hD.sub [] (by decide) rfl) dX8_byOf_47
    · skip
      have c2 := fun h => c2 ((lg_cmp_eq _ _).mpr h)
      have c2i : ¬ (q : Int64).toInt = 9000000000 := fun h => c2 (Int64.toInt_inj.mp h)
      refine lv_lload_n hx hb dX8_byOf_16 rfl (lv_at hl 0 rfl) ?_
      refine sp_calli (wr := []) (wc := []) hP hD hS hA [] [] rfl rfl (by decide) (by decide) (va_runS (As := [.long g]) (rest := []) ⟨hx, hb, hml, hown, hts⟩ (c_X8_isInfinite l D cI cJ cZ H.size g) (va_cwS 1 hts gX8_byOf_X8_isInfinite_94 rfl rfl rfl (by decide +kernel) ⟨Nat.le_of_ble_eq_true rfl, Nat.le_of_ble_eq_true rfl⟩) (sp_preS [.long g] hK (hP.sub (ws' := []) [] rfl) (hD.sub (ws' := []) [] (by decide) rfl)) rfl rfl hl.1 rfl (lv_room (Nat.le_of_ble_eq_true rfl)) dX8_byOf_17 ⟨Nat.le_of_ble_eq_true rfl, Nat.le_of_ble_eq_true rfl⟩) (fun r3 u4 H locs hw5 hP hD hS => ?_)
      have hq_5_0 : r3 = (kX8_isInfinite g) := hw5
      subst r3
      have hP : va_P D vwCl [] H := hP
      have hD : va_D A [] := hD
      refine lv_if_eq (tgt := 30) hx hb dX8_byOf_20 (by decide) (fun c6 => ?_) (fun c6 => ?_)
      · skip
        have c6i : ((kX8_isInfinite g) : Int32).toInt = 0 := congrArg Int32.toInt c6
        refine lv_lload_n hx hb dX8_byOf_30 rfl (lv_at hl 0 rfl) ?_
        refine sp_calli (wr := []) (wc := []) hP hD hS hA [] [] rfl rfl (by decide) (by decide) (va_runS (As := [.long g]) (rest := []) ⟨hx, hb, hml, hown, hts⟩ (c_X8_isZero l D cI cJ cZ H.size g) (va_cwS 1 hts gX8_byOf_X8_isZero_109 rfl rfl rfl (by decide +kernel) ⟨Nat.le_of_ble_eq_true rfl, Nat.le_of_ble_eq_true rfl⟩) (sp_preS [.long g] hK (hP.sub (ws' := []) [] rfl) (hD.sub (ws' := []) [] (by decide) rfl)) rfl rfl hl.1 rfl (lv_room (Nat.le_of_ble_eq_true rfl)) dX8_byOf_31 ⟨Nat.le_of_ble_eq_true rfl, Nat.le_of_ble_eq_true rfl⟩) (fun r7 u8 H locs hw9 hP hD hS => ?_)
        obtain ⟨hq_9_0, hm_1_⟩ : r7 = (kX8_isZero g) ∧ _ := hw9
        subst r7
        have hm_1_i : (((kX8_isZero g) : Int32).toInt = 1 ∧ ((g : Int64).toInt = 0 ∨ (g : Int64).toInt = -1)) ∨ (((kX8_isZero g) : Int32).toInt = 0 ∧ ¬ ((g : Int64).toInt = 0 ∨ (g : Int64).toInt = -1)) := sp_bool hm_1_
        have hP : va_P D vwCl [] H := hP
        have hD : va_D A [] := hD
        refine lv_if_eq (tgt := 48) hx hb dX8_byOf_34 (by decide) (fun c10 => ?_) (fun c10 => ?_)
        · skip
          have c10i : ((kX8_isZero g) : Int32).toInt = 0 := congrArg Int32.toInt c10
          refine lv_lload_n hx hb dX8_byOf_48 rfl (lv_at hl 0 rfl) ?_
          refine lv_lconst (v := 0) hx hb dX8_byOf_49 (by decide) ?_
          refine W.lcmp hx hb dX8_byOf_50 ?_
          have hj15 : ∀ (z14 : Int32) (H : Heap) (locs : List Loc) (ls : Array Slot), (z14 = kX8_byOf_59_z14 g q) → va_P D vwCl [] H → va_D A [] → va_S A s.heap H locs → lv_has ls 12 [(0, .long g), (2, .long q)] → W p l e ({ frames := 2, cells := 0, slots := 0, locals := 51 }) s m (([.long g, .long q] : List Value).toArray) below meth c H locs 0 0 (MQ below (va_Ql (fun (r : Int64) (_ : Unit) => r = kX8_byOf g q) (sp_B D vwCl A (fun (_ : Unit) => [])) A) ([.long g, .long q] : List Value).toArray s 0 0 A) (F0 m 59 ls [.int z14]) := by
            intro z14 H locs ls hz14 hP hD hS hl
            subst z14
            refine lv_lload_n hx hb dX8_byOf_59 rfl (lv_at hl 1 rfl) ?_
            refine lv_lconst (v := 0) hx hb dX8_byOf_60 (by decide) ?_
            refine W.lcmp hx hb dX8_byOf_61 ?_
            have hj20 : ∀ (z19 : Int32) (H : Heap) (locs : List Loc) (ls : Array Slot), (z19 = kX8_byOf_70_z19 g q) → va_P D vwCl [] H → va_D A [] → va_S A s.heap H locs → lv_has ls 12 [(0, .long g), (2, .long q)] → W p l e ({ frames := 2, cells := 0, slots := 0, locals := 51 }) s m (([.long g, .long q] : List Value).toArray) below meth c H locs 0 0 (MQ below (va_Ql (fun (r : Int64) (_ : Unit) => r = kX8_byOf g q) (sp_B D vwCl A (fun (_ : Unit) => [])) A) ([.long g, .long q] : List Value).toArray s 0 0 A) (F0 m 70 ls [.int z19, .int (kX8_byOf_59_z14 g q)]) := by
              intro z19 H locs ls hz19 hP hD hS hl
              subst z19
              have hj25 : ∀ (z24 : Int32) (H : Heap) (locs : List Loc) (ls : Array Slot), (z24 = kX8_byOf_78_z24 g q) → va_P D vwCl [] H → va_D A [] → va_S A s.heap H locs → lv_has ls 12 [(0, .long g), (2, .long q)] → W p l e ({ frames := 2, cells := 0, slots := 0, locals := 51 }) s m (([.long g, .long q] : List Value).toArray) below meth c H locs 0 0 (MQ below (va_Ql (fun (r : Int64) (_ : Unit) => r = kX8_byOf g q) (sp_B D vwCl A (fun (_ : Unit) => [])) A) ([.long g, .long q] : List Value).toArray s 0 0 A) (F0 m 78 ls [.int z24]) := by
                intro z24 H locs ls hz24 hP hD hS hl
                subst z24
                refine lv_istore (lv' := [(4, .int (kX8_byOf_78_z24 g q)), (0, .long g), (2, .long q)]) hx hb dX8_byOf_78 hl (by decide) rfl (fun ls hl => ?_)
                refine lv_lload_n hx hb dX8_byOf_80 rfl (lv_at hl 1 rfl) ?_
                refine sp_calli (wr := []) (wc := []) hP hD hS hA [] [] rfl rfl (by decide) (by decide) (va_runS (As := [.long g]) (rest := []) ⟨hx, hb, hml, hown, hts⟩ (c_X8_isInfinite l D cI cJ cZ H.size g) (va_cwS 1 hts gX8_byOf_X8_isInfinite_94 rfl rfl rfl (by decide +kernel) ⟨Nat.le_of_ble_eq_true rfl, Nat.le_of_ble_eq_true rfl⟩) (sp_preS [.long g] hK (hP.sub (ws' := []) [] rfl) (hD.sub (ws' := []) [] (by decide) rfl)) rfl rfl hl.1 rfl (lv_room (Nat.le_of_ble_eq_true rfl)) dX8_byOf_81 ⟨Nat.le_of_ble_eq_true rfl, Nat.le_of_ble_eq_true rfl⟩) (fun r26 u27 H locs hw28 hP hD hS => ?_)
                have hq_28_0 : r26 = (kX8_isInfinite g) := hw28
                subst r26
                have hP : va_P D vwCl [] H := hP
                have hD : va_D A [] := hD
                refine lv_if_ne (tgt := 94) hx hb dX8_byOf_84 (by decide) (fun c29 => ?_) (fun c29 => ?_)
                · skip
                  have c29i : ¬ ((kX8_isInfinite g) : Int32).toInt = 0 := fun h => c29 (Int32.toInt_inj.mp h)
                  refine lv_iload hx hb dX8_byOf_94 (lv_at hl 0 rfl) ?_
                  refine lv_ldc2 (v := 2139095040) hx hb hown (hts (.constantLong RX8 68 (2139095040)) (oX8_byOf_in _ (List.mem_of_getElem? (i := 3) rfl))) dX8_byOf_96 ?_
                  refine sp_callj (wr := []) (wc := []) hP hD hS hA [] [] rfl rfl (by decide) (by decide) (va_runS (As := [.int (kX8_byOf_78_z24 g q), .long 2139095040]) (rest := []) ⟨hx, hb, hml, hown, hts⟩ (c_X8_placeOf l D cI cJ cZ H.size (kX8_byOf_78_z24 g q) 2139095040) (va_cwS 2 hts gX8_byOf_X8_placeOf_84 rfl rfl rfl (by decide +kernel) ⟨Nat.le_of_ble_eq_true rfl, Nat.le_of_ble_eq_true rfl⟩) (sp_preS [.int (kX8_byOf_78_z24 g q), .long 2139095040] hK (hP.sub (ws' := []) [] rfl) (hD.sub (ws' := []) [] (by decide) rfl)) rfl rfl hl.1 rfl (lv_room (Nat.le_of_ble_eq_true rfl)) dX8_byOf_99 ⟨Nat.le_of_ble_eq_true rfl, Nat.le_of_ble_eq_true rfl⟩) (fun r30 u31 H locs hw32 hP hD hS => ?_)
                  have hq_32_0 : r30 = (kX8_placeOf (kX8_byOf_78_z24 g q) 2139095040) := hw32
                  subst r30
                  have hP : va_P D vwCl [] H := hP
                  have hD : va_D A [] := hD
                  refine W.widen (k := 0) (n := 0) (by decide) (by decide) ?_
                  exact sp_lret (u := ()) hx hb hr hlocks hS (Eq.symm ((if_neg c1i).trans ((if_neg c2i).trans ((if_pos c6i).trans ((if_pos c10i).trans ((if_neg c29i).trans rfl)))))) (hP.sub [] rfl) (hD.sub [] (by decide) rfl) dX8_byOf_102
                · skip
                  have c29i : ((kX8_isInfinite g) : Int32).toInt = 0 := congrArg Int32.toInt c29
                  refine lv_lload_n hx hb dX8_byOf_87 rfl (lv_at hl 2 rfl) ?_
                  refine sp_calli (wr := []) (wc := []) hP hD hS hA [] [] rfl rfl (by decide) (by decide) (va_runS (As := [.long q]) (rest := []) ⟨hx, hb, hml, hown, hts⟩ (c_X8_isZero l D cI cJ cZ H.size q) (va_cwS 1 hts gX8_byOf_X8_isZero_109 rfl rfl rfl (by decide +kernel) ⟨Nat.le_of_ble_eq_true rfl, Nat.le_of_ble_eq_true rfl⟩) (sp_preS [.long q] hK (hP.sub (ws' := []) [] rfl) (hD.sub (ws' := []) [] (by decide) rfl)) rfl rfl hl.1 rfl (lv_room (Nat.le_of_ble_eq_true rfl)) dX8_byOf_88 ⟨Nat.le_of_ble_eq_true rfl, Nat.le_of_ble_eq_true rfl⟩) (fun r33 u34 H locs hw35 hP hD hS => ?_)
                  obtain ⟨hq_35_0, hm_2_⟩ : r33 = (kX8_isZero q) ∧ _ := hw35
                  subst r33
                  have hm_2_i : (((kX8_isZero q) : Int32).toInt = 1 ∧ ((q : Int64).toInt = 0 ∨ (q : Int64).toInt = -1)) ∨ (((kX8_isZero q) : Int32).toInt = 0 ∧ ¬ ((q : Int64).toInt = 0 ∨ (q : Int64).toInt = -1)) := sp_bool hm_2_
                  have hP : va_P D vwCl [] H := hP
                  have hD : va_D A [] := hD
                  refine lv_if_eq (tgt := 103) hx hb dX8_byOf_91 (by decide) (fun c36 => ?_) (fun c36 => ?_)
                  · skip
                    have c36i : ((kX8_isZero q) : Int32).toInt = 0 := congrArg Int32.toInt c36
                    refine lv_lload_n hx hb dX8_byOf_103 rfl (lv_at hl 1 rfl) ?_
                    refine sp_calli (wr := []) (wc := []) hP hD hS hA [] [] rfl rfl (by decide) (by decide) (va_runS (As := [.long g]) (rest := []) ⟨hx, hb, hml, hown, hts⟩ (c_X8_isZero l D cI cJ cZ H.size g) (va_cwS 1 hts gX8_byOf_X8_isZero_109 rfl rfl rfl (by decide +kernel) ⟨Nat.le_of_ble_eq_true rfl, Nat.le_of_ble_eq_true rfl⟩) (sp_preS [.long g] hK (hP.sub (ws' := []) [] rfl) (hD.sub (ws' := []) [] (by decide) rfl)) rfl rfl hl.1 rfl (lv_room (Nat.le_of_ble_eq_true rfl)) dX8_byOf_104 ⟨Nat.le_of_ble_eq_true rfl, Nat.le_of_ble_eq_true rfl⟩) (fun r37 u38 H locs hw39 hP hD hS => ?_)
                    obtain ⟨hq_39_0, hm_3_⟩ : r37 = (kX8_isZero g) ∧ _ := hw39
                    subst r37
                    have hm_3_i : (((kX8_isZero g) : Int32).toInt = 1 ∧ ((g : Int64).toInt = 0 ∨ (g : Int64).toInt = -1)) ∨ (((kX8_isZero g) : Int32).toInt = 0 ∧ ¬ ((g : Int64).toInt = 0 ∨ (g : Int64).toInt = -1)) := sp_bool hm_3_
                    have hP : va_P D vwCl [] H := hP
                    have hD : va_D A [] := hD
                    refine lv_if_ne (tgt := 117) hx hb dX8_byOf_107 (by decide) (fun c40 => ?_) (fun c40 => ?_)
                    · skip
                      have c40i : ¬ ((kX8_isZero g) : Int32).toInt = 0 := fun h => c40 (Int32.toInt_inj.mp h)
                      refine lv_iload hx hb dX8_byOf_117 (lv_at hl 0 rfl) ?_
                      refine lv_lconst (v := 0) hx hb dX8_byOf_119 (by decide) ?_
                      refine sp_callj (wr := []) (wc := []) hP hD hS hA [] [] rfl rfl (by decide) (by decide) (va_runS (As := [.int (kX8_byOf_78_z24 g q), .long 0]) (rest := []) ⟨hx, hb, hml, hown, hts⟩ (c_X8_placeOf l D cI cJ cZ H.size (kX8_byOf_78_z24 g q) 0) (va_cwS 2 hts gX8_byOf_X8_placeOf_84 rfl rfl rfl (by decide +kernel) ⟨Nat.le_of_ble_eq_true rfl, Nat.le_of_ble_eq_true rfl⟩) (sp_preS [.int (kX8_byOf_78_z24 g q), .long 0] hK (hP.sub (ws' := []) [] rfl) (hD.sub (ws' := []) [] (by decide) rfl)) rfl rfl hl.1 rfl (lv_room (Nat.le_of_ble_eq_true rfl)) dX8_byOf_120 ⟨Nat.le_of_ble_eq_true rfl, Nat.le_of_ble_eq_true rfl⟩) (fun r41 u42 H locs hw43 hP hD hS => ?_)
                      have hq_43_0 : r41 = (kX8_placeOf (kX8_byOf_78_z24 g q) 0) := hw43
                      subst r41
                      have hP : va_P D vwCl [] H := hP
                      have hD : va_D A [] := hD
                      refine W.widen (k := 0) (n := 0) (by decide) (by decide) ?_
                      exact sp_lret (u := ()) hx hb hr hlocks hS (Eq.symm ((if_neg c1i).trans ((if_neg c2i).trans ((if_pos c6i).trans ((if_pos c10i).trans ((if_pos c29i).trans ((if_pos c36i).trans ((if_neg c40i).trans rfl)))))))) (hP.sub [] rfl) (hD.sub [] (by decide) rfl) dX8_byOf_123
                    · skip
                      have c40i : ((kX8_isZero g) : Int32).toInt = 0 := congrArg Int32.toInt c40
                      refine lv_lload_n hx hb dX8_byOf_110 rfl (lv_at hl 2 rfl) ?_
                      refine sp_calli (wr := []) (wc := []) hP hD hS hA [] [] rfl rfl (by decide) (by decide) (va_runS (As := [.long q]) (rest := []) ⟨hx, hb, hml, hown, hts⟩ (c_X8_isInfinite l D cI cJ cZ H.size q) (va_cwS 1 hts gX8_byOf_X8_isInfinite_94 rfl rfl rfl (by decide +kernel) ⟨Nat.le_of_ble_eq_true rfl, Nat.le_of_ble_eq_true rfl⟩) (sp_preS [.long q] hK (hP.sub (ws' := []) [] rfl) (hD.sub (ws' := []) [] (by decide) rfl)) rfl rfl hl.1 rfl (lv_room (Nat.le_of_ble_eq_true rfl)) dX8_byOf_111 ⟨Nat.le_of_ble_eq_true rfl, Nat.le_of_ble_eq_true rfl⟩) (fun r44 u45 H locs hw46 hP hD hS => ?_)
                      have hq_46_0 : r44 = (kX8_isInfinite q) := hw46
                      subst r44
                      have hP : va_P D vwCl [] H := hP
                      have hD : va_D A [] := hD
                      refine lv_if_eq (tgt := 124) hx hb dX8_byOf_114 (by decide) (fun c47 => ?_) (fun c47 => ?_)
                      · skip
                        have c47i : ((kX8_isInfinite q) : Int32).toInt = 0 := congrArg Int32.toInt c47
                        refine lv_lload_n hx hb dX8_byOf_124 rfl (lv_at hl 1 rfl) ?_
                        refine sp_callj (wr := []) (wc := []) hP hD hS hA [] [] rfl rfl (by decide) (by decide) (va_runS (As := [.long g]) (rest := []) ⟨hx, hb, hml, hown, hts⟩ (c_X8_digits l D cI cJ cZ H.size g) (va_cwS 1 hts gX8_byOf_X8_digits_102 rfl rfl rfl (by decide +kernel) ⟨Nat.le_of_ble_eq_true rfl, Nat.le_of_ble_eq_true rfl⟩) (sp_preS [.long g] hK (hP.sub (ws' := []) [] rfl) (hD.sub (ws' := []) [] (by decide) rfl)) rfl rfl hl.1 rfl (lv_room (Nat.le_of_ble_eq_true rfl)) dX8_byOf_125 ⟨Nat.le_of_ble_eq_true rfl, Nat.le_of_ble_eq_true rfl⟩) (fun r48 u49 H locs hw50 hP hD hS => ?_)
                        have hq_50_0 : r48 = (kX8_digits g) := hw50
                        subst r48
                        have hP : va_P D vwCl [] H := hP
                        have hD : va_D A [] := hD
                        refine lv_lstore (lv' := [(5, .long (kX8_digits g)), (4, .int (kX8_byOf_78_z24 g q)), (0, .long g), (2, .long q)]) hx hb dX8_byOf_128 hl (by decide) rfl (fun ls hl => ?_)
                        refine lv_lload_n hx hb dX8_byOf_130 rfl (lv_at hl 2 rfl) ?_
                        refine sp_calli (wr := []) (wc := []) hP hD hS hA [] [] rfl rfl (by decide) (by decide) (va_runS (As := [.long g]) (rest := []) ⟨hx, hb, hml, hown, hts⟩ (c_X8_power l D cI cJ cZ H.size g) (va_cwS 1 hts gX8_byOf_X8_power_98 rfl rfl rfl (by decide +kernel) ⟨Nat.le_of_ble_eq_true rfl, Nat.le_of_ble_eq_true rfl⟩) (sp_preS [.long g] hK (hP.sub (ws' := []) [] rfl) (hD.sub (ws' := []) [] (by decide) rfl)) rfl rfl hl.1 rfl (lv_room (Nat.le_of_ble_eq_true rfl)) dX8_byOf_131 ⟨Nat.le_of_ble_eq_true rfl, Nat.le_of_ble_eq_true rfl⟩) (fun r51 u52 H locs hw53 hP hD hS => ?_)
                        have hq_53_0 : r51 = (kX8_power g) := hw53
                        subst r51
                        have hP : va_P D vwCl [] H := hP
                        have hD : va_D A [] := hD
                        refine lv_istore (lv' := [(7, .int (kX8_power g)), (5, .long (kX8_digits g)), (4, .int (kX8_byOf_78_z24 g q)), (0, .long g), (2, .long q)]) hx hb dX8_byOf_134 hl (by decide) rfl (fun ls hl => ?_)
                        have hdp : 1 ≤ (kX8_digits g : Int64).toInt := kz_dpos (by assumption)
                        exact lp_X8_byOf_136 l D cI cJ cZ g q C0 hA hK 8388610 ((kX8_byOf_78_z24 g q)) ((kX8_digits g)) ((kX8_power g)) _ _ _ (by first | assumption | omega) (kz_dpos (by assumption)) ((if_neg c1i).trans ((if_neg c2i).trans ((if_pos c6i).trans ((if_pos c10i).trans ((if_pos c29i).trans ((if_pos c36i).trans ((if_pos c40i).trans ((if_pos c47i).trans rfl)))))))) (by omega) (hP.sub [] rfl) (hD.sub [] (by decide) rfl) hS (lv_sub hl [3, 4, 2, 1, 0] rfl)
                      · skip
                        have c47i : ¬ ((kX8_isInfinite q) : Int32).toInt = 0 := fun h => c47 (Int32.toInt_inj.mp h)
                        refine lv_iload hx hb dX8_byOf_117 (lv_at hl 0 rfl) ?_
                        refine lv_lconst (v := 0) hx hb dX8_byOf_119 (by decide) ?_
                        refine sp_callj (wr := []) (wc := []) hP hD hS hA [] [] rfl rfl (by decide) (by decide) (va_runS (As := [.int (kX8_byOf_78_z24 g q), .long 0]) (rest := []) ⟨hx, hb, hml, hown, hts⟩ (c_X8_placeOf l D cI cJ cZ H.size (kX8_byOf_78_z24 g q) 0) (va_cwS 2 hts gX8_byOf_X8_placeOf_84 rfl rfl rfl (by decide +kernel) ⟨Nat.le_of_ble_eq_true rfl, Nat.le_of_ble_eq_true rfl⟩) (sp_preS [.int (kX8_byOf_78_z24 g q), .long 0] hK (hP.sub (ws' := []) [] rfl) (hD.sub (ws' := []) [] (by decide) rfl)) rfl rfl hl.1 rfl (lv_room (Nat.le_of_ble_eq_true rfl)) dX8_byOf_120 ⟨Nat.le_of_ble_eq_true rfl, Nat.le_of_ble_eq_true rfl⟩) (fun r54 u55 H locs hw56 hP hD hS => ?_)
                        have hq_56_0 : r54 = (kX8_placeOf (kX8_byOf_78_z24 g q) 0) := hw56
                        subst r54
                        have hP : va_P D vwCl [] H := hP
                        have hD : va_D A [] := hD
                        refine W.widen (k := 0) (n := 0) (by decide) (by decide) ?_
                        exact sp_lret (u := ()) hx hb hr hlocks hS (Eq.symm ((if_neg c1i).trans ((if_neg c2i).trans ((if_pos c6i).trans ((if_pos c10i).trans ((if_pos c29i).trans ((if_pos c36i).trans ((if_pos c40i).trans ((if_neg c47i).trans rfl))))))))) (hP.sub [] rfl) (hD.sub [] (by decide) rfl) dX8_byOf_123
                  · skip
                    have c36i : ¬ ((kX8_isZero q) : Int32).toInt = 0 := fun h => c36 (Int32.toInt_inj.mp h)
                    refine lv_iload hx hb dX8_byOf_94 (lv_at hl 0 rfl) ?_
                    refine lv_ldc2 (v := 2139095040) hx hb hown (hts (.constantLong RX8 68 (2139095040)) (oX8_byOf_in _ (List.mem_of_getElem? (i := 3) rfl))) dX8_byOf_96 ?_
                    refine sp_callj (wr := []) (wc := []) hP hD hS hA [] [] rfl rfl (by decide) (by decide) (va_runS (As := [.int (kX8_byOf_78_z24 g q), .long 2139095040]) (rest := []) ⟨hx, hb, hml, hown, hts⟩ (c_X8_placeOf l D cI cJ cZ H.size (kX8_byOf_78_z24 g q) 2139095040) (va_cwS 2 hts gX8_byOf_X8_placeOf_84 rfl rfl rfl (by decide +kernel) ⟨Nat.le_of_ble_eq_true rfl, Nat.le_of_ble_eq_true rfl⟩) (sp_preS [.int (kX8_byOf_78_z24 g q), .long 2139095040] hK (hP.sub (ws' := []) [] rfl) (hD.sub (ws' := []) [] (by decide) rfl)) rfl rfl hl.1 rfl (lv_room (Nat.le_of_ble_eq_true rfl)) dX8_byOf_99 ⟨Nat.le_of_ble_eq_true rfl, Nat.le_of_ble_eq_true rfl⟩) (fun r57 u58 H locs hw59 hP hD hS => ?_)
                    have hq_59_0 : r57 = (kX8_placeOf (kX8_byOf_78_z24 g q) 2139095040) := hw59
                    subst r57
                    have hP : va_P D vwCl [] H := hP
                    have hD : va_D A [] := hD
                    refine W.widen (k := 0) (n := 0) (by decide) (by decide) ?_
                    exact sp_lret (u := ()) hx hb hr hlocks hS (Eq.symm ((if_neg c1i).trans ((if_neg c2i).trans ((if_pos c6i).trans ((if_pos c10i).trans ((if_pos c29i).trans ((if_neg c36i).trans rfl))))))) (hP.sub [] rfl) (hD.sub [] (by decide) rfl) dX8_byOf_102
              refine lv_icmp_eq (tgt := 77) hx hb dX8_byOf_70 (by decide) (fun c21 => ?_) (fun c21 => ?_)
              · skip
                have c21i : ((kX8_byOf_59_z14 g q) : Int32).toInt = ((kX8_byOf_70_z19 g q) : Int32).toInt := congrArg Int32.toInt c21
                refine lv_iconst (v := 0) hx hb dX8_byOf_77 (by decide) ?_
                exact hj25 (0) _ _ _ (Eq.symm ((if_pos c21i).trans rfl)) (hP.sub [] rfl) (hD.sub [] (by decide) rfl) hS (lv_sub hl [0, 1] rfl)
              · skip
                have c21i : ¬ ((kX8_byOf_59_z14 g q) : Int32).toInt = ((kX8_byOf_70_z19 g q) : Int32).toInt := fun h => c21 (Int32.toInt_inj.mp h)
                refine lv_iconst (v := 1) hx hb dX8_byOf_73 (by decide) ?_
                refine lv_goto (tgt := 78) hx hb dX8_byOf_74 (by decide) ?_
                exact hj25 (1) _ _ _ (Eq.symm ((if_neg c21i).trans rfl)) (hP.sub [] rfl) (hD.sub [] (by decide) rfl) hS (lv_sub hl [0, 1] rfl)
            refine lv_if_ge (tgt := 69) hx hb dX8_byOf_62 (by decide) (fun c16 => ?_) (fun c16 => ?_)
            · skip
              have c16 := (lg_cmp_ge _ _).mp c16
              have c16i : 0 ≤ (q : Int64).toInt := Int64.le_iff_toInt_le.mp c16
              refine lv_iconst (v := 0) hx hb dX8_byOf_69 (by decide) ?_
              exact hj20 (0) _ _ _ (Eq.symm ((if_pos c16i).trans rfl)) (hP.sub [] rfl) (hD.sub [] (by decide) rfl) hS (lv_sub hl [0, 1] rfl)
            · skip
              have c16 := fun h => c16 ((lg_cmp_ge _ _).mpr h)
              have c16i : ¬ 0 ≤ (q : Int64).toInt := fun h => c16 (Int64.le_iff_toInt_le.mpr h)
              refine lv_iconst (v := 1) hx hb dX8_byOf_65 (by decide) ?_
              refine lv_goto (tgt := 70) hx hb dX8_byOf_66 (by decide) ?_
              exact hj20 (1) _ _ _ (Eq.symm ((if_neg c16i).trans rfl)) (hP.sub [] rfl) (hD.sub [] (by decide) rfl) hS (lv_sub hl [0, 1] rfl)
          refine lv_if_ge (tgt := 58) hx hb dX8_byOf_51 (by decide) (fun c11 => ?_) (fun c11 => ?_)
          · skip
            have c11 := (lg_cmp_ge _ _).mp c11
            have c11i : 0 ≤ (g : Int64).toInt := Int64.le_iff_toInt_le.mp c11
            refine lv_iconst (v := 0) hx hb dX8_byOf_58 (by decide) ?_
            exact hj15 (0) _ _ _ (Eq.symm ((if_pos c11i).trans rfl)) (hP.sub [] rfl) (hD.sub [] (by decide) rfl) hS (lv_sub hl [0, 1] rfl)
          · skip
            have c11 := fun h => c11 ((lg_cmp_ge _ _).mpr h)
            have c11i : ¬ 0 ≤ (g : Int64).toInt := fun h => c11 (Int64.le_iff_toInt_le.mpr h)
            refine lv_iconst (v := 1) hx hb dX8_byOf_54 (by decide) ?_
            refine lv_goto (tgt := 59) hx hb dX8_byOf_55 (by decide) ?_
            exact hj15 (1) _ _ _ (Eq.symm ((if_neg c11i).trans rfl)) (hP.sub [] rfl) (hD.sub [] (by decide) rfl) hS (lv_sub hl [0, 1] rfl)
        · skip
          have c10i : ¬ ((kX8_isZero g) : Int32).toInt = 0 := fun h => c10 (Int32.toInt_inj.mp h)
          refine lv_lload_n hx hb dX8_byOf_37 rfl (lv_at hl 1 rfl) ?_
          refine sp_calli (wr := []) (wc := []) hP hD hS hA [] [] rfl rfl (by decide) (by decide) (va_runS (As := [.long q]) (rest := []) ⟨hx, hb, hml, hown, hts⟩ (c_X8_isZero l D cI cJ cZ H.size q) (va_cwS 1 hts gX8_byOf_X8_isZero_109 rfl rfl rfl (by decide +kernel) ⟨Nat.le_of_ble_eq_true rfl, Nat.le_of_ble_eq_true rfl⟩) (sp_preS [.long q] hK (hP.sub (ws' := []) [] rfl) (hD.sub (ws' := []) [] (by decide) rfl)) rfl rfl hl.1 rfl (lv_room (Nat.le_of_ble_eq_true rfl)) dX8_byOf_38 ⟨Nat.le_of_ble_eq_true rfl, Nat.le_of_ble_eq_true rfl⟩) (fun r60 u61 H locs hw62 hP hD hS => ?_)
          obtain ⟨hq_62_0, hm_4_⟩ : r60 = (kX8_isZero q) ∧ _ := hw62
          subst r60
          have hm_4_i : (((kX8_isZero q) : Int32).toInt = 1 ∧ ((q : Int64).toInt = 0 ∨ (q : Int64).toInt = -1)) ∨ (((kX8_isZero q) : Int32).toInt = 0 ∧ ¬ ((q : Int64).toInt = 0 ∨ (q : Int64).toInt = -1)) := sp_bool hm_4_
          have hP : va_P D vwCl [] H := hP
          have hD : va_D A [] := hD
          refine lv_if_eq (tgt := 48) hx hb dX8_byOf_41 (by decide) (fun c63 => ?_) (fun c63 => ?_)
          · skip
            have c63i : ((kX8_isZero q) : Int32).toInt = 0 := congrArg Int32.toInt c63
            refine lv_lload_n hx hb dX8_byOf_48 rfl (lv_at hl 0 rfl) ?_
            refine lv_lconst (v := 0) hx hb dX8_byOf_49 (by decide) ?_
            refine W.lcmp hx hb dX8_byOf_50 ?_
            have hj68 : ∀ (z67 : Int32) (H : Heap) (locs : List Loc) (ls : Array Slot), (z67 = kX8_byOf_59_z14 g q) → va_P D vwCl [] H → va_D A [] → va_S A s.heap H locs → lv_has ls 12 [(0, .long g), (2, .long q)] → W p l e ({ frames := 2, cells := 0, slots := 0, locals := 51 }) s m (([.long g, .long q] : List Value).toArray) below meth c H locs 0 0 (MQ below (va_Ql (fun (r : Int64) (_ : Unit) => r = kX8_byOf g q) (sp_B D vwCl A (fun (_ : Unit) => [])) A) ([.long g, .long q] : List Value).toArray s 0 0 A) (F0 m 59 ls [.int z67]) := by
              intro z67 H locs ls hz67 hP hD hS hl
              subst z67
              refine lv_lload_n hx hb dX8_byOf_59 rfl (lv_at hl 1 rfl) ?_
              refine lv_lconst (v := 0) hx hb dX8_byOf_60 (by decide) ?_
              refine W.lcmp hx hb dX8_byOf_61 ?_
              have hj73 : ∀ (z72 : Int32) (H : Heap) (locs : List Loc) (ls : Array Slot), (z72 = kX8_byOf_70_z19 g q) → va_P D vwCl [] H → va_D A [] → va_S A s.heap H locs → lv_has ls 12 [(0, .long g), (2, .long q)] → W p l e ({ frames := 2, cells := 0, slots := 0, locals := 51 }) s m (([.long g, .long q] : List Value).toArray) below meth c H locs 0 0 (MQ below (va_Ql (fun (r : Int64) (_ : Unit) => r = kX8_byOf g q) (sp_B D vwCl A (fun (_ : Unit) => [])) A) ([.long g, .long q] : List Value).toArray s 0 0 A) (F0 m 70 ls [.int z72, .int (kX8_byOf_59_z14 g q)]) := by
                intro z72 H locs ls hz72 hP hD hS hl
                subst z72
                have hj78 : ∀ (z77 : Int32) (H : Heap) (locs : List Loc) (ls : Array Slot), (z77 = kX8_byOf_78_z24 g q) → va_P D vwCl [] H → va_D A [] → va_S A s.heap H locs → lv_has ls 12 [(0, .long g), (2, .long q)] → W p l e ({ frames := 2, cells := 0, slots := 0, locals := 51 }) s m (([.long g, .long q] : List Value).toArray) below meth c H locs 0 0 (MQ below (va_Ql (fun (r : Int64) (_ : Unit) => r = kX8_byOf g q) (sp_B D vwCl A (fun (_ : Unit) => [])) A) ([.long g, .long q] : List Value).toArray s 0 0 A) (F0 m 78 ls [.int z77]) := by
                  intro z77 H locs ls hz77 hP hD hS hl
                  subst z77
                  refine lv_istore (lv' := [(4, .int (kX8_byOf_78_z24 g q)), (0, .long g), (2, .long q)]) hx hb dX8_byOf_78 hl (by decide) rfl (fun ls hl => ?_)
                  refine lv_lload_n hx hb dX8_byOf_80 rfl (lv_at hl 1 rfl) ?_
                  refine sp_calli (wr := []) (wc := []) hP hD hS hA [] [] rfl rfl (by decide) (by decide) (va_runS (As := [.long g]) (rest := []) ⟨hx, hb, hml, hown, hts⟩ (c_X8_isInfinite l D cI cJ cZ H.size g) (va_cwS 1 hts gX8_byOf_X8_isInfinite_94 rfl rfl rfl (by decide +kernel) ⟨Nat.le_of_ble_eq_true rfl, Nat.le_of_ble_eq_true rfl⟩) (sp_preS [.long g] hK (hP.sub (ws' := []) [] rfl) (hD.sub (ws' := []) [] (by decide) rfl)) rfl rfl hl.1 rfl (lv_room (Nat.le_of_ble_eq_true rfl)) dX8_byOf_81 ⟨Nat.le_of_ble_eq_true rfl, Nat.le_of_ble_eq_true rfl⟩) (fun r79 u80 H locs hw81 hP hD hS => ?_)
                  have hq_81_0 : r79 = (kX8_isInfinite g) := hw81
                  subst r79
                  have hP : va_P D vwCl [] H := hP
                  have hD : va_D A [] := hD
                  refine lv_if_ne (tgt := 94) hx hb dX8_byOf_84 (by decide) (fun c82 => ?_) (fun c82 => ?_)
                  · skip
                    have c82i : ¬ ((kX8_isInfinite g) : Int32).toInt = 0 := fun h => c82 (Int32.toInt_inj.mp h)
                    refine lv_iload hx hb dX8_byOf_94 (lv_at hl 0 rfl) ?_
                    refine lv_ldc2 (v := 2139095040) hx hb hown (hts (.constantLong RX8 68 (2139095040)) (oX8_byOf_in _ (List.mem_of_getElem? (i := 3) rfl))) dX8_byOf_96 ?_
                    refine sp_callj (wr := []) (wc := []) hP hD hS hA [] [] rfl rfl (by decide) (by decide) (va_runS (As := [.int (kX8_byOf_78_z24 g q), .long 2139095040]) (rest := []) ⟨hx, hb, hml, hown, hts⟩ (c_X8_placeOf l D cI cJ cZ H.size (kX8_byOf_78_z24 g q) 2139095040) (va_cwS 2 hts gX8_byOf_X8_placeOf_84 rfl rfl rfl (by decide +kernel) ⟨Nat.le_of_ble_eq_true rfl, Nat.le_of_ble_eq_true rfl⟩) (sp_preS [.int (kX8_byOf_78_z24 g q), .long 2139095040] hK (hP.sub (ws' := []) [] rfl) (hD.sub (ws' := []) [] (by decide) rfl)) rfl rfl hl.1 rfl (lv_room (Nat.le_of_ble_eq_true rfl)) dX8_byOf_99 ⟨Nat.le_of_ble_eq_true rfl, Nat.le_of_ble_eq_true rfl⟩) (fun r83 u84 H locs hw85 hP hD hS => ?_)
                    have hq_85_0 : r83 = (kX8_placeOf (kX8_byOf_78_z24 g q) 2139095040) := hw85
                    subst r83
                    have hP : va_P D vwCl [] H := hP
                    have hD : va_D A [] := hD
                    refine W.widen (k := 0) (n := 0) (by decide) (by decide) ?_
                    exact sp_lret (u := ()) hx hb hr hlocks hS (Eq.symm ((if_neg c1i).trans ((if_neg c2i).trans ((if_pos c6i).trans ((if_neg c10i).trans ((if_pos c63i).trans ((if_neg c82i).trans rfl))))))) (hP.sub [] rfl) (hD.sub [] (by decide) rfl) dX8_byOf_102
                  · skip
                    have c82i : ((kX8_isInfinite g) : Int32).toInt = 0 := congrArg Int32.toInt c82
                    refine lv_lload_n hx hb dX8_byOf_87 rfl (lv_at hl 2 rfl) ?_
                    refine sp_calli (wr := []) (wc := []) hP hD hS hA [] [] rfl rfl (by decide) (by decide) (va_runS (As := [.long q]) (rest := []) ⟨hx, hb, hml, hown, hts⟩ (c_X8_isZero l D cI cJ cZ H.size q) (va_cwS 1 hts gX8_byOf_X8_isZero_109 rfl rfl rfl (by decide +kernel) ⟨Nat.le_of_ble_eq_true rfl, Nat.le_of_ble_eq_true rfl⟩) (sp_preS [.long q] hK (hP.sub (ws' := []) [] rfl) (hD.sub (ws' := []) [] (by decide) rfl)) rfl rfl hl.1 rfl (lv_room (Nat.le_of_ble_eq_true rfl)) dX8_byOf_88 ⟨Nat.le_of_ble_eq_true rfl, Nat.le_of_ble_eq_true rfl⟩) (fun r86 u87 H locs hw88 hP hD hS => ?_)
                    obtain ⟨hq_88_0, hm_5_⟩ : r86 = (kX8_isZero q) ∧ _ := hw88
                    subst r86
                    have hm_5_i : (((kX8_isZero q) : Int32).toInt = 1 ∧ ((q : Int64).toInt = 0 ∨ (q : Int64).toInt = -1)) ∨ (((kX8_isZero q) : Int32).toInt = 0 ∧ ¬ ((q : Int64).toInt = 0 ∨ (q : Int64).toInt = -1)) := sp_bool hm_5_
                    have hP : va_P D vwCl [] H := hP
                    have hD : va_D A [] := hD
                    refine lv_if_eq (tgt := 103) hx hb dX8_byOf_91 (by decide) (fun c89 => ?_) (fun c89 => ?_)
                    · skip
                      have c89i : ((kX8_isZero q) : Int32).toInt = 0 := congrArg Int32.toInt c89
                      refine lv_lload_n hx hb dX8_byOf_103 rfl (lv_at hl 1 rfl) ?_
                      refine sp_calli (wr := []) (wc := []) hP hD hS hA [] [] rfl rfl (by decide) (by decide) (va_runS (As := [.long g]) (rest := []) ⟨hx, hb, hml, hown, hts⟩ (c_X8_isZero l D cI cJ cZ H.size g) (va_cwS 1 hts gX8_byOf_X8_isZero_109 rfl rfl rfl (by decide +kernel) ⟨Nat.le_of_ble_eq_true rfl, Nat.le_of_ble_eq_true rfl⟩) (sp_preS [.long g] hK (hP.sub (ws' := []) [] rfl) (hD.sub (ws' := []) [] (by decide) rfl)) rfl rfl hl.1 rfl (lv_room (Nat.le_of_ble_eq_true rfl)) dX8_byOf_104 ⟨Nat.le_of_ble_eq_true rfl, Nat.le_of_ble_eq_true rfl⟩) (fun r90 u91 H locs hw92 hP hD hS => ?_)
                      obtain ⟨hq_92_0, hm_6_⟩ : r90 = (kX8_isZero g) ∧ _ := hw92
                      subst r90
                      have hm_6_i : (((kX8_isZero g) : Int32).toInt = 1 ∧ ((g : Int64).toInt = 0 ∨ (g : Int64).toInt = -1)) ∨ (((kX8_isZero g) : Int32).toInt = 0 ∧ ¬ ((g : Int64).toInt = 0 ∨ (g : Int64).toInt = -1)) := sp_bool hm_6_
                      have hP : va_P D vwCl [] H := hP
                      have hD : va_D A [] := hD
                      refine lv_if_ne (tgt := 117) hx hb dX8_byOf_107 (by decide) (fun c93 => ?_) (fun c93 => ?_)
                      · skip
                        have c93i : ¬ ((kX8_isZero g) : Int32).toInt = 0 := fun h => c93 (Int32.toInt_inj.mp h)
                        refine lv_iload hx hb dX8_byOf_117 (lv_at hl 0 rfl) ?_
                        refine lv_lconst (v := 0) hx hb dX8_byOf_119 (by decide) ?_
                        refine sp_callj (wr := []) (wc := []) hP hD hS hA [] [] rfl rfl (by decide) (by decide) (va_runS (As := [.int (kX8_byOf_78_z24 g q), .long 0]) (rest := []) ⟨hx, hb, hml, hown, hts⟩ (c_X8_placeOf l D cI cJ cZ H.size (kX8_byOf_78_z24 g q) 0) (va_cwS 2 hts gX8_byOf_X8_placeOf_84 rfl rfl rfl (by decide +kernel) ⟨Nat.le_of_ble_eq_true rfl, Nat.le_of_ble_eq_true rfl⟩) (sp_preS [.int (kX8_byOf_78_z24 g q), .long 0] hK (hP.sub (ws' := []) [] rfl) (hD.sub (ws' := []) [] (by decide) rfl)) rfl rfl hl.1 rfl (lv_room (Nat.le_of_ble_eq_true rfl)) dX8_byOf_120 ⟨Nat.le_of_ble_eq_true rfl, Nat.le_of_ble_eq_true rfl⟩) (fun r94 u95 H locs hw96 hP hD hS => ?_)
                        have hq_96_0 : r94 = (kX8_placeOf (kX8_byOf_78_z24 g q) 0) := hw96
                        subst r94
                        have hP : va_P D vwCl [] H := hP
                        have hD : va_D A [] := hD
                        refine W.widen (k := 0) (n := 0) (by decide) (by decide) ?_
                        exact sp_lret (u := ()) hx hb hr hlocks hS (Eq.symm ((if_neg c1i).trans ((if_neg c2i).trans ((if_pos c6i).trans ((if_neg c10i).trans ((if_pos c63i).trans ((if_pos c82i).trans ((if_pos c89i).trans ((if_neg c93i).trans rfl))))))))) (hP.sub [] rfl) (hD.sub [] (by decide) rfl) dX8_byOf_123
                      · skip
                        have c93i : ((kX8_isZero g) : Int32).toInt = 0 := congrArg Int32.toInt c93
                        refine lv_lload_n hx hb dX8_byOf_110 rfl (lv_at hl 2 rfl) ?_
                        refine sp_calli (wr := []) (wc := []) hP hD hS hA [] [] rfl rfl (by decide) (by decide) (va_runS (As := [.long q]) (rest := []) ⟨hx, hb, hml, hown, hts⟩ (c_X8_isInfinite l D cI cJ cZ H.size q) (va_cwS 1 hts gX8_byOf_X8_isInfinite_94 rfl rfl rfl (by decide +kernel) ⟨Nat.le_of_ble_eq_true rfl, Nat.le_of_ble_eq_true rfl⟩) (sp_preS [.long q] hK (hP.sub (ws' := []) [] rfl) (hD.sub (ws' := []) [] (by decide) rfl)) rfl rfl hl.1 rfl (lv_room (Nat.le_of_ble_eq_true rfl)) dX8_byOf_111 ⟨Nat.le_of_ble_eq_true rfl, Nat.le_of_ble_eq_true rfl⟩) (fun r97 u98 H locs hw99 hP hD hS => ?_)
                        have hq_99_0 : r97 = (kX8_isInfinite q) := hw99
                        subst r97
                        have hP : va_P D vwCl [] H := hP
                        have hD : va_D A [] := hD
                        refine lv_if_eq (tgt := 124) hx hb dX8_byOf_114 (by decide) (fun c100 => ?_) (fun c100 => ?_)
                        · skip
                          have c100i : ((kX8_isInfinite q) : Int32).toInt = 0 := congrArg Int32.toInt c100
                          refine lv_lload_n hx hb dX8_byOf_124 rfl (lv_at hl 1 rfl) ?_
                          refine sp_callj (wr := []) (wc := []) hP hD hS hA [] [] rfl rfl (by decide) (by decide) (va_runS (As := [.long g]) (rest := []) ⟨hx, hb, hml, hown, hts⟩ (c_X8_digits l D cI cJ cZ H.size g) (va_cwS 1 hts gX8_byOf_X8_digits_102 rfl rfl rfl (by decide +kernel) ⟨Nat.le_of_ble_eq_true rfl, Nat.le_of_ble_eq_true rfl⟩) (sp_preS [.long g] hK (hP.sub (ws' := []) [] rfl) (hD.sub (ws' := []) [] (by decide) rfl)) rfl rfl hl.1 rfl (lv_room (Nat.le_of_ble_eq_true rfl)) dX8_byOf_125 ⟨Nat.le_of_ble_eq_true rfl, Nat.le_of_ble_eq_true rfl⟩) (fun r101 u102 H locs hw103 hP hD hS => ?_)
                          have hq_103_0 : r101 = (kX8_digits g) := hw103
                          subst r101
                          have hP : va_P D vwCl [] H := hP
                          have hD : va_D A [] := hD
                          refine lv_lstore (lv' := [(5, .long (kX8_digits g)), (4, .int (kX8_byOf_78_z24 g q)), (0, .long g), (2, .long q)]) hx hb dX8_byOf_128 hl (by decide) rfl (fun ls hl => ?_)
                          refine lv_lload_n hx hb dX8_byOf_130 rfl (lv_at hl 2 rfl) ?_
                          refine sp_calli (wr := []) (wc := []) hP hD hS hA [] [] rfl rfl (by decide) (by decide) (va_runS (As := [.long g]) (rest := []) ⟨hx, hb, hml, hown, hts⟩ (c_X8_power l D cI cJ cZ H.size g) (va_cwS 1 hts gX8_byOf_X8_power_98 rfl rfl rfl (by decide +kernel) ⟨Nat.le_of_ble_eq_true rfl, Nat.le_of_ble_eq_true rfl⟩) (sp_preS [.long g] hK (hP.sub (ws' := []) [] rfl) (hD.sub (ws' := []) [] (by decide) rfl)) rfl rfl hl.1 rfl (lv_room (Nat.le_of_ble_eq_true rfl)) dX8_byOf_131 ⟨Nat.le_of_ble_eq_true rfl, Nat.le_of_ble_eq_true rfl⟩) (fun r104 u105 H locs hw106 hP hD hS => ?_)
                          have hq_106_0 : r104 = (kX8_power g) := hw106
                          subst r104
                          have hP : va_P D vwCl [] H := hP
                          have hD : va_D A [] := hD
                          refine lv_istore (lv' := [(7, .int (kX8_power g)), (5, .long (kX8_digits g)), (4, .int (kX8_byOf_78_z24 g q)), (0, .long g), (2, .long q)]) hx hb dX8_byOf_134 hl (by decide) rfl (fun ls hl => ?_)
                          have hdp : 1 ≤ (kX8_digits g : Int64).toInt := kz_dpos (by assumption)
                          exact lp_X8_byOf_136 l D cI cJ cZ g q C0 hA hK 8388610 ((kX8_byOf_78_z24 g q)) ((kX8_digits g)) ((kX8_power g)) _ _ _ (by first | assumption | omega) (kz_dpos (by assumption)) ((if_neg c1i).trans ((if_neg c2i).trans ((if_pos c6i).trans ((if_neg c10i).trans ((if_pos c63i).trans ((if_pos c82i).trans ((if_pos c89i).trans ((if_pos c93i).trans ((if_pos c100i).trans rfl))))))))) (by omega) (hP.sub [] rfl) (hD.sub [] (by decide) rfl) hS (lv_sub hl [3, 4, 2, 1, 0] rfl)
                        · skip
                          have c100i : ¬ ((kX8_isInfinite q) : Int32).toInt = 0 := fun h => c100 (Int32.toInt_inj.mp h)
                          refine lv_iload hx hb dX8_byOf_117 (lv_at hl 0 rfl) ?_
                          refine lv_lconst (v := 0) hx hb dX8_byOf_119 (by decide) ?_
                          refine sp_callj (wr := []) (wc := []) hP hD hS hA [] [] rfl rfl (by decide) (by decide) (va_runS (As := [.int (kX8_byOf_78_z24 g q), .long 0]) (rest := []) ⟨hx, hb, hml, hown, hts⟩ (c_X8_placeOf l D cI cJ cZ H.size (kX8_byOf_78_z24 g q) 0) (va_cwS 2 hts gX8_byOf_X8_placeOf_84 rfl rfl rfl (by decide +kernel) ⟨Nat.le_of_ble_eq_true rfl, Nat.le_of_ble_eq_true rfl⟩) (sp_preS [.int (kX8_byOf_78_z24 g q), .long 0] hK (hP.sub (ws' := []) [] rfl) (hD.sub (ws' := []) [] (by decide) rfl)) rfl rfl hl.1 rfl (lv_room (Nat.le_of_ble_eq_true rfl)) dX8_byOf_120 ⟨Nat.le_of_ble_eq_true rfl, Nat.le_of_ble_eq_true rfl⟩) (fun r107 u108 H locs hw109 hP hD hS => ?_)
                          have hq_109_0 : r107 = (kX8_placeOf (kX8_byOf_78_z24 g q) 0) := hw109
                          subst r107
                          have hP : va_P D vwCl [] H := hP
                          have hD : va_D A [] := hD
                          refine W.widen (k := 0) (n := 0) (by decide) (by decide) ?_
                          exact sp_lret (u := ()) hx hb hr hlocks hS (Eq.symm ((if_neg c1i).trans ((if_neg c2i).trans ((if_pos c6i).trans ((if_neg c10i).trans ((if_pos c63i).trans ((if_pos c82i).trans ((if_pos c89i).trans ((if_pos c93i).trans ((if_neg c100i).trans rfl)))))))))) (hP.sub [] rfl) (hD.sub [] (by decide) rfl) dX8_byOf_123
                    · skip
                      have c89i : ¬ ((kX8_isZero q) : Int32).toInt = 0 := fun h => c89 (Int32.toInt_inj.mp h)
                      refine lv_iload hx hb dX8_byOf_94 (lv_at hl 0 rfl) ?_
                      refine lv_ldc2 (v := 2139095040) hx hb hown (hts (.constantLong RX8 68 (2139095040)) (oX8_byOf_in _ (List.mem_of_getElem? (i := 3) rfl))) dX8_byOf_96 ?_
                      refine sp_callj (wr := []) (wc := []) hP hD hS hA [] [] rfl rfl (by decide) (by decide) (va_runS (As := [.int (kX8_byOf_78_z24 g q), .long 2139095040]) (rest := []) ⟨hx, hb, hml, hown, hts⟩ (c_X8_placeOf l D cI cJ cZ H.size (kX8_byOf_78_z24 g q) 2139095040) (va_cwS 2 hts gX8_byOf_X8_placeOf_84 rfl rfl rfl (by decide +kernel) ⟨Nat.le_of_ble_eq_true rfl, Nat.le_of_ble_eq_true rfl⟩) (sp_preS [.int (kX8_byOf_78_z24 g q), .long 2139095040] hK (hP.sub (ws' := []) [] rfl) (hD.sub (ws' := []) [] (by decide) rfl)) rfl rfl hl.1 rfl (lv_room (Nat.le_of_ble_eq_true rfl)) dX8_byOf_99 ⟨Nat.le_of_ble_eq_true rfl, Nat.le_of_ble_eq_true rfl⟩) (fun r110 u111 H locs hw112 hP hD hS => ?_)
                      have hq_112_0 : r110 = (kX8_placeOf (kX8_byOf_78_z24 g q) 2139095040) := hw112
                      subst r110
                      have hP : va_P D vwCl [] H := hP
                      have hD : va_D A [] := hD
                      refine W.widen (k := 0) (n := 0) (by decide) (by decide) ?_
                      exact sp_lret (u := ()) hx hb hr hlocks hS (Eq.symm ((if_neg c1i).trans ((if_neg c2i).trans ((if_pos c6i).trans ((if_neg c10i).trans ((if_pos c63i).trans ((if_pos c82i).trans ((if_neg c89i).trans rfl)))))))) (hP.sub [] rfl) (hD.sub [] (by decide) rfl) dX8_byOf_102
                refine lv_icmp_eq (tgt := 77) hx hb dX8_byOf_70 (by decide) (fun c74 => ?_) (fun c74 => ?_)
                · skip
                  have c74i : ((kX8_byOf_59_z14 g q) : Int32).toInt = ((kX8_byOf_70_z19 g q) : Int32).toInt := congrArg Int32.toInt c74
                  refine lv_iconst (v := 0) hx hb dX8_byOf_77 (by decide) ?_
                  exact hj78 (0) _ _ _ (Eq.symm ((if_pos c74i).trans rfl)) (hP.sub [] rfl) (hD.sub [] (by decide) rfl) hS (lv_sub hl [0, 1] rfl)
                · skip
                  have c74i : ¬ ((kX8_byOf_59_z14 g q) : Int32).toInt = ((kX8_byOf_70_z19 g q) : Int32).toInt := fun h => c74 (Int32.toInt_inj.mp h)
                  refine lv_iconst (v := 1) hx hb dX8_byOf_73 (by decide) ?_
                  refine lv_goto (tgt := 78) hx hb dX8_byOf_74 (by decide) ?_
                  exact hj78 (1) _ _ _ (Eq.symm ((if_neg c74i).trans rfl)) (hP.sub [] rfl) (hD.sub [] (by decide) rfl) hS (lv_sub hl [0, 1] rfl)
              refine lv_if_ge (tgt := 69) hx hb dX8_byOf_62 (by decide) (fun c69 => ?_) (fun c69 => ?_)
              · skip
                have c69 := (lg_cmp_ge _ _).mp c69
                have c69i : 0 ≤ (q : Int64).toInt := Int64.le_iff_toInt_le.mp c69
                refine lv_iconst (v := 0) hx hb dX8_byOf_69 (by decide) ?_
                exact hj73 (0) _ _ _ (Eq.symm ((if_pos c69i).trans rfl)) (hP.sub [] rfl) (hD.sub [] (by decide) rfl) hS (lv_sub hl [0, 1] rfl)
              · skip
                have c69 := fun h => c69 ((lg_cmp_ge _ _).mpr h)
                have c69i : ¬ 0 ≤ (q : Int64).toInt := fun h => c69 (Int64.le_iff_toInt_le.mpr h)
                refine lv_iconst (v := 1) hx hb dX8_byOf_65 (by decide) ?_
                refine lv_goto (tgt := 70) hx hb dX8_byOf_66 (by decide) ?_
                exact hj73 (1) _ _ _ (Eq.symm ((if_neg c69i).trans rfl)) (hP.sub [] rfl) (hD.sub [] (by decide) rfl) hS (lv_sub hl [0, 1] rfl)
            refine lv_if_ge (tgt := 58) hx hb dX8_byOf_51 (by decide) (fun c64 => ?_) (fun c64 => ?_)
            · skip
              have c64 := (lg_cmp_ge _ _).mp c64
              have c64i : 0 ≤ (g : Int64).toInt := Int64.le_iff_toInt_le.mp c64
              refine lv_iconst (v := 0) hx hb dX8_byOf_58 (by decide) ?_
              exact hj68 (0) _ _ _ (Eq.symm ((if_pos c64i).trans rfl)) (hP.sub [] rfl) (hD.sub [] (by decide) rfl) hS (lv_sub hl [0, 1] rfl)
            · skip
              have c64 := fun h => c64 ((lg_cmp_ge _ _).mpr h)
              have c64i : ¬ 0 ≤ (g : Int64).toInt := fun h => c64 (Int64.le_iff_toInt_le.mpr h)
              refine lv_iconst (v := 1) hx hb dX8_byOf_54 (by decide) ?_
              refine lv_goto (tgt := 59) hx hb dX8_byOf_55 (by decide) ?_
              exact hj68 (1) _ _ _ (Eq.symm ((if_neg c64i).trans rfl)) (hP.sub [] rfl) (hD.sub [] (by decide) rfl) hS (lv_sub hl [0, 1] rfl)
          · skip
            have c63i : ¬ ((kX8_isZero q) : Int32).toInt = 0 := fun h => c63 (Int32.toInt_inj.mp h)
            refine lv_ldc2 (v := 9000000000) hx hb hown (hts (.constantLong RX8 82 (9000000000)) (oX8_byOf_in _ (List.mem_of_getElem? (i := 2) rfl))) dX8_byOf_44 ?_
            refine W.widen (k := 0) (n := 0) (by decide) (by decide) ?_
            exact sp_lret (u := ()) hx hb hr hlocks hS (Eq.symm ((if_neg c1i).trans ((if_neg c2i).trans ((if_pos c6i).trans ((if_neg c10i).trans ((if_neg c63i).trans rfl)))))) (hP.sub [] rfl) (hD.sub [] (by decide) rfl) dX8_byOf_47
      · skip
        have c6i : ¬ ((kX8_isInfinite g) : Int32).toInt = 0 := fun h => c6 (Int32.toInt_inj.mp h)
        refine lv_lload_n hx hb dX8_byOf_23 rfl (lv_at hl 1 rfl) ?_
        refine sp_calli (wr := []) (wc := []) hP hD hS hA [] [] rfl rfl (by decide) (by decide) (va_runS (As := [.long q]) (rest := []) ⟨hx, hb, hml, hown, hts⟩ (c_X8_isInfinite l D cI cJ cZ H.size q) (va_cwS 1 hts gX8_byOf_X8_isInfinite_94 rfl rfl rfl (by decide +kernel) ⟨Nat.le_of_ble_eq_true rfl, Nat.le_of_ble_eq_true rfl⟩) (sp_preS [.long q] hK (hP.sub (ws' := []) [] rfl) (hD.sub (ws' := []) [] (by decide) rfl)) rfl rfl hl.1 rfl (lv_room (Nat.le_of_ble_eq_true rfl)) dX8_byOf_24 ⟨Nat.le_of_ble_eq_true rfl, Nat.le_of_ble_eq_true rfl⟩) (fun r113 u114 H locs hw115 hP hD hS => ?_)
        have hq_115_0 : r113 = (kX8_isInfinite q) := hw115
        subst r113
        have hP : va_P D vwCl [] H := hP
        have hD : va_D A [] := hD
        refine lv_if_ne (tgt := 44) hx hb dX8_byOf_27 (by decide) (fun c116 => ?_) (fun c116 => ?_)
        · skip
          have c116i : ¬ ((kX8_isInfinite q) : Int32).toInt = 0 := fun h => c116 (Int32.toInt_inj.mp h)
          refine lv_ldc2 (v := 9000000000) hx hb hown (hts (.constantLong RX8 82 (9000000000)) (oX8_byOf_in _ (List.mem_of_getElem? (i := 2) rfl))) dX8_byOf_44 ?_
          refine W.widen (k := 0) (n := 0) (by decide) (by decide) ?_
          exact sp_lret (u := ()) hx hb hr hlocks hS (Eq.symm ((if_neg c1i).trans ((if_neg c2i).trans ((if_neg c6i).trans ((if_neg c116i).trans rfl))))) (hP.sub [] rfl) (hD.sub [] (by decide) rfl) dX8_byOf_47
        · skip
          have c116i : ((kX8_isInfinite q) : Int32).toInt = 0 := congrArg Int32.toInt c116
          refine lv_lload_n hx hb dX8_byOf_30 rfl (lv_at hl 0 rfl) ?_
          refine sp_calli (wr := []) (wc := []) hP hD hS hA [] [] rfl rfl (by decide) (by decide) (va_runS (As := [.long g]) (rest := []) ⟨hx, hb, hml, hown, hts⟩ (c_X8_isZero l D cI cJ cZ H.size g) (va_cwS 1 hts gX8_byOf_X8_isZero_109 rfl rfl rfl (by decide +kernel) ⟨Nat.le_of_ble_eq_true rfl, Nat.le_of_ble_eq_true rfl⟩) (sp_preS [.long g] hK (hP.sub (ws' := []) [] rfl) (hD.sub (ws' := []) [] (by decide) rfl)) rfl rfl hl.1 rfl (lv_room (Nat.le_of_ble_eq_true rfl)) dX8_byOf_31 ⟨Nat.le_of_ble_eq_true rfl, Nat.le_of_ble_eq_true rfl⟩) (fun r117 u118 H locs hw119 hP hD hS => ?_)
          obtain ⟨hq_119_0, hm_7_⟩ : r117 = (kX8_isZero g) ∧ _ := hw119
          subst r117
          have hm_7_i : (((kX8_isZero g) : Int32).toInt = 1 ∧ ((g : Int64).toInt = 0 ∨ (g : Int64).toInt = -1)) ∨ (((kX8_isZero g) : Int32).toInt = 0 ∧ ¬ ((g : Int64).toInt = 0 ∨ (g : Int64).toInt = -1)) := sp_bool hm_7_
          have hP : va_P D vwCl [] H := hP
          have hD : va_D A [] := hD
          refine lv_if_eq (tgt := 48) hx hb dX8_byOf_34 (by decide) (fun c120 => ?_) (fun c120 => ?_)
          · skip
            have c120i : ((kX8_isZero g) : Int32).toInt = 0 := congrArg Int32.toInt c120
            refine lv_lload_n hx hb dX8_byOf_48 rfl (lv_at hl 0 rfl) ?_
            refine lv_lconst (v := 0) hx hb dX8_byOf_49 (by decide) ?_
            refine W.lcmp hx hb dX8_byOf_50 ?_
            have hj125 : ∀ (z124 : Int32) (H : Heap) (locs : List Loc) (ls : Array Slot), (z124 = kX8_byOf_59_z14 g q) → va_P D vwCl [] H → va_D A [] → va_S A s.heap H locs → lv_has ls 12 [(0, .long g), (2, .long q)] → W p l e ({ frames := 2, cells := 0, slots := 0, locals := 51 }) s m (([.long g, .long q] : List Value).toArray) below meth c H locs 0 0 (MQ below (va_Ql (fun (r : Int64) (_ : Unit) => r = kX8_byOf g q) (sp_B D vwCl A (fun (_ : Unit) => [])) A) ([.long g, .long q] : List Value).toArray s 0 0 A) (F0 m 59 ls [.int z124]) := by
              intro z124 H locs ls hz124 hP hD hS hl
              subst z124
              refine lv_lload_n hx hb dX8_byOf_59 rfl (lv_at hl 1 rfl) ?_
              refine lv_lconst (v := 0) hx hb dX8_byOf_60 (by decide) ?_
              refine W.lcmp hx hb dX8_byOf_61 ?_
              have hj130 : ∀ (z129 : Int32) (H : Heap) (locs : List Loc) (ls : Array Slot), (z129 = kX8_byOf_70_z19 g q) → va_P D vwCl [] H → va_D A [] → va_S A s.heap H locs → lv_has ls 12 [(0, .long g), (2, .long q)] → W p l e ({ frames := 2, cells := 0, slots := 0, locals := 51 }) s m (([.long g, .long q] : List Value).toArray) below meth c H locs 0 0 (MQ below (va_Ql (fun (r : Int64) (_ : Unit) => r = kX8_byOf g q) (sp_B D vwCl A (fun (_ : Unit) => [])) A) ([.long g, .long q] : List Value).toArray s 0 0 A) (F0 m 70 ls [.int z129, .int (kX8_byOf_59_z14 g q)]) := by
                intro z129 H locs ls hz129 hP hD hS hl
                subst z129
                have hj135 : ∀ (z134 : Int32) (H : Heap) (locs : List Loc) (ls : Array Slot), (z134 = kX8_byOf_78_z24 g q) → va_P D vwCl [] H → va_D A [] → va_S A s.heap H locs → lv_has ls 12 [(0, .long g), (2, .long q)] → W p l e ({ frames := 2, cells := 0, slots := 0, locals := 51 }) s m (([.long g, .long q] : List Value).toArray) below meth c H locs 0 0 (MQ below (va_Ql (fun (r : Int64) (_ : Unit) => r = kX8_byOf g q) (sp_B D vwCl A (fun (_ : Unit) => [])) A) ([.long g, .long q] : List Value).toArray s 0 0 A) (F0 m 78 ls [.int z134]) := by
                  intro z134 H locs ls hz134 hP hD hS hl
                  subst z134
                  refine lv_istore (lv' := [(4, .int (kX8_byOf_78_z24 g q)), (0, .long g), (2, .long q)]) hx hb dX8_byOf_78 hl (by decide) rfl (fun ls hl => ?_)
                  refine lv_lload_n hx hb dX8_byOf_80 rfl (lv_at hl 1 rfl) ?_
                  refine sp_calli (wr := []) (wc := []) hP hD hS hA [] [] rfl rfl (by decide) (by decide) (va_runS (As := [.long g]) (rest := []) ⟨hx, hb, hml, hown, hts⟩ (c_X8_isInfinite l D cI cJ cZ H.size g) (va_cwS 1 hts gX8_byOf_X8_isInfinite_94 rfl rfl rfl (by decide +kernel) ⟨Nat.le_of_ble_eq_true rfl, Nat.le_of_ble_eq_true rfl⟩) (sp_preS [.long g] hK (hP.sub (ws' := []) [] rfl) (hD.sub (ws' := []) [] (by decide) rfl)) rfl rfl hl.1 rfl (lv_room (Nat.le_of_ble_eq_true rfl)) dX8_byOf_81 ⟨Nat.le_of_ble_eq_true rfl, Nat.le_of_ble_eq_true rfl⟩) (fun r136 u137 H locs hw138 hP hD hS => ?_)
                  have hq_138_0 : r136 = (kX8_isInfinite g) := hw138
                  subst r136
                  have hP : va_P D vwCl [] H := hP
                  have hD : va_D A [] := hD
                  refine lv_if_ne (tgt := 94) hx hb dX8_byOf_84 (by decide) (fun c139 => ?_) (fun c139 => ?_)
                  · skip
                    have c139i : ¬ ((kX8_isInfinite g) : Int32).toInt = 0 := fun h => c139 (Int32.toInt_inj.mp h)
                    refine lv_iload hx hb dX8_byOf_94 (lv_at hl 0 rfl) ?_
                    refine lv_ldc2 (v := 2139095040) hx hb hown (hts (.constantLong RX8 68 (2139095040)) (oX8_byOf_in _ (List.mem_of_getElem? (i := 3) rfl))) dX8_byOf_96 ?_
                    refine sp_callj (wr := []) (wc := []) hP hD hS hA [] [] rfl rfl (by decide) (by decide) (va_runS (As := [.int (kX8_byOf_78_z24 g q), .long 2139095040]) (rest := []) ⟨hx, hb, hml, hown, hts⟩ (c_X8_placeOf l D cI cJ cZ H.size (kX8_byOf_78_z24 g q) 2139095040) (va_cwS 2 hts gX8_byOf_X8_placeOf_84 rfl rfl rfl (by decide +kernel) ⟨Nat.le_of_ble_eq_true rfl, Nat.le_of_ble_eq_true rfl⟩) (sp_preS [.int (kX8_byOf_78_z24 g q), .long 2139095040] hK (hP.sub (ws' := []) [] rfl) (hD.sub (ws' := []) [] (by decide) rfl)) rfl rfl hl.1 rfl (lv_room (Nat.le_of_ble_eq_true rfl)) dX8_byOf_99 ⟨Nat.le_of_ble_eq_true rfl, Nat.le_of_ble_eq_true rfl⟩) (fun r140 u141 H locs hw142 hP hD hS => ?_)
                    have hq_142_0 : r140 = (kX8_placeOf (kX8_byOf_78_z24 g q) 2139095040) := hw142
                    subst r140
                    have hP : va_P D vwCl [] H := hP
                    have hD : va_D A [] := hD
                    refine W.widen (k := 0) (n := 0) (by decide) (by decide) ?_
                    exact sp_lret (u := ()) hx hb hr hlocks hS (Eq.symm ((if_neg c1i).trans ((if_neg c2i).trans ((if_neg c6i).trans ((if_pos c116i).trans ((if_pos c120i).trans ((if_neg c139i).trans rfl))))))) (hP.sub [] rfl) (hD.sub [] (by decide) rfl) dX8_byOf_102
                  · skip
                    have c139i : ((kX8_isInfinite g) : Int32).toInt = 0 := congrArg Int32.toInt c139
                    refine lv_lload_n hx hb dX8_byOf_87 rfl (lv_at hl 2 rfl) ?_
                    refine sp_calli (wr := []) (wc := []) hP hD hS hA [] [] rfl rfl (by decide) (by decide) (va_runS (As := [.long q]) (rest := []) ⟨hx, hb, hml, hown, hts⟩ (c_X8_isZero l D cI cJ cZ H.size q) (va_cwS 1 hts gX8_byOf_X8_isZero_109 rfl rfl rfl (by decide +kernel) ⟨Nat.le_of_ble_eq_true rfl, Nat.le_of_ble_eq_true rfl⟩) (sp_preS [.long q] hK (hP.sub (ws' := []) [] rfl) (hD.sub (ws' := []) [] (by decide) rfl)) rfl rfl hl.1 rfl (lv_room (Nat.le_of_ble_eq_true rfl)) dX8_byOf_88 ⟨Nat.le_of_ble_eq_true rfl, Nat.le_of_ble_eq_true rfl⟩) (fun r143 u144 H locs hw145 hP hD hS => ?_)
                    obtain ⟨hq_145_0, hm_8_⟩ : r143 = (kX8_isZero q) ∧ _ := hw145
                    subst r143
                    have hm_8_i : (((kX8_isZero q) : Int32).toInt = 1 ∧ ((q : Int64).toInt = 0 ∨ (q : Int64).toInt = -1)) ∨ (((kX8_isZero q) : Int32).toInt = 0 ∧ ¬ ((q : Int64).toInt = 0 ∨ (q : Int64).toInt = -1)) := sp_bool hm_8_
                    have hP : va_P D vwCl [] H := hP
                    have hD : va_D A [] := hD
                    refine lv_if_eq (tgt := 103) hx hb dX8_byOf_91 (by decide) (fun c146 => ?_) (fun c146 => ?_)
                    · skip
                      have c146i : ((kX8_isZero q) : Int32).toInt = 0 := congrArg Int32.toInt c146
                      refine lv_lload_n hx hb dX8_byOf_103 rfl (lv_at hl 1 rfl) ?_
                      refine sp_calli (wr := []) (wc := []) hP hD hS hA [] [] rfl rfl (by decide) (by decide) (va_runS (As := [.long g]) (rest := []) ⟨hx, hb, hml, hown, hts⟩ (c_X8_isZero l D cI cJ cZ H.size g) (va_cwS 1 hts gX8_byOf_X8_isZero_109 rfl rfl rfl (by decide +kernel) ⟨Nat.le_of_ble_eq_true rfl, Nat.le_of_ble_eq_true rfl⟩) (sp_preS [.long g] hK (hP.sub (ws' := []) [] rfl) (hD.sub (ws' := []) [] (by decide) rfl)) rfl rfl hl.1 rfl (lv_room (Nat.le_of_ble_eq_true rfl)) dX8_byOf_104 ⟨Nat.le_of_ble_eq_true rfl, Nat.le_of_ble_eq_true rfl⟩) (fun r147 u148 H locs hw149 hP hD hS => ?_)
                      obtain ⟨hq_149_0, hm_9_⟩ : r147 = (kX8_isZero g) ∧ _ := hw149
                      subst r147
                      have hm_9_i : (((kX8_isZero g) : Int32).toInt = 1 ∧ ((g : Int64).toInt = 0 ∨ (g : Int64).toInt = -1)) ∨ (((kX8_isZero g) : Int32).toInt = 0 ∧ ¬ ((g : Int64).toInt = 0 ∨ (g : Int64).toInt = -1)) := sp_bool hm_9_
                      have hP : va_P D vwCl [] H := hP
                      have hD : va_D A [] := hD
                      refine lv_if_ne (tgt := 117) hx hb dX8_byOf_107 (by decide) (fun c150 => ?_) (fun c150 => ?_)
                      · skip
                        have c150i : ¬ ((kX8_isZero g) : Int32).toInt = 0 := fun h => c150 (Int32.toInt_inj.mp h)
                        refine lv_iload hx hb dX8_byOf_117 (lv_at hl 0 rfl) ?_
                        refine lv_lconst (v := 0) hx hb dX8_byOf_119 (by decide) ?_
                        refine sp_callj (wr := []) (wc := []) hP hD hS hA [] [] rfl rfl (by decide) (by decide) (va_runS (As := [.int (kX8_byOf_78_z24 g q), .long 0]) (rest := []) ⟨hx, hb, hml, hown, hts⟩ (c_X8_placeOf l D cI cJ cZ H.size (kX8_byOf_78_z24 g q) 0) (va_cwS 2 hts gX8_byOf_X8_placeOf_84 rfl rfl rfl (by decide +kernel) ⟨Nat.le_of_ble_eq_true rfl, Nat.le_of_ble_eq_true rfl⟩) (sp_preS [.int (kX8_byOf_78_z24 g q), .long 0] hK (hP.sub (ws' := []) [] rfl) (hD.sub (ws' := []) [] (by decide) rfl)) rfl rfl hl.1 rfl (lv_room (Nat.le_of_ble_eq_true rfl)) dX8_byOf_120 ⟨Nat.le_of_ble_eq_true rfl, Nat.le_of_ble_eq_true rfl⟩) (fun r151 u152 H locs hw153 hP hD hS => ?_)
                        have hq_153_0 : r151 = (kX8_placeOf (kX8_byOf_78_z24 g q) 0) := hw153
                        subst r151
                        have hP : va_P D vwCl [] H := hP
                        have hD : va_D A [] := hD
                        refine W.widen (k := 0) (n := 0) (by decide) (by decide) ?_
                        exact sp_lret (u := ()) hx hb hr hlocks hS (Eq.symm ((if_neg c1i).trans ((if_neg c2i).trans ((if_neg c6i).trans ((if_pos c116i).trans ((if_pos c120i).trans ((if_pos c139i).trans ((if_pos c146i).trans ((if_neg c150i).trans rfl))))))))) (hP.sub [] rfl) (hD.sub [] (by decide) rfl) dX8_byOf_123
                      · skip
                        have c150i : ((kX8_isZero g) : Int32).toInt = 0 := congrArg Int32.toInt c150
                        refine lv_lload_n hx hb dX8_byOf_110 rfl (lv_at hl 2 rfl) ?_
                        refine sp_calli (wr := []) (wc := []) hP hD hS hA [] [] rfl rfl (by decide) (by decide) (va_runS (As := [.long q]) (rest := []) ⟨hx, hb, hml, hown, hts⟩ (c_X8_isInfinite l D cI cJ cZ H.size q) (va_cwS 1 hts gX8_byOf_X8_isInfinite_94 rfl rfl rfl (by decide +kernel) ⟨Nat.le_of_ble_eq_true rfl, Nat.le_of_ble_eq_true rfl⟩) (sp_preS [.long q] hK (hP.sub (ws' := []) [] rfl) (hD.sub (ws' := []) [] (by decide) rfl)) rfl rfl hl.1 rfl (lv_room (Nat.le_of_ble_eq_true rfl)) dX8_byOf_111 ⟨Nat.le_of_ble_eq_true rfl, Nat.le_of_ble_eq_true rfl⟩) (fun r154 u155 H locs hw156 hP hD hS => ?_)
                        have hq_156_0 : r154 = (kX8_isInfinite q) := hw156
                        subst r154
                        have hP : va_P D vwCl [] H := hP
                        have hD : va_D A [] := hD
                        refine lv_if_eq (tgt := 124) hx hb dX8_byOf_114 (by decide) (fun c157 => ?_) (fun c157 => ?_)
                        · skip
                          have c157i : ((kX8_isInfinite q) : Int32).toInt = 0 := congrArg Int32.toInt c157
                          refine lv_lload_n hx hb dX8_byOf_124 rfl (lv_at hl 1 rfl) ?_
                          refine sp_callj (wr := []) (wc := []) hP hD hS hA [] [] rfl rfl (by decide) (by decide) (va_runS (As := [.long g]) (rest := []) ⟨hx, hb, hml, hown, hts⟩ (c_X8_digits l D cI cJ cZ H.size g) (va_cwS 1 hts gX8_byOf_X8_digits_102 rfl rfl rfl (by decide +kernel) ⟨Nat.le_of_ble_eq_true rfl, Nat.le_of_ble_eq_true rfl⟩) (sp_preS [.long g] hK (hP.sub (ws' := []) [] rfl) (hD.sub (ws' := []) [] (by decide) rfl)) rfl rfl hl.1 rfl (lv_room (Nat.le_of_ble_eq_true rfl)) dX8_byOf_125 ⟨Nat.le_of_ble_eq_true rfl, Nat.le_of_ble_eq_true rfl⟩) (fun r158 u159 H locs hw160 hP hD hS => ?_)
                          have hq_160_0 : r158 = (kX8_digits g) := hw160
                          subst r158
                          have hP : va_P D vwCl [] H := hP
                          have hD : va_D A [] := hD
                          refine lv_lstore (lv' := [(5, .long (kX8_digits g)), (4, .int (kX8_byOf_78_z24 g q)), (0, .long g), (2, .long q)]) hx hb dX8_byOf_128 hl (by decide) rfl (fun ls hl => ?_)
                          refine lv_lload_n hx hb dX8_byOf_130 rfl (lv_at hl 2 rfl) ?_
                          refine sp_calli (wr := []) (wc := []) hP hD hS hA [] [] rfl rfl (by decide) (by decide) (va_runS (As := [.long g]) (rest := []) ⟨hx, hb, hml, hown, hts⟩ (c_X8_power l D cI cJ cZ H.size g) (va_cwS 1 hts gX8_byOf_X8_power_98 rfl rfl rfl (by decide +kernel) ⟨Nat.le_of_ble_eq_true rfl, Nat.le_of_ble_eq_true rfl⟩) (sp_preS [.long g] hK (hP.sub (ws' := []) [] rfl) (hD.sub (ws' := []) [] (by decide) rfl)) rfl rfl hl.1 rfl (lv_room (Nat.le_of_ble_eq_true rfl)) dX8_byOf_131 ⟨Nat.le_of_ble_eq_true rfl, Nat.le_of_ble_eq_true rfl⟩) (fun r161 u162 H locs hw163 hP hD hS => ?_)
                          have hq_163_0 : r161 = (kX8_power g) := hw163
                          subst r161
                          have hP : va_P D vwCl [] H := hP
                          have hD : va_D A [] := hD
                          refine lv_istore (lv' := [(7, .int (kX8_power g)), (5, .long (kX8_digits g)), (4, .int (kX8_byOf_78_z24 g q)), (0, .long g), (2, .long q)]) hx hb dX8_byOf_134 hl (by decide) rfl (fun ls hl => ?_)
                          have hdp : 1 ≤ (kX8_digits g : Int64).toInt := kz_dpos (by assumption)
                          exact lp_X8_byOf_136 l D cI cJ cZ g q C0 hA hK 8388610 ((kX8_byOf_78_z24 g q)) ((kX8_digits g)) ((kX8_power g)) _ _ _ (by first | assumption | omega) (kz_dpos (by assumption)) ((if_neg c1i).trans ((if_neg c2i).trans ((if_neg c6i).trans ((if_pos c116i).trans ((if_pos c120i).trans ((if_pos c139i).trans ((if_pos c146i).trans ((if_pos c150i).trans ((if_pos c157i).trans rfl))))))))) (by omega) (hP.sub [] rfl) (hD.sub [] (by decide) rfl) hS (lv_sub hl [3, 4, 2, 1, 0] rfl)
                        · skip
                          have c157i : ¬ ((kX8_isInfinite q) : Int32).toInt = 0 := fun h => c157 (Int32.toInt_inj.mp h)
                          refine lv_iload hx hb dX8_byOf_117 (lv_at hl 0 rfl) ?_
                          refine lv_lconst (v := 0) hx hb dX8_byOf_119 (by decide) ?_
                          refine sp_callj (wr := []) (wc := []) hP hD hS hA [] [] rfl rfl (by decide) (by decide) (va_runS (As := [.int (kX8_byOf_78_z24 g q), .long 0]) (rest := []) ⟨hx, hb, hml, hown, hts⟩ (c_X8_placeOf l D cI cJ cZ H.size (kX8_byOf_78_z24 g q) 0) (va_cwS 2 hts gX8_byOf_X8_placeOf_84 rfl rfl rfl (by decide +kernel) ⟨Nat.le_of_ble_eq_true rfl, Nat.le_of_ble_eq_true rfl⟩) (sp_preS [.int (kX8_byOf_78_z24 g q), .long 0] hK (hP.sub (ws' := []) [] rfl) (hD.sub (ws' := []) [] (by decide) rfl)) rfl rfl hl.1 rfl (lv_room (Nat.le_of_ble_eq_true rfl)) dX8_byOf_120 ⟨Nat.le_of_ble_eq_true rfl, Nat.le_of_ble_eq_true rfl⟩) (fun r164 u165 H locs hw166 hP hD hS => ?_)
                          have hq_166_0 : r164 = (kX8_placeOf (kX8_byOf_78_z24 g q) 0) := hw166
                          subst r164
                          have hP : va_P D vwCl [] H := hP
                          have hD : va_D A [] := hD
                          refine W.widen (k := 0) (n := 0) (by decide) (by decide) ?_
                          exact sp_lret (u := ()) hx hb hr hlocks hS (Eq.symm ((if_neg c1i).trans ((if_neg c2i).trans ((if_neg c6i).trans ((if_pos c116i).trans ((if_pos c120i).trans ((if_pos c139i).trans ((if_pos c146i).trans ((if_pos c150i).trans ((if_neg c157i).trans rfl)))))))))) (hP.sub [] rfl) (hD.sub [] (by decide) rfl) dX8_byOf_123
                    · skip
                      have c146i : ¬ ((kX8_isZero q) : Int32).toInt = 0 := fun h => c146 (Int32.toInt_inj.mp h)
                      refine lv_iload hx hb dX8_byOf_94 (lv_at hl 0 rfl) ?_
                      refine lv_ldc2 (v := 2139095040) hx hb hown (hts (.constantLong RX8 68 (2139095040)) (oX8_byOf_in _ (List.mem_of_getElem? (i := 3) rfl))) dX8_byOf_96 ?_
                      refine sp_callj (wr := []) (wc := []) hP hD hS hA [] [] rfl rfl (by decide) (by decide) (va_runS (As := [.int (kX8_byOf_78_z24 g q), .long 2139095040]) (rest := []) ⟨hx, hb, hml, hown, hts⟩ (c_X8_placeOf l D cI cJ cZ H.size (kX8_byOf_78_z24 g q) 2139095040) (va_cwS 2 hts gX8_byOf_X8_placeOf_84 rfl rfl rfl (by decide +kernel) ⟨Nat.le_of_ble_eq_true rfl, Nat.le_of_ble_eq_true rfl⟩) (sp_preS [.int (kX8_byOf_78_z24 g q), .long 2139095040] hK (hP.sub (ws' := []) [] rfl) (hD.sub (ws' := []) [] (by decide) rfl)) rfl rfl hl.1 rfl (lv_room (Nat.le_of_ble_eq_true rfl)) dX8_byOf_99 ⟨Nat.le_of_ble_eq_true rfl, Nat.le_of_ble_eq_true rfl⟩) (fun r167 u168 H locs hw169 hP hD hS => ?_)
                      have hq_169_0 : r167 = (kX8_placeOf (kX8_byOf_78_z24 g q) 2139095040) := hw169
                      subst r167
                      have hP : va_P D vwCl [] H := hP
                      have hD : va_D A [] := hD
                      refine W.widen (k := 0) (n := 0) (by decide) (by decide) ?_
                      exact sp_lret (u := ()) hx hb hr hlocks hS (Eq.symm ((if_neg c1i).trans ((if_neg c2i).trans ((if_neg c6i).trans ((if_pos c116i).trans ((if_pos c120i).trans ((if_pos c139i).trans ((if_neg c146i).trans rfl)))))))) (hP.sub [] rfl) (hD.sub [] (by decide) rfl) dX8_byOf_102
                refine lv_icmp_eq (tgt := 77) hx hb dX8_byOf_70 (by decide) (fun c131 => ?_) (fun c131 => ?_)
                · skip
                  have c131i : ((kX8_byOf_59_z14 g q) : Int32).toInt = ((kX8_byOf_70_z19 g q) : Int32).toInt := congrArg Int32.toInt c131
                  refine lv_iconst (v := 0) hx hb dX8_byOf_77 (by decide) ?_
                  exact hj135 (0) _ _ _ (Eq.symm ((if_pos c131i).trans rfl)) (hP.sub [] rfl) (hD.sub [] (by decide) rfl) hS (lv_sub hl [0, 1] rfl)
                · skip
                  have c131i : ¬ ((kX8_byOf_59_z14 g q) : Int32).toInt = ((kX8_byOf_70_z19 g q) : Int32).toInt := fun h => c131 (Int32.toInt_inj.mp h)
                  refine lv_iconst (v := 1) hx hb dX8_byOf_73 (by decide) ?_
                  refine lv_goto (tgt := 78) hx hb dX8_byOf_74 (by decide) ?_
                  exact hj135 (1) _ _ _ (Eq.symm ((if_neg c131i).trans rfl)) (hP.sub [] rfl) (hD.sub [] (by decide) rfl) hS (lv_sub hl [0, 1] rfl)
              refine lv_if_ge (tgt := 69) hx hb dX8_byOf_62 (by decide) (fun c126 => ?_) (fun c126 => ?_)
              · skip
                have c126 := (lg_cmp_ge _ _).mp c126
                have c126i : 0 ≤ (q : Int64).toInt := Int64.le_iff_toInt_le.mp c126
                refine lv_iconst (v := 0) hx hb dX8_byOf_69 (by decide) ?_
                exact hj130 (0) _ _ _ (Eq.symm ((if_pos c126i).trans rfl)) (hP.sub [] rfl) (hD.sub [] (by decide) rfl) hS (lv_sub hl [0, 1] rfl)
              · skip
                have c126 := fun h => c126 ((lg_cmp_ge _ _).mpr h)
                have c126i : ¬ 0 ≤ (q : Int64).toInt := fun h => c126 (Int64.le_iff_toInt_le.mpr h)
                refine lv_iconst (v := 1) hx hb dX8_byOf_65 (by decide) ?_
                refine lv_goto (tgt := 70) hx hb dX8_byOf_66 (by decide) ?_
                exact hj130 (1) _ _ _ (Eq.symm ((if_neg c126i).trans rfl)) (hP.sub [] rfl) (hD.sub [] (by decide) rfl) hS (lv_sub hl [0, 1] rfl)
            refine lv_if_ge (tgt := 58) hx hb dX8_byOf_51 (by decide) (fun c121 => ?_) (fun c121 => ?_)
            · skip
              have c121 := (lg_cmp_ge _ _).mp c121
              have c121i : 0 ≤ (g : Int64).toInt := Int64.le_iff_toInt_le.mp c121
              refine lv_iconst (v := 0) hx hb dX8_byOf_58 (by decide) ?_
              exact hj125 (0) _ _ _ (Eq.symm ((if_pos c121i).trans rfl)) (hP.sub [] rfl) (hD.sub [] (by decide) rfl) hS (lv_sub hl [0, 1] rfl)
            · skip
              have c121 := fun h => c121 ((lg_cmp_ge _ _).mpr h)
              have c121i : ¬ 0 ≤ (g : Int64).toInt := fun h => c121 (Int64.le_iff_toInt_le.mpr h)
              refine lv_iconst (v := 1) hx hb dX8_byOf_54 (by decide) ?_
              refine lv_goto (tgt := 59) hx hb dX8_byOf_55 (by decide) ?_
              exact hj125 (1) _ _ _ (Eq.symm ((if_neg c121i).trans rfl)) (hP.sub [] rfl) (hD.sub [] (by decide) rfl) hS (lv_sub hl [0, 1] rfl)
          · skip
            have c120i : ¬ ((kX8_isZero g) : Int32).toInt = 0 := fun h => c120 (Int32.toInt_inj.mp h)
            refine lv_lload_n hx hb dX8_byOf_37 rfl (lv_at hl 1 rfl) ?_
            refine sp_calli (wr := []) (wc := []) hP hD hS hA [] [] rfl rfl (by decide) (by decide) (va_runS (As := [.long q]) (rest := []) ⟨hx, hb, hml, hown, hts⟩ (c_X8_isZero l D cI cJ cZ H.size q) (va_cwS 1 hts gX8_byOf_X8_isZero_109 rfl rfl rfl (by decide +kernel) ⟨Nat.le_of_ble_eq_true rfl, Nat.le_of_ble_eq_true rfl⟩) (sp_preS [.long q] hK (hP.sub (ws' := []) [] rfl) (hD.sub (ws' := []) [] (by decide) rfl)) rfl rfl hl.1 rfl (lv_room (Nat.le_of_ble_eq_true rfl)) dX8_byOf_38 ⟨Nat.le_of_ble_eq_true rfl, Nat.le_of_ble_eq_true rfl⟩) (fun r170 u171 H locs hw172 hP hD hS => ?_)
            obtain ⟨hq_172_0, hm_10_⟩ : r170 = (kX8_isZero q) ∧ _ := hw172
            subst r170
            have hm_10_i : (((kX8_isZero q) : Int32).toInt = 1 ∧ ((q : Int64).toInt = 0 ∨ (q : Int64).toInt = -1)) ∨ (((kX8_isZero q) : Int32).toInt = 0 ∧ ¬ ((q : Int64).toInt = 0 ∨ (q : Int64).toInt = -1)) := sp_bool hm_10_
            have hP : va_P D vwCl [] H := hP
            have hD : va_D A [] := hD
            refine lv_if_eq (tgt := 48) hx hb dX8_byOf_41 (by decide) (fun c173 => ?_) (fun c173 => ?_)
            · skip
              have c173i : ((kX8_isZero q) : Int32).toInt = 0 := congrArg Int32.toInt c173
              refine lv_lload_n hx hb dX8_byOf_48 rfl (lv_at hl 0 rfl) ?_
              refine lv_lconst (v := 0) hx hb dX8_byOf_49 (by decide) ?_
              refine W.lcmp hx hb dX8_byOf_50 ?_
              have hj178 : ∀ (z177 : Int32) (H : Heap) (locs : List Loc) (ls : Array Slot), (z177 = kX8_byOf_59_z14 g q) → va_P D vwCl [] H → va_D A [] → va_S A s.heap H locs → lv_has ls 12 [(0, .long g), (2, .long q)] → W p l e ({ frames := 2, cells := 0, slots := 0, locals := 51 }) s m (([.long g, .long q] : List Value).toArray) below meth c H locs 0 0 (MQ below (va_Ql (fun (r : Int64) (_ : Unit) => r = kX8_byOf g q) (sp_B D vwCl A (fun (_ : Unit) => [])) A) ([.long g, .long q] : List Value).toArray s 0 0 A) (F0 m 59 ls [.int z177]) := by
                intro z177 H locs ls hz177 hP hD hS hl
                subst z177
                refine lv_lload_n hx hb dX8_byOf_59 rfl (lv_at hl 1 rfl) ?_
                refine lv_lconst (v := 0) hx hb dX8_byOf_60 (by decide) ?_
                refine W.lcmp hx hb dX8_byOf_61 ?_
                have hj183 : ∀ (z182 : Int32) (H : Heap) (locs : List Loc) (ls : Array Slot), (z182 = kX8_byOf_70_z19 g q) → va_P D vwCl [] H → va_D A [] → va_S A s.heap H locs → lv_has ls 12 [(0, .long g), (2, .long q)] → W p l e ({ frames := 2, cells := 0, slots := 0, locals := 51 }) s m (([.long g, .long q] : List Value).toArray) below meth c H locs 0 0 (MQ below (va_Ql (fun (r : Int64) (_ : Unit) => r = kX8_byOf g q) (sp_B D vwCl A (fun (_ : Unit) => [])) A) ([.long g, .long q] : List Value).toArray s 0 0 A) (F0 m 70 ls [.int z182, .int (kX8_byOf_59_z14 g q)]) := by
                  intro z182 H locs ls hz182 hP hD hS hl
                  subst z182
                  have hj188 : ∀ (z187 : Int32) (H : Heap) (locs : List Loc) (ls : Array Slot), (z187 = kX8_byOf_78_z24 g q) → va_P D vwCl [] H → va_D A [] → va_S A s.heap H locs → lv_has ls 12 [(0, .long g), (2, .long q)] → W p l e ({ frames := 2, cells := 0, slots := 0, locals := 51 }) s m (([.long g, .long q] : List Value).toArray) below meth c H locs 0 0 (MQ below (va_Ql (fun (r : Int64) (_ : Unit) => r = kX8_byOf g q) (sp_B D vwCl A (fun (_ : Unit) => [])) A) ([.long g, .long q] : List Value).toArray s 0 0 A) (F0 m 78 ls [.int z187]) := by
                    intro z187 H locs ls hz187 hP hD hS hl
                    subst z187
                    refine lv_istore (lv' := [(4, .int (kX8_byOf_78_z24 g q)), (0, .long g), (2, .long q)]) hx hb dX8_byOf_78 hl (by decide) rfl (fun ls hl => ?_)
                    refine lv_lload_n hx hb dX8_byOf_80 rfl (lv_at hl 1 rfl) ?_
                    refine sp_calli (wr := []) (wc := []) hP hD hS hA [] [] rfl rfl (by decide) (by decide) (va_runS (As := [.long g]) (rest := []) ⟨hx, hb, hml, hown, hts⟩ (c_X8_isInfinite l D cI cJ cZ H.size g) (va_cwS 1 hts gX8_byOf_X8_isInfinite_94 rfl rfl rfl (by decide +kernel) ⟨Nat.le_of_ble_eq_true rfl, Nat.le_of_ble_eq_true rfl⟩) (sp_preS [.long g] hK (hP.sub (ws' := []) [] rfl) (hD.sub (ws' := []) [] (by decide) rfl)) rfl rfl hl.1 rfl (lv_room (Nat.le_of_ble_eq_true rfl)) dX8_byOf_81 ⟨Nat.le_of_ble_eq_true rfl, Nat.le_of_ble_eq_true rfl⟩) (fun r189 u190 H locs hw191 hP hD hS => ?_)
                    have hq_191_0 : r189 = (kX8_isInfinite g) := hw191
                    subst r189
                    have hP : va_P D vwCl [] H := hP
                    have hD : va_D A [] := hD
                    refine lv_if_ne (tgt := 94) hx hb dX8_byOf_84 (by decide) (fun c192 => ?_) (fun c192 => ?_)
                    · skip
                      have c192i : ¬ ((kX8_isInfinite g) : Int32).toInt = 0 := fun h => c192 (Int32.toInt_inj.mp h)
                      refine lv_iload hx hb dX8_byOf_94 (lv_at hl 0 rfl) ?_
                      refine lv_ldc2 (v := 2139095040) hx hb hown (hts (.constantLong RX8 68 (2139095040)) (oX8_byOf_in _ (List.mem_of_getElem? (i := 3) rfl))) dX8_byOf_96 ?_
                      refine sp_callj (wr := []) (wc := []) hP hD hS hA [] [] rfl rfl (by decide) (by decide) (va_runS (As := [.int (kX8_byOf_78_z24 g q), .long 2139095040]) (rest := []) ⟨hx, hb, hml, hown, hts⟩ (c_X8_placeOf l D cI cJ cZ H.size (kX8_byOf_78_z24 g q) 2139095040) (va_cwS 2 hts gX8_byOf_X8_placeOf_84 rfl rfl rfl (by decide +kernel) ⟨Nat.le_of_ble_eq_true rfl, Nat.le_of_ble_eq_true rfl⟩) (sp_preS [.int (kX8_byOf_78_z24 g q), .long 2139095040] hK (hP.sub (ws' := []) [] rfl) (hD.sub (ws' := []) [] (by decide) rfl)) rfl rfl hl.1 rfl (lv_room (Nat.le_of_ble_eq_true rfl)) dX8_byOf_99 ⟨Nat.le_of_ble_eq_true rfl, Nat.le_of_ble_eq_true rfl⟩) (fun r193 u194 H locs hw195 hP hD hS => ?_)
                      have hq_195_0 : r193 = (kX8_placeOf (kX8_byOf_78_z24 g q) 2139095040) := hw195
                      subst r193
                      have hP : va_P D vwCl [] H := hP
                      have hD : va_D A [] := hD
                      refine W.widen (k := 0) (n := 0) (by decide) (by decide) ?_
                      exact sp_lret (u := ()) hx hb hr hlocks hS (Eq.symm ((if_neg c1i).trans ((if_neg c2i).trans ((if_neg c6i).trans ((if_pos c116i).trans ((if_neg c120i).trans ((if_pos c173i).trans ((if_neg c192i).trans rfl)))))))) (hP.sub [] rfl) (hD.sub [] (by decide) rfl) dX8_byOf_102
                    · skip
                      have c192i : ((kX8_isInfinite g) : Int32).toInt = 0 := congrArg Int32.toInt c192
                      refine lv_lload_n hx hb dX8_byOf_87 rfl (lv_at hl 2 rfl) ?_
                      refine sp_calli (wr := []) (wc := []) hP hD hS hA [] [] rfl rfl (by decide) (by decide) (va_runS (As := [.long q]) (rest := []) ⟨hx, hb, hml, hown, hts⟩ (c_X8_isZero l D cI cJ cZ H.size q) (va_cwS 1 hts gX8_byOf_X8_isZero_109 rfl rfl rfl (by decide +kernel) ⟨Nat.le_of_ble_eq_true rfl, Nat.le_of_ble_eq_true rfl⟩) (sp_preS [.long q] hK (hP.sub (ws' := []) [] rfl) (hD.sub (ws' := []) [] (by decide) rfl)) rfl rfl hl.1 rfl (lv_room (Nat.le_of_ble_eq_true rfl)) dX8_byOf_88 ⟨Nat.le_of_ble_eq_true rfl, Nat.le_of_ble_eq_true rfl⟩) (fun r196 u197 H locs hw198 hP hD hS => ?_)
                      obtain ⟨hq_198_0, hm_11_⟩ : r196 = (kX8_isZero q) ∧ _ := hw198
                      subst r196
                      have hm_11_i : (((kX8_isZero q) : Int32).toInt = 1 ∧ ((q : Int64).toInt = 0 ∨ (q : Int64).toInt = -1)) ∨ (((kX8_isZero q) : Int32).toInt = 0 ∧ ¬ ((q : Int64).toInt = 0 ∨ (q : Int64).toInt = -1)) := sp_bool hm_11_
                      have hP : va_P D vwCl [] H := hP
                      have hD : va_D A [] := hD
                      refine lv_if_eq (tgt := 103) hx hb dX8_byOf_91 (by decide) (fun c199 => ?_) (fun c199 => ?_)
                      · skip
                        have c199i : ((kX8_isZero q) : Int32).toInt = 0 := congrArg Int32.toInt c199
                        refine lv_lload_n hx hb dX8_byOf_103 rfl (lv_at hl 1 rfl) ?_
                        refine sp_calli (wr := []) (wc := []) hP hD hS hA [] [] rfl rfl (by decide) (by decide) (va_runS (As := [.long g]) (rest := []) ⟨hx, hb, hml, hown, hts⟩ (c_X8_isZero l D cI cJ cZ H.size g) (va_cwS 1 hts gX8_byOf_X8_isZero_109 rfl rfl rfl (by decide +kernel) ⟨Nat.le_of_ble_eq_true rfl, Nat.le_of_ble_eq_true rfl⟩) (sp_preS [.long g] hK (hP.sub (ws' := []) [] rfl) (hD.sub (ws' := []) [] (by decide) rfl)) rfl rfl hl.1 rfl (lv_room (Nat.le_of_ble_eq_true rfl)) dX8_byOf_104 ⟨Nat.le_of_ble_eq_true rfl, Nat.le_of_ble_eq_true rfl⟩) (fun r200 u201 H locs hw202 hP hD hS => ?_)
                        obtain ⟨hq_202_0, hm_12_⟩ : r200 = (kX8_isZero g) ∧ _ := hw202
                        subst r200
                        have hm_12_i : (((kX8_isZero g) : Int32).toInt = 1 ∧ ((g : Int64).toInt = 0 ∨ (g : Int64).toInt = -1)) ∨ (((kX8_isZero g) : Int32).toInt = 0 ∧ ¬ ((g : Int64).toInt = 0 ∨ (g : Int64).toInt = -1)) := sp_bool hm_12_
                        have hP : va_P D vwCl [] H := hP
                        have hD : va_D A [] := hD
                        refine lv_if_ne (tgt := 117) hx hb dX8_byOf_107 (by decide) (fun c203 => ?_) (fun c203 => ?_)
                        · skip
                          have c203i : ¬ ((kX8_isZero g) : Int32).toInt = 0 := fun h => c203 (Int32.toInt_inj.mp h)
                          refine lv_iload hx hb dX8_byOf_117 (lv_at hl 0 rfl) ?_
                          refine lv_lconst (v := 0) hx hb dX8_byOf_119 (by decide) ?_
                          refine sp_callj (wr := []) (wc := []) hP hD hS hA [] [] rfl rfl (by decide) (by decide) (va_runS (As := [.int (kX8_byOf_78_z24 g q), .long 0]) (rest := []) ⟨hx, hb, hml, hown, hts⟩ (c_X8_placeOf l D cI cJ cZ H.size (kX8_byOf_78_z24 g q) 0) (va_cwS 2 hts gX8_byOf_X8_placeOf_84 rfl rfl rfl (by decide +kernel) ⟨Nat.le_of_ble_eq_true rfl, Nat.le_of_ble_eq_true rfl⟩) (sp_preS [.int (kX8_byOf_78_z24 g q), .long 0] hK (hP.sub (ws' := []) [] rfl) (hD.sub (ws' := []) [] (by decide) rfl)) rfl rfl hl.1 rfl (lv_room (Nat.le_of_ble_eq_true rfl)) dX8_byOf_120 ⟨Nat.le_of_ble_eq_true rfl, Nat.le_of_ble_eq_true rfl⟩) (fun r204 u205 H locs hw206 hP hD hS => ?_)
                          have hq_206_0 : r204 = (kX8_placeOf (kX8_byOf_78_z24 g q) 0) := hw206
                          subst r204
                          have hP : va_P D vwCl [] H := hP
                          have hD : va_D A [] := hD
                          refine W.widen (k := 0) (n := 0) (by decide) (by decide) ?_
                          exact sp_lret (u := ()) hx hb hr hlocks hS (Eq.symm ((if_neg c1i).trans ((if_neg c2i).trans ((if_neg c6i).trans ((if_pos c116i).trans ((if_neg c120i).trans ((if_pos c173i).trans ((if_pos c192i).trans ((if_pos c199i).trans ((if_neg c203i).trans rfl)))))))))) (hP.sub [] rfl) (hD.sub [] (by decide) rfl) dX8_byOf_123
                        · skip
                          have c203i : ((kX8_isZero g) : Int32).toInt = 0 := congrArg Int32.toInt c203
                          refine lv_lload_n hx hb dX8_byOf_110 rfl (lv_at hl 2 rfl) ?_
                          refine sp_calli (wr := []) (wc := []) hP hD hS hA [] [] rfl rfl (by decide) (by decide) (va_runS (As := [.long q]) (rest := []) ⟨hx, hb, hml, hown, hts⟩ (c_X8_isInfinite l D cI cJ cZ H.size q) (va_cwS 1 hts gX8_byOf_X8_isInfinite_94 rfl rfl rfl (by decide +kernel) ⟨Nat.le_of_ble_eq_true rfl, Nat.le_of_ble_eq_true rfl⟩) (sp_preS [.long q] hK (hP.sub (ws' := []) [] rfl) (hD.sub (ws' := []) [] (by decide) rfl)) rfl rfl hl.1 rfl (lv_room (Nat.le_of_ble_eq_true rfl)) dX8_byOf_111 ⟨Nat.le_of_ble_eq_true rfl, Nat.le_of_ble_eq_true rfl⟩) (fun r207 u208 H locs hw209 hP hD hS => ?_)
                          have hq_209_0 : r207 = (kX8_isInfinite q) := hw209
                          subst r207
                          have hP : va_P D vwCl [] H := hP
                          have hD : va_D A [] := hD
                          refine lv_if_eq (tgt := 124) hx hb dX8_byOf_114 (by decide) (fun c210 => ?_) (fun c210 => ?_)
                          · skip
                            have c210i : ((kX8_isInfinite q) : Int32).toInt = 0 := congrArg Int32.toInt c210
                            refine lv_lload_n hx hb dX8_byOf_124 rfl (lv_at hl 1 rfl) ?_
                            refine sp_callj (wr := []) (wc := []) hP hD hS hA [] [] rfl rfl (by decide) (by decide) (va_runS (As := [.long g]) (rest := []) ⟨hx, hb, hml, hown, hts⟩ (c_X8_digits l D cI cJ cZ H.size g) (va_cwS 1 hts gX8_byOf_X8_digits_102 rfl rfl rfl (by decide +kernel) ⟨Nat.le_of_ble_eq_true rfl, Nat.le_of_ble_eq_true rfl⟩) (sp_preS [.long g] hK (hP.sub (ws' := []) [] rfl) (hD.sub (ws' := []) [] (by decide) rfl)) rfl rfl hl.1 rfl (lv_room (Nat.le_of_ble_eq_true rfl)) dX8_byOf_125 ⟨Nat.le_of_ble_eq_true rfl, Nat.le_of_ble_eq_true rfl⟩) (fun r211 u212 H locs hw213 hP hD hS => ?_)
                            have hq_213_0 : r211 = (kX8_digits g) := hw213
                            subst r211
                            have hP : va_P D vwCl [] H := hP
                            have hD : va_D A [] := hD
                            refine lv_lstore (lv' := [(5, .long (kX8_digits g)), (4, .int (kX8_byOf_78_z24 g q)), (0, .long g), (2, .long q)]) hx hb dX8_byOf_128 hl (by decide) rfl (fun ls hl => ?_)
                            refine lv_lload_n hx hb dX8_byOf_130 rfl (lv_at hl 2 rfl) ?_
                            refine sp_calli (wr := []) (wc := []) hP hD hS hA [] [] rfl rfl (by decide) (by decide) (va_runS (As := [.long g]) (rest := []) ⟨hx, hb, hml, hown, hts⟩ (c_X8_power l D cI cJ cZ H.size g) (va_cwS 1 hts gX8_byOf_X8_power_98 rfl rfl rfl (by decide +kernel) ⟨Nat.le_of_ble_eq_true rfl, Nat.le_of_ble_eq_true rfl⟩) (sp_preS [.long g] hK (hP.sub (ws' := []) [] rfl) (hD.sub (ws' := []) [] (by decide) rfl)) rfl rfl hl.1 rfl (lv_room (Nat.le_of_ble_eq_true rfl)) dX8_byOf_131 ⟨Nat.le_of_ble_eq_true rfl, Nat.le_of_ble_eq_true rfl⟩) (fun r214 u215 H locs hw216 hP hD hS => ?_)
                            have hq_216_0 : r214 = (kX8_power g) := hw216
                            subst r214
                            have hP : va_P D vwCl [] H := hP
                            have hD : va_D A [] := hD
                            refine lv_istore (lv' := [(7, .int (kX8_power g)), (5, .long (kX8_digits g)), (4, .int (kX8_byOf_78_z24 g q)), (0, .long g), (2, .long q)]) hx hb dX8_byOf_134 hl (by decide) rfl (fun ls hl => ?_)
                            have hdp : 1 ≤ (kX8_digits g : Int64).toInt := kz_dpos (by assumption)
                            exact lp_X8_byOf_136 l D cI cJ cZ g q C0 hA hK 8388610 ((kX8_byOf_78_z24 g q)) ((kX8_digits g)) ((kX8_power g)) _ _ _ (by first | assumption | omega) (kz_dpos (by assumption)) ((if_neg c1i).trans ((if_neg c2i).trans ((if_neg c6i).trans ((if_pos c116i).trans ((if_neg c120i).trans ((if_pos c173i).trans ((if_pos c192i).trans ((if_pos c199i).trans ((if_pos c203i).trans ((if_pos c210i).trans rfl)))))))))) (by omega) (hP.sub [] rfl) (hD.sub [] (by decide) rfl) hS (lv_sub hl [3, 4, 2, 1, 0] rfl)
                          · skip
                            have c210i : ¬ ((kX8_isInfinite q) : Int32).toInt = 0 := fun h => c210 (Int32.toInt_inj.mp h)
                            refine lv_iload hx hb dX8_byOf_117 (lv_at hl 0 rfl) ?_
                            refine lv_lconst (v := 0) hx hb dX8_byOf_119 (by decide) ?_
                            refine sp_callj (wr := []) (wc := []) hP hD hS hA [] [] rfl rfl (by decide) (by decide) (va_runS (As := [.int (kX8_byOf_78_z24 g q), .long 0]) (rest := []) ⟨hx, hb, hml, hown, hts⟩ (c_X8_placeOf l D cI cJ cZ H.size (kX8_byOf_78_z24 g q) 0) (va_cwS 2 hts gX8_byOf_X8_placeOf_84 rfl rfl rfl (by decide +kernel) ⟨Nat.le_of_ble_eq_true rfl, Nat.le_of_ble_eq_true rfl⟩) (sp_preS [.int (kX8_byOf_78_z24 g q), .long 0] hK (hP.sub (ws' := []) [] rfl) (hD.sub (ws' := []) [] (by decide) rfl)) rfl rfl hl.1 rfl (lv_room (Nat.le_of_ble_eq_true rfl)) dX8_byOf_120 ⟨Nat.le_of_ble_eq_true rfl, Nat.le_of_ble_eq_true rfl⟩) (fun r217 u218 H locs hw219 hP hD hS => ?_)
                            have hq_219_0 : r217 = (kX8_placeOf (kX8_byOf_78_z24 g q) 0) := hw219
                            subst r217
                            have hP : va_P D vwCl [] H := hP
                            have hD : va_D A [] := hD
                            refine W.widen (k := 0) (n := 0) (by decide) (by decide) ?_
                            exact sp_lret (u := ()) hx hb hr hlocks hS (Eq.symm ((if_neg c1i).trans ((if_neg c2i).trans ((if_neg c6i).trans ((if_pos c116i).trans ((if_neg c120i).trans ((if_pos c173i).trans ((if_pos c192i).trans ((if_pos c199i).trans ((if_pos c203i).trans ((if_neg c210i).trans rfl))))))))))) (hP.sub [] rfl) (hD.sub [] (by decide) rfl) dX8_byOf_123
                      · skip
                        have c199i : ¬ ((kX8_isZero q) : Int32).toInt = 0 := fun h => c199 (Int32.toInt_inj.mp h)
                        refine lv_iload hx hb dX8_byOf_94 (lv_at hl 0 rfl) ?_
                        refine lv_ldc2 (v := 2139095040) hx hb hown (hts (.constantLong RX8 68 (2139095040)) (oX8_byOf_in _ (List.mem_of_getElem? (i := 3) rfl))) dX8_byOf_96 ?_
                        refine sp_callj (wr := []) (wc := []) hP hD hS hA [] [] rfl rfl (by decide) (by decide) (va_runS (As := [.int (kX8_byOf_78_z24 g q), .long 2139095040]) (rest := []) ⟨hx, hb, hml, hown, hts⟩ (c_X8_placeOf l D cI cJ cZ H.size (kX8_byOf_78_z24 g q) 2139095040) (va_cwS 2 hts gX8_byOf_X8_placeOf_84 rfl rfl rfl (by decide +kernel) ⟨Nat.le_of_ble_eq_true rfl, Nat.le_of_ble_eq_true rfl⟩) (sp_preS [.int (kX8_byOf_78_z24 g q), .long 2139095040] hK (hP.sub (ws' := []) [] rfl) (hD.sub (ws' := []) [] (by decide) rfl)) rfl rfl hl.1 rfl (lv_room (Nat.le_of_ble_eq_true rfl)) dX8_byOf_99 ⟨Nat.le_of_ble_eq_true rfl, Nat.le_of_ble_eq_true rfl⟩) (fun r220 u221 H locs hw222 hP hD hS => ?_)
                        have hq_222_0 : r220 = (kX8_placeOf (kX8_byOf_78_z24 g q) 2139095040) := hw222
                        subst r220
                        have hP : va_P D vwCl [] H := hP
                        have hD : va_D A [] := hD
                        refine W.widen (k := 0) (n := 0) (by decide) (by decide) ?_
                        exact sp_lret (u := ()) hx hb hr hlocks hS (Eq.symm ((if_neg c1i).trans ((if_neg c2i).trans ((if_neg c6i).trans ((if_pos c116i).trans ((if_neg c120i).trans ((if_pos c173i).trans ((if_pos c192i).trans ((if_neg c199i).trans rfl))))))))) (hP.sub [] rfl) (hD.sub [] (by decide) rfl) dX8_byOf_102
                  refine lv_icmp_eq (tgt := 77) hx hb dX8_byOf_70 (by decide) (fun c184 => ?_) (fun c184 => ?_)
                  · skip
                    have c184i : ((kX8_byOf_59_z14 g q) : Int32).toInt = ((kX8_byOf_70_z19 g q) : Int32).toInt := congrArg Int32.toInt c184
                    refine lv_iconst (v := 0) hx hb dX8_byOf_77 (by decide) ?_
                    exact hj188 (0) _ _ _ (Eq.symm ((if_pos c184i).trans rfl)) (hP.sub [] rfl) (hD.sub [] (by decide) rfl) hS (lv_sub hl [0, 1] rfl)
                  · skip
                    have c184i : ¬ ((kX8_byOf_59_z14 g q) : Int32).toInt = ((kX8_byOf_70_z19 g q) : Int32).toInt := fun h => c184 (Int32.toInt_inj.mp h)
                    refine lv_iconst (v := 1) hx hb dX8_byOf_73 (by decide) ?_
                    refine lv_goto (tgt := 78) hx hb dX8_byOf_74 (by decide) ?_
                    exact hj188 (1) _ _ _ (Eq.symm ((if_neg c184i).trans rfl)) (hP.sub [] rfl) (hD.sub [] (by decide) rfl) hS (lv_sub hl [0, 1] rfl)
                refine lv_if_ge (tgt := 69) hx hb dX8_byOf_62 (by decide) (fun c179 => ?_) (fun c179 => ?_)
                · skip
                  have c179 := (lg_cmp_ge _ _).mp c179
                  have c179i : 0 ≤ (q : Int64).toInt := Int64.le_iff_toInt_le.mp c179
                  refine lv_iconst (v := 0) hx hb dX8_byOf_69 (by decide) ?_
                  exact hj183 (0) _ _ _ (Eq.symm ((if_pos c179i).trans rfl)) (hP.sub [] rfl) (hD.sub [] (by decide) rfl) hS (lv_sub hl [0, 1] rfl)
                · skip
                  have c179 := fun h => c179 ((lg_cmp_ge _ _).mpr h)
                  have c179i : ¬ 0 ≤ (q : Int64).toInt := fun h => c179 (Int64.le_iff_toInt_le.mpr h)
                  refine lv_iconst (v := 1) hx hb dX8_byOf_65 (by decide) ?_
                  refine lv_goto (tgt := 70) hx hb dX8_byOf_66 (by decide) ?_
                  exact hj183 (1) _ _ _ (Eq.symm ((if_neg c179i).trans rfl)) (hP.sub [] rfl) (hD.sub [] (by decide) rfl) hS (lv_sub hl [0, 1] rfl)
              refine lv_if_ge (tgt := 58) hx hb dX8_byOf_51 (by decide) (fun c174 => ?_) (fun c174 => ?_)
              · skip
                have c174 := (lg_cmp_ge _ _).mp c174
                have c174i : 0 ≤ (g : Int64).toInt := Int64.le_iff_toInt_le.mp c174
                refine lv_iconst (v := 0) hx hb dX8_byOf_58 (by decide) ?_
                exact hj178 (0) _ _ _ (Eq.symm ((if_pos c174i).trans rfl)) (hP.sub [] rfl) (hD.sub [] (by decide) rfl) hS (lv_sub hl [0, 1] rfl)
              · skip
                have c174 := fun h => c174 ((lg_cmp_ge _ _).mpr h)
                have c174i : ¬ 0 ≤ (g : Int64).toInt := fun h => c174 (Int64.le_iff_toInt_le.mpr h)
                refine lv_iconst (v := 1) hx hb dX8_byOf_54 (by decide) ?_
                refine lv_goto (tgt := 59) hx hb dX8_byOf_55 (by decide) ?_
                exact hj178 (1) _ _ _ (Eq.symm ((if_neg c174i).trans rfl)) (hP.sub [] rfl) (hD.sub [] (by decide) rfl) hS (lv_sub hl [0, 1] rfl)
            · skip
              have c173i : ¬ ((kX8_isZero q) : Int32).toInt = 0 := fun h => c173 (Int32.toInt_inj.mp h)
              refine lv_ldc2 (v := 9000000000) hx hb hown (hts (.constantLong RX8 82 (9000000000)) (oX8_byOf_in _ (List.mem_of_getElem? (i := 2) rfl))) dX8_byOf_44 ?_
              refine W.widen (k := 0) (n := 0) (by decide) (by decide) ?_
              exact sp_lret (u := ()) hx hb hr hlocks hS (Eq.symm ((if_neg c1i).trans ((if_neg c2i).trans ((if_neg c6i).trans ((if_pos c116i).trans ((if_neg c120i).trans ((if_neg c173i).trans rfl))))))) (hP.sub [] rfl) (hD.sub [] (by decide) rfl) dX8_byOf_47
def oX8_restOf : List Cond := [.constantLong RX8 90 (2), .constantLong RX8 82 (9000000000)]
def wpX8_restOf : List Cond := .code yX8_restOf cX8_restOf 9 (some .long) :: (oX8_restOf ++ ((va_wsS RX8 98 yX8_power wpX8_power) ++ ((va_wsS RX8 105 yX8_pack wpX8_pack) ++ ((va_wsS RX8 94 yX8_isInfinite wpX8_isInfinite) ++ ((va_wsS RX8 109 yX8_isZero wpX8_isZero) ++ ((va_wsS RX8 102 yX8_digits wpX8_digits) ++ ([] : List Cond)))))))
theorem oX8_restOf_in : ∀ w ∈ oX8_restOf, w ∈ wpX8_restOf := fun w h => List.mem_cons_of_mem _ (List.mem_append_left _ h)
theorem gwoX8_restOf : ∀ w ∈ oX8_restOf, goodWord w = true := by decide +kernel
theorem gwX8_restOf : ∀ w ∈ wpX8_restOf, goodWord w = true := by
  unfold wpX8_restOf
  exact List.forall_mem_cons.mpr ⟨rfl, List.forall_mem_append.mpr ⟨gwoX8_restOf, List.forall_mem_append.mpr ⟨(sp_gS gwX8_power), List.forall_mem_append.mpr ⟨(sp_gS gwX8_pack), List.forall_mem_append.mpr ⟨(sp_gS gwX8_isInfinite), List.forall_mem_append.mpr ⟨(sp_gS gwX8_isZero), List.forall_mem_append.mpr ⟨(sp_gS gwX8_digits), fun _ h => absurd h List.not_mem_nil⟩⟩⟩⟩⟩⟩⟩
set_option maxRecDepth 100000 in
theorem toX8_restOf : ∀ w ∈ oX8_restOf, w ∈ lw_tbl := by
  unfold oX8_restOf
  exact List.forall_mem_cons.mpr ⟨(List.mem_of_getElem? (i := 770) (by decide +kernel)), List.forall_mem_cons.mpr ⟨(List.mem_of_getElem? (i := 804) (by decide +kernel)), fun _ h => absurd h List.not_mem_nil⟩⟩
set_option maxRecDepth 100000 in
theorem tX8_restOf : ∀ w ∈ wpX8_restOf, w ∈ lw_tbl := by
  unfold wpX8_restOf
  exact List.forall_mem_cons.mpr ⟨(List.mem_of_getElem? (i := 874) (by rfl)), List.forall_mem_append.mpr ⟨toX8_restOf, List.forall_mem_append.mpr ⟨(sp_tS (List.mem_of_getElem? (i := 840) (by decide +kernel)) (List.mem_of_getElem? (i := 841) (by decide +kernel)) (List.mem_of_getElem? (i := 45) (by decide +kernel)) tX8_power), List.forall_mem_append.mpr ⟨(sp_tS (List.mem_of_getElem? (i := 847) (by decide +kernel)) (List.mem_of_getElem? (i := 848) (by decide +kernel)) (List.mem_of_getElem? (i := 45) (by decide +kernel)) tX8_pack), List.forall_mem_append.mpr ⟨(sp_tS (List.mem_of_getElem? (i := 834) (by decide +kernel)) (List.mem_of_getElem? (i := 835) (by decide +kernel)) (List.mem_of_getElem? (i := 45) (by decide +kernel)) tX8_isInfinite), List.forall_mem_append.mpr ⟨(sp_tS (List.mem_of_getElem? (i := 858) (by decide +kernel)) (List.mem_of_getElem? (i := 859) (by decide +kernel)) (List.mem_of_getElem? (i := 45) (by decide +kernel)) tX8_isZero), List.forall_mem_append.mpr ⟨(sp_tS (List.mem_of_getElem? (i := 844) (by decide +kernel)) (List.mem_of_getElem? (i := 845) (by decide +kernel)) (List.mem_of_getElem? (i := 45) (by decide +kernel)) tX8_digits), fun _ h => absurd h List.not_mem_nil⟩⟩⟩⟩⟩⟩⟩
theorem gX8_restOf_X8_power_98 : GoodIn wpX8_restOf (va_wsS RX8 98 yX8_power wpX8_power) := fun w h => ⟨List.mem_cons_of_mem _ (List.mem_append_right _ (List.mem_append_left _ h)), good_of_word (sp_gS gwX8_power w h)⟩
theorem gX8_restOf_X8_pack_105 : GoodIn wpX8_restOf (va_wsS RX8 105 yX8_pack wpX8_pack) := fun w h => ⟨List.mem_cons_of_mem _ (List.mem_append_right _ (List.mem_append_right _ (List.mem_append_left _ h))), good_of_word (sp_gS gwX8_pack w h)⟩
theorem gX8_restOf_X8_isInfinite_94 : GoodIn wpX8_restOf (va_wsS RX8 94 yX8_isInfinite wpX8_isInfinite) := fun w h => ⟨List.mem_cons_of_mem _ (List.mem_append_right _ (List.mem_append_right _ (List.mem_append_right _ (List.mem_append_left _ h)))), good_of_word (sp_gS gwX8_isInfinite w h)⟩
theorem gX8_restOf_X8_isZero_109 : GoodIn wpX8_restOf (va_wsS RX8 109 yX8_isZero wpX8_isZero) := fun w h => ⟨List.mem_cons_of_mem _ (List.mem_append_right _ (List.mem_append_right _ (List.mem_append_right _ (List.mem_append_right _ (List.mem_append_left _ h))))), good_of_word (sp_gS gwX8_isZero w h)⟩
theorem gX8_restOf_X8_digits_102 : GoodIn wpX8_restOf (va_wsS RX8 102 yX8_digits wpX8_digits) := fun w h => ⟨List.mem_cons_of_mem _ (List.mem_append_right _ (List.mem_append_right _ (List.mem_append_right _ (List.mem_append_right _ (List.mem_append_right _ (List.mem_append_left _ h)))))), good_of_word (sp_gS gwX8_digits w h)⟩
set_option maxHeartbeats 4000000 in
set_option maxRecDepth 100000 in
theorem lp_X8_restOf_87 {p : Program} {e : Env} {s : State} {m : MethodId} {below : List Frame} {meth : Method} {c : Code} {A : Nat → Prop} (l : Launch) (D : va_G) (cI cJ cZ : ClassId) (g : Int64) (q : Int64) (C0 : sp_C cX8_restOf (some .long) 9 wpX8_restOf yX8_restOf.cls yX8_restOf.name p s m ([.long g, .long q] : List Value).toArray meth c) (hA : ∀ q : Nat, s.heap.size ≤ q → A q) (hK : va_K D vwCl [(cI, .int), (cJ, .long), (cZ, .boolean)] s) :
    ∀ (fuel : Nat) (nn : Int64) (rr : Int64) (kk : Int32) (H : Heap) (locs : List Loc) (ls : Array Slot), (¬ (nn : Int64).toInt = 0) → (kX8_restOf g q = kX8_restOf_l87 fuel g q nn rr kk) → ((if (kk : Int32).toInt < 0 then 0 else (kk : Int32).toInt) < (fuel : Int)) → va_P D vwCl [] H → va_D A [] → va_S A s.heap H locs → lv_has ls 9 [(0, .long g), (2, .long q), (4, .long nn), (6, .long rr), (8, .int kk)] → W p l e ({ frames := 2, cells := 0, slots := 0, locals := 51 }) s m (([.long g, .long q] : List Value).toArray) below meth c H locs 0 0 (MQ below (va_Ql (fun (r : Int64) (_ : Unit) => r = kX8_restOf g q) (sp_B D vwCl A (fun (_ : Unit) => [])) A) ([.long g, .long q] : List Value).toArray s 0 0 A) (F0 m 87 ls []) := by
  obtain ⟨hx, hb, hr, hts, hown, hlocks, hml, hin⟩ := id C0
  have hown : s.vm.findClass RX8 = some m.cls := hown
  intro fuel
  induction fuel with
  | zero =>
    intro nn rr kk H locs ls h1 hk_r hm
    exact absurd hm (by omega)
  | succ fuel ih =>
    intro nn rr kk H locs ls h1 hk_r hm hP hD hS hl
    have hrk := px_rng kk
    refine lv_iload hx hb dX8_restOf_87 (lv_at hl 4 rfl) ?_
    refine lv_if_le (tgt := 109) hx hb dX8_restOf_89 (by decide) (fun c1 => ?_) (fun c1 => ?_)
    · skip
      have c1i : (kk : Int32).toInt ≤ 0 := Int32.le_iff_toInt_le.mp c1
      refine lv_lload_n hx hb dX8_restOf_109 rfl (lv_at hl 0 rfl) ?_
      refine lv_lconst (v := 0) hx hb dX8_restOf_110 (by decide) ?_
      refine W.lcmp hx hb dX8_restOf_111 ?_
      have hj8 : ∀ (z7 : Int32) (H : Heap) (locs : List Loc) (ls : Array Slot), (z7 = kX8_restOf_l87_120_z7 g q nn rr kk) → va_P D vwCl [] H → va_D A [] → va_S A s.heap H locs → lv_has ls 9 [(0, .long g), (2, .long q), (4, .long nn), (6, .long rr), (8, .int kk)] → W p l e ({ frames := 2, cells := 0, slots := 0, locals := 51 }) s m (([.long g, .long q] : List Value).toArray) below meth c H locs 0 0 (MQ below (va_Ql (fun (r : Int64) (_ : Unit) => r = kX8_restOf g q) (sp_B D vwCl A (fun (_ : Unit) => [])) A) ([.long g, .long q] : List Value).toArray s 0 0 A) (F0 m 120 ls [.int z7]) := by
        intro z7 H locs ls hz7 hP hD hS hl
        subst z7
        refine lv_lload hx hb dX8_restOf_120 (lv_at hl 3 rfl) ?_
        refine lv_lload_n hx hb dX8_restOf_122 rfl (lv_at hl 1 rfl) ?_
        refine sp_calli (wr := []) (wc := []) hP hD hS hA [] [] rfl rfl (by decide) (by decide) (va_runS (As := [.long q]) (rest := [.long rr, .int (kX8_restOf_l87_120_z7 g q nn rr kk)]) ⟨hx, hb, hml, hown, hts⟩ (c_X8_power l D cI cJ cZ H.size q) (va_cwS 1 hts gX8_restOf_X8_power_98 rfl rfl rfl (by decide +kernel) ⟨Nat.le_of_ble_eq_true rfl, Nat.le_of_ble_eq_true rfl⟩) (sp_preS [.long q] hK (hP.sub (ws' := []) [] rfl) (hD.sub (ws' := []) [] (by decide) rfl)) rfl rfl hl.1 rfl (lv_room (Nat.le_of_ble_eq_true rfl)) dX8_restOf_123 ⟨Nat.le_of_ble_eq_true rfl, Nat.le_of_ble_eq_true rfl⟩) (fun r9 u10 H locs hw11 hP hD hS => ?_)
        have hq_11_0 : r9 = (kX8_power q) := hw11
        subst r9
        have hP : va_P D vwCl [] H := hP
        have hD : va_D A [] := hD
        refine lv_iconst (v := 0) hx hb dX8_restOf_126 (by decide) ?_
        refine sp_callj (wr := []) (wc := []) hP hD hS hA [] [] rfl rfl (by decide) (by decide) (va_runS (As := [.int (kX8_restOf_l87_120_z7 g q nn rr kk), .long rr, .int (kX8_power q), .int 0]) (rest := []) ⟨hx, hb, hml, hown, hts⟩ (c_X8_pack l D cI cJ cZ H.size (kX8_restOf_l87_120_z7 g q nn rr kk) rr (kX8_power q) 0) (va_cwS 4 hts gX8_restOf_X8_pack_105 rfl rfl rfl (by decide +kernel) ⟨Nat.le_of_ble_eq_true rfl, Nat.le_of_ble_eq_true rfl⟩) (sp_preS [.int (kX8_restOf_l87_120_z7 g q nn rr kk), .long rr, .int (kX8_power q), .int 0] hK (hP.sub (ws' := []) [] rfl) (hD.sub (ws' := []) [] (by decide) rfl)) rfl rfl hl.1 rfl (lv_room (Nat.le_of_ble_eq_true rfl)) dX8_restOf_127 ⟨Nat.le_of_ble_eq_true rfl, Nat.le_of_ble_eq_true rfl⟩) (fun r12 u13 H locs hw14 hP hD hS => ?_)
        have hq_14_0 : r12 = (kX8_pack (kX8_restOf_l87_120_z7 g q nn rr kk) rr (kX8_power q) 0) := hw14
        subst r12
        have hP : va_P D vwCl [] H := hP
        have hD : va_D A [] := hD
        refine W.widen (k := 0) (n := 0) (by decide) (by decide) ?_
        exact sp_lret (u := ()) hx hb hr hlocks hS (Eq.symm (hk_r.trans ((if_pos c1i).trans rfl))) (hP.sub [] rfl) (hD.sub [] (by decide) rfl) dX8_restOf_130
      refine lv_if_ge (tgt := 119) hx hb dX8_restOf_112 (by decide) (fun c4 => ?_) (fun c4 => ?_)
      · skip
        have c4 := (lg_cmp_ge _ _).mp c4
        have c4i : 0 ≤ (g : Int64).toInt := Int64.le_iff_toInt_le.mp c4
        refine lv_iconst (v := 0) hx hb dX8_restOf_119 (by decide) ?_
        exact hj8 (0) _ _ _ (Eq.symm ((if_pos c4i).trans rfl)) (hP.sub [] rfl) (hD.sub [] (by decide) rfl) hS (lv_sub hl [0, 1, 2, 3, 4] rfl)
      · skip
        have c4 := fun h => c4 ((lg_cmp_ge _ _).mpr h)
        have c4i : ¬ 0 ≤ (g : Int64).toInt := fun h => c4 (Int64.le_iff_toInt_le.mpr h)
        refine lv_iconst (v := 1) hx hb dX8_restOf_115 (by decide) ?_
        refine lv_goto (tgt := 120) hx hb dX8_restOf_116 (by decide) ?_
        exact hj8 (1) _ _ _ (Eq.symm ((if_neg c4i).trans rfl)) (hP.sub [] rfl) (hD.sub [] (by decide) rfl) hS (lv_sub hl [0, 1, 2, 3, 4] rfl)
    · skip
      have c1i : ¬ (kk : Int32).toInt ≤ 0 := fun h => c1 (Int32.le_iff_toInt_le.mpr h)
      refine lv_lload hx hb dX8_restOf_92 (lv_at hl 3 rfl) ?_
      refine lv_ldc2 (v := 2) hx hb hown (hts (.constantLong RX8 90 (2)) (oX8_restOf_in _ (List.mem_of_getElem? (i := 0) rfl))) dX8_restOf_94 ?_
      refine lv_lmul hx hb dX8_restOf_97 ?_
      refine lv_lload hx hb dX8_restOf_98 (lv_at hl 2 rfl) ?_
      refine lv_lrem hx hb dX8_restOf_100 (fun q => absurd (congrArg Int64.toInt q) (by show ¬ (nn : Int64).toInt = 0; omega)) ?_
      refine lv_lstore (lv' := [(6, .long (kX8_restOf_l87_s101 g q nn rr kk)), (0, .long g), (2, .long q), (4, .long nn), (8, .int kk)]) hx hb dX8_restOf_101 hl (by decide) rfl (fun ls hl => ?_)
      refine lv_iinc (v := (kk + (-1))) (lv' := [(8, .int (kk + (-1))), (6, .long (kX8_restOf_l87_s101 g q nn rr kk)), (0, .long g), (2, .long q), (4, .long nn)]) hx hb dX8_restOf_103 hl (k := 4) rfl rfl (by decide) rfl (fun ls hl => ?_)
      have ii3 : ((kk + (-1)) : Int32).toInt = (kk : Int32).toInt + (-1) := px_iadd (show -2147483648 ≤ (kk : Int32).toInt + (-1) by omega) (show (kk : Int32).toInt + (-1) < 2147483648 by omega)
      refine lv_goto (tgt := 87) hx hb dX8_restOf_106 (by decide) ?_
      have hq2 := px_rng ((kk + (-1)))
      exact ih (nn) ((kX8_restOf_l87_s101 g q nn rr kk)) ((kk + (-1))) _ _ _ (by first | assumption | omega) (hk_r.trans ((if_neg c1i).trans rfl)) (by omega) (hP.sub [] rfl) (hD.sub [] (by decide) rfl) hS (lv_sub hl [2, 3, 4, 1, 0] rfl)
set_option maxHeartbeats 4000000 in
set_option maxRecDepth 100000 in
theorem c_X8_restOf (l : Launch) (D : va_G) (cI cJ cZ : ClassId) (sz : Nat) (g : Int64) (q : Int64) : Met l yX8_restOf wpX8_restOf ({ frames := 2, cells := 0, slots := 0, locals := 51 }) (va_Pc ([.long g, .long q] : List Value) (sp_pre D vwCl (sp_ty cI cJ cZ) [] sz)) (va_Ql (fun (r : Int64) (_ : Unit) => r = kX8_restOf g q) (sp_B D vwCl (va_A [] sz) (fun (_ : Unit) => [])) (va_A [] sz)) 0 0 (va_A [] sz) := by
  refine sp_ofW (Qc := fun A => va_Ql (fun (r : Int64) (_ : Unit) => r = kX8_restOf g q) (sp_B D vwCl A (fun (_ : Unit) => [])) A) (by decide) rfl (Nat.le_of_ble_eq_true rfl) (fun p e s m below meth c A ls H locs C0 hA hS hP hK hD hl => ?_)
  obtain ⟨hx, hb, hr, hts, hown, hlocks, hml, hin⟩ := id C0
  have hown : s.vm.findClass RX8 = some m.cls := hown
  have hl : lv_has ls 9 [(0, .long g), (2, .long q)] := hl
  have hK : va_K D vwCl [(cI, .int), (cJ, .long), (cZ, .boolean)] s := hK
  refine lv_lload_n hx hb dX8_restOf_0 rfl (lv_at hl 0 rfl) ?_
  refine lv_ldc2 (v := 9000000000) hx hb hown (hts (.constantLong RX8 82 (9000000000)) (oX8_restOf_in _ (List.mem_of_getElem? (i := 1) rfl))) dX8_restOf_1 ?_
  refine W.lcmp hx hb dX8_restOf_4 ?_
  refine lv_if_eq (tgt := 30) hx hb dX8_restOf_5 (by decide) (fun c1 => ?_) (fun c1 => ?_)
  · skip
    have c1 := (lg_cmp_eq _ _).mp c1
    have c1i : (g : Int64).toInt = 9000000000 := congrArg Int64.toInt c1
    refine lv_ldc2 (v := 9000000000) hx hb hown (hts (.constantLong RX8 82 (9000000000)) (oX8_restOf_in _ (List.mem_of_getElem? (i := 1) rfl))) dX8_restOf_30 ?_
    refine W.widen (k := 0) (n := 0) (by decide) (by decide) ?_
    exact sp_lret (u := ()) hx hb hr hlocks hS (Eq.symm ((if_pos c1i).trans rfl)) (hP.sub [] rfl) (hD.sub [] (by decide) rfl) dX8_restOf_33
  · skip
    have c1 := fun h => c1 ((lg_cmp_eq _ _).mpr h)
    have c1i : ¬ (g : Int64).toInt = 9000000000 := fun h => c1 (Int64.toInt_inj.mp h)
    refine lv_lload_n hx hb dX8_restOf_8 rfl (lv_at hl 1 rfl) ?_
    refine lv_ldc2 (v := 9000000000) hx hb hown (hts (.constantLong RX8 82 (9000000000)) (oX8_restOf_in _ (List.mem_of_getElem? (i := 1) rfl))) dX8_restOf_9 ?_
    refine W.lcmp hx hb dX8_restOf_12 ?_
    refine lv_if_eq (tgt := 30) hx hb dX8_restOf_13 (by decide) (fun c2 => ?_) (fun c2 => ?_)
    · skip
      have c2 := (lg_cmp_eq _ _).mp c2
      have c2i : (q : Int64).toInt = 9000000000 := congrArg Int64.toInt c2
      refine lv_ldc2 (v := 9000000000) hx hb hown (hts (.constantLong RX8 82 (9000000000)) (oX8_restOf_in _ (List.mem_of_getElem? (i := 1) rfl))) dX8_restOf_30 ?_
      refine W.widen (k := 0) (n := 0) (by decide) (by decide) ?_
      exact sp_lret (u := ()) hx hb hr hlocks hS (Eq.symm ((if_neg c1i).trans ((if_pos c2i).trans rfl))) (hP.sub [] rfl) (hD.sub [] (by decide) rfl) dX8_restOf_33
    · skip
      have c2 := fun h => c2 ((lg_cmp_eq _ _).mpr h)
      have c2i : ¬ (q : Int64).toInt = 9000000000 := fun h => c2 (Int64.toInt_inj.mp h)
      refine lv_lload_n hx hb dX8_restOf_16 rfl (lv_at hl 0 rfl) ?_
      refine sp_calli (wr := []) (wc := []) hP hD hS hA [] [] rfl rfl (by decide) (by decide) (va_runS (As := [.long g]) (rest := []) ⟨hx, hb, hml, hown, hts⟩ (c_X8_isInfinite l D cI cJ cZ H.size g) (va_cwS 1 hts gX8_restOf_X8_isInfinite_94 rfl rfl rfl (by decide +kernel) ⟨Nat.le_of_ble_eq_true rfl, Nat.le_of_ble_eq_true rfl⟩) (sp_preS [.long g] hK (hP.sub (ws' := []) [] rfl) (hD.sub (ws' := []) [] (by decide) rfl)) rfl rfl hl.1 rfl (lv_room (Nat.le_of_ble_eq_true rfl)) dX8_restOf_17 ⟨Nat.le_of_ble_eq_true rfl, Nat.le_of_ble_eq_true rfl⟩) (fun r3 u4 H locs hw5 hP hD hS => ?_)
      have hq_5_0 : r3 = (kX8_isInfinite g) := hw5
      subst r3
      have hP : va_P D vwCl [] H := hP
      have hD : va_D A [] := hD
      refine lv_if_ne (tgt := 30) hx hb dX8_restOf_20 (by decide) (fun c6 => ?_) (fun c6 => ?_)
      · skip
        have c6i : ¬ ((kX8_isInfinite g) : Int32).toInt = 0 := fun h => c6 (Int32.toInt_inj.mp h)
        refine lv_ldc2 (v := 9000000000) hx hb hown (hts (.constantLong RX8 82 (9000000000)) (oX8_restOf_in _ (List.mem_of_getElem? (i := 1) rfl))) dX8_restOf_30 ?_
        refine W.widen (k := 0) (n := 0) (by decide) (by decide) ?_
        exact sp_lret (u := ()) hx hb hr hlocks hS (Eq.symm ((if_neg c1i).trans ((if_neg c2i).trans ((if_neg c6i).trans rfl)))) (hP.sub [] rfl) (hD.sub [] (by decide) rfl) dX8_restOf_33
      · skip
        have c6i : ((kX8_isInfinite g) : Int32).toInt = 0 := congrArg Int32.toInt c6
        refine lv_lload_n hx hb dX8_restOf_23 rfl (lv_at hl 1 rfl) ?_
        refine sp_calli (wr := []) (wc := []) hP hD hS hA [] [] rfl rfl (by decide) (by decide) (va_runS (As := [.long q]) (rest := []) ⟨hx, hb, hml, hown, hts⟩ (c_X8_isZero l D cI cJ cZ H.size q) (va_cwS 1 hts gX8_restOf_X8_isZero_109 rfl rfl rfl (by decide +kernel) ⟨Nat.le_of_ble_eq_true rfl, Nat.le_of_ble_eq_true rfl⟩) (sp_preS [.long q] hK (hP.sub (ws' := []) [] rfl) (hD.sub (ws' := []) [] (by decide) rfl)) rfl rfl hl.1 rfl (lv_room (Nat.le_of_ble_eq_true rfl)) dX8_restOf_24 ⟨Nat.le_of_ble_eq_true rfl, Nat.le_of_ble_eq_true rfl⟩) (fun r7 u8 H locs hw9 hP hD hS => ?_)
        obtain ⟨hq_9_0, hm_1_⟩ : r7 = (kX8_isZero q) ∧ _ := hw9
        subst r7
        have hm_1_i : (((kX8_isZero q) : Int32).toInt = 1 ∧ ((q : Int64).toInt = 0 ∨ (q : Int64).toInt = -1)) ∨ (((kX8_isZero q) : Int32).toInt = 0 ∧ ¬ ((q : Int64).toInt = 0 ∨ (q : Int64).toInt = -1)) := sp_bool hm_1_
        have hP : va_P D vwCl [] H := hP
        have hD : va_D A [] := hD
        refine lv_if_eq (tgt := 34) hx hb dX8_restOf_27 (by decide) (fun c10 => ?_) (fun c10 => ?_)
        · skip
          have c10i : ((kX8_isZero q) : Int32).toInt = 0 := congrArg Int32.toInt c10
          refine lv_lload_n hx hb dX8_restOf_34 rfl (lv_at hl 1 rfl) ?_
          refine sp_calli (wr := []) (wc := []) hP hD hS hA [] [] rfl rfl (by decide) (by decide) (va_runS (As := [.long q]) (rest := []) ⟨hx, hb, hml, hown, hts⟩ (c_X8_isInfinite l D cI cJ cZ H.size q) (va_cwS 1 hts gX8_restOf_X8_isInfinite_94 rfl rfl rfl (by decide +kernel) ⟨Nat.le_of_ble_eq_true rfl, Nat.le_of_ble_eq_true rfl⟩) (sp_preS [.long q] hK (hP.sub (ws' := []) [] rfl) (hD.sub (ws' := []) [] (by decide) rfl)) rfl rfl hl.1 rfl (lv_room (Nat.le_of_ble_eq_true rfl)) dX8_restOf_35 ⟨Nat.le_of_ble_eq_true rfl, Nat.le_of_ble_eq_true rfl⟩) (fun r11 u12 H locs hw13 hP hD hS => ?_)
          have hq_13_0 : r11 = (kX8_isInfinite q) := hw13
          subst r11
          have hP : va_P D vwCl [] H := hP
          have hD : va_D A [] := hD
          refine lv_if_ne (tgt := 59) hx hb dX8_restOf_38 (by decide) (fun c14 => ?_) (fun c14 => ?_)
          · skip
            have c14i : ¬ ((kX8_isInfinite q) : Int32).toInt = 0 := fun h => c14 (Int32.toInt_inj.mp h)
            refine lv_lload_n hx hb dX8_restOf_59 rfl (lv_at hl 0 rfl) ?_
            refine W.widen (k := 0) (n := 0) (by decide) (by decide) ?_
            exact sp_lret (u := ()) hx hb hr hlocks hS (Eq.symm ((if_neg c1i).trans ((if_neg c2i).trans ((if_pos c6i).trans ((if_pos c10i).trans ((if_neg c14i).trans rfl)))))) (hP.sub [] rfl) (hD.sub [] (by decide) rfl) dX8_restOf_60
          · skip
            have c14i : ((kX8_isInfinite q) : Int32).toInt = 0 := congrArg Int32.toInt c14
            refine lv_lload_n hx hb dX8_restOf_41 rfl (lv_at hl 0 rfl) ?_
            refine sp_calli (wr := []) (wc := []) hP hD hS hA [] [] rfl rfl (by decide) (by decide) (va_runS (As := [.long g]) (rest := []) ⟨hx, hb, hml, hown, hts⟩ (c_X8_isZero l D cI cJ cZ H.size g) (va_cwS 1 hts gX8_restOf_X8_isZero_109 rfl rfl rfl (by decide +kernel) ⟨Nat.le_of_ble_eq_true rfl, Nat.le_of_ble_eq_true rfl⟩) (sp_preS [.long g] hK (hP.sub (ws' := []) [] rfl) (hD.sub (ws' := []) [] (by decide) rfl)) rfl rfl hl.1 rfl (lv_room (Nat.le_of_ble_eq_true rfl)) dX8_restOf_42 ⟨Nat.le_of_ble_eq_true rfl, Nat.le_of_ble_eq_true rfl⟩) (fun r15 u16 H locs hw17 hP hD hS => ?_)
            obtain ⟨hq_17_0, hm_2_⟩ : r15 = (kX8_isZero g) ∧ _ := hw17
            subst r15
            have hm_2_i : (((kX8_isZero g) : Int32).toInt = 1 ∧ ((g : Int64).toInt = 0 ∨ (g : Int64).toInt = -1)) ∨ (((kX8_isZero g) : Int32).toInt = 0 ∧ ¬ ((g : Int64).toInt = 0 ∨ (g : Int64).toInt = -1)) := sp_bool hm_2_
            have hP : va_P D vwCl [] H := hP
            have hD : va_D A [] := hD
            refine lv_if_ne (tgt := 59) hx hb dX8_restOf_45 (by decide) (fun c18 => ?_) (fun c18 => ?_)
            · skip
              have c18i : ¬ ((kX8_isZero g) : Int32).toInt = 0 := fun h => c18 (Int32.toInt_inj.mp h)
              refine lv_lload_n hx hb dX8_restOf_59 rfl (lv_at hl 0 rfl) ?_
              refine W.widen (k := 0) (n := 0) (by decide) (by decide) ?_
              exact sp_lret (u := ()) hx hb hr hlocks hS (Eq.symm ((if_neg c1i).trans ((if_neg c2i).trans ((if_pos c6i).trans ((if_pos c10i).trans ((if_pos c14i).trans ((if_neg c18i).trans rfl))))))) (hP.sub [] rfl) (hD.sub [] (by decide) rfl) dX8_restOf_60
            · skip
              have c18i : ((kX8_isZero g) : Int32).toInt = 0 := congrArg Int32.toInt c18
              refine lv_lload_n hx hb dX8_restOf_48 rfl (lv_at hl 0 rfl) ?_
              refine sp_calli (wr := []) (wc := []) hP hD hS hA [] [] rfl rfl (by decide) (by decide) (va_runS (As := [.long g]) (rest := []) ⟨hx, hb, hml, hown, hts⟩ (c_X8_power l D cI cJ cZ H.size g) (va_cwS 1 hts gX8_restOf_X8_power_98 rfl rfl rfl (by decide +kernel) ⟨Nat.le_of_ble_eq_true rfl, Nat.le_of_ble_eq_true rfl⟩) (sp_preS [.long g] hK (hP.sub (ws' := []) [] rfl) (hD.sub (ws' := []) [] (by decide) rfl)) rfl rfl hl.1 rfl (lv_room (Nat.le_of_ble_eq_true rfl)) dX8_restOf_49 ⟨Nat.le_of_ble_eq_true rfl, Nat.le_of_ble_eq_true rfl⟩) (fun r19 u20 H locs hw21 hP hD hS => ?_)
              have hq_21_0 : r19 = (kX8_power g) := hw21
              subst r19
              have hP : va_P D vwCl [] H := hP
              have hD : va_D A [] := hD
              refine lv_lload_n hx hb dX8_restOf_52 rfl (lv_at hl 1 rfl) ?_
              refine sp_calli (wr := []) (wc := []) hP hD hS hA [] [] rfl rfl (by decide) (by decide) (va_runS (As := [.long q]) (rest := [.int (kX8_power g)]) ⟨hx, hb, hml, hown, hts⟩ (c_X8_power l D cI cJ cZ H.size q) (va_cwS 1 hts gX8_restOf_X8_power_98 rfl rfl rfl (by decide +kernel) ⟨Nat.le_of_ble_eq_true rfl, Nat.le_of_ble_eq_true rfl⟩) (sp_preS [.long q] hK (hP.sub (ws' := []) [] rfl) (hD.sub (ws' := []) [] (by decide) rfl)) rfl rfl hl.1 rfl (lv_room (Nat.le_of_ble_eq_true rfl)) dX8_restOf_53 ⟨Nat.le_of_ble_eq_true rfl, Nat.le_of_ble_eq_true rfl⟩) (fun r22 u23 H locs hw24 hP hD hS => ?_)
              have hq_24_0 : r22 = (kX8_power q) := hw24
              subst r22
              have hP : va_P D vwCl [] H := hP
              have hD : va_D A [] := hD
              refine lv_icmp_ge (tgt := 61) hx hb dX8_restOf_56 (by decide) (fun c25 => ?_) (fun c25 => ?_)
              · skip
                have c25i : ((kX8_power q) : Int32).toInt ≤ ((kX8_power g) : Int32).toInt := Int32.le_iff_toInt_le.mp c25
                refine lv_lload_n hx hb dX8_restOf_61 rfl (lv_at hl 1 rfl) ?_
                refine sp_callj (wr := []) (wc := []) hP hD hS hA [] [] rfl rfl (by decide) (by decide) (va_runS (As := [.long q]) (rest := []) ⟨hx, hb, hml, hown, hts⟩ (c_X8_digits l D cI cJ cZ H.size q) (va_cwS 1 hts gX8_restOf_X8_digits_102 rfl rfl rfl (by decide +kernel) ⟨Nat.le_of_ble_eq_true rfl, Nat.le_of_ble_eq_true rfl⟩) (sp_preS [.long q] hK (hP.sub (ws' := []) [] rfl) (hD.sub (ws' := []) [] (by decide) rfl)) rfl rfl hl.1 rfl (lv_room (Nat.le_of_ble_eq_true rfl)) dX8_restOf_62 ⟨Nat.le_of_ble_eq_true rfl, Nat.le_of_ble_eq_true rfl⟩) (fun r26 u27 H locs hw28 hP hD hS => ?_)
                have hq_28_0 : r26 = (kX8_digits q) := hw28
                subst r26
                have hP : va_P D vwCl [] H := hP
                have hD : va_D A [] := hD
                refine lv_lstore (lv' := [(4, .long (kX8_digits q)), (0, .long g), (2, .long q)]) hx hb dX8_restOf_65 hl (by decide) rfl (fun ls hl => ?_)
                refine lv_lload_n hx hb dX8_restOf_67 rfl (lv_at hl 1 rfl) ?_
                refine sp_callj (wr := []) (wc := []) hP hD hS hA [] [] rfl rfl (by decide) (by decide) (va_runS (As := [.long g]) (rest := []) ⟨hx, hb, hml, hown, hts⟩ (c_X8_digits l D cI cJ cZ H.size g) (va_cwS 1 hts gX8_restOf_X8_digits_102 rfl rfl rfl (by decide +kernel) ⟨Nat.le_of_ble_eq_true rfl, Nat.le_of_ble_eq_true rfl⟩) (sp_preS [.long g] hK (hP.sub (ws' := []) [] rfl) (hD.sub (ws' := []) [] (by decide) rfl)) rfl rfl hl.1 rfl (lv_room (Nat.le_of_ble_eq_true rfl)) dX8_restOf_68 ⟨Nat.le_of_ble_eq_true rfl, Nat.le_of_ble_eq_true rfl⟩) (fun r29 u30 H locs hw31 hP hD hS => ?_)
                have hq_31_0 : r29 = (kX8_digits g) := hw31
                subst r29
                have hP : va_P D vwCl [] H := hP
                have hD : va_D A [] := hD
                refine lv_lload hx hb dX8_restOf_71 (lv_at hl 0 rfl) ?_
                refine lv_lrem hx hb dX8_restOf_73 (kz_dnz (by assumption)) ?_
                refine lv_lstore (lv' := [(6, .long (kX8_restOf_s74 g q)), (4, .long (kX8_digits q)), (0, .long g), (2, .long q)]) hx hb dX8_restOf_74 hl (by decide) rfl (fun ls hl => ?_)
                refine lv_lload_n hx hb dX8_restOf_76 rfl (lv_at hl 2 rfl) ?_
                refine sp_calli (wr := []) (wc := []) hP hD hS hA [] [] rfl rfl (by decide) (by decide) (va_runS (As := [.long g]) (rest := []) ⟨hx, hb, hml, hown, hts⟩ (c_X8_power l D cI cJ cZ H.size g) (va_cwS 1 hts gX8_restOf_X8_power_98 rfl rfl rfl (by decide +kernel) ⟨Nat.le_of_ble_eq_true rfl, Nat.le_of_ble_eq_true rfl⟩) (sp_preS [.long g] hK (hP.sub (ws' := []) [] rfl) (hD.sub (ws' := []) [] (by decide) rfl)) rfl rfl hl.1 rfl (lv_room (Nat.le_of_ble_eq_true rfl)) dX8_restOf_77 ⟨Nat.le_of_ble_eq_true rfl, Nat.le_of_ble_eq_true rfl⟩) (fun r32 u33 H locs hw34 hP hD hS => ?_)
                have hq_34_0 : r32 = (kX8_power g) := hw34
                subst r32
                have hP : va_P D vwCl [] H := hP
                have hD : va_D A [] := hD
                refine lv_lload_n hx hb dX8_restOf_80 rfl (lv_at hl 3 rfl) ?_
                refine sp_calli (wr := []) (wc := []) hP hD hS hA [] [] rfl rfl (by decide) (by decide) (va_runS (As := [.long q]) (rest := [.int (kX8_power g)]) ⟨hx, hb, hml, hown, hts⟩ (c_X8_power l D cI cJ cZ H.size q) (va_cwS 1 hts gX8_restOf_X8_power_98 rfl rfl rfl (by decide +kernel) ⟨Nat.le_of_ble_eq_true rfl, Nat.le_of_ble_eq_true rfl⟩) (sp_preS [.long q] hK (hP.sub (ws' := []) [] rfl) (hD.sub (ws' := []) [] (by decide) rfl)) rfl rfl hl.1 rfl (lv_room (Nat.le_of_ble_eq_true rfl)) dX8_restOf_81 ⟨Nat.le_of_ble_eq_true rfl, Nat.le_of_ble_eq_true rfl⟩) (fun r35 u36 H locs hw37 hP hD hS => ?_)
                have hq_37_0 : r35 = (kX8_power q) := hw37
                subst r35
                have hP : va_P D vwCl [] H := hP
                have hD : va_D A [] := hD
                refine lv_isub hx hb dX8_restOf_84 ?_
                refine lv_istore (lv' := [(8, .int (kX8_restOf_s85 g q)), (6, .long (kX8_restOf_s74 g q)), (4, .long (kX8_digits q)), (0, .long g), (2, .long q)]) hx hb dX8_restOf_85 hl (by decide) rfl (fun ls hl => ?_)
                have hq2 := px_rng ((kX8_restOf_s85 g q))
                exact lp_X8_restOf_87 l D cI cJ cZ g q C0 hA hK 2147483650 ((kX8_digits q)) ((kX8_restOf_s74 g q)) ((kX8_restOf_s85 g q)) _ _ _ (kz_dnz' (by assumption)) ((if_neg c1i).trans ((if_neg c2i).trans ((if_pos c6i).trans ((if_pos c10i).trans ((if_pos c14i).trans ((if_pos c18i).trans ((if_pos c25i).trans rfl))))))) (by omega) (hP.sub [] rfl) (hD.sub [] (by decide) rfl) hS (lv_sub hl [3, 4, 2, 1, 0] rfl)
              · skip
                have c25i : ¬ ((kX8_power q) : Int32).toInt ≤ ((kX8_power g) : Int32).toInt := fun h => c25 (Int32.le_iff_toInt_le.mpr h)
                refine lv_lload_n hx hb dX8_restOf_59 rfl (lv_at hl 0 rfl) ?_
                refine W.widen (k := 0) (n := 0) (by decide) (by decide) ?_
                exact sp_lret (u := ()) hx hb hr hlocks hS (Eq.symm ((if_neg c1i).trans ((if_neg c2i).trans ((if_pos c6i).trans ((if_pos c10i).trans ((if_pos c14i).trans ((if_pos c18i).trans ((if_neg c25i).trans rfl)))))))) (hP.sub [] rfl) (hD.sub [] (by decide) rfl) dX8_restOf_60
        · skip
          have c10i : ¬ ((kX8_isZero q) : Int32).toInt = 0 := fun h => c10 (Int32.toInt_inj.mp h)
          refine lv_ldc2 (v := 9000000000) hx hb hown (hts (.constantLong RX8 82 (9000000000)) (oX8_restOf_in _ (List.mem_of_getElem? (i := 1) rfl))) dX8_restOf_30 ?_
          refine W.widen (k := 0) (n := 0) (by decide) (by decide) ?_
          exact sp_lret (u := ()) hx hb hr hlocks hS (Eq.symm ((if_neg c1i).trans ((if_neg c2i).trans ((if_pos c6i).trans ((if_neg c10i).trans rfl))))) (hP.sub [] rfl) (hD.sub [] (by decide) rfl) dX8_restOf_33
def oX8_rootOf : List Cond := [.constantLong RX8 80 (8388608), .constantLong RX8 90 (2), .constantLong RX8 112 (2147483648), .constantLong RX8 82 (9000000000), .constantLong RX8 74 (-1)]
def wpX8_rootOf : List Cond := .code yX8_rootOf cX8_rootOf 10 (some .long) :: (oX8_rootOf ++ ((va_wsS RX8 105 yX8_pack wpX8_pack) ++ ((va_wsS RX8 109 yX8_isZero wpX8_isZero) ++ ((va_wsS RX8 94 yX8_isInfinite wpX8_isInfinite) ++ ((va_wsS RX8 102 yX8_digits wpX8_digits) ++ ((va_wsS RX8 98 yX8_power wpX8_power) ++ ([] : List Cond)))))))
theorem oX8_rootOf_in : ∀ w ∈ oX8_rootOf, w ∈ wpX8_rootOf := fun w h => List.mem_cons_of_mem _ (List.mem_append_left _ h)
theorem gwoX8_rootOf : ∀ w ∈ oX8_rootOf, goodWord w = true := by decide +kernel
theorem gwX8_rootOf : ∀ w ∈ wpX8_rootOf, goodWord w = true := by
  unfold wpX8_rootOf
  exact List.forall_mem_cons.mpr ⟨rfl, List.forall_mem_append.mpr ⟨gwoX8_rootOf, List.forall_mem_append.mpr ⟨(sp_gS gwX8_pack), List.forall_mem_append.mpr ⟨(sp_gS gwX8_isZero), List.forall_mem_append.mpr ⟨(sp_gS gwX8_isInfinite), List.forall_mem_append.mpr ⟨(sp_gS gwX8_digits), List.forall_mem_append.mpr ⟨(sp_gS gwX8_power), fun _ h => absurd h List.not_mem_nil⟩⟩⟩⟩⟩⟩⟩
set_option maxRecDepth 100000 in
theorem toX8_rootOf : ∀ w ∈ oX8_rootOf, w ∈ lw_tbl := by
  unfold oX8_rootOf
  exact List.forall_mem_cons.mpr ⟨(List.mem_of_getElem? (i := 843) (by decide +kernel)), List.forall_mem_cons.mpr ⟨(List.mem_of_getElem? (i := 770) (by decide +kernel)), List.forall_mem_cons.mpr ⟨(List.mem_of_getElem? (i := 818) (by decide +kernel)), List.forall_mem_cons.mpr ⟨(List.mem_of_getElem? (i := 804) (by decide +kernel)), List.forall_mem_cons.mpr ⟨(List.mem_of_getElem? (i := 808) (by decide +kernel)), fun _ h => absurd h List.not_mem_nil⟩⟩⟩⟩⟩
set_option maxRecDepth 100000 in
theorem tX8_rootOf : ∀ w ∈ wpX8_rootOf, w ∈ lw_tbl := by
  unfold wpX8_rootOf
  exact List.forall_mem_cons.mpr ⟨(List.mem_of_getElem? (i := 877) (by rfl)), List.forall_mem_append.mpr ⟨toX8_rootOf, List.forall_mem_append.mpr ⟨(sp_tS (List.mem_of_getElem? (i := 847) (by decide +kernel)) (List.mem_of_getElem? (i := 848) (by decide +kernel)) (List.mem_of_getElem? (i := 45) (by decide +kernel)) tX8_pack), List.forall_mem_append.mpr ⟨(sp_tS (List.mem_of_getElem? (i := 858) (by decide +kernel)) (List.mem_of_getElem? (i := 859) (by decide +kernel)) (List.mem_of_getElem? (i := 45) (by decide +kernel)) tX8_isZero), List.forall_mem_append.mpr ⟨(sp_tS (List.mem_of_getElem? (i := 834) (by decide +kernel)) (List.mem_of_getElem? (i := 835) (by decide +kernel)) (List.mem_of_getElem? (i := 45) (by decide +kernel)) tX8_isInfinite), List.forall_mem_append.mpr ⟨(sp_tS (List.mem_of_getElem? (i := 844) (by decide +kernel)) (List.mem_of_getElem? (i := 845) (by decide +kernel)) (List.mem_of_getElem? (i := 45) (by decide +kernel)) tX8_digits), List.forall_mem_append.mpr ⟨(sp_tS (List.mem_of_getElem? (i := 840) (by decide +kernel)) (List.mem_of_getElem? (i := 841) (by decide +kernel)) (List.mem_of_getElem? (i := 45) (by decide +kernel)) tX8_power), fun _ h => absurd h List.not_mem_nil⟩⟩⟩⟩⟩⟩⟩
theorem gX8_rootOf_X8_pack_105 : GoodIn wpX8_rootOf (va_wsS RX8 105 yX8_pack wpX8_pack) := fun w h => ⟨List.mem_cons_of_mem _ (List.mem_append_right _ (List.mem_append_left _ h)), good_of_word (sp_gS gwX8_pack w h)⟩
theorem gX8_rootOf_X8_isZero_109 : GoodIn wpX8_rootOf (va_wsS RX8 109 yX8_isZero wpX8_isZero) := fun w h => ⟨List.mem_cons_of_mem _ (List.mem_append_right _ (List.mem_append_right _ (List.mem_append_left _ h))), good_of_word (sp_gS gwX8_isZero w h)⟩
theorem gX8_rootOf_X8_isInfinite_94 : GoodIn wpX8_rootOf (va_wsS RX8 94 yX8_isInfinite wpX8_isInfinite) := fun w h => ⟨List.mem_cons_of_mem _ (List.mem_append_right _ (List.mem_append_right _ (List.mem_append_right _ (List.mem_append_left _ h)))), good_of_word (sp_gS gwX8_isInfinite w h)⟩
theorem gX8_rootOf_X8_digits_102 : GoodIn wpX8_rootOf (va_wsS RX8 102 yX8_digits wpX8_digits) := fun w h => ⟨List.mem_cons_of_mem _ (List.mem_append_right _ (List.mem_append_right _ (List.mem_append_right _ (List.mem_append_right _ (List.mem_append_left _ h))))), good_of_word (sp_gS gwX8_digits w h)⟩
theorem gX8_rootOf_X8_power_98 : GoodIn wpX8_rootOf (va_wsS RX8 98 yX8_power wpX8_power) := fun w h => ⟨List.mem_cons_of_mem _ (List.mem_append_right _ (List.mem_append_right _ (List.mem_append_right _ (List.mem_append_right _ (List.mem_append_right _ (List.mem_append_left _ h)))))), good_of_word (sp_gS gwX8_power w h)⟩
set_option maxHeartbeats 4000000 in
set_option maxRecDepth 100000 in
theorem lp_X8_rootOf_106 {p : Program} {e : Env} {s : State} {m : MethodId} {below : List Frame} {meth : Method} {c : Code} {A : Nat → Prop} (l : Launch) (D : va_G) (cI cJ cZ : ClassId) (g : Int64) (C0 : sp_C cX8_rootOf (some .long) 10 wpX8_rootOf yX8_rootOf.cls yX8_rootOf.name p s m ([.long g] : List Value).toArray meth c) (hA : ∀ q : Nat, s.heap.size ≤ q → A q) (hK : va_K D vwCl [(cI, .int), (cJ, .long), (cZ, .boolean)] s) :
    ∀ (fuel : Nat) (mm : Int64) (ee : Int32) (rr : Int64) (bb : Int64) (H : Heap) (locs : List Loc) (ls : Array Slot), (0 ≤ (bb : Int64).toInt) → (kX8_rootOf g = kX8_rootOf_l106 fuel g mm ee rr bb) → ((bb : Int64).toInt < (fuel : Int)) → va_P D vwCl [] H → va_D A [] → va_S A s.heap H locs → lv_has ls 10 [(2, .long mm), (4, .int ee), (6, .long rr), (8, .long bb)] → W p l e ({ frames := 2, cells := 0, slots := 0, locals := 51 }) s m (([.long g] : List Value).toArray) below meth c H locs 0 0 (MQ below (va_Ql (fun (r : Int64) (_ : Unit) => r = kX8_rootOf g) (sp_B D vwCl A (fun (_ : Unit) => [])) A) ([.long g] : List Value).toArray s 0 0 A) (F0 m 106 ls []) := by
  obtain ⟨hx, hb, hr, hts, hown, hlocks, hml, hin⟩ := id C0
  have hown : s.vm.findClass RX8 = some m.cls := hown
  intro fuel
  induction fuel with
  | zero =>
    intro mm ee rr bb H locs ls h0 hk_r hm
    exact absurd hm (by omega)
  | succ fuel ih =>
    intro mm ee rr bb H locs ls h0 hk_r hm hP hD hS hl
    refine lv_lload hx hb dX8_rootOf_106 (lv_at hl 3 rfl) ?_
    refine lv_lconst (v := 0) hx hb dX8_rootOf_108 (by decide) ?_
    refine W.lcmp hx hb dX8_rootOf_109 ?_
    refine lv_if_le (tgt := 149) hx hb dX8_rootOf_110 (by decide) (fun c1 => ?_) (fun c1 => ?_)
    · skip
      have c1 := (lg_cmp_le _ _).mp c1
      have c1i : (bb : Int64).toInt ≤ 0 := Int64.le_iff_toInt_le.mp c1
      refine lv_iconst (v := 0) hx hb dX8_rootOf_149 (by decide) ?_
      refine lv_lload hx hb dX8_rootOf_150 (lv_at hl 2 rfl) ?_
      refine lv_iload hx hb dX8_rootOf_152 (lv_at hl 1 rfl) ?_
      refine lv_iconst (v := 2) hx hb dX8_rootOf_154 (by decide) ?_
      refine lv_idiv hx hb dX8_rootOf_155 (by decide) ?_
      refine lv_lload hx hb dX8_rootOf_156 (lv_at hl 2 rfl) ?_
      refine lv_lload hx hb dX8_rootOf_158 (lv_at hl 2 rfl) ?_
      refine lv_lmul hx hb dX8_rootOf_160 ?_
      refine lv_lload_n hx hb dX8_rootOf_161 rfl (lv_at hl 0 rfl) ?_
      refine W.lcmp hx hb dX8_rootOf_162 ?_
      have hj12 : ∀ (z11 : Int32) (H : Heap) (locs : List Loc) (ls : Array Slot), (z11 = kX8_rootOf_l106_171_z11 g mm ee rr bb) → va_P D vwCl [] H → va_D A [] → va_S A s.heap H locs → lv_has ls 10 [(2, .long mm), (4, .int ee), (6, .long rr), (8, .long bb)] → W p l e ({ frames := 2, cells := 0, slots := 0, locals := 51 }) s m (([.long g] : List Value).toArray) below meth c H locs 0 0 (MQ below (va_Ql (fun (r : Int64) (_ : Unit) => r = kX8_rootOf g) (sp_B D vwCl A (fun (_ : Unit) => [])) A) ([.long g] : List Value).toArray s 0 0 A) (F0 m 171 ls [.int z11, .int (ee / 2), .long rr, .int 0]) := by
        intro z11 H locs ls hz11 hP hD hS hl
        subst z11
        refine sp_callj (wr := []) (wc := []) hP hD hS hA [] [] rfl rfl (by decide) (by decide) (va_runS (As := [.int 0, .long rr, .int (ee / 2), .int (kX8_rootOf_l106_171_z11 g mm ee rr bb)]) (rest := []) ⟨hx, hb, hml, hown, hts⟩ (c_X8_pack l D cI cJ cZ H.size 0 rr (ee / 2) (kX8_rootOf_l106_171_z11 g mm ee rr bb)) (va_cwS 4 hts gX8_rootOf_X8_pack_105 rfl rfl rfl (by decide +kernel) ⟨Nat.le_of_ble_eq_true rfl, Nat.le_of_ble_eq_true rfl⟩) (sp_preS [.int 0, .long rr, .int (ee / 2), .int (kX8_rootOf_l106_171_z11 g mm ee rr bb)] hK (hP.sub (ws' := []) [] rfl) (hD.sub (ws' := []) [] (by decide) rfl)) rfl rfl hl.1 rfl (lv_room (Nat.le_of_ble_eq_true rfl)) dX8_rootOf_171 ⟨Nat.le_of_ble_eq_true rfl, Nat.le_of_ble_eq_true rfl⟩) (fun r13 u14 H locs hw15 hP hD hS => ?_)
        have hq_15_0 : r13 = (kX8_pack 0 rr (ee / 2) (kX8_rootOf_l106_171_z11 g mm ee rr bb)) := hw15
        subst r13
        have hP : va_P D vwCl [] H := hP
        have hD : va_D A [] := hD
        refine W.widen (k := 0) (n := 0) (by decide) (by decide) ?_
        exact sp_lret (u := ()) hx hb hr hlocks hS (Eq.symm (hk_r.trans ((if_pos c1i).trans rfl))) (hP.sub [] rfl) (hD.sub [] (by decide) rfl) dX8_rootOf_174
      refine lv_if_eq (tgt := 170) hx hb dX8_rootOf_163 (by decide) (fun c8 => ?_) (fun c8 => ?_)
      · skip
        have c8 := (lg_cmp_eq _ _).mp c8
        have c8i : ((rr * rr) : Int64).toInt = (mm : Int64).toInt := congrArg Int64.toInt c8
        refine lv_iconst (v := 0) hx hb dX8_rootOf_170 (by decide) ?_
        exact hj12 (0) _ _ _ (Eq.symm ((if_pos c8i).trans rfl)) (hP.sub [] rfl) (hD.sub [] (by decide) rfl) hS (lv_sub hl [0, 1, 2, 3] rfl)
      · skip
        have c8 := fun h => c8 ((lg_cmp_eq _ _).mpr h)
        have c8i : ¬ ((rr * rr) : Int64).toInt = (mm : Int64).toInt := fun h => c8 (Int64.toInt_inj.mp h)
        refine lv_iconst (v := 1) hx hb dX8_rootOf_166 (by decide) ?_
        refine lv_goto (tgt := 171) hx hb dX8_rootOf_167 (by decide) ?_
        exact hj12 (1) _ _ _ (Eq.symm ((if_neg c8i).trans rfl)) (hP.sub [] rfl) (hD.sub [] (by decide) rfl) hS (lv_sub hl [0, 1, 2, 3] rfl)
    · skip
      have c1 := fun h => c1 ((lg_cmp_le _ _).mpr h)
      have c1i : ¬ (bb : Int64).toInt ≤ 0 := fun h => c1 (Int64.le_iff_toInt_le.mpr h)
      refine lv_lload hx hb dX8_rootOf_113 (lv_at hl 2 rfl) ?_
      refine lv_lload hx hb dX8_rootOf_115 (lv_at hl 2 rfl) ?_
      refine lv_lload hx hb dX8_rootOf_117 (lv_at hl 3 rfl) ?_
      refine lv_ladd hx hb dX8_rootOf_119 ?_
      refine lv_lload hx hb dX8_rootOf_120 (lv_at hl 2 rfl) ?_
      refine lv_lload hx hb dX8_rootOf_122 (lv_at hl 3 rfl) ?_
      refine lv_ladd hx hb dX8_rootOf_124 ?_
      refine lv_lmul hx hb dX8_rootOf_125 ?_
      refine lv_lload_n hx hb dX8_rootOf_126 rfl (lv_at hl 0 rfl) ?_
      refine W.lcmp hx hb dX8_rootOf_127 ?_
      have hj7 : ∀ (z6 : Int64) (H : Heap) (locs : List Loc) (ls : Array Slot), (z6 = kX8_rootOf_l106_137_z6 g mm ee rr bb) → va_P D vwCl [] H → va_D A [] → va_S A s.heap H locs → lv_has ls 10 [(2, .long mm), (4, .int ee), (6, .long rr), (8, .long bb)] → W p l e ({ frames := 2, cells := 0, slots := 0, locals := 51 }) s m (([.long g] : List Value).toArray) below meth c H locs 0 0 (MQ below (va_Ql (fun (r : Int64) (_ : Unit) => r = kX8_rootOf g) (sp_B D vwCl A (fun (_ : Unit) => [])) A) ([.long g] : List Value).toArray s 0 0 A) (F0 m 137 ls [.long z6, .long rr]) := by
        intro z6 H locs ls hz6 hP hD hS hl
        subst z6
        refine lv_ladd hx hb dX8_rootOf_137 ?_
        refine lv_lstore (lv' := [(6, .long (rr + (kX8_rootOf_l106_137_z6 g mm ee rr bb))), (2, .long mm), (4, .int ee), (8, .long bb)]) hx hb dX8_rootOf_138 hl (by decide) rfl (fun ls hl => ?_)
        refine lv_lload hx hb dX8_rootOf_140 (lv_at hl 3 rfl) ?_
        refine lv_iconst (v := 1) hx hb dX8_rootOf_142 (by decide) ?_
        refine lv_lshr (v := _) hx hb dX8_rootOf_143 rfl ?_
        refine lv_lstore (lv' := [(8, .long (bb >>> ((1 : Int32).toInt64 &&& 63))), (6, .long (rr + (kX8_rootOf_l106_137_z6 g mm ee rr bb))), (2, .long mm), (4, .int ee)]) hx hb dX8_rootOf_144 hl (by decide) rfl (fun ls hl => ?_)
        refine lv_goto (tgt := 106) hx hb dX8_rootOf_146 (by decide) ?_
        have hs := px_shr1 (x := bb) (by omega)
        exact ih (mm) (ee) ((rr + (kX8_rootOf_l106_137_z6 g mm ee rr bb))) ((bb >>> ((1 : Int32).toInt64 &&& 63))) _ _ _ (by first | assumption | omega) (hk_r.trans ((if_neg c1i).trans rfl)) (by omega) (hP.sub [] rfl) (hD.sub [] (by decide) rfl) hS (lv_sub hl [2, 3, 1, 0] rfl)
      refine lv_if_gt (tgt := 136) hx hb dX8_rootOf_128 (by decide) (fun c3 => ?_) (fun c3 => ?_)
      · skip
        have c3 := (lg_cmp_gt _ _).mp c3
        have c3i : (mm : Int64).toInt < (((rr + bb) * (rr + bb)) : Int64).toInt := Int64.lt_iff_toInt_lt.mp c3
        refine lv_lconst (v := 0) hx hb dX8_rootOf_136 (by decide) ?_
        exact hj7 (0) _ _ _ (Eq.symm ((if_pos c3i).trans rfl)) (hP.sub [] rfl) (hD.sub [] (by decide) rfl) hS (lv_sub hl [0, 1, 2, 3] rfl)
      · skip
        have c3 := fun h => c3 ((lg_cmp_gt _ _).mpr h)
        have c3i : ¬ (mm : Int64).toInt < (((rr + bb) * (rr + bb)) : Int64).toInt := fun h => c3 (Int64.lt_iff_toInt_lt.mpr h)
        refine lv_lload hx hb dX8_rootOf_131 (lv_at hl 3 rfl) ?_
        refine lv_goto (tgt := 137) hx hb dX8_rootOf_133 (by decide) ?_
        exact hj7 (bb) _ _ _ (Eq.symm ((if_neg c3i).trans rfl)) (hP.sub [] rfl) (hD.sub [] (by decide) rfl) hS (lv_sub hl [0, 1, 2, 3] rfl)
set_option maxHeartbeats 4000000 in
set_option maxRecDepth 100000 in
theorem lp_X8_rootOf_47 {p : Program} {e : Env} {s : State} {m : MethodId} {below : List Frame} {meth : Method} {c : Code} {A : Nat → Prop} (l : Launch) (D : va_G) (cI cJ cZ : ClassId) (g : Int64) (C0 : sp_C cX8_rootOf (some .long) 10 wpX8_rootOf yX8_rootOf.cls yX8_rootOf.name p s m ([.long g] : List Value).toArray meth c) (hA : ∀ q : Nat, s.heap.size ≤ q → A q) (hK : va_K D vwCl [(cI, .int), (cJ, .long), (cZ, .boolean)] s) :
    ∀ (fuel : Nat) (mm : Int64) (ee : Int32) (H : Heap) (locs : List Loc) (ls : Array Slot), (1 ≤ (mm : Int64).toInt) → (kX8_rootOf g = kX8_rootOf_l47 fuel g mm ee) → ((if (mm : Int64).toInt < 8388608 then 8388608 - (mm : Int64).toInt else 0) < (fuel : Int)) → va_P D vwCl [] H → va_D A [] → va_S A s.heap H locs → lv_has ls 10 [(0, .long g), (2, .long mm), (4, .int ee)] → W p l e ({ frames := 2, cells := 0, slots := 0, locals := 51 }) s m (([.long g] : List Value).toArray) below meth c H locs 0 0 (MQ below (va_Ql (fun (r : Int64) (_ : Unit) => r = kX8_rootOf g) (sp_B D vwCl A (fun (_ : Unit) => [])) A) ([.long g] : List Value).toArray s 0 0 A) (F0 m 47 ls []) := by
  obtain ⟨hx, hb, hr, hts, hown, hlocks, hml, hin⟩ := id C0
  have hown : s.vm.findClass RX8 = some m.cls := hown
  intro fuel
  induction fuel with
  | zero =>
    intro mm ee H locs ls h1 hk_r hm
    exact absurd hm (by omega)
  | succ fuel ih =>
    intro mm ee H locs ls h1 hk_r hm hP hD hS hl
    refine lv_lload_n hx hb dX8_rootOf_47 rfl (lv_at hl 1 rfl) ?_
    refine lv_ldc2 (v := 8388608) hx hb hown (hts (.constantLong RX8 80 (8388608)) (oX8_rootOf_in _ (List.mem_of_getElem? (i := 0) rfl))) dX8_rootOf_48 ?_
    refine W.lcmp hx hb dX8_rootOf_51 ?_
    refine lv_if_ge (tgt := 67) hx hb dX8_rootOf_52 (by decide) (fun c1 => ?_) (fun c1 => ?_)
    · skip
      have c1 := (lg_cmp_ge _ _).mp c1
      have c1i : 8388608 ≤ (mm : Int64).toInt := Int64.le_iff_toInt_le.mp c1
      refine lv_iload hx hb dX8_rootOf_67 (lv_at hl 2 rfl) ?_
      refine lv_bipush (v := 37) hx hb dX8_rootOf_69 (by decide) ?_
      refine lv_isub hx hb dX8_rootOf_71 ?_
      refine lv_iconst (v := 2) hx hb dX8_rootOf_72 (by decide) ?_
      refine lv_irem hx hb dX8_rootOf_73 (by decide) ?_
      have hj7 : ∀ (z6 : Int32) (H : Heap) (locs : List Loc) (ls : Array Slot), (z6 = kX8_rootOf_l47_84_z6 g mm ee) → va_P D vwCl [] H → va_D A [] → va_S A s.heap H locs → lv_has ls 10 [(0, .long g), (2, .long mm), (4, .int ee)] → W p l e ({ frames := 2, cells := 0, slots := 0, locals := 51 }) s m (([.long g] : List Value).toArray) below meth c H locs 0 0 (MQ below (va_Ql (fun (r : Int64) (_ : Unit) => r = kX8_rootOf g) (sp_B D vwCl A (fun (_ : Unit) => [])) A) ([.long g] : List Value).toArray s 0 0 A) (F0 m 84 ls [.int z6]) := by
        intro z6 H locs ls hz6 hP hD hS hl
        subst z6
        refine lv_istore (lv' := [(5, .int (kX8_rootOf_l47_84_z6 g mm ee)), (0, .long g), (2, .long mm), (4, .int ee)]) hx hb dX8_rootOf_84 hl (by decide) rfl (fun ls hl => ?_)
        refine lv_lload_n hx hb dX8_rootOf_86 rfl (lv_at hl 2 rfl) ?_
        refine lv_iload hx hb dX8_rootOf_87 (lv_at hl 0 rfl) ?_
        refine lv_lshl (v := _) hx hb dX8_rootOf_89 rfl ?_
        refine lv_lstore_n (lv' := [(2, .long (mm <<< (((kX8_rootOf_l47_84_z6 g mm ee) : Int32).toInt64 &&& 63))), (5, .int (kX8_rootOf_l47_84_z6 g mm ee)), (0, .long g), (4, .int ee)]) hx hb dX8_rootOf_90 rfl hl (by decide) rfl (fun ls hl => ?_)
        refine lv_iload hx hb dX8_rootOf_91 (lv_at hl 3 rfl) ?_
        refine lv_iload hx hb dX8_rootOf_93 (lv_at hl 1 rfl) ?_
        refine lv_isub hx hb dX8_rootOf_95 ?_
        refine lv_istore (lv' := [(4, .int (ee - (kX8_rootOf_l47_84_z6 g mm ee))), (2, .long (mm <<< (((kX8_rootOf_l47_84_z6 g mm ee) : Int32).toInt64 &&& 63))), (5, .int (kX8_rootOf_l47_84_z6 g mm ee)), (0, .long g)]) hx hb dX8_rootOf_96 hl (by decide) rfl (fun ls hl => ?_)
        refine lv_lconst (v := 0) hx hb dX8_rootOf_98 (by decide) ?_
        refine lv_lstore (lv' := [(6, .long 0), (4, .int (ee - (kX8_rootOf_l47_84_z6 g mm ee))), (2, .long (mm <<< (((kX8_rootOf_l47_84_z6 g mm ee) : Int32).toInt64 &&& 63))), (5, .int (kX8_rootOf_l47_84_z6 g mm ee)), (0, .long g)]) hx hb dX8_rootOf_99 hl (by decide) rfl (fun ls hl => ?_)
        refine lv_ldc2 (v := 2147483648) hx hb hown (hts (.constantLong RX8 112 (2147483648)) (oX8_rootOf_in _ (List.mem_of_getElem? (i := 2) rfl))) dX8_rootOf_101 ?_
        refine lv_lstore (lv' := [(8, .long 2147483648), (6, .long 0), (4, .int (ee - (kX8_rootOf_l47_84_z6 g mm ee))), (2, .long (mm <<< (((kX8_rootOf_l47_84_z6 g mm ee) : Int32).toInt64 &&& 63))), (5, .int (kX8_rootOf_l47_84_z6 g mm ee)), (0, .long g)]) hx hb dX8_rootOf_104 hl (by decide) rfl (fun ls hl => ?_)
        have kk8 : ((0) : Int64).toInt = (0) := by decide
        have kk9 : ((2147483648) : Int64).toInt = (2147483648) := by decide
        exact lp_X8_rootOf_106 l D cI cJ cZ g C0 hA hK 2147483650 ((mm <<< (((kX8_rootOf_l47_84_z6 g mm ee) : Int32).toInt64 &&& 63))) ((ee - (kX8_rootOf_l47_84_z6 g mm ee))) (0) (2147483648) _ _ _ (by first | assumption | omega) (hk_r.trans ((if_pos c1i).trans rfl)) (by omega) (hP.sub [] rfl) (hD.sub [] (by decide) rfl) hS (lv_sub hl [3, 2, 1, 0] rfl)
      refine lv_if_ne (tgt := 82) hx hb dX8_rootOf_74 (by decide) (fun c3 => ?_) (fun c3 => ?_)
      · skip
        have c3i : ¬ (((ee - 37) - (ee - 37) / 2 * 2) : Int32).toInt = 0 := fun h => c3 (Int32.toInt_inj.mp h)
        refine lv_bipush (v := 38) hx hb dX8_rootOf_82 (by decide) ?_
        exact hj7 (38) _ _ _ (Eq.symm ((if_neg c3i).trans rfl)) (hP.sub [] rfl) (hD.sub [] (by decide) rfl) hS (lv_sub hl [0, 1, 2] rfl)
      · skip
        have c3i : (((ee - 37) - (ee - 37) / 2 * 2) : Int32).toInt = 0 := congrArg Int32.toInt c3
        refine lv_bipush (v := 37) hx hb dX8_rootOf_77 (by decide) ?_
        refine lv_goto (tgt := 84) hx hb dX8_rootOf_79 (by decide) ?_
        exact hj7 (37) _ _ _ (Eq.symm ((if_pos c3i).trans rfl)) (hP.sub [] rfl) (hD.sub [] (by decide) rfl) hS (lv_sub hl [0, 1, 2] rfl)
    · skip
      have c1 := fun h => c1 ((lg_cmp_ge _ _).mpr h)
      have c1i : ¬ 8388608 ≤ (mm : Int64).toInt := fun h => c1 (Int64.le_iff_toInt_le.mpr h)
      refine lv_lload_n hx hb dX8_rootOf_55 rfl (lv_at hl 1 rfl) ?_
      refine lv_ldc2 (v := 2) hx hb hown (hts (.constantLong RX8 90 (2)) (oX8_rootOf_in _ (List.mem_of_getElem? (i := 1) rfl))) dX8_rootOf_56 ?_
      refine lv_lmul hx hb dX8_rootOf_59 ?_
      refine lv_lstore_n (lv' := [(2, .long (mm * 2)), (0, .long g), (4, .int ee)]) hx hb dX8_rootOf_60 rfl hl (by decide) rfl (fun ls hl => ?_)
      refine lv_iinc (v := (ee + (-1))) (lv' := [(4, .int (ee + (-1))), (2, .long (mm * 2)), (0, .long g)]) hx hb dX8_rootOf_61 hl (k := 2) rfl rfl (by decide) rfl (fun ls hl => ?_)
      refine lv_goto (tgt := 47) hx hb dX8_rootOf_64 (by decide) ?_
      have hd := px_dbl (x := mm) (by omega) (by omega)
      exact ih ((mm * 2)) ((ee + (-1))) _ _ _ (by first | assumption | omega) (hk_r.trans ((if_neg c1i).trans rfl)) (by omega) (hP.sub [] rfl) (hD.sub [] (by decide) rfl) hS (lv_sub hl [2, 1, 0] rfl)
set_option maxHeartbeats 4000000 in
set_option maxRecDepth 100000 in
theorem c_X8_rootOf (l : Launch) (D : va_G) (cI cJ cZ : ClassId) (sz : Nat) (g : Int64) : Met l yX8_rootOf wpX8_rootOf ({ frames := 2, cells := 0, slots := 0, locals := 51 }) (va_Pc ([.long g] : List Value) (sp_pre D vwCl (sp_ty cI cJ cZ) [] sz)) (va_Ql (fun (r : Int64) (_ : Unit) => r = kX8_rootOf g) (sp_B D vwCl (va_A [] sz) (fun (_ : Unit) => [])) (va_A [] sz)) 0 0 (va_A [] sz) := by
  refine sp_ofW (Qc := fun A => va_Ql (fun (r : Int64) (_ : Unit) => r = kX8_rootOf g) (sp_B D vwCl A (fun (_ : Unit) => [])) A) (by decide) rfl (Nat.le_of_ble_eq_true rfl) (fun p e s m below meth c A ls H locs C0 hA hS hP hK hD hl => ?_)
  obtain ⟨hx, hb, hr, hts, hown, hlocks, hml, hin⟩ := id C0
  have hown : s.vm.findClass RX8 = some m.cls := hown
  have hl : lv_has ls 10 [(0, .long g)] := hl
  have hK : va_K D vwCl [(cI, .int), (cJ, .long), (cZ, .boolean)] s := hK
  refine lv_lload_n hx hb dX8_rootOf_0 rfl (lv_at hl 0 rfl) ?_
  refine lv_ldc2 (v := 9000000000) hx hb hown (hts (.constantLong RX8 82 (9000000000)) (oX8_rootOf_in _ (List.mem_of_getElem? (i := 3) rfl))) dX8_rootOf_1 ?_
  refine W.lcmp hx hb dX8_rootOf_4 ?_
  refine lv_if_eq (tgt := 16) hx hb dX8_rootOf_5 (by decide) (fun c1 => ?_) (fun c1 => ?_)
  · skip
    have c1 := (lg_cmp_eq _ _).mp c1
    have c1i : (g : Int64).toInt = 9000000000 := congrArg Int64.toInt c1
    refine lv_ldc2 (v := 9000000000) hx hb hown (hts (.constantLong RX8 82 (9000000000)) (oX8_rootOf_in _ (List.mem_of_getElem? (i := 3) rfl))) dX8_rootOf_16 ?_
    refine W.widen (k := 0) (n := 0) (by decide) (by decide) ?_
    exact sp_lret (u := ()) hx hb hr hlocks hS (Eq.symm ((if_pos c1i).trans rfl)) (hP.sub [] rfl) (hD.sub [] (by decide) rfl) dX8_rootOf_19
  · skip
    have c1 := fun h => c1 ((lg_cmp_eq _ _).mpr h)
    have c1i : ¬ (g : Int64).toInt = 9000000000 := fun h => c1 (Int64.toInt_inj.mp h)
    refine lv_lload_n hx hb dX8_rootOf_8 rfl (lv_at hl 0 rfl) ?_
    refine lv_ldc2 (v := (-1)) hx hb hown (hts (.constantLong RX8 74 (-1)) (oX8_rootOf_in _ (List.mem_of_getElem? (i := 4) rfl))) dX8_rootOf_9 ?_
    refine W.lcmp hx hb dX8_rootOf_12 ?_
    refine lv_if_ge (tgt := 20) hx hb dX8_rootOf_13 (by decide) (fun c2 => ?_) (fun c2 => ?_)
    · skip
      have c2 := (lg_cmp_ge _ _).mp c2
      have c2i : (-1) ≤ (g : Int64).toInt := Int64.le_iff_toInt_le.mp c2
      refine lv_lload_n hx hb dX8_rootOf_20 rfl (lv_at hl 0 rfl) ?_
      refine sp_calli (wr := []) (wc := []) hP hD hS hA [] [] rfl rfl (by decide) (by decide) (va_runS (As := [.long g]) (rest := []) ⟨hx, hb, hml, hown, hts⟩ (c_X8_isZero l D cI cJ cZ H.size g) (va_cwS 1 hts gX8_rootOf_X8_isZero_109 rfl rfl rfl (by decide +kernel) ⟨Nat.le_of_ble_eq_true rfl, Nat.le_of_ble_eq_true rfl⟩) (sp_preS [.long g] hK (hP.sub (ws' := []) [] rfl) (hD.sub (ws' := []) [] (by decide) rfl)) rfl rfl hl.1 rfl (lv_room (Nat.le_of_ble_eq_true rfl)) dX8_rootOf_21 ⟨Nat.le_of_ble_eq_true rfl, Nat.le_of_ble_eq_true rfl⟩) (fun r3 u4 H locs hw5 hP hD hS => ?_)
      obtain ⟨hq_5_0, hm_1_⟩ : r3 = (kX8_isZero g) ∧ _ := hw5
      subst r3
      have hm_1_i : (((kX8_isZero g) : Int32).toInt = 1 ∧ ((g : Int64).toInt = 0 ∨ (g : Int64).toInt = -1)) ∨ (((kX8_isZero g) : Int32).toInt = 0 ∧ ¬ ((g : Int64).toInt = 0 ∨ (g : Int64).toInt = -1)) := sp_bool hm_1_
      have hP : va_P D vwCl [] H := hP
      have hD : va_D A [] := hD
      refine lv_if_ne (tgt := 34) hx hb dX8_rootOf_24 (by decide) (fun c6 => ?_) (fun c6 => ?_)
      · skip
        have c6i : ¬ ((kX8_isZero g) : Int32).toInt = 0 := fun h => c6 (Int32.toInt_inj.mp h)
        refine lv_lload_n hx hb dX8_rootOf_34 rfl (lv_at hl 0 rfl) ?_
        refine W.widen (k := 0) (n := 0) (by decide) (by decide) ?_
        exact sp_lret (u := ()) hx hb hr hlocks hS (Eq.symm ((if_neg c1i).trans ((if_pos c2i).trans ((if_neg c6i).trans rfl)))) (hP.sub [] rfl) (hD.sub [] (by decide) rfl) dX8_rootOf_35
      · skip
        have c6i : ((kX8_isZero g) : Int32).toInt = 0 := congrArg Int32.toInt c6
        refine lv_lload_n hx hb dX8_rootOf_27 rfl (lv_at hl 0 rfl) ?_
        refine sp_calli (wr := []) (wc := []) hP hD hS hA [] [] rfl rfl (by decide) (by decide) (va_runS (As := [.long g]) (rest := []) ⟨hx, hb, hml, hown, hts⟩ (c_X8_isInfinite l D cI cJ cZ H.size g) (va_cwS 1 hts gX8_rootOf_X8_isInfinite_94 rfl rfl rfl (by decide +kernel) ⟨Nat.le_of_ble_eq_true rfl, Nat.le_of_ble_eq_true rfl⟩) (sp_preS [.long g] hK (hP.sub (ws' := []) [] rfl) (hD.sub (ws' := []) [] (by decide) rfl)) rfl rfl hl.1 rfl (lv_room (Nat.le_of_ble_eq_true rfl)) dX8_rootOf_28 ⟨Nat.le_of_ble_eq_true rfl, Nat.le_of_ble_eq_true rfl⟩) (fun r7 u8 H locs hw9 hP hD hS => ?_)
        have hq_9_0 : r7 = (kX8_isInfinite g) := hw9
        subst r7
        have hP : va_P D vwCl [] H := hP
        have hD : va_D A [] := hD
        refine lv_if_eq (tgt := 36) hx hb dX8_rootOf_31 (by decide) (fun c10 => ?_) (fun c10 => ?_)
        · skip
          have c10i : ((kX8_isInfinite g) : Int32).toInt = 0 := congrArg Int32.toInt c10
          refine lv_lload_n hx hb dX8_rootOf_36 rfl (lv_at hl 0 rfl) ?_
          refine sp_callj (wr := []) (wc := []) hP hD hS hA [] [] rfl rfl (by decide) (by decide) (va_runS (As := [.long g]) (rest := []) ⟨hx, hb, hml, hown, hts⟩ (c_X8_digits l D cI cJ cZ H.size g) (va_cwS 1 hts gX8_rootOf_X8_digits_102 rfl rfl rfl (by decide +kernel) ⟨Nat.le_of_ble_eq_true rfl, Nat.le_of_ble_eq_true rfl⟩) (sp_preS [.long g] hK (hP.sub (ws' := []) [] rfl) (hD.sub (ws' := []) [] (by decide) rfl)) rfl rfl hl.1 rfl (lv_room (Nat.le_of_ble_eq_true rfl)) dX8_rootOf_37 ⟨Nat.le_of_ble_eq_true rfl, Nat.le_of_ble_eq_true rfl⟩) (fun r11 u12 H locs hw13 hP hD hS => ?_)
          have hq_13_0 : r11 = (kX8_digits g) := hw13
          subst r11
          have hP : va_P D vwCl [] H := hP
          have hD : va_D A [] := hD
          refine lv_lstore_n (lv' := [(2, .long (kX8_digits g)), (0, .long g)]) hx hb dX8_rootOf_40 rfl hl (by decide) rfl (fun ls hl => ?_)
          refine lv_lload_n hx hb dX8_rootOf_41 rfl (lv_at hl 1 rfl) ?_
          refine sp_calli (wr := []) (wc := []) hP hD hS hA [] [] rfl rfl (by decide) (by decide) (va_runS (As := [.long g]) (rest := []) ⟨hx, hb, hml, hown, hts⟩ (c_X8_power l D cI cJ cZ H.size g) (va_cwS 1 hts gX8_rootOf_X8_power_98 rfl rfl rfl (by decide +kernel) ⟨Nat.le_of_ble_eq_true rfl, Nat.le_of_ble_eq_true rfl⟩) (sp_preS [.long g] hK (hP.sub (ws' := []) [] rfl) (hD.sub (ws' := []) [] (by decide) rfl)) rfl rfl hl.1 rfl (lv_room (Nat.le_of_ble_eq_true rfl)) dX8_rootOf_42 ⟨Nat.le_of_ble_eq_true rfl, Nat.le_of_ble_eq_true rfl⟩) (fun r14 u15 H locs hw16 hP hD hS => ?_)
          have hq_16_0 : r14 = (kX8_power g) := hw16
          subst r14
          have hP : va_P D vwCl [] H := hP
          have hD : va_D A [] := hD
          refine lv_istore (lv' := [(4, .int (kX8_power g)), (2, .long (kX8_digits g)), (0, .long g)]) hx hb dX8_rootOf_45 hl (by decide) rfl (fun ls hl => ?_)
          have hdp : 1 ≤ (kX8_digits g : Int64).toInt := kz_dpos (by assumption)
          exact lp_X8_rootOf_47 l D cI cJ cZ g C0 hA hK 8388610 ((kX8_digits g)) ((kX8_power g)) _ _ _ (kz_dpos (by assumption)) ((if_neg c1i).trans ((if_pos c2i).trans ((if_pos c6i).trans ((if_pos c10i).trans rfl)))) (by omega) (hP.sub [] rfl) (hD.sub [] (by decide) rfl) hS (lv_sub hl [2, 1, 0] rfl)
        · skip
          have c10i : ¬ ((kX8_isInfinite g) : Int32).toInt = 0 := fun h => c10 (Int32.toInt_inj.mp h)
          refine lv_lload_n hx hb dX8_rootOf_34 rfl (lv_at hl 0 rfl) ?_
          refine W.widen (k := 0) (n := 0) (by decide) (by decide) ?_
          exact sp_lret (u := ()) hx hb hr hlocks hS (Eq.symm ((if_neg c1i).trans ((if_pos c2i).trans ((if_pos c6i).trans ((if_neg c10i).trans rfl))))) (hP.sub [] rfl) (hD.sub [] (by decide) rfl) dX8_rootOf_35
    · skip
      have c2 := fun h => c2 ((lg_cmp_ge _ _).mpr h)
      have c2i : ¬ (-1) ≤ (g : Int64).toInt := fun h => c2 (Int64.le_iff_toInt_le.mpr h)
      refine lv_ldc2 (v := 9000000000) hx hb hown (hts (.constantLong RX8 82 (9000000000)) (oX8_rootOf_in _ (List.mem_of_getElem? (i := 3) rfl))) dX8_rootOf_16 ?_
      refine W.widen (k := 0) (n := 0) (by decide) (by decide) ?_
      exact sp_lret (u := ()) hx hb hr hlocks hS (Eq.symm ((if_neg c1i).trans ((if_neg c2i).trans rfl))) (hP.sub [] rfl) (hD.sub [] (by decide) rfl) dX8_rootOf_19
def oX8_wholeOf : List Cond := [.constantLong RX8 82 (9000000000), .constantLong RX8 90 (2)]
def wpX8_wholeOf : List Cond := .code yX8_wholeOf cX8_wholeOf 13 (some .long) :: (oX8_wholeOf ++ ((va_wsS RX8 98 yX8_power wpX8_power) ++ ((va_wsS RX8 102 yX8_digits wpX8_digits) ++ ((va_wsS RX8 105 yX8_pack wpX8_pack) ++ ([] : List Cond)))))
theorem oX8_wholeOf_in : ∀ w ∈ oX8_wholeOf, w ∈ wpX8_wholeOf := fun w h => List.mem_cons_of_mem _ (List.mem_append_left _ h)
theorem gwoX8_wholeOf : ∀ w ∈ oX8_wholeOf, goodWord w = true := by decide +kernel
theorem gwX8_wholeOf : ∀ w ∈ wpX8_wholeOf, goodWord w = true := by
  unfold wpX8_wholeOf
  exact List.forall_mem_cons.mpr ⟨rfl, List.forall_mem_append.mpr ⟨gwoX8_wholeOf, List.forall_mem_append.mpr ⟨(sp_gS gwX8_power), List.forall_mem_append.mpr ⟨(sp_gS gwX8_digits), List.forall_mem_append.mpr ⟨(sp_gS gwX8_pack), fun _ h => absurd h List.not_mem_nil⟩⟩⟩⟩⟩
set_option maxRecDepth 100000 in
theorem toX8_wholeOf : ∀ w ∈ oX8_wholeOf, w ∈ lw_tbl := by
  unfold oX8_wholeOf
  exact List.forall_mem_cons.mpr ⟨(List.mem_of_getElem? (i := 804) (by decide +kernel)), List.forall_mem_cons.mpr ⟨(List.mem_of_getElem? (i := 770) (by decide +kernel)), fun _ h => absurd h List.not_mem_nil⟩⟩
set_option maxRecDepth 100000 in
theorem tX8_wholeOf : ∀ w ∈ wpX8_wholeOf, w ∈ lw_tbl := by
  unfold wpX8_wholeOf
  exact List.forall_mem_cons.mpr ⟨(List.mem_of_getElem? (i := 866) (by rfl)), List.forall_mem_append.mpr ⟨toX8_wholeOf, List.forall_mem_append.mpr ⟨(sp_tS (List.mem_of_getElem? (i := 840) (by decide +kernel)) (List.mem_of_getElem? (i := 841) (by decide +kernel)) (List.mem_of_getElem? (i := 45) (by decide +kernel)) tX8_power), List.forall_mem_append.mpr ⟨(sp_tS (List.mem_of_getElem? (i := 844) (by decide +kernel)) (List.mem_of_getElem? (i := 845) (by decide +kernel)) (List.mem_of_getElem? (i := 45) (by decide +kernel)) tX8_digits), List.forall_mem_append.mpr ⟨(sp_tS (List.mem_of_getElem? (i := 847) (by decide +kernel)) (List.mem_of_getElem? (i := 848) (by decide +kernel)) (List.mem_of_getElem? (i := 45) (by decide +kernel)) tX8_pack), fun _ h => absurd h List.not_mem_nil⟩⟩⟩⟩⟩
theorem gX8_wholeOf_X8_power_98 : GoodIn wpX8_wholeOf (va_wsS RX8 98 yX8_power wpX8_power) := fun w h => ⟨List.mem_cons_of_mem _ (List.mem_append_right _ (List.mem_append_left _ h)), good_of_word (sp_gS gwX8_power w h)⟩
theorem gX8_wholeOf_X8_digits_102 : GoodIn wpX8_wholeOf (va_wsS RX8 102 yX8_digits wpX8_digits) := fun w h => ⟨List.mem_cons_of_mem _ (List.mem_append_right _ (List.mem_append_right _ (List.mem_append_left _ h))), good_of_word (sp_gS gwX8_digits w h)⟩
theorem gX8_wholeOf_X8_pack_105 : GoodIn wpX8_wholeOf (va_wsS RX8 105 yX8_pack wpX8_pack) := fun w h => ⟨List.mem_cons_of_mem _ (List.mem_append_right _ (List.mem_append_right _ (List.mem_append_right _ (List.mem_append_left _ h)))), good_of_word (sp_gS gwX8_pack w h)⟩
set_option maxHeartbeats 4000000 in
set_option maxRecDepth 100000 in
theorem c_X8_wholeOf (l : Launch) (D : va_G) (cI cJ cZ : ClassId) (sz : Nat) (g : Int64) (hw9 : Int32) : Met l yX8_wholeOf wpX8_wholeOf ({ frames := 2, cells := 0, slots := 0, locals := 51 }) (va_Pc ([.long g, .int hw9] : List Value) (sp_pre D vwCl (sp_ty cI cJ cZ) [] sz)) (va_Ql (fun (r : Int64) (_ : Unit) => r = kX8_wholeOf g hw9) (sp_B D vwCl (va_A [] sz) (fun (_ : Unit) => [])) (va_A [] sz)) 0 0 (va_A [] sz) := by
  refine sp_ofW (Qc := fun A => va_Ql (fun (r : Int64) (_ : Unit) => r = kX8_wholeOf g hw9) (sp_B D vwCl A (fun (_ : Unit) => [])) A) (by decide) rfl (Nat.le_of_ble_eq_true rfl) (fun p e s m below meth c A ls H locs C0 hA hS hP hK hD hl => ?_)
  obtain ⟨hx, hb, hr, hts, hown, hlocks, hml, hin⟩ := id C0
  have hown : s.vm.findClass RX8 = some m.cls := hown
  have hl : lv_has ls 13 [(0, .long g), (2, .int hw9)] := hl
  have hK : va_K D vwCl [(cI, .int), (cJ, .long), (cZ, .boolean)] s := hK
  refine lv_lload_n hx hb dX8_wholeOf_0 rfl (lv_at hl 0 rfl) ?_
  refine lv_ldc2 (v := 9000000000) hx hb hown (hts (.constantLong RX8 82 (9000000000)) (oX8_wholeOf_in _ (List.mem_of_getElem? (i := 0) rfl))) dX8_wholeOf_1 ?_
  refine W.lcmp hx hb dX8_wholeOf_4 ?_
  refine lv_if_eq (tgt := 15) hx hb dX8_wholeOf_5 (by decide) (fun c1 => ?_) (fun c1 => ?_)
  · skip
    have c1 := (lg_cmp_eq _ _).mp c1
    have c1i : (g : Int64).toInt = 9000000000 := congrArg Int64.toInt c1
    refine lv_lload_n hx hb dX8_wholeOf_15 rfl (lv_at hl 0 rfl) ?_
    refine W.widen (k := 0) (n := 0) (by decide) (by decide) ?_
    exact sp_lret (u := ()) hx hb hr hlocks hS (Eq.symm ((if_pos c1i).trans rfl)) (hP.sub [] rfl) (hD.sub [] (by decide) rfl) dX8_wholeOf_16
  · skip
    have c1 := fun h => c1 ((lg_cmp_eq _ _).mpr h)
    have c1i : ¬ (g : Int64).toInt = 9000000000 := fun h => c1 (Int64.toInt_inj.mp h)
    refine lv_lload_n hx hb dX8_wholeOf_8 rfl (lv_at hl 0 rfl) ?_
    refine sp_calli (wr := []) (wc := []) hP hD hS hA [] [] rfl rfl (by decide) (by decide) (va_runS (As := [.long g]) (rest := []) ⟨hx, hb, hml, hown, hts⟩ (c_X8_power l D cI cJ cZ H.size g) (va_cwS 1 hts gX8_wholeOf_X8_power_98 rfl rfl rfl (by decide +kernel) ⟨Nat.le_of_ble_eq_true rfl, Nat.le_of_ble_eq_true rfl⟩) (sp_preS [.long g] hK (hP.sub (ws' := []) [] rfl) (hD.sub (ws' := []) [] (by decide) rfl)) rfl rfl hl.1 rfl (lv_room (Nat.le_of_ble_eq_true rfl)) dX8_wholeOf_9 ⟨Nat.le_of_ble_eq_true rfl, Nat.le_of_ble_eq_true rfl⟩) (fun r2 u3 H locs hw4 hP hD hS => ?_)
    have hq_4_0 : r2 = (kX8_power g) := hw4
    subst r2
    have hP : va_P D vwCl [] H := hP
    have hD : va_D A [] := hD
    refine lv_if_lt (tgt := 17) hx hb dX8_wholeOf_12 (by decide) (fun c5 => ?_) (fun c5 => ?_)
    · skip
      have c5i : ((kX8_power g) : Int32).toInt < 0 := Int32.lt_iff_toInt_lt.mp c5
      refine lv_lload_n hx hb dX8_wholeOf_17 rfl (lv_at hl 0 rfl) ?_
      refine sp_calli (wr := []) (wc := []) hP hD hS hA [] [] rfl rfl (by decide) (by decide) (va_runS (As := [.long g]) (rest := []) ⟨hx, hb, hml, hown, hts⟩ (c_X8_power l D cI cJ cZ H.size g) (va_cwS 1 hts gX8_wholeOf_X8_power_98 rfl rfl rfl (by decide +kernel) ⟨Nat.le_of_ble_eq_true rfl, Nat.le_of_ble_eq_true rfl⟩) (sp_preS [.long g] hK (hP.sub (ws' := []) [] rfl) (hD.sub (ws' := []) [] (by decide) rfl)) rfl rfl hl.1 rfl (lv_room (Nat.le_of_ble_eq_true rfl)) dX8_wholeOf_18 ⟨Nat.le_of_ble_eq_true rfl, Nat.le_of_ble_eq_true rfl⟩) (fun r6 u7 H locs hw8 hP hD hS => ?_)
      have hq_8_0 : r6 = (kX8_power g) := hw8
      subst r6
      have hP : va_P D vwCl [] H := hP
      have hD : va_D A [] := hD
      refine lv_ineg hx hb dX8_wholeOf_21 ?_
      refine lv_istore_n (lv' := [(3, .int (-(kX8_power g))), (0, .long g), (2, .int hw9)]) hx hb dX8_wholeOf_22 rfl hl (by decide) rfl (fun ls hl => ?_)
      refine lv_iload_n hx hb dX8_wholeOf_23 rfl (lv_at hl 0 rfl) ?_
      refine lv_bipush (v := 40) hx hb dX8_wholeOf_24 (by decide) ?_
      have hj16 : ∀ (z15 : Int64) (H : Heap) (locs : List Loc) (ls : Array Slot), (z15 = kX8_wholeOf_39_z15 g hw9) → va_P D vwCl [] H → va_D A [] → va_S A s.heap H locs → lv_has ls 13 [(3, .int (-(kX8_power g))), (0, .long g), (2, .int hw9)] → W p l e ({ frames := 2, cells := 0, slots := 0, locals := 51 }) s m (([.long g, .int hw9] : List Value).toArray) below meth c H locs 0 0 (MQ below (va_Ql (fun (r : Int64) (_ : Unit) => r = kX8_wholeOf g hw9) (sp_B D vwCl A (fun (_ : Unit) => [])) A) ([.long g, .int hw9] : List Value).toArray s 0 0 A) (F0 m 39 ls [.long z15]) := by
        intro z15 H locs ls hz15 hP hD hS hl
        subst z15
        refine lv_lstore (lv' := [(4, .long (kX8_wholeOf_39_z15 g hw9)), (3, .int (-(kX8_power g))), (0, .long g), (2, .int hw9)]) hx hb dX8_wholeOf_39 hl (by decide) rfl (fun ls hl => ?_)
        refine lv_iload_n hx hb dX8_wholeOf_41 rfl (lv_at hl 1 rfl) ?_
        refine lv_bipush (v := 40) hx hb dX8_wholeOf_42 (by decide) ?_
        have hj37 : ∀ (z36 : Int32) (H : Heap) (locs : List Loc) (ls : Array Slot), (z36 = kX8_wholeOf_81_z36 g hw9) → va_P D vwCl [] H → va_D A [] → va_S A s.heap H locs → lv_has ls 13 [(4, .long (kX8_wholeOf_39_z15 g hw9)), (3, .int (-(kX8_power g))), (0, .long g), (2, .int hw9)] → W p l e ({ frames := 2, cells := 0, slots := 0, locals := 51 }) s m (([.long g, .int hw9] : List Value).toArray) below meth c H locs 0 0 (MQ below (va_Ql (fun (r : Int64) (_ : Unit) => r = kX8_wholeOf g hw9) (sp_B D vwCl A (fun (_ : Unit) => [])) A) ([.long g, .int hw9] : List Value).toArray s 0 0 A) (F0 m 81 ls [.int z36]) := by
          intro z36 H locs ls hz36 hP hD hS hl
          subst z36
          refine lv_istore (lv' := [(6, .int (kX8_wholeOf_81_z36 g hw9)), (4, .long (kX8_wholeOf_39_z15 g hw9)), (3, .int (-(kX8_power g))), (0, .long g), (2, .int hw9)]) hx hb dX8_wholeOf_81 hl (by decide) rfl (fun ls hl => ?_)
          refine lv_lload_n hx hb dX8_wholeOf_83 rfl (lv_at hl 3 rfl) ?_
          refine lv_lconst (v := 0) hx hb dX8_wholeOf_84 (by decide) ?_
          refine W.lcmp hx hb dX8_wholeOf_85 ?_
          have hj42 : ∀ (z41 : Int32) (H : Heap) (locs : List Loc) (ls : Array Slot), (z41 = kX8_wholeOf_94_z41 g hw9) → va_P D vwCl [] H → va_D A [] → va_S A s.heap H locs → lv_has ls 13 [(6, .int (kX8_wholeOf_81_z36 g hw9)), (4, .long (kX8_wholeOf_39_z15 g hw9)), (3, .int (-(kX8_power g))), (0, .long g), (2, .int hw9)] → W p l e ({ frames := 2, cells := 0, slots := 0, locals := 51 }) s m (([.long g, .int hw9] : List Value).toArray) below meth c H locs 0 0 (MQ below (va_Ql (fun (r : Int64) (_ : Unit) => r = kX8_wholeOf g hw9) (sp_B D vwCl A (fun (_ : Unit) => [])) A) ([.long g, .int hw9] : List Value).toArray s 0 0 A) (F0 m 94 ls [.int z41]) := by
            intro z41 H locs ls hz41 hP hD hS hl
            subst z41
            refine lv_istore (lv' := [(7, .int (kX8_wholeOf_94_z41 g hw9)), (6, .int (kX8_wholeOf_81_z36 g hw9)), (4, .long (kX8_wholeOf_39_z15 g hw9)), (3, .int (-(kX8_power g))), (0, .long g), (2, .int hw9)]) hx hb dX8_wholeOf_94 hl (by decide) rfl (fun ls hl => ?_)
            refine lv_iconst (v := 0) hx hb dX8_wholeOf_96 (by decide) ?_
            refine lv_istore (lv' := [(8, .int 0), (7, .int (kX8_wholeOf_94_z41 g hw9)), (6, .int (kX8_wholeOf_81_z36 g hw9)), (4, .long (kX8_wholeOf_39_z15 g hw9)), (3, .int (-(kX8_power g))), (0, .long g), (2, .int hw9)]) hx hb dX8_wholeOf_97 hl (by decide) rfl (fun ls hl => ?_)
            refine lv_iload_n hx hb dX8_wholeOf_99 rfl (lv_at hl 6 rfl) ?_
            refine lv_iconst (v := 2) hx hb dX8_wholeOf_100 (by decide) ?_
            have hj83 : ∀ (z82 : Int32) (H : Heap) (locs : List Loc) (ls : Array Slot), (z82 = kX8_wholeOf_187_z82 g hw9) → va_P D vwCl [] H → va_D A [] → va_S A s.heap H locs → lv_has ls 13 [(8, .int z82), (7, .int (kX8_wholeOf_94_z41 g hw9)), (6, .int (kX8_wholeOf_81_z36 g hw9)), (4, .long (kX8_wholeOf_39_z15 g hw9)), (3, .int (-(kX8_power g))), (0, .long g), (2, .int hw9)] → W p l e ({ frames := 2, cells := 0, slots := 0, locals := 51 }) s m (([.long g, .int hw9] : List Value).toArray) below meth c H locs 0 0 (MQ below (va_Ql (fun (r : Int64) (_ : Unit) => r = kX8_wholeOf g hw9) (sp_B D vwCl A (fun (_ : Unit) => [])) A) ([.long g, .int hw9] : List Value).toArray s 0 0 A) (F0 m 187 ls []) := by
              intro z82 H locs ls hz82 hP hD hS hl
              subst z82
              refine lv_iload_n hx hb dX8_wholeOf_187 rfl (lv_at hl 6 rfl) ?_
              refine lv_iconst (v := 2) hx hb dX8_wholeOf_188 (by decide) ?_
              have hj103 : ∀ (z102 : Int32) (H : Heap) (locs : List Loc) (ls : Array Slot), (z102 = kX8_wholeOf_218_z102 g hw9) → va_P D vwCl [] H → va_D A [] → va_S A s.heap H locs → lv_has ls 13 [(8, .int z102), (7, .int (kX8_wholeOf_94_z41 g hw9)), (6, .int (kX8_wholeOf_81_z36 g hw9)), (4, .long (kX8_wholeOf_39_z15 g hw9)), (3, .int (-(kX8_power g))), (0, .long g), (2, .int hw9)] → W p l e ({ frames := 2, cells := 0, slots := 0, locals := 51 }) s m (([.long g, .int hw9] : List Value).toArray) below meth c H locs 0 0 (MQ below (va_Ql (fun (r : Int64) (_ : Unit) => r = kX8_wholeOf g hw9) (sp_B D vwCl A (fun (_ : Unit) => [])) A) ([.long g, .int hw9] : List Value).toArray s 0 0 A) (F0 m 218 ls []) := by
                intro z102 H locs ls hz102 hP hD hS hl
                subst z102
                refine lv_iload hx hb dX8_wholeOf_218 (lv_at hl 1 rfl) ?_
                refine lv_iload hx hb dX8_wholeOf_220 (lv_at hl 0 rfl) ?_
                have hj108 : ∀ (z107 : Int64) (H : Heap) (locs : List Loc) (ls : Array Slot), (z107 = kX8_wholeOf_234_z107 g hw9) → va_P D vwCl [] H → va_D A [] → va_S A s.heap H locs → lv_has ls 13 [(8, .int (kX8_wholeOf_218_z102 g hw9)), (7, .int (kX8_wholeOf_94_z41 g hw9)), (6, .int (kX8_wholeOf_81_z36 g hw9)), (4, .long (kX8_wholeOf_39_z15 g hw9)), (3, .int (-(kX8_power g))), (0, .long g), (2, .int hw9)] → W p l e ({ frames := 2, cells := 0, slots := 0, locals := 51 }) s m (([.long g, .int hw9] : List Value).toArray) below meth c H locs 0 0 (MQ below (va_Ql (fun (r : Int64) (_ : Unit) => r = kX8_wholeOf g hw9) (sp_B D vwCl A (fun (_ : Unit) => [])) A) ([.long g, .int hw9] : List Value).toArray s 0 0 A) (F0 m 234 ls [.long z107, .int (kX8_wholeOf_94_z41 g hw9)]) := by
                  intro z107 H locs ls hz107 hP hD hS hl
                  subst z107
                  refine lv_iconst (v := 0) hx hb dX8_wholeOf_234 (by decide) ?_
                  refine lv_iconst (v := 0) hx hb dX8_wholeOf_235 (by decide) ?_
                  refine sp_callj (wr := []) (wc := []) hP hD hS hA [] [] rfl rfl (by decide) (by decide) (va_runS (As := [.int (kX8_wholeOf_94_z41 g hw9), .long (kX8_wholeOf_234_z107 g hw9), .int 0, .int 0]) (rest := []) ⟨hx, hb, hml, hown, hts⟩ (c_X8_pack l D cI cJ cZ H.size (kX8_wholeOf_94_z41 g hw9) (kX8_wholeOf_234_z107 g hw9) 0 0) (va_cwS 4 hts gX8_wholeOf_X8_pack_105 rfl rfl rfl (by decide +kernel) ⟨Nat.le_of_ble_eq_true rfl, Nat.le_of_ble_eq_true rfl⟩) (sp_preS [.int (kX8_wholeOf_94_z41 g hw9), .long (kX8_wholeOf_234_z107 g hw9), .int 0, .int 0] hK (hP.sub (ws' := []) [] rfl) (hD.sub (ws' := []) [] (by decide) rfl)) rfl rfl hl.1 rfl (lv_room (Nat.le_of_ble_eq_true rfl)) dX8_wholeOf_236 ⟨Nat.le_of_ble_eq_true rfl, Nat.le_of_ble_eq_true rfl⟩) (fun r109 u110 H locs hw111 hP hD hS => ?_)
                  have hq_111_0 : r109 = (kX8_pack (kX8_wholeOf_94_z41 g hw9) (kX8_wholeOf_234_z107 g hw9) 0 0) := hw111
                  subst r109
                  have hP : va_P D vwCl [] H := hP
                  have hD : va_D A [] := hD
                  refine W.widen (k := 0) (n := 0) (by decide) (by decide) ?_
                  exact sp_lret (u := ()) hx hb hr hlocks hS (Eq.symm ((if_neg c1i).trans ((if_pos c5i).trans rfl))) (hP.sub [] rfl) (hD.sub [] (by decide) rfl) dX8_wholeOf_239
                refine lv_if_eq (tgt := 232) hx hb dX8_wholeOf_222 (by decide) (fun c104 => ?_) (fun c104 => ?_)
                · skip
                  have c104i : ((kX8_wholeOf_218_z102 g hw9) : Int32).toInt = 0 := congrArg Int32.toInt c104
                  refine lv_lload hx hb dX8_wholeOf_232 (lv_at hl 3 rfl) ?_
                  exact hj108 ((kX8_wholeOf_39_z15 g hw9)) _ _ _ (Eq.symm ((if_pos c104i).trans rfl)) (hP.sub [] rfl) (hD.sub [] (by decide) rfl) hS (lv_sub hl [0, 1, 2, 3, 4, 5, 6] rfl)
                · skip
                  have c104i : ¬ ((kX8_wholeOf_218_z102 g hw9) : Int32).toInt = 0 := fun h => c104 (Int32.toInt_inj.mp h)
                  refine lv_lload hx hb dX8_wholeOf_225 (lv_at hl 3 rfl) ?_
                  refine lv_lconst (v := 1) hx hb dX8_wholeOf_227 (by decide) ?_
                  refine lv_ladd hx hb dX8_wholeOf_228 ?_
                  refine lv_goto (tgt := 234) hx hb dX8_wholeOf_229 (by decide) ?_
                  exact hj108 (((kX8_wholeOf_39_z15 g hw9) + 1)) _ _ _ (Eq.symm ((if_neg c104i).trans rfl)) (hP.sub [] rfl) (hD.sub [] (by decide) rfl) hS (lv_sub hl [0, 1, 2, 3, 4, 5, 6] rfl)
              refine lv_icmp_ge (tgt := 218) hx hb dX8_wholeOf_189 (by decide) (fun c84 => ?_) (fun c84 => ?_)
              · skip
                have c84i : 2 ≤ (hw9 : Int32).toInt := Int32.le_iff_toInt_le.mp c84
                exact hj103 ((kX8_wholeOf_187_z82 g hw9)) _ _ _ (Eq.symm ((if_pos c84i).trans rfl)) (hP.sub [] rfl) (hD.sub [] (by decide) rfl) hS (lv_sub hl [0, 1, 2, 3, 4, 5, 6] rfl)
              · skip
                have c84i : ¬ 2 ≤ (hw9 : Int32).toInt := fun h => c84 (Int32.le_iff_toInt_le.mpr h)
                refine lv_iload hx hb dX8_wholeOf_192 (lv_at hl 2 rfl) ?_
                have hj100 : ∀ (z99 : Int32) (H : Heap) (locs : List Loc) (ls : Array Slot), (z99 = kX8_wholeOf_216_z99 g hw9) → va_P D vwCl [] H → va_D A [] → va_S A s.heap H locs → lv_has ls 13 [(8, .int (kX8_wholeOf_187_z82 g hw9)), (7, .int (kX8_wholeOf_94_z41 g hw9)), (6, .int (kX8_wholeOf_81_z36 g hw9)), (4, .long (kX8_wholeOf_39_z15 g hw9)), (3, .int (-(kX8_power g))), (0, .long g), (2, .int hw9)] → W p l e ({ frames := 2, cells := 0, slots := 0, locals := 51 }) s m (([.long g, .int hw9] : List Value).toArray) below meth c H locs 0 0 (MQ below (va_Ql (fun (r : Int64) (_ : Unit) => r = kX8_wholeOf g hw9) (sp_B D vwCl A (fun (_ : Unit) => [])) A) ([.long g, .int hw9] : List Value).toArray s 0 0 A) (F0 m 216 ls [.int z99]) := by
                  intro z99 H locs ls hz99 hP hD hS hl
                  subst z99
                  refine lv_istore (lv' := [(8, .int (kX8_wholeOf_216_z99 g hw9)), (7, .int (kX8_wholeOf_94_z41 g hw9)), (6, .int (kX8_wholeOf_81_z36 g hw9)), (4, .long (kX8_wholeOf_39_z15 g hw9)), (3, .int (-(kX8_power g))), (0, .long g), (2, .int hw9)]) hx hb dX8_wholeOf_216 hl (by decide) rfl (fun ls hl => ?_)
                  exact hj103 ((kX8_wholeOf_216_z99 g hw9)) _ _ _ (Eq.symm ((if_neg c84i).trans rfl)) (hP.sub [] rfl) (hD.sub [] (by decide) rfl) hS (lv_sub hl [0, 1, 2, 3, 4, 5, 6] rfl)
                refine lv_if_ne (tgt := 215) hx hb dX8_wholeOf_194 (by decide) (fun c86 => ?_) (fun c86 => ?_)
                · skip
                  have c86i : ¬ ((kX8_wholeOf_81_z36 g hw9) : Int32).toInt = 0 := fun h => c86 (Int32.toInt_inj.mp h)
                  refine lv_iconst (v := 0) hx hb dX8_wholeOf_215 (by decide) ?_
                  exact hj100 (0) _ _ _ (Eq.symm ((if_neg c86i).trans rfl)) (hP.sub [] rfl) (hD.sub [] (by decide) rfl) hS (lv_sub hl [0, 1, 2, 3, 4, 5, 6] rfl)
                · skip
                  have c86i : ((kX8_wholeOf_81_z36 g hw9) : Int32).toInt = 0 := congrArg Int32.toInt c86
                  refine lv_iload hx hb dX8_wholeOf_197 (lv_at hl 1 rfl) ?_
                  refine lv_iload_n hx hb dX8_wholeOf_199 rfl (lv_at hl 6 rfl) ?_
                  have hj92 : ∀ (z91 : Int32) (H : Heap) (locs : List Loc) (ls : Array Slot), (z91 = kX8_wholeOf_208_z91 g hw9) → va_P D vwCl [] H → va_D A [] → va_S A s.heap H locs → lv_has ls 13 [(8, .int (kX8_wholeOf_187_z82 g hw9)), (7, .int (kX8_wholeOf_94_z41 g hw9)), (6, .int (kX8_wholeOf_81_z36 g hw9)), (4, .long (kX8_wholeOf_39_z15 g hw9)), (3, .int (-(kX8_power g))), (0, .long g), (2, .int hw9)] → W p l e ({ frames := 2, cells := 0, slots := 0, locals := 51 }) s m (([.long g, .int hw9] : List Value).toArray) below meth c H locs 0 0 (MQ below (va_Ql (fun (r : Int64) (_ : Unit) => r = kX8_wholeOf g hw9) (sp_B D vwCl A (fun (_ : Unit) => [])) A) ([.long g, .int hw9] : List Value).toArray s 0 0 A) (F0 m 208 ls [.int z91, .int (kX8_wholeOf_94_z41 g hw9)]) := by
                    intro z91 H locs ls hz91 hP hD hS hl
                    subst z91
                    have hj97 : ∀ (z96 : Int32) (H : Heap) (locs : List Loc) (ls : Array Slot), (z96 = kX8_wholeOf_216_z96 g hw9) → va_P D vwCl [] H → va_D A [] → va_S A s.heap H locs → lv_has ls 13 [(8, .int (kX8_wholeOf_187_z82 g hw9)), (7, .int (kX8_wholeOf_94_z41 g hw9)), (6, .int (kX8_wholeOf_81_z36 g hw9)), (4, .long (kX8_wholeOf_39_z15 g hw9)), (3, .int (-(kX8_power g))), (0, .long g), (2, .int hw9)] → W p l e ({ frames := 2, cells := 0, slots := 0, locals := 51 }) s m (([.long g, .int hw9] : List Value).toArray) below meth c H locs 0 0 (MQ below (va_Ql (fun (r : Int64) (_ : Unit) => r = kX8_wholeOf g hw9) (sp_B D vwCl A (fun (_ : Unit) => [])) A) ([.long g, .int hw9] : List Value).toArray s 0 0 A) (F0 m 216 ls [.int z96]) := by
                      intro z96 H locs ls hz96 hP hD hS hl
                      subst z96
                      exact hj100 ((kX8_wholeOf_216_z96 g hw9)) _ _ _ (Eq.symm ((if_pos c86i).trans rfl)) (hP.sub [] rfl) (hD.sub [] (by decide) rfl) hS (lv_sub hl [0, 1, 2, 3, 4, 5, 6] rfl)
                    refine lv_icmp_ne (tgt := 215) hx hb dX8_wholeOf_208 (by decide) (fun c93 => ?_) (fun c93 => ?_)
                    · skip
                      have c93i : ¬ ((kX8_wholeOf_94_z41 g hw9) : Int32).toInt = ((kX8_wholeOf_208_z91 g hw9) : Int32).toInt := fun h => c93 (Int32.toInt_inj.mp h)
                      refine lv_iconst (v := 0) hx hb dX8_wholeOf_215 (by decide) ?_
                      exact hj97 (0) _ _ _ (Eq.symm ((if_neg c93i).trans rfl)) (hP.sub [] rfl) (hD.sub [] (by decide) rfl) hS (lv_sub hl [0, 1, 2, 3, 4, 5, 6] rfl)
                    · skip
                      have c93i : ((kX8_wholeOf_94_z41 g hw9) : Int32).toInt = ((kX8_wholeOf_208_z91 g hw9) : Int32).toInt := congrArg Int32.toInt c93
                      refine lv_iconst (v := 1) hx hb dX8_wholeOf_211 (by decide) ?_
                      refine lv_goto (tgt := 216) hx hb dX8_wholeOf_212 (by decide) ?_
                      exact hj97 (1) _ _ _ (Eq.symm ((if_pos c93i).trans rfl)) (hP.sub [] rfl) (hD.sub [] (by decide) rfl) hS (lv_sub hl [0, 1, 2, 3, 4, 5, 6] rfl)
                  refine lv_if_ne (tgt := 207) hx hb dX8_wholeOf_200 (by decide) (fun c88 => ?_) (fun c88 => ?_)
                  · skip
                    have c88i : ¬ (hw9 : Int32).toInt = 0 := fun h => c88 (Int32.toInt_inj.mp h)
                    refine lv_iconst (v := 0) hx hb dX8_wholeOf_207 (by decide) ?_
                    exact hj92 (0) _ _ _ (Eq.symm ((if_neg c88i).trans rfl)) (hP.sub [] rfl) (hD.sub [] (by decide) rfl) hS (lv_sub hl [0, 1, 2, 3, 4, 5, 6] rfl)
                  · skip
                    have c88i : (hw9 : Int32).toInt = 0 := congrArg Int32.toInt c88
                    refine lv_iconst (v := 1) hx hb dX8_wholeOf_203 (by decide) ?_
                    refine lv_goto (tgt := 208) hx hb dX8_wholeOf_204 (by decide) ?_
                    exact hj92 (1) _ _ _ (Eq.symm ((if_pos c88i).trans rfl)) (hP.sub [] rfl) (hD.sub [] (by decide) rfl) hS (lv_sub hl [0, 1, 2, 3, 4, 5, 6] rfl)
            refine lv_icmp_ne (tgt := 187) hx hb dX8_wholeOf_101 (by decide) (fun c43 => ?_) (fun c43 => ?_)
            · skip
              have c43i : ¬ (hw9 : Int32).toInt = 2 := fun h => c43 (Int32.toInt_inj.mp h)
              exact hj83 (0) _ _ _ (Eq.symm ((if_neg c43i).trans rfl)) (hP.sub [] rfl) (hD.sub [] (by decide) rfl) hS (lv_sub hl [0, 1, 2, 3, 4, 5, 6] rfl)
            · skip
              have c43i : (hw9 : Int32).toInt = 2 := congrArg Int32.toInt c43
              refine lv_iload_n hx hb dX8_wholeOf_104 rfl (lv_at hl 4 rfl) ?_
              refine lv_bipush (v := 40) hx hb dX8_wholeOf_105 (by decide) ?_
              have hj80 : ∀ (z79 : Int32) (H : Heap) (locs : List Loc) (ls : Array Slot), (z79 = kX8_wholeOf_187_z79 g hw9) → va_P D vwCl [] H → va_D A [] → va_S A s.heap H locs → lv_has ls 13 [(8, .int z79), (7, .int (kX8_wholeOf_94_z41 g hw9)), (6, .int (kX8_wholeOf_81_z36 g hw9)), (4, .long (kX8_wholeOf_39_z15 g hw9)), (3, .int (-(kX8_power g))), (0, .long g), (2, .int hw9)] → W p l e ({ frames := 2, cells := 0, slots := 0, locals := 51 }) s m (([.long g, .int hw9] : List Value).toArray) below meth c H locs 0 0 (MQ below (va_Ql (fun (r : Int64) (_ : Unit) => r = kX8_wholeOf g hw9) (sp_B D vwCl A (fun (_ : Unit) => [])) A) ([.long g, .int hw9] : List Value).toArray s 0 0 A) (F0 m 187 ls []) := by
                intro z79 H locs ls hz79 hP hD hS hl
                subst z79
                exact hj83 ((kX8_wholeOf_187_z79 g hw9)) _ _ _ (Eq.symm ((if_pos c43i).trans rfl)) (hP.sub [] rfl) (hD.sub [] (by decide) rfl) hS (lv_sub hl [0, 1, 2, 3, 4, 5, 6] rfl)
              refine lv_icmp_gt (tgt := 187) hx hb dX8_wholeOf_107 (by decide) (fun c45 => ?_) (fun c45 => ?_)
              · skip
                have c45i : 40 < ((-(kX8_power g)) : Int32).toInt := Int32.lt_iff_toInt_lt.mp c45
                exact hj80 (0) _ _ _ (Eq.symm ((if_pos c45i).trans rfl)) (hP.sub [] rfl) (hD.sub [] (by decide) rfl) hS (lv_sub hl [0, 1, 2, 3, 4, 5, 6] rfl)
              · skip
                have c45i : ¬ 40 < ((-(kX8_power g)) : Int32).toInt := fun h => c45 (Int32.lt_iff_toInt_lt.mpr h)
                refine lv_lload_n hx hb dX8_wholeOf_110 rfl (lv_at hl 5 rfl) ?_
                refine sp_callj (wr := []) (wc := []) hP hD hS hA [] [] rfl rfl (by decide) (by decide) (va_runS (As := [.long g]) (rest := []) ⟨hx, hb, hml, hown, hts⟩ (c_X8_digits l D cI cJ cZ H.size g) (va_cwS 1 hts gX8_wholeOf_X8_digits_102 rfl rfl rfl (by decide +kernel) ⟨Nat.le_of_ble_eq_true rfl, Nat.le_of_ble_eq_true rfl⟩) (sp_preS [.long g] hK (hP.sub (ws' := []) [] rfl) (hD.sub (ws' := []) [] (by decide) rfl)) rfl rfl hl.1 rfl (lv_room (Nat.le_of_ble_eq_true rfl)) dX8_wholeOf_111 ⟨Nat.le_of_ble_eq_true rfl, Nat.le_of_ble_eq_true rfl⟩) (fun r47 u48 H locs hw49 hP hD hS => ?_)
                have hq_49_0 : r47 = (kX8_digits g) := hw49
                subst r47
                have hP : va_P D vwCl [] H := hP
                have hD : va_D A [] := hD
                refine lv_iload_n hx hb dX8_wholeOf_114 rfl (lv_at hl 4 rfl) ?_
                refine lv_iconst (v := 1) hx hb dX8_wholeOf_115 (by decide) ?_
                refine lv_isub hx hb dX8_wholeOf_116 ?_
                refine lv_lshr (v := _) hx hb dX8_wholeOf_117 rfl ?_
                refine lv_lstore (lv' := [(9, .long (kX8_wholeOf_s118 g hw9)), (8, .int 0), (7, .int (kX8_wholeOf_94_z41 g hw9)), (6, .int (kX8_wholeOf_81_z36 g hw9)), (4, .long (kX8_wholeOf_39_z15 g hw9)), (3, .int (-(kX8_power g))), (0, .long g), (2, .int hw9)]) hx hb dX8_wholeOf_118 hl (by decide) rfl (fun ls hl => ?_)
                refine lv_lload hx hb dX8_wholeOf_120 (lv_at hl 0 rfl) ?_
                refine lv_ldc2 (v := 2) hx hb hown (hts (.constantLong RX8 90 (2)) (oX8_wholeOf_in _ (List.mem_of_getElem? (i := 1) rfl))) dX8_wholeOf_122 ?_
                refine lv_lrem hx hb dX8_wholeOf_125 (by decide) ?_
                refine lv_lconst (v := 1) hx hb dX8_wholeOf_126 (by decide) ?_
                refine W.lcmp hx hb dX8_wholeOf_127 ?_
                have hj54 : ∀ (z53 : Int32) (H : Heap) (locs : List Loc) (ls : Array Slot), (z53 = kX8_wholeOf_136_z53 g hw9) → va_P D vwCl [] H → va_D A [] → va_S A s.heap H locs → lv_has ls 13 [(9, .long (kX8_wholeOf_s118 g hw9)), (8, .int 0), (7, .int (kX8_wholeOf_94_z41 g hw9)), (6, .int (kX8_wholeOf_81_z36 g hw9)), (4, .long (kX8_wholeOf_39_z15 g hw9)), (3, .int (-(kX8_power g))), (0, .long g), (2, .int hw9)] → W p l e ({ frames := 2, cells := 0, slots := 0, locals := 51 }) s m (([.long g, .int hw9] : List Value).toArray) below meth c H locs 0 0 (MQ below (va_Ql (fun (r : Int64) (_ : Unit) => r = kX8_wholeOf g hw9) (sp_B D vwCl A (fun (_ : Unit) => [])) A) ([.long g, .int hw9] : List Value).toArray s 0 0 A) (F0 m 136 ls [.int z53]) := by
                  intro z53 H locs ls hz53 hP hD hS hl
                  subst z53
                  refine lv_istore (lv' := [(11, .int (kX8_wholeOf_136_z53 g hw9)), (9, .long (kX8_wholeOf_s118 g hw9)), (8, .int 0), (7, .int (kX8_wholeOf_94_z41 g hw9)), (6, .int (kX8_wholeOf_81_z36 g hw9)), (4, .long (kX8_wholeOf_39_z15 g hw9)), (3, .int (-(kX8_power g))), (0, .long g), (2, .int hw9)]) hx hb dX8_wholeOf_136 hl (by decide) rfl (fun ls hl => ?_)
                  refine lv_lload hx hb dX8_wholeOf_138 (lv_at hl 1 rfl) ?_
                  refine lv_iload_n hx hb dX8_wholeOf_140 rfl (lv_at hl 6 rfl) ?_
                  refine lv_iconst (v := 1) hx hb dX8_wholeOf_141 (by decide) ?_
                  refine lv_isub hx hb dX8_wholeOf_142 ?_
                  refine lv_lshl (v := _) hx hb dX8_wholeOf_143 rfl ?_
                  refine lv_lload_n hx hb dX8_wholeOf_144 rfl (lv_at hl 7 rfl) ?_
                  refine sp_callj (wr := []) (wc := []) hP hD hS hA [] [] rfl rfl (by decide) (by decide) (va_runS (As := [.long g]) (rest := [.long ((kX8_wholeOf_s118 g hw9) <<< ((((-(kX8_power g)) - 1) : Int32).toInt64 &&& 63))]) ⟨hx, hb, hml, hown, hts⟩ (c_X8_digits l D cI cJ cZ H.size g) (va_cwS 1 hts gX8_wholeOf_X8_digits_102 rfl rfl rfl (by decide +kernel) ⟨Nat.le_of_ble_eq_true rfl, Nat.le_of_ble_eq_true rfl⟩) (sp_preS [.long g] hK (hP.sub (ws' := []) [] rfl) (hD.sub (ws' := []) [] (by decide) rfl)) rfl rfl hl.1 rfl (lv_room (Nat.le_of_ble_eq_true rfl)) dX8_wholeOf_145 ⟨Nat.le_of_ble_eq_true rfl, Nat.le_of_ble_eq_true rfl⟩) (fun r55 u56 H locs hw57 hP hD hS => ?_)
                  have hq_57_0 : r55 = (kX8_digits g) := hw57
                  subst r55
                  have hP : va_P D vwCl [] H := hP
                  have hD : va_D A [] := hD
                  refine W.lcmp hx hb dX8_wholeOf_148 ?_
                  have hj62 : ∀ (z61 : Int32) (H : Heap) (locs : List Loc) (ls : Array Slot), (z61 = kX8_wholeOf_157_z61 g hw9) → va_P D vwCl [] H → va_D A [] → va_S A s.heap H locs → lv_has ls 13 [(11, .int (kX8_wholeOf_136_z53 g hw9)), (9, .long (kX8_wholeOf_s118 g hw9)), (8, .int 0), (7, .int (kX8_wholeOf_94_z41 g hw9)), (6, .int (kX8_wholeOf_81_z36 g hw9)), (4, .long (kX8_wholeOf_39_z15 g hw9)), (3, .int (-(kX8_power g))), (0, .long g), (2, .int hw9)] → W p l e ({ frames := 2, cells := 0, slots := 0, locals := 51 }) s m (([.long g, .int hw9] : List Value).toArray) below meth c H locs 0 0 (MQ below (va_Ql (fun (r : Int64) (_ : Unit) => r = kX8_wholeOf g hw9) (sp_B D vwCl A (fun (_ : Unit) => [])) A) ([.long g, .int hw9] : List Value).toArray s 0 0 A) (F0 m 157 ls [.int z61]) := by
                    intro z61 H locs ls hz61 hP hD hS hl
                    subst z61
                    refine lv_istore (lv' := [(12, .int (kX8_wholeOf_157_z61 g hw9)), (11, .int (kX8_wholeOf_136_z53 g hw9)), (9, .long (kX8_wholeOf_s118 g hw9)), (8, .int 0), (7, .int (kX8_wholeOf_94_z41 g hw9)), (6, .int (kX8_wholeOf_81_z36 g hw9)), (4, .long (kX8_wholeOf_39_z15 g hw9)), (3, .int (-(kX8_power g))), (0, .long g), (2, .int hw9)]) hx hb dX8_wholeOf_157 hl (by decide) rfl (fun ls hl => ?_)
                    refine lv_iload hx hb dX8_wholeOf_159 (lv_at hl 1 rfl) ?_
                    have hj77 : ∀ (z76 : Int32) (H : Heap) (locs : List Loc) (ls : Array Slot), (z76 = kX8_wholeOf_185_z76 g hw9) → va_P D vwCl [] H → va_D A [] → va_S A s.heap H locs → lv_has ls 13 [(12, .int (kX8_wholeOf_157_z61 g hw9)), (11, .int (kX8_wholeOf_136_z53 g hw9)), (9, .long (kX8_wholeOf_s118 g hw9)), (8, .int 0), (7, .int (kX8_wholeOf_94_z41 g hw9)), (6, .int (kX8_wholeOf_81_z36 g hw9)), (4, .long (kX8_wholeOf_39_z15 g hw9)), (3, .int (-(kX8_power g))), (0, .long g), (2, .int hw9)] → W p l e ({ frames := 2, cells := 0, slots := 0, locals := 51 }) s m (([.long g, .int hw9] : List Value).toArray) below meth c H locs 0 0 (MQ below (va_Ql (fun (r : Int64) (_ : Unit) => r = kX8_wholeOf g hw9) (sp_B D vwCl A (fun (_ : Unit) => [])) A) ([.long g, .int hw9] : List Value).toArray s 0 0 A) (F0 m 185 ls [.int z76]) := by
                      intro z76 H locs ls hz76 hP hD hS hl
                      subst z76
                      refine lv_istore (lv' := [(8, .int (kX8_wholeOf_185_z76 g hw9)), (12, .int (kX8_wholeOf_157_z61 g hw9)), (11, .int (kX8_wholeOf_136_z53 g hw9)), (9, .long (kX8_wholeOf_s118 g hw9)), (7, .int (kX8_wholeOf_94_z41 g hw9)), (6, .int (kX8_wholeOf_81_z36 g hw9)), (4, .long (kX8_wholeOf_39_z15 g hw9)), (3, .int (-(kX8_power g))), (0, .long g), (2, .int hw9)]) hx hb dX8_wholeOf_185 hl (by decide) rfl (fun ls hl => ?_)
                      exact hj80 ((kX8_wholeOf_185_z76 g hw9)) _ _ _ (Eq.symm ((if_neg c45i).trans rfl)) (hP.sub [] rfl) (hD.sub [] (by decide) rfl) hS (lv_sub hl [0, 4, 5, 6, 7, 8, 9] rfl)
                    refine lv_if_eq (tgt := 184) hx hb dX8_wholeOf_161 (by decide) (fun c63 => ?_) (fun c63 => ?_)
                    · skip
                      have c63i : ((kX8_wholeOf_136_z53 g hw9) : Int32).toInt = 0 := congrArg Int32.toInt c63
                      refine lv_iconst (v := 0) hx hb dX8_wholeOf_184 (by decide) ?_
                      exact hj77 (0) _ _ _ (Eq.symm ((if_pos c63i).trans rfl)) (hP.sub [] rfl) (hD.sub [] (by decide) rfl) hS (lv_sub hl [0, 1, 2, 3, 4, 5, 6, 7, 8, 9] rfl)
                    · skip
                      have c63i : ¬ ((kX8_wholeOf_136_z53 g hw9) : Int32).toInt = 0 := fun h => c63 (Int32.toInt_inj.mp h)
                      refine lv_iload hx hb dX8_wholeOf_164 (lv_at hl 0 rfl) ?_
                      have hj74 : ∀ (z73 : Int32) (H : Heap) (locs : List Loc) (ls : Array Slot), (z73 = kX8_wholeOf_185_z73 g hw9) → va_P D vwCl [] H → va_D A [] → va_S A s.heap H locs → lv_has ls 13 [(12, .int (kX8_wholeOf_157_z61 g hw9)), (11, .int (kX8_wholeOf_136_z53 g hw9)), (9, .long (kX8_wholeOf_s118 g hw9)), (8, .int 0), (7, .int (kX8_wholeOf_94_z41 g hw9)), (6, .int (kX8_wholeOf_81_z36 g hw9)), (4, .long (kX8_wholeOf_39_z15 g hw9)), (3, .int (-(kX8_power g))), (0, .long g), (2, .int hw9)] → W p l e ({ frames := 2, cells := 0, slots := 0, locals := 51 }) s m (([.long g, .int hw9] : List Value).toArray) below meth c H locs 0 0 (MQ below (va_Ql (fun (r : Int64) (_ : Unit) => r = kX8_wholeOf g hw9) (sp_B D vwCl A (fun (_ : Unit) => [])) A) ([.long g, .int hw9] : List Value).toArray s 0 0 A) (F0 m 185 ls [.int z73]) := by
                        intro z73 H locs ls hz73 hP hD hS hl
                        subst z73
                        exact hj77 ((kX8_wholeOf_185_z73 g hw9)) _ _ _ (Eq.symm ((if_neg c63i).trans rfl)) (hP.sub [] rfl) (hD.sub [] (by decide) rfl) hS (lv_sub hl [0, 1, 2, 3, 4, 5, 6, 7, 8, 9] rfl)
                      refine lv_if_ne (tgt := 180) hx hb dX8_wholeOf_166 (by decide) (fun c65 => ?_) (fun c65 => ?_)
                      · skip
                        have c65i : ¬ ((kX8_wholeOf_157_z61 g hw9) : Int32).toInt = 0 := fun h => c65 (Int32.toInt_inj.mp h)
                        refine lv_iconst (v := 1) hx hb dX8_wholeOf_180 (by decide) ?_
                        refine lv_goto (tgt := 185) hx hb dX8_wholeOf_181 (by decide) ?_
                        exact hj74 (1) _ _ _ (Eq.symm ((if_neg c65i).trans rfl)) (hP.sub [] rfl) (hD.sub [] (by decide) rfl) hS (lv_sub hl [0, 1, 2, 3, 4, 5, 6, 7, 8, 9] rfl)
                      · skip
                        have c65i : ((kX8_wholeOf_157_z61 g hw9) : Int32).toInt = 0 := congrArg Int32.toInt c65
                        refine lv_lload hx hb dX8_wholeOf_169 (lv_at hl 6 rfl) ?_
                        refine lv_ldc2 (v := 2) hx hb hown (hts (.constantLong RX8 90 (2)) (oX8_wholeOf_in _ (List.mem_of_getElem? (i := 1) rfl))) dX8_wholeOf_171 ?_
                        refine lv_lrem hx hb dX8_wholeOf_174 (by decide) ?_
                        refine lv_lconst (v := 1) hx hb dX8_wholeOf_175 (by decide) ?_
                        refine W.lcmp hx hb dX8_wholeOf_176 ?_
                        have hj71 : ∀ (z70 : Int32) (H : Heap) (locs : List Loc) (ls : Array Slot), (z70 = kX8_wholeOf_185_z70 g hw9) → va_P D vwCl [] H → va_D A [] → va_S A s.heap H locs → lv_has ls 13 [(12, .int (kX8_wholeOf_157_z61 g hw9)), (11, .int (kX8_wholeOf_136_z53 g hw9)), (9, .long (kX8_wholeOf_s118 g hw9)), (8, .int 0), (7, .int (kX8_wholeOf_94_z41 g hw9)), (6, .int (kX8_wholeOf_81_z36 g hw9)), (4, .long (kX8_wholeOf_39_z15 g hw9)), (3, .int (-(kX8_power g))), (0, .long g), (2, .int hw9)] → W p l e ({ frames := 2, cells := 0, slots := 0, locals := 51 }) s m (([.long g, .int hw9] : List Value).toArray) below meth c H locs 0 0 (MQ below (va_Ql (fun (r : Int64) (_ : Unit) => r = kX8_wholeOf g hw9) (sp_B D vwCl A (fun (_ : Unit) => [])) A) ([.long g, .int hw9] : List Value).toArray s 0 0 A) (F0 m 185 ls [.int z70]) := by
                          intro z70 H locs ls hz70 hP hD hS hl
                          subst z70
                          exact hj74 ((kX8_wholeOf_185_z70 g hw9)) _ _ _ (Eq.symm ((if_pos c65i).trans rfl)) (hP.sub [] rfl) (hD.sub [] (by decide) rfl) hS (lv_sub hl [0, 1, 2, 3, 4, 5, 6, 7, 8, 9] rfl)
                        refine lv_if_ne (tgt := 184) hx hb dX8_wholeOf_177 (by decide) (fun c67 => ?_) (fun c67 => ?_)
                        · skip
                          have c67 := fun h => c67 ((lg_cmp_eq _ _).mpr h)
                          have c67i : ¬ (((kX8_wholeOf_39_z15 g hw9) - (kX8_wholeOf_39_z15 g hw9) / 2 * 2) : Int64).toInt = 1 := fun h => c67 (Int64.toInt_inj.mp h)
                          refine lv_iconst (v := 0) hx hb dX8_wholeOf_184 (by decide) ?_
                          exact hj71 (0) _ _ _ (Eq.symm ((if_neg c67i).trans rfl)) (hP.sub [] rfl) (hD.sub [] (by decide) rfl) hS (lv_sub hl [0, 1, 2, 3, 4, 5, 6, 7, 8, 9] rfl)
                        · skip
                          have c67 := (lg_cmp_eq _ _).mp c67
                          have c67i : (((kX8_wholeOf_39_z15 g hw9) - (kX8_wholeOf_39_z15 g hw9) / 2 * 2) : Int64).toInt = 1 := congrArg Int64.toInt c67
                          refine lv_iconst (v := 1) hx hb dX8_wholeOf_180 (by decide) ?_
                          refine lv_goto (tgt := 185) hx hb dX8_wholeOf_181 (by decide) ?_
                          exact hj71 (1) _ _ _ (Eq.symm ((if_pos c67i).trans rfl)) (hP.sub [] rfl) (hD.sub [] (by decide) rfl) hS (lv_sub hl [0, 1, 2, 3, 4, 5, 6, 7, 8, 9] rfl)
                  refine lv_if_eq (tgt := 156) hx hb dX8_wholeOf_149 (by decide) (fun c58 => ?_) (fun c58 => ?_)
                  · skip
                    have c58 := (lg_cmp_eq _ _).mp c58
                    have c58i : (((kX8_wholeOf_s118 g hw9) <<< ((((-(kX8_power g)) - 1) : Int32).toInt64 &&& 63)) : Int64).toInt = ((kX8_digits g) : Int64).toInt := congrArg Int64.toInt c58
                    refine lv_iconst (v := 0) hx hb dX8_wholeOf_156 (by decide) ?_
                    exact hj62 (0) _ _ _ (Eq.symm ((if_pos c58i).trans rfl)) (hP.sub [] rfl) (hD.sub [] (by decide) rfl) hS (lv_sub hl [0, 1, 2, 3, 4, 5, 6, 7, 8] rfl)
                  · skip
                    have c58 := fun h => c58 ((lg_cmp_eq _ _).mpr h)
                    have c58i : ¬ (((kX8_wholeOf_s118 g hw9) <<< ((((-(kX8_power g)) - 1) : Int32).toInt64 &&& 63)) : Int64).toInt = ((kX8_digits g) : Int64).toInt := fun h => c58 (Int64.toInt_inj.mp h)
                    refine lv_iconst (v := 1) hx hb dX8_wholeOf_152 (by decide) ?_
                    refine lv_goto (tgt := 157) hx hb dX8_wholeOf_153 (by decide) ?_
                    exact hj62 (1) _ _ _ (Eq.symm ((if_neg c58i).trans rfl)) (hP.sub [] rfl) (hD.sub [] (by decide) rfl) hS (lv_sub hl [0, 1, 2, 3, 4, 5, 6, 7, 8] rfl)
                refine lv_if_ne (tgt := 135) hx hb dX8_wholeOf_128 (by decide) (fun c50 => ?_) (fun c50 => ?_)
                · skip
                  have c50 := fun h => c50 ((lg_cmp_eq _ _).mpr h)
                  have c50i : ¬ (((kX8_wholeOf_s118 g hw9) - (kX8_wholeOf_s118 g hw9) / 2 * 2) : Int64).toInt = 1 := fun h => c50 (Int64.toInt_inj.mp h)
                  refine lv_iconst (v := 0) hx hb dX8_wholeOf_135 (by decide) ?_
                  exact hj54 (0) _ _ _ (Eq.symm ((if_neg c50i).trans rfl)) (hP.sub [] rfl) (hD.sub [] (by decide) rfl) hS (lv_sub hl [0, 1, 2, 3, 4, 5, 6, 7] rfl)
                · skip
                  have c50 := (lg_cmp_eq _ _).mp c50
                  have c50i : (((kX8_wholeOf_s118 g hw9) - (kX8_wholeOf_s118 g hw9) / 2 * 2) : Int64).toInt = 1 := congrArg Int64.toInt c50
                  refine lv_iconst (v := 1) hx hb dX8_wholeOf_131 (by decide) ?_
                  refine lv_goto (tgt := 136) hx hb dX8_wholeOf_132 (by decide) ?_
                  exact hj54 (1) _ _ _ (Eq.symm ((if_pos c50i).trans rfl)) (hP.sub [] rfl) (hD.sub [] (by decide) rfl) hS (lv_sub hl [0, 1, 2, 3, 4, 5, 6, 7] rfl)
          refine lv_if_ge (tgt := 93) hx hb dX8_wholeOf_86 (by decide) (fun c38 => ?_) (fun c38 => ?_)
          · skip
            have c38 := (lg_cmp_ge _ _).mp c38
            have c38i : 0 ≤ (g : Int64).toInt := Int64.le_iff_toInt_le.mp c38
            refine lv_iconst (v := 0) hx hb dX8_wholeOf_93 (by decide) ?_
            exact hj42 (0) _ _ _ (Eq.symm ((if_pos c38i).trans rfl)) (hP.sub [] rfl) (hD.sub [] (by decide) rfl) hS (lv_sub hl [0, 1, 2, 3, 4] rfl)
          · skip
            have c38 := fun h => c38 ((lg_cmp_ge _ _).mpr h)
            have c38i : ¬ 0 ≤ (g : Int64).toInt := fun h => c38 (Int64.le_iff_toInt_le.mpr h)
            refine lv_iconst (v := 1) hx hb dX8_wholeOf_89 (by decide) ?_
            refine lv_goto (tgt := 94) hx hb dX8_wholeOf_90 (by decide) ?_
            exact hj42 (1) _ _ _ (Eq.symm ((if_neg c38i).trans rfl)) (hP.sub [] rfl) (hD.sub [] (by decide) rfl) hS (lv_sub hl [0, 1, 2, 3, 4] rfl)
        refine lv_icmp_le (tgt := 64) hx hb dX8_wholeOf_44 (by decide) (fun c17 => ?_) (fun c17 => ?_)
        · skip
          have c17i : ((-(kX8_power g)) : Int32).toInt ≤ 40 := Int32.le_iff_toInt_le.mp c17
          refine lv_lload hx hb dX8_wholeOf_64 (lv_at hl 0 rfl) ?_
          refine lv_iload_n hx hb dX8_wholeOf_66 rfl (lv_at hl 1 rfl) ?_
          refine lv_lshl (v := _) hx hb dX8_wholeOf_67 rfl ?_
          refine lv_lload_n hx hb dX8_wholeOf_68 rfl (lv_at hl 2 rfl) ?_
          refine sp_callj (wr := []) (wc := []) hP hD hS hA [] [] rfl rfl (by decide) (by decide) (va_runS (As := [.long g]) (rest := [.long ((kX8_wholeOf_39_z15 g hw9) <<< (((-(kX8_power g)) : Int32).toInt64 &&& 63))]) ⟨hx, hb, hml, hown, hts⟩ (c_X8_digits l D cI cJ cZ H.size g) (va_cwS 1 hts gX8_wholeOf_X8_digits_102 rfl rfl rfl (by decide +kernel) ⟨Nat.le_of_ble_eq_true rfl, Nat.le_of_ble_eq_true rfl⟩) (sp_preS [.long g] hK (hP.sub (ws' := []) [] rfl) (hD.sub (ws' := []) [] (by decide) rfl)) rfl rfl hl.1 rfl (lv_room (Nat.le_of_ble_eq_true rfl)) dX8_wholeOf_69 ⟨Nat.le_of_ble_eq_true rfl, Nat.le_of_ble_eq_true rfl⟩) (fun r18 u19 H locs hw20 hP hD hS => ?_)
          have hq_20_0 : r18 = (kX8_digits g) := hw20
          subst r18
          have hP : va_P D vwCl [] H := hP
          have hD : va_D A [] := hD
          refine W.lcmp hx hb dX8_wholeOf_72 ?_
          have hj25 : ∀ (z24 : Int32) (H : Heap) (locs : List Loc) (ls : Array Slot), (z24 = kX8_wholeOf_81_z24 g hw9) → va_P D vwCl [] H → va_D A [] → va_S A s.heap H locs → lv_has ls 13 [(4, .long (kX8_wholeOf_39_z15 g hw9)), (3, .int (-(kX8_power g))), (0, .long g), (2, .int hw9)] → W p l e ({ frames := 2, cells := 0, slots := 0, locals := 51 }) s m (([.long g, .int hw9] : List Value).toArray) below meth c H locs 0 0 (MQ below (va_Ql (fun (r : Int64) (_ : Unit) => r = kX8_wholeOf g hw9) (sp_B D vwCl A (fun (_ : Unit) => [])) A) ([.long g, .int hw9] : List Value).toArray s 0 0 A) (F0 m 81 ls [.int z24]) := by
            intro z24 H locs ls hz24 hP hD hS hl
            subst z24
            exact hj37 ((kX8_wholeOf_81_z24 g hw9)) _ _ _ (Eq.symm ((if_pos c17i).trans rfl)) (hP.sub [] rfl) (hD.sub [] (by decide) rfl) hS (lv_sub hl [0, 1, 2, 3] rfl)
          refine lv_if_ne (tgt := 80) hx hb dX8_wholeOf_73 (by decide) (fun c21 => ?_) (fun c21 => ?_)
          · skip
            have c21 := fun h => c21 ((lg_cmp_eq _ _).mpr h)
            have c21i : ¬ (((kX8_wholeOf_39_z15 g hw9) <<< (((-(kX8_power g)) : Int32).toInt64 &&& 63)) : Int64).toInt = ((kX8_digits g) : Int64).toInt := fun h => c21 (Int64.toInt_inj.mp h)
            refine lv_iconst (v := 0) hx hb dX8_wholeOf_80 (by decide) ?_
            exact hj25 (0) _ _ _ (Eq.symm ((if_neg c21i).trans rfl)) (hP.sub [] rfl) (hD.sub [] (by decide) rfl) hS (lv_sub hl [0, 1, 2, 3] rfl)
          · skip
            have c21 := (lg_cmp_eq _ _).mp c21
            have c21i : (((kX8_wholeOf_39_z15 g hw9) <<< (((-(kX8_power g)) : Int32).toInt64 &&& 63)) : Int64).toInt = ((kX8_digits g) : Int64).toInt := congrArg Int64.toInt c21
            refine lv_iconst (v := 1) hx hb dX8_wholeOf_76 (by decide) ?_
            refine lv_goto (tgt := 81) hx hb dX8_wholeOf_77 (by decide) ?_
            exact hj25 (1) _ _ _ (Eq.symm ((if_pos c21i).trans rfl)) (hP.sub [] rfl) (hD.sub [] (by decide) rfl) hS (lv_sub hl [0, 1, 2, 3] rfl)
        · skip
          have c17i : ¬ ((-(kX8_power g)) : Int32).toInt ≤ 40 := fun h => c17 (Int32.le_iff_toInt_le.mpr h)
          refine lv_lload_n hx hb dX8_wholeOf_47 rfl (lv_at hl 2 rfl) ?_
          refine sp_callj (wr := []) (wc := []) hP hD hS hA [] [] rfl rfl (by decide) (by decide) (va_runS (As := [.long g]) (rest := []) ⟨hx, hb, hml, hown, hts⟩ (c_X8_digits l D cI cJ cZ H.size g) (va_cwS 1 hts gX8_wholeOf_X8_digits_102 rfl rfl rfl (by decide +kernel) ⟨Nat.le_of_ble_eq_true rfl, Nat.le_of_ble_eq_true rfl⟩) (sp_preS [.long g] hK (hP.sub (ws' := []) [] rfl) (hD.sub (ws' := []) [] (by decide) rfl)) rfl rfl hl.1 rfl (lv_room (Nat.le_of_ble_eq_true rfl)) dX8_wholeOf_48 ⟨Nat.le_of_ble_eq_true rfl, Nat.le_of_ble_eq_true rfl⟩) (fun r27 u28 H locs hw29 hP hD hS => ?_)
          have hq_29_0 : r27 = (kX8_digits g) := hw29
          subst r27
          have hP : va_P D vwCl [] H := hP
          have hD : va_D A [] := hD
          refine lv_lconst (v := 0) hx hb dX8_wholeOf_51 (by decide) ?_
          refine W.lcmp hx hb dX8_wholeOf_52 ?_
          have hj34 : ∀ (z33 : Int32) (H : Heap) (locs : List Loc) (ls : Array Slot), (z33 = kX8_wholeOf_81_z33 g hw9) → va_P D vwCl [] H → va_D A [] → va_S A s.heap H locs → lv_has ls 13 [(4, .long (kX8_wholeOf_39_z15 g hw9)), (3, .int (-(kX8_power g))), (0, .long g), (2, .int hw9)] → W p l e ({ frames := 2, cells := 0, slots := 0, locals := 51 }) s m (([.long g, .int hw9] : List Value).toArray) below meth c H locs 0 0 (MQ below (va_Ql (fun (r : Int64) (_ : Unit) => r = kX8_wholeOf g hw9) (sp_B D vwCl A (fun (_ : Unit) => [])) A) ([.long g, .int hw9] : List Value).toArray s 0 0 A) (F0 m 81 ls [.int z33]) := by
            intro z33 H locs ls hz33 hP hD hS hl
            subst z33
            exact hj37 ((kX8_wholeOf_81_z33 g hw9)) _ _ _ (Eq.symm ((if_neg c17i).trans rfl)) (hP.sub [] rfl) (hD.sub [] (by decide) rfl) hS (lv_sub hl [0, 1, 2, 3] rfl)
          refine lv_if_ne (tgt := 60) hx hb dX8_wholeOf_53 (by decide) (fun c30 => ?_) (fun c30 => ?_)
          · skip
            have c30 := fun h => c30 ((lg_cmp_eq _ _).mpr h)
            have c30i : ¬ ((kX8_digits g) : Int64).toInt = 0 := fun h => c30 (Int64.toInt_inj.mp h)
            refine lv_iconst (v := 0) hx hb dX8_wholeOf_60 (by decide) ?_
            refine lv_goto (tgt := 81) hx hb dX8_wholeOf_61 (by decide) ?_
            exact hj34 (0) _ _ _ (Eq.symm ((if_neg c30i).trans rfl)) (hP.sub [] rfl) (hD.sub [] (by decide) rfl) hS (lv_sub hl [0, 1, 2, 3] rfl)
          · skip
            have c30 := (lg_cmp_eq _ _).mp c30
            have c30i : ((kX8_digits g) : Int64).toInt = 0 := congrArg Int64.toInt c30
            refine lv_iconst (v := 1) hx hb dX8_wholeOf_56 (by decide) ?_
            refine lv_goto (tgt := 81) hx hb dX8_wholeOf_57 (by decide) ?_
            exact hj34 (1) _ _ _ (Eq.symm ((if_pos c30i).trans rfl)) (hP.sub [] rfl) (hD.sub [] (by decide) rfl) hS (lv_sub hl [0, 1, 2, 3] rfl)
      refine lv_icmp_le (tgt := 33) hx hb dX8_wholeOf_26 (by decide) (fun c9 => ?_) (fun c9 => ?_)
      · skip
        have c9i : ((-(kX8_power g)) : Int32).toInt ≤ 40 := Int32.le_iff_toInt_le.mp c9
        refine lv_lload_n hx hb dX8_wholeOf_33 rfl (lv_at hl 1 rfl) ?_
        refine sp_callj (wr := []) (wc := []) hP hD hS hA [] [] rfl rfl (by decide) (by decide) (va_runS (As := [.long g]) (rest := []) ⟨hx, hb, hml, hown, hts⟩ (c_X8_digits l D cI cJ cZ H.size g) (va_cwS 1 hts gX8_wholeOf_X8_digits_102 rfl rfl rfl (by decide +kernel) ⟨Nat.le_of_ble_eq_true rfl, Nat.le_of_ble_eq_true rfl⟩) (sp_preS [.long g] hK (hP.sub (ws' := []) [] rfl) (hD.sub (ws' := []) [] (by decide) rfl)) rfl rfl hl.1 rfl (lv_room (Nat.le_of_ble_eq_true rfl)) dX8_wholeOf_34 ⟨Nat.le_of_ble_eq_true rfl, Nat.le_of_ble_eq_true rfl⟩) (fun r10 u11 H locs hw12 hP hD hS => ?_)
        have hq_12_0 : r10 = (kX8_digits g) := hw12
        subst r10
        have hP : va_P D vwCl [] H := hP
        have hD : va_D A [] := hD
        refine lv_iload_n hx hb dX8_wholeOf_37 rfl (lv_at hl 0 rfl) ?_
        refine lv_lshr (v := _) hx hb dX8_wholeOf_38 rfl ?_
        exact hj16 (((kX8_digits g) >>> (((-(kX8_power g)) : Int32).toInt64 &&& 63))) _ _ _ (Eq.symm ((if_pos c9i).trans rfl)) (hP.sub [] rfl) (hD.sub [] (by decide) rfl) hS (lv_sub hl [0, 1, 2] rfl)
      · skip
        have c9i : ¬ ((-(kX8_power g)) : Int32).toInt ≤ 40 := fun h => c9 (Int32.le_iff_toInt_le.mpr h)
        refine lv_lconst (v := 0) hx hb dX8_wholeOf_29 (by decide) ?_
        refine lv_goto (tgt := 39) hx hb dX8_wholeOf_30 (by decide) ?_
        exact hj16 (0) _ _ _ (Eq.symm ((if_neg c9i).trans rfl)) (hP.sub [] rfl) (hD.sub [] (by decide) rfl) hS (lv_sub hl [0, 1, 2] rfl)
    · skip
      have c5i : ¬ ((kX8_power g) : Int32).toInt < 0 := fun h => c5 (Int32.lt_iff_toInt_lt.mpr h)
      refine lv_lload_n hx hb dX8_wholeOf_15 rfl (lv_at hl 0 rfl) ?_
      refine W.widen (k := 0) (n := 0) (by decide) (by decide) ?_
      exact sp_lret (u := ()) hx hb hr hlocks hS (Eq.symm ((if_neg c1i).trans ((if_neg c5i).trans rfl))) (hP.sub [] rfl) (hD.sub [] (by decide) rfl) dX8_wholeOf_16
def oX8_intOf : List Cond := [.constantLong RX8 82 (9000000000), .constantLong RX8 118 (4294967296), .constantLong RX8 120 (2147483647), .constantLong RX8 112 (2147483648)]
def wpX8_intOf : List Cond := .code yX8_intOf cX8_intOf 12 (some .long) :: (oX8_intOf ++ ((va_wsS RX8 114 yX8_wholeOf wpX8_wholeOf) ++ ((va_wsS RX8 102 yX8_digits wpX8_digits) ++ ((va_wsS RX8 98 yX8_power wpX8_power) ++ ((va_wsS RX8 94 yX8_isInfinite wpX8_isInfinite) ++ ((va_wsS RX8 105 yX8_pack wpX8_pack) ++ ([] : List Cond)))))))
theorem oX8_intOf_in : ∀ w ∈ oX8_intOf, w ∈ wpX8_intOf := fun w h => List.mem_cons_of_mem _ (List.mem_append_left _ h)
theorem gwoX8_intOf : ∀ w ∈ oX8_intOf, goodWord w = true := by decide +kernel
theorem gwX8_intOf : ∀ w ∈ wpX8_intOf, goodWord w = true := by
  unfold wpX8_intOf
  exact List.forall_mem_cons.mpr ⟨rfl, List.forall_mem_append.mpr ⟨gwoX8_intOf, List.forall_mem_append.mpr ⟨(sp_gS gwX8_wholeOf), List.forall_mem_append.mpr ⟨(sp_gS gwX8_digits), List.forall_mem_append.mpr ⟨(sp_gS gwX8_power), List.forall_mem_append.mpr ⟨(sp_gS gwX8_isInfinite), List.forall_mem_append.mpr ⟨(sp_gS gwX8_pack), fun _ h => absurd h List.not_mem_nil⟩⟩⟩⟩⟩⟩⟩
set_option maxRecDepth 100000 in
theorem toX8_intOf : ∀ w ∈ oX8_intOf, w ∈ lw_tbl := by
  unfold oX8_intOf
  exact List.forall_mem_cons.mpr ⟨(List.mem_of_getElem? (i := 804) (by decide +kernel)), List.forall_mem_cons.mpr ⟨(List.mem_of_getElem? (i := 870) (by decide +kernel)), List.forall_mem_cons.mpr ⟨(List.mem_of_getElem? (i := 871) (by decide +kernel)), List.forall_mem_cons.mpr ⟨(List.mem_of_getElem? (i := 818) (by decide +kernel)), fun _ h => absurd h List.not_mem_nil⟩⟩⟩⟩
set_option maxRecDepth 100000 in
theorem tX8_intOf : ∀ w ∈ wpX8_intOf, w ∈ lw_tbl := by
  unfold wpX8_intOf
  exact List.forall_mem_cons.mpr ⟨(List.mem_of_getElem? (i := 869) (by rfl)), List.forall_mem_append.mpr ⟨toX8_intOf, List.forall_mem_append.mpr ⟨(sp_tS (List.mem_of_getElem? (i := 864) (by decide +kernel)) (List.mem_of_getElem? (i := 865) (by decide +kernel)) (List.mem_of_getElem? (i := 45) (by decide +kernel)) tX8_wholeOf), List.forall_mem_append.mpr ⟨(sp_tS (List.mem_of_getElem? (i := 844) (by decide +kernel)) (List.mem_of_getElem? (i := 845) (by decide +kernel)) (List.mem_of_getElem? (i := 45) (by decide +kernel)) tX8_digits), List.forall_mem_append.mpr ⟨(sp_tS (List.mem_of_getElem? (i := 840) (by decide +kernel)) (List.mem_of_getElem? (i := 841) (by decide +kernel)) (List.mem_of_getElem? (i := 45) (by decide +kernel)) tX8_power), List.forall_mem_append.mpr ⟨(sp_tS (List.mem_of_getElem? (i := 834) (by decide +kernel)) (List.mem_of_getElem? (i := 835) (by decide +kernel)) (List.mem_of_getElem? (i := 45) (by decide +kernel)) tX8_isInfinite), List.forall_mem_append.mpr ⟨(sp_tS (List.mem_of_getElem? (i := 847) (by decide +kernel)) (List.mem_of_getElem? (i := 848) (by decide +kernel)) (List.mem_of_getElem? (i := 45) (by decide +kernel)) tX8_pack), fun _ h => absurd h List.not_mem_nil⟩⟩⟩⟩⟩⟩⟩
theorem gX8_intOf_X8_wholeOf_114 : GoodIn wpX8_intOf (va_wsS RX8 114 yX8_wholeOf wpX8_wholeOf) := fun w h => ⟨List.mem_cons_of_mem _ (List.mem_append_right _ (List.mem_append_left _ h)), good_of_word (sp_gS gwX8_wholeOf w h)⟩
theorem gX8_intOf_X8_digits_102 : GoodIn wpX8_intOf (va_wsS RX8 102 yX8_digits wpX8_digits) := fun w h => ⟨List.mem_cons_of_mem _ (List.mem_append_right _ (List.mem_append_right _ (List.mem_append_left _ h))), good_of_word (sp_gS gwX8_digits w h)⟩
theorem gX8_intOf_X8_power_98 : GoodIn wpX8_intOf (va_wsS RX8 98 yX8_power wpX8_power) := fun w h => ⟨List.mem_cons_of_mem _ (List.mem_append_right _ (List.mem_append_right _ (List.mem_append_right _ (List.mem_append_left _ h)))), good_of_word (sp_gS gwX8_power w h)⟩
theorem gX8_intOf_X8_isInfinite_94 : GoodIn wpX8_intOf (va_wsS RX8 94 yX8_isInfinite wpX8_isInfinite) := fun w h => ⟨List.mem_cons_of_mem _ (List.mem_append_right _ (List.mem_append_right _ (List.mem_append_right _ (List.mem_append_right _ (List.mem_append_left _ h))))), good_of_word (sp_gS gwX8_isInfinite w h)⟩
theorem gX8_intOf_X8_pack_105 : GoodIn wpX8_intOf (va_wsS RX8 105 yX8_pack wpX8_pack) := fun w h => ⟨List.mem_cons_of_mem _ (List.mem_append_right _ (List.mem_append_right _ (List.mem_append_right _ (List.mem_append_right _ (List.mem_append_right _ (List.mem_append_left _ h)))))), good_of_word (sp_gS gwX8_pack w h)⟩
set_option maxHeartbeats 4000000 in
set_option maxRecDepth 100000 in
theorem c_X8_intOf (l : Launch) (D : va_G) (cI cJ cZ : ClassId) (sz : Nat) (g : Int64) : Met l yX8_intOf wpX8_intOf ({ frames := 3, cells := 0, slots := 0, locals := 83 }) (va_Pc ([.long g] : List Value) (sp_pre D vwCl (sp_ty cI cJ cZ) [] sz)) (va_Ql (fun (r : Int64) (_ : Unit) => r = kX8_intOf g) (sp_B D vwCl (va_A [] sz) (fun (_ : Unit) => [])) (va_A [] sz)) 0 0 (va_A [] sz) := by
  refine sp_ofW (Qc := fun A => va_Ql (fun (r : Int64) (_ : Unit) => r = kX8_intOf g) (sp_B D vwCl A (fun (_ : Unit) => [])) A) (by decide) rfl (Nat.le_of_ble_eq_true rfl) (fun p e s m below meth c A ls H locs C0 hA hS hP hK hD hl => ?_)
  obtain ⟨hx, hb, hr, hts, hown, hlocks, hml, hin⟩ := id C0
  have hown : s.vm.findClass RX8 = some m.cls := hown
  have hl : lv_has ls 12 [(0, .long g)] := hl
  have hK : va_K D vwCl [(cI, .int), (cJ, .long), (cZ, .boolean)] s := hK
  refine lv_lload_n hx hb dX8_intOf_0 rfl (lv_at hl 0 rfl) ?_
  refine lv_ldc2 (v := 9000000000) hx hb hown (hts (.constantLong RX8 82 (9000000000)) (oX8_intOf_in _ (List.mem_of_getElem? (i := 0) rfl))) dX8_intOf_1 ?_
  refine W.lcmp hx hb dX8_intOf_4 ?_
  refine lv_if_ne (tgt := 10) hx hb dX8_intOf_5 (by decide) (fun c1 => ?_) (fun c1 => ?_)
  · skip
    have c1 := fun h => c1 ((lg_cmp_eq _ _).mpr h)
    have c1i : ¬ (g : Int64).toInt = 9000000000 := fun h => c1 (Int64.toInt_inj.mp h)
    refine lv_lload_n hx hb dX8_intOf_10 rfl (lv_at hl 0 rfl) ?_
    refine lv_iconst (v := 3) hx hb dX8_intOf_11 (by decide) ?_
    refine sp_callj (wr := []) (wc := []) hP hD hS hA [] [] rfl rfl (by decide) (by decide) (va_runS (As := [.long g, .int 3]) (rest := []) ⟨hx, hb, hml, hown, hts⟩ (c_X8_wholeOf l D cI cJ cZ H.size g 3) (va_cwS 2 hts gX8_intOf_X8_wholeOf_114 rfl rfl rfl (by decide +kernel) ⟨Nat.le_of_ble_eq_true rfl, Nat.le_of_ble_eq_true rfl⟩) (sp_preS [.long g, .int 3] hK (hP.sub (ws' := []) [] rfl) (hD.sub (ws' := []) [] (by decide) rfl)) rfl rfl hl.1 rfl (lv_room (Nat.le_of_ble_eq_true rfl)) dX8_intOf_12 ⟨Nat.le_of_ble_eq_true rfl, Nat.le_of_ble_eq_true rfl⟩) (fun r2 u3 H locs hw4 hP hD hS => ?_)
    have hq_4_0 : r2 = (kX8_wholeOf g 3) := hw4
    subst r2
    have hP : va_P D vwCl [] H := hP
    have hD : va_D A [] := hD
    refine lv_lstore_n (lv' := [(2, .long (kX8_wholeOf g 3)), (0, .long g)]) hx hb dX8_intOf_15 rfl hl (by decide) rfl (fun ls hl => ?_)
    refine lv_lload_n hx hb dX8_intOf_16 rfl (lv_at hl 0 rfl) ?_
    refine sp_callj (wr := []) (wc := []) hP hD hS hA [] [] rfl rfl (by decide) (by decide) (va_runS (As := [.long (kX8_wholeOf g 3)]) (rest := []) ⟨hx, hb, hml, hown, hts⟩ (c_X8_digits l D cI cJ cZ H.size (kX8_wholeOf g 3)) (va_cwS 1 hts gX8_intOf_X8_digits_102 rfl rfl rfl (by decide +kernel) ⟨Nat.le_of_ble_eq_true rfl, Nat.le_of_ble_eq_true rfl⟩) (sp_preS [.long (kX8_wholeOf g 3)] hK (hP.sub (ws' := []) [] rfl) (hD.sub (ws' := []) [] (by decide) rfl)) rfl rfl hl.1 rfl (lv_room (Nat.le_of_ble_eq_true rfl)) dX8_intOf_17 ⟨Nat.le_of_ble_eq_true rfl, Nat.le_of_ble_eq_true rfl⟩) (fun r5 u6 H locs hw7 hP hD hS => ?_)
    have hq_7_0 : r5 = (kX8_digits (kX8_wholeOf g 3)) := hw7
    subst r5
    have hP : va_P D vwCl [] H := hP
    have hD : va_D A [] := hD
    refine lv_lstore (lv' := [(4, .long (kX8_digits (kX8_wholeOf g 3))), (2, .long (kX8_wholeOf g 3)), (0, .long g)]) hx hb dX8_intOf_20 hl (by decide) rfl (fun ls hl => ?_)
    refine lv_lload_n hx hb dX8_intOf_22 rfl (lv_at hl 1 rfl) ?_
    refine sp_calli (wr := []) (wc := []) hP hD hS hA [] [] rfl rfl (by decide) (by decide) (va_runS (As := [.long (kX8_wholeOf g 3)]) (rest := []) ⟨hx, hb, hml, hown, hts⟩ (c_X8_power l D cI cJ cZ H.size (kX8_wholeOf g 3)) (va_cwS 1 hts gX8_intOf_X8_power_98 rfl rfl rfl (by decide +kernel) ⟨Nat.le_of_ble_eq_true rfl, Nat.le_of_ble_eq_true rfl⟩) (sp_preS [.long (kX8_wholeOf g 3)] hK (hP.sub (ws' := []) [] rfl) (hD.sub (ws' := []) [] (by decide) rfl)) rfl rfl hl.1 rfl (lv_room (Nat.le_of_ble_eq_true rfl)) dX8_intOf_23 ⟨Nat.le_of_ble_eq_true rfl, Nat.le_of_ble_eq_true rfl⟩) (fun r8 u9 H locs hw10 hP hD hS => ?_)
    have hq_10_0 : r8 = (kX8_power (kX8_wholeOf g 3)) := hw10
    subst r8
    have hP : va_P D vwCl [] H := hP
    have hD : va_D A [] := hD
    refine lv_istore (lv' := [(6, .int (kX8_power (kX8_wholeOf g 3))), (4, .long (kX8_digits (kX8_wholeOf g 3))), (2, .long (kX8_wholeOf g 3)), (0, .long g)]) hx hb dX8_intOf_26 hl (by decide) rfl (fun ls hl => ?_)
    refine lv_lload_n hx hb dX8_intOf_28 rfl (lv_at hl 2 rfl) ?_
    refine sp_calli (wr := []) (wc := []) hP hD hS hA [] [] rfl rfl (by decide) (by decide) (va_runS (As := [.long (kX8_wholeOf g 3)]) (rest := []) ⟨hx, hb, hml, hown, hts⟩ (c_X8_isInfinite l D cI cJ cZ H.size (kX8_wholeOf g 3)) (va_cwS 1 hts gX8_intOf_X8_isInfinite_94 rfl rfl rfl (by decide +kernel) ⟨Nat.le_of_ble_eq_true rfl, Nat.le_of_ble_eq_true rfl⟩) (sp_preS [.long (kX8_wholeOf g 3)] hK (hP.sub (ws' := []) [] rfl) (hD.sub (ws' := []) [] (by decide) rfl)) rfl rfl hl.1 rfl (lv_room (Nat.le_of_ble_eq_true rfl)) dX8_intOf_29 ⟨Nat.le_of_ble_eq_true rfl, Nat.le_of_ble_eq_true rfl⟩) (fun r11 u12 H locs hw13 hP hD hS => ?_)
    have hq_13_0 : r11 = (kX8_isInfinite (kX8_wholeOf g 3)) := hw13
    subst r11
    have hP : va_P D vwCl [] H := hP
    have hD : va_D A [] := hD
    have hj23 : ∀ (z22 : Int32) (H : Heap) (locs : List Loc) (ls : Array Slot), (z22 = kX8_intOf_47_z22 g) → va_P D vwCl [] H → va_D A [] → va_S A s.heap H locs → lv_has ls 12 [(6, .int (kX8_power (kX8_wholeOf g 3))), (4, .long (kX8_digits (kX8_wholeOf g 3))), (2, .long (kX8_wholeOf g 3)), (0, .long g)] → W p l e ({ frames := 3, cells := 0, slots := 0, locals := 83 }) s m (([.long g] : List Value).toArray) below meth c H locs 0 0 (MQ below (va_Ql (fun (r : Int64) (_ : Unit) => r = kX8_intOf g) (sp_B D vwCl A (fun (_ : Unit) => [])) A) ([.long g] : List Value).toArray s 0 0 A) (F0 m 47 ls [.int z22]) := by
      intro z22 H locs ls hz22 hP hD hS hl
      subst z22
      refine lv_istore (lv' := [(7, .int (kX8_intOf_47_z22 g)), (6, .int (kX8_power (kX8_wholeOf g 3))), (4, .long (kX8_digits (kX8_wholeOf g 3))), (2, .long (kX8_wholeOf g 3)), (0, .long g)]) hx hb dX8_intOf_47 hl (by decide) rfl (fun ls hl => ?_)
      refine lv_iload hx hb dX8_intOf_49 (lv_at hl 0 rfl) ?_
      have hj38 : ∀ (z37 : Int64) (H : Heap) (locs : List Loc) (ls : Array Slot), (z37 = kX8_intOf_91_z37 g) → va_P D vwCl [] H → va_D A [] → va_S A s.heap H locs → lv_has ls 12 [(7, .int (kX8_intOf_47_z22 g)), (6, .int (kX8_power (kX8_wholeOf g 3))), (4, .long (kX8_digits (kX8_wholeOf g 3))), (2, .long (kX8_wholeOf g 3)), (0, .long g)] → W p l e ({ frames := 3, cells := 0, slots := 0, locals := 83 }) s m (([.long g] : List Value).toArray) below meth c H locs 0 0 (MQ below (va_Ql (fun (r : Int64) (_ : Unit) => r = kX8_intOf g) (sp_B D vwCl A (fun (_ : Unit) => [])) A) ([.long g] : List Value).toArray s 0 0 A) (F0 m 91 ls [.long z37]) := by
        intro z37 H locs ls hz37 hP hD hS hl
        subst z37
        refine lv_lstore (lv' := [(8, .long (kX8_intOf_91_z37 g)), (7, .int (kX8_intOf_47_z22 g)), (6, .int (kX8_power (kX8_wholeOf g 3))), (4, .long (kX8_digits (kX8_wholeOf g 3))), (2, .long (kX8_wholeOf g 3)), (0, .long g)]) hx hb dX8_intOf_91 hl (by decide) rfl (fun ls hl => ?_)
        refine lv_lload_n hx hb dX8_intOf_93 rfl (lv_at hl 5 rfl) ?_
        refine lv_lconst (v := 0) hx hb dX8_intOf_94 (by decide) ?_
        refine W.lcmp hx hb dX8_intOf_95 ?_
        have hj43 : ∀ (z42 : Int64) (H : Heap) (locs : List Loc) (ls : Array Slot), (z42 = kX8_intOf_108_z42 g) → va_P D vwCl [] H → va_D A [] → va_S A s.heap H locs → lv_has ls 12 [(8, .long (kX8_intOf_91_z37 g)), (7, .int (kX8_intOf_47_z22 g)), (6, .int (kX8_power (kX8_wholeOf g 3))), (4, .long (kX8_digits (kX8_wholeOf g 3))), (2, .long (kX8_wholeOf g 3)), (0, .long g)] → W p l e ({ frames := 3, cells := 0, slots := 0, locals := 83 }) s m (([.long g] : List Value).toArray) below meth c H locs 0 0 (MQ below (va_Ql (fun (r : Int64) (_ : Unit) => r = kX8_intOf g) (sp_B D vwCl A (fun (_ : Unit) => [])) A) ([.long g] : List Value).toArray s 0 0 A) (F0 m 108 ls [.long z42]) := by
          intro z42 H locs ls hz42 hP hD hS hl
          subst z42
          refine lv_lstore (lv' := [(10, .long (kX8_intOf_108_z42 g)), (8, .long (kX8_intOf_91_z37 g)), (7, .int (kX8_intOf_47_z22 g)), (6, .int (kX8_power (kX8_wholeOf g 3))), (4, .long (kX8_digits (kX8_wholeOf g 3))), (2, .long (kX8_wholeOf g 3)), (0, .long g)]) hx hb dX8_intOf_108 hl (by decide) rfl (fun ls hl => ?_)
          refine lv_lload hx hb dX8_intOf_110 (lv_at hl 1 rfl) ?_
          refine lv_lload hx hb dX8_intOf_112 (lv_at hl 0 rfl) ?_
          refine W.lcmp hx hb dX8_intOf_114 ?_
          have hj48 : ∀ (z47 : Int64) (H : Heap) (locs : List Loc) (ls : Array Slot), (z47 = kX8_intOf_125_z47 g) → va_P D vwCl [] H → va_D A [] → va_S A s.heap H locs → lv_has ls 12 [(10, .long (kX8_intOf_108_z42 g)), (8, .long (kX8_intOf_91_z37 g)), (7, .int (kX8_intOf_47_z22 g)), (6, .int (kX8_power (kX8_wholeOf g 3))), (4, .long (kX8_digits (kX8_wholeOf g 3))), (2, .long (kX8_wholeOf g 3)), (0, .long g)] → W p l e ({ frames := 3, cells := 0, slots := 0, locals := 83 }) s m (([.long g] : List Value).toArray) below meth c H locs 0 0 (MQ below (va_Ql (fun (r : Int64) (_ : Unit) => r = kX8_intOf g) (sp_B D vwCl A (fun (_ : Unit) => [])) A) ([.long g] : List Value).toArray s 0 0 A) (F0 m 125 ls [.long z47]) := by
            intro z47 H locs ls hz47 hP hD hS hl
            subst z47
            refine lv_lstore (lv' := [(8, .long (kX8_intOf_125_z47 g)), (10, .long (kX8_intOf_108_z42 g)), (7, .int (kX8_intOf_47_z22 g)), (6, .int (kX8_power (kX8_wholeOf g 3))), (4, .long (kX8_digits (kX8_wholeOf g 3))), (2, .long (kX8_wholeOf g 3)), (0, .long g)]) hx hb dX8_intOf_125 hl (by decide) rfl (fun ls hl => ?_)
            refine lv_lload hx hb dX8_intOf_127 (lv_at hl 0 rfl) ?_
            refine lv_lconst (v := 0) hx hb dX8_intOf_129 (by decide) ?_
            refine W.lcmp hx hb dX8_intOf_130 ?_
            have hj61 : ∀ (z60 : Int64) (H : Heap) (locs : List Loc) (ls : Array Slot), (z60 = kX8_intOf_156_z60 g) → va_P D vwCl [] H → va_D A [] → va_S A s.heap H locs → lv_has ls 12 [(8, .long (kX8_intOf_125_z47 g)), (10, .long (kX8_intOf_108_z42 g)), (7, .int (kX8_intOf_47_z22 g)), (6, .int (kX8_power (kX8_wholeOf g 3))), (4, .long (kX8_digits (kX8_wholeOf g 3))), (2, .long (kX8_wholeOf g 3)), (0, .long g)] → W p l e ({ frames := 3, cells := 0, slots := 0, locals := 83 }) s m (([.long g] : List Value).toArray) below meth c H locs 0 0 (MQ below (va_Ql (fun (r : Int64) (_ : Unit) => r = kX8_intOf g) (sp_B D vwCl A (fun (_ : Unit) => [])) A) ([.long g] : List Value).toArray s 0 0 A) (F0 m 156 ls [.long z60]) := by
              intro z60 H locs ls hz60 hP hD hS hl
              subst z60
              refine W.widen (k := 0) (n := 0) (by decide) (by decide) ?_
              exact sp_lret (u := ()) hx hb hr hlocks hS (Eq.symm ((if_neg c1i).trans rfl)) (hP.sub [] rfl) (hD.sub [] (by decide) rfl) dX8_intOf_156
            refine lv_if_ne (tgt := 138) hx hb dX8_intOf_131 (by decide) (fun c49 => ?_) (fun c49 => ?_)
            · skip
              have c49 := fun h => c49 ((lg_cmp_eq _ _).mpr h)
              have c49i : ¬ ((kX8_intOf_125_z47 g) : Int64).toInt = 0 := fun h => c49 (Int64.toInt_inj.mp h)
              refine lv_lload_n hx hb dX8_intOf_138 rfl (lv_at hl 6 rfl) ?_
              refine lv_lconst (v := 0) hx hb dX8_intOf_139 (by decide) ?_
              refine W.lcmp hx hb dX8_intOf_140 ?_
              have hj54 : ∀ (z53 : Int32) (H : Heap) (locs : List Loc) (ls : Array Slot), (z53 = kX8_intOf_149_z53 g) → va_P D vwCl [] H → va_D A [] → va_S A s.heap H locs → lv_has ls 12 [(8, .long (kX8_intOf_125_z47 g)), (10, .long (kX8_intOf_108_z42 g)), (7, .int (kX8_intOf_47_z22 g)), (6, .int (kX8_power (kX8_wholeOf g 3))), (4, .long (kX8_digits (kX8_wholeOf g 3))), (2, .long (kX8_wholeOf g 3)), (0, .long g)] → W p l e ({ frames := 3, cells := 0, slots := 0, locals := 83 }) s m (([.long g] : List Value).toArray) below meth c H locs 0 0 (MQ below (va_Ql (fun (r : Int64) (_ : Unit) => r = kX8_intOf g) (sp_B D vwCl A (fun (_ : Unit) => [])) A) ([.long g] : List Value).toArray s 0 0 A) (F0 m 149 ls [.int z53]) := by
                intro z53 H locs ls hz53 hP hD hS hl
                subst z53
                refine lv_lload hx hb dX8_intOf_149 (lv_at hl 0 rfl) ?_
                refine lv_iconst (v := 0) hx hb dX8_intOf_151 (by decide) ?_
                refine lv_iconst (v := 0) hx hb dX8_intOf_152 (by decide) ?_
                refine sp_callj (wr := []) (wc := []) hP hD hS hA [] [] rfl rfl (by decide) (by decide) (va_runS (As := [.int (kX8_intOf_149_z53 g), .long (kX8_intOf_125_z47 g), .int 0, .int 0]) (rest := []) ⟨hx, hb, hml, hown, hts⟩ (c_X8_pack l D cI cJ cZ H.size (kX8_intOf_149_z53 g) (kX8_intOf_125_z47 g) 0 0) (va_cwS 4 hts gX8_intOf_X8_pack_105 rfl rfl rfl (by decide +kernel) ⟨Nat.le_of_ble_eq_true rfl, Nat.le_of_ble_eq_true rfl⟩) (sp_preS [.int (kX8_intOf_149_z53 g), .long (kX8_intOf_125_z47 g), .int 0, .int 0] hK (hP.sub (ws' := []) [] rfl) (hD.sub (ws' := []) [] (by decide) rfl)) rfl rfl hl.1 rfl (lv_room (Nat.le_of_ble_eq_true rfl)) dX8_intOf_153 ⟨Nat.le_of_ble_eq_true rfl, Nat.le_of_ble_eq_true rfl⟩) (fun r55 u56 H locs hw57 hP hD hS => ?_)
                have hq_57_0 : r55 = (kX8_pack (kX8_intOf_149_z53 g) (kX8_intOf_125_z47 g) 0 0) := hw57
                subst r55
                have hP : va_P D vwCl [] H := hP
                have hD : va_D A [] := hD
                exact hj61 ((kX8_pack (kX8_intOf_149_z53 g) (kX8_intOf_125_z47 g) 0 0)) _ _ _ (Eq.symm ((if_neg c49i).trans rfl)) (hP.sub [] rfl) (hD.sub [] (by decide) rfl) hS (lv_sub hl [0, 1, 2, 3, 4, 5, 6] rfl)
              refine lv_if_ge (tgt := 148) hx hb dX8_intOf_141 (by decide) (fun c50 => ?_) (fun c50 => ?_)
              · skip
                have c50 := (lg_cmp_ge _ _).mp c50
                have c50i : 0 ≤ (g : Int64).toInt := Int64.le_iff_toInt_le.mp c50
                refine lv_iconst (v := 0) hx hb dX8_intOf_148 (by decide) ?_
                exact hj54 (0) _ _ _ (Eq.symm ((if_pos c50i).trans rfl)) (hP.sub [] rfl) (hD.sub [] (by decide) rfl) hS (lv_sub hl [0, 1, 2, 3, 4, 5, 6] rfl)
              · skip
                have c50 := fun h => c50 ((lg_cmp_ge _ _).mpr h)
                have c50i : ¬ 0 ≤ (g : Int64).toInt := fun h => c50 (Int64.le_iff_toInt_le.mpr h)
                refine lv_iconst (v := 1) hx hb dX8_intOf_144 (by decide) ?_
                refine lv_goto (tgt := 149) hx hb dX8_intOf_145 (by decide) ?_
                exact hj54 (1) _ _ _ (Eq.symm ((if_neg c50i).trans rfl)) (hP.sub [] rfl) (hD.sub [] (by decide) rfl) hS (lv_sub hl [0, 1, 2, 3, 4, 5, 6] rfl)
            · skip
              have c49 := (lg_cmp_eq _ _).mp c49
              have c49i : ((kX8_intOf_125_z47 g) : Int64).toInt = 0 := congrArg Int64.toInt c49
              refine lv_lconst (v := 0) hx hb dX8_intOf_134 (by decide) ?_
              refine lv_goto (tgt := 156) hx hb dX8_intOf_135 (by decide) ?_
              exact hj61 (0) _ _ _ (Eq.symm ((if_pos c49i).trans rfl)) (hP.sub [] rfl) (hD.sub [] (by decide) rfl) hS (lv_sub hl [0, 1, 2, 3, 4, 5, 6] rfl)
          refine lv_if_le (tgt := 123) hx hb dX8_intOf_115 (by decide) (fun c44 => ?_) (fun c44 => ?_)
          · skip
            have c44 := (lg_cmp_le _ _).mp c44
            have c44i : ((kX8_intOf_91_z37 g) : Int64).toInt ≤ ((kX8_intOf_108_z42 g) : Int64).toInt := Int64.le_iff_toInt_le.mp c44
            refine lv_lload hx hb dX8_intOf_123 (lv_at hl 1 rfl) ?_
            exact hj48 ((kX8_intOf_91_z37 g)) _ _ _ (Eq.symm ((if_pos c44i).trans rfl)) (hP.sub [] rfl) (hD.sub [] (by decide) rfl) hS (lv_sub hl [0, 1, 2, 3, 4, 5, 6] rfl)
          · skip
            have c44 := fun h => c44 ((lg_cmp_le _ _).mpr h)
            have c44i : ¬ ((kX8_intOf_91_z37 g) : Int64).toInt ≤ ((kX8_intOf_108_z42 g) : Int64).toInt := fun h => c44 (Int64.le_iff_toInt_le.mpr h)
            refine lv_lload hx hb dX8_intOf_118 (lv_at hl 0 rfl) ?_
            refine lv_goto (tgt := 125) hx hb dX8_intOf_120 (by decide) ?_
            exact hj48 ((kX8_intOf_108_z42 g)) _ _ _ (Eq.symm ((if_neg c44i).trans rfl)) (hP.sub [] rfl) (hD.sub [] (by decide) rfl) hS (lv_sub hl [0, 1, 2, 3, 4, 5, 6] rfl)
        refine lv_if_ge (tgt := 105) hx hb dX8_intOf_96 (by decide) (fun c39 => ?_) (fun c39 => ?_)
        · skip
          have c39 := (lg_cmp_ge _ _).mp c39
          have c39i : 0 ≤ (g : Int64).toInt := Int64.le_iff_toInt_le.mp c39
          refine lv_ldc2 (v := 2147483647) hx hb hown (hts (.constantLong RX8 120 (2147483647)) (oX8_intOf_in _ (List.mem_of_getElem? (i := 2) rfl))) dX8_intOf_105 ?_
          exact hj43 (2147483647) _ _ _ (Eq.symm ((if_pos c39i).trans rfl)) (hP.sub [] rfl) (hD.sub [] (by decide) rfl) hS (lv_sub hl [0, 1, 2, 3, 4, 5] rfl)
        · skip
          have c39 := fun h => c39 ((lg_cmp_ge _ _).mpr h)
          have c39i : ¬ 0 ≤ (g : Int64).toInt := fun h => c39 (Int64.le_iff_toInt_le.mpr h)
          refine lv_ldc2 (v := 2147483648) hx hb hown (hts (.constantLong RX8 112 (2147483648)) (oX8_intOf_in _ (List.mem_of_getElem? (i := 3) rfl))) dX8_intOf_99 ?_
          refine lv_goto (tgt := 108) hx hb dX8_intOf_102 (by decide) ?_
          exact hj43 (2147483648) _ _ _ (Eq.symm ((if_neg c39i).trans rfl)) (hP.sub [] rfl) (hD.sub [] (by decide) rfl) hS (lv_sub hl [0, 1, 2, 3, 4, 5] rfl)
      refine lv_if_eq (tgt := 60) hx hb dX8_intOf_51 (by decide) (fun c24 => ?_) (fun c24 => ?_)
      · skip
        have c24i : ((kX8_intOf_47_z22 g) : Int32).toInt = 0 := congrArg Int32.toInt c24
        refine lv_iload hx hb dX8_intOf_60 (lv_at hl 1 rfl) ?_
        have hj34 : ∀ (z33 : Int64) (H : Heap) (locs : List Loc) (ls : Array Slot), (z33 = kX8_intOf_91_z33 g) → va_P D vwCl [] H → va_D A [] → va_S A s.heap H locs → lv_has ls 12 [(7, .int (kX8_intOf_47_z22 g)), (6, .int (kX8_power (kX8_wholeOf g 3))), (4, .long (kX8_digits (kX8_wholeOf g 3))), (2, .long (kX8_wholeOf g 3)), (0, .long g)] → W p l e ({ frames := 3, cells := 0, slots := 0, locals := 83 }) s m (([.long g] : List Value).toArray) below meth c H locs 0 0 (MQ below (va_Ql (fun (r : Int64) (_ : Unit) => r = kX8_intOf g) (sp_B D vwCl A (fun (_ : Unit) => [])) A) ([.long g] : List Value).toArray s 0 0 A) (F0 m 91 ls [.long z33]) := by
          intro z33 H locs ls hz33 hP hD hS hl
          subst z33
          exact hj38 ((kX8_intOf_91_z33 g)) _ _ _ (Eq.symm ((if_pos c24i).trans rfl)) (hP.sub [] rfl) (hD.sub [] (by decide) rfl) hS (lv_sub hl [0, 1, 2, 3, 4] rfl)
        refine lv_if_lt (tgt := 73) hx hb dX8_intOf_62 (by decide) (fun c25 => ?_) (fun c25 => ?_)
        · skip
          have c25i : ((kX8_power (kX8_wholeOf g 3)) : Int32).toInt < 0 := Int32.lt_iff_toInt_lt.mp c25
          refine lv_lload hx hb dX8_intOf_73 (lv_at hl 2 rfl) ?_
          refine lv_iload hx hb dX8_intOf_75 (lv_at hl 1 rfl) ?_
          refine lv_bipush (v := (-40)) hx hb dX8_intOf_77 (by decide) ?_
          have hj30 : ∀ (z29 : Int32) (H : Heap) (locs : List Loc) (ls : Array Slot), (z29 = kX8_intOf_90_z29 g) → va_P D vwCl [] H → va_D A [] → va_S A s.heap H locs → lv_has ls 12 [(7, .int (kX8_intOf_47_z22 g)), (6, .int (kX8_power (kX8_wholeOf g 3))), (4, .long (kX8_digits (kX8_wholeOf g 3))), (2, .long (kX8_wholeOf g 3)), (0, .long g)] → W p l e ({ frames := 3, cells := 0, slots := 0, locals := 83 }) s m (([.long g] : List Value).toArray) below meth c H locs 0 0 (MQ below (va_Ql (fun (r : Int64) (_ : Unit) => r = kX8_intOf g) (sp_B D vwCl A (fun (_ : Unit) => [])) A) ([.long g] : List Value).toArray s 0 0 A) (F0 m 90 ls [.int z29, .long (kX8_digits (kX8_wholeOf g 3))]) := by
            intro z29 H locs ls hz29 hP hD hS hl
            subst z29
            refine lv_lshr (v := _) hx hb dX8_intOf_90 rfl ?_
            exact hj34 (((kX8_digits (kX8_wholeOf g 3)) >>> (((kX8_intOf_90_z29 g) : Int32).toInt64 &&& 63))) _ _ _ (Eq.symm ((if_pos c25i).trans rfl)) (hP.sub [] rfl) (hD.sub [] (by decide) rfl) hS (lv_sub hl [0, 1, 2, 3, 4] rfl)
          refine lv_icmp_ge (tgt := 87) hx hb dX8_intOf_79 (by decide) (fun c26 => ?_) (fun c26 => ?_)
          · skip
            have c26i : (-40) ≤ ((kX8_power (kX8_wholeOf g 3)) : Int32).toInt := Int32.le_iff_toInt_le.mp c26
            refine lv_iload hx hb dX8_intOf_87 (lv_at hl 1 rfl) ?_
            refine lv_ineg hx hb dX8_intOf_89 ?_
            exact hj30 ((-(kX8_power (kX8_wholeOf g 3)))) _ _ _ (Eq.symm ((if_pos c26i).trans rfl)) (hP.sub [] rfl) (hD.sub [] (by decide) rfl) hS (lv_sub hl [0, 1, 2, 3, 4] rfl)
          · skip
            have c26i : ¬ (-40) ≤ ((kX8_power (kX8_wholeOf g 3)) : Int32).toInt := fun h => c26 (Int32.le_iff_toInt_le.mpr h)
            refine lv_bipush (v := 40) hx hb dX8_intOf_82 (by decide) ?_
            refine lv_goto (tgt := 90) hx hb dX8_intOf_84 (by decide) ?_
            exact hj30 (40) _ _ _ (Eq.symm ((if_neg c26i).trans rfl)) (hP.sub [] rfl) (hD.sub [] (by decide) rfl) hS (lv_sub hl [0, 1, 2, 3, 4] rfl)
        · skip
          have c25i : ¬ ((kX8_power (kX8_wholeOf g 3)) : Int32).toInt < 0 := fun h => c25 (Int32.lt_iff_toInt_lt.mpr h)
          refine lv_lload hx hb dX8_intOf_65 (lv_at hl 2 rfl) ?_
          refine lv_iload hx hb dX8_intOf_67 (lv_at hl 1 rfl) ?_
          refine lv_lshl (v := _) hx hb dX8_intOf_69 rfl ?_
          refine lv_goto (tgt := 91) hx hb dX8_intOf_70 (by decide) ?_
          exact hj34 (((kX8_digits (kX8_wholeOf g 3)) <<< (((kX8_power (kX8_wholeOf g 3)) : Int32).toInt64 &&& 63))) _ _ _ (Eq.symm ((if_neg c25i).trans rfl)) (hP.sub [] rfl) (hD.sub [] (by decide) rfl) hS (lv_sub hl [0, 1, 2, 3, 4] rfl)
      · skip
        have c24i : ¬ ((kX8_intOf_47_z22 g) : Int32).toInt = 0 := fun h => c24 (Int32.toInt_inj.mp h)
        refine lv_ldc2 (v := 4294967296) hx hb hown (hts (.constantLong RX8 118 (4294967296)) (oX8_intOf_in _ (List.mem_of_getElem? (i := 1) rfl))) dX8_intOf_54 ?_
        refine lv_goto (tgt := 91) hx hb dX8_intOf_57 (by decide) ?_
        exact hj38 (4294967296) _ _ _ (Eq.symm ((if_neg c24i).trans rfl)) (hP.sub [] rfl) (hD.sub [] (by decide) rfl) hS (lv_sub hl [0, 1, 2, 3, 4] rfl)
    refine lv_if_ne (tgt := 42) hx hb dX8_intOf_32 (by decide) (fun c14 => ?_) (fun c14 => ?_)
    · skip
      have c14i : ¬ ((kX8_isInfinite (kX8_wholeOf g 3)) : Int32).toInt = 0 := fun h => c14 (Int32.toInt_inj.mp h)
      refine lv_iconst (v := 1) hx hb dX8_intOf_42 (by decide) ?_
      refine lv_goto (tgt := 47) hx hb dX8_intOf_43 (by decide) ?_
      exact hj23 (1) _ _ _ (Eq.symm ((if_neg c14i).trans rfl)) (hP.sub [] rfl) (hD.sub [] (by decide) rfl) hS (lv_sub hl [0, 1, 2, 3] rfl)
    · skip
      have c14i : ((kX8_isInfinite (kX8_wholeOf g 3)) : Int32).toInt = 0 := congrArg Int32.toInt c14
      refine lv_iload hx hb dX8_intOf_35 (lv_at hl 0 rfl) ?_
      refine lv_bipush (v := 7) hx hb dX8_intOf_37 (by decide) ?_
      have hj20 : ∀ (z19 : Int32) (H : Heap) (locs : List Loc) (ls : Array Slot), (z19 = kX8_intOf_47_z19 g) → va_P D vwCl [] H → va_D A [] → va_S A s.heap H locs → lv_has ls 12 [(6, .int (kX8_power (kX8_wholeOf g 3))), (4, .long (kX8_digits (kX8_wholeOf g 3))), (2, .long (kX8_wholeOf g 3)), (0, .long g)] → W p l e ({ frames := 3, cells := 0, slots := 0, locals := 83 }) s m (([.long g] : List Value).toArray) below meth c H locs 0 0 (MQ below (va_Ql (fun (r : Int64) (_ : Unit) => r = kX8_intOf g) (sp_B D vwCl A (fun (_ : Unit) => [])) A) ([.long g] : List Value).toArray s 0 0 A) (F0 m 47 ls [.int z19]) := by
        intro z19 H locs ls hz19 hP hD hS hl
        subst z19
        exact hj23 ((kX8_intOf_47_z19 g)) _ _ _ (Eq.symm ((if_pos c14i).trans rfl)) (hP.sub [] rfl) (hD.sub [] (by decide) rfl) hS (lv_sub hl [0, 1, 2, 3] rfl)
      refine lv_icmp_le (tgt := 46) hx hb dX8_intOf_39 (by decide) (fun c16 => ?_) (fun c16 => ?_)
      · skip
        have c16i : ((kX8_power (kX8_wholeOf g 3)) : Int32).toInt ≤ 7 := Int32.le_iff_toInt_le.mp c16
        refine lv_iconst (v := 0) hx hb dX8_intOf_46 (by decide) ?_
        exact hj20 (0) _ _ _ (Eq.symm ((if_pos c16i).trans rfl)) (hP.sub [] rfl) (hD.sub [] (by decide) rfl) hS (lv_sub hl [0, 1, 2, 3] rfl)
      · skip
        have c16i : ¬ ((kX8_power (kX8_wholeOf g 3)) : Int32).toInt ≤ 7 := fun h => c16 (Int32.le_iff_toInt_le.mpr h)
        refine lv_iconst (v := 1) hx hb dX8_intOf_42 (by decide) ?_
        refine lv_goto (tgt := 47) hx hb dX8_intOf_43 (by decide) ?_
        exact hj20 (1) _ _ _ (Eq.symm ((if_neg c16i).trans rfl)) (hP.sub [] rfl) (hD.sub [] (by decide) rfl) hS (lv_sub hl [0, 1, 2, 3] rfl)
  · skip
    have c1 := (lg_cmp_eq _ _).mp c1
    have c1i : (g : Int64).toInt = 9000000000 := congrArg Int64.toInt c1
    refine lv_lconst (v := 0) hx hb dX8_intOf_8 (by decide) ?_
    refine W.widen (k := 0) (n := 0) (by decide) (by decide) ?_
    exact sp_lret (u := ()) hx hb hr hlocks hS (Eq.symm ((if_pos c1i).trans rfl)) (hP.sub [] rfl) (hD.sub [] (by decide) rfl) dX8_intOf_9
def oX8_number : List Cond := [.constantLong RX8 74 (-1)]
def wpX8_number : List Cond := .code yX8_number cX8_number 2 (some .long) :: (oX8_number ++ ([] : List Cond))
theorem oX8_number_in : ∀ w ∈ oX8_number, w ∈ wpX8_number := fun w h => List.mem_cons_of_mem _ (List.mem_append_left _ h)
theorem gwoX8_number : ∀ w ∈ oX8_number, goodWord w = true := by decide +kernel
theorem gwX8_number : ∀ w ∈ wpX8_number, goodWord w = true := by
  unfold wpX8_number
  exact List.forall_mem_cons.mpr ⟨rfl, List.forall_mem_append.mpr ⟨gwoX8_number, fun _ h => absurd h List.not_mem_nil⟩⟩
set_option maxRecDepth 100000 in
theorem toX8_number : ∀ w ∈ oX8_number, w ∈ lw_tbl := by
  unfold oX8_number
  exact List.forall_mem_cons.mpr ⟨(List.mem_of_getElem? (i := 808) (by decide +kernel)), fun _ h => absurd h List.not_mem_nil⟩
set_option maxRecDepth 100000 in
theorem tX8_number : ∀ w ∈ wpX8_number, w ∈ lw_tbl := by
  unfold wpX8_number
  exact List.forall_mem_cons.mpr ⟨(List.mem_of_getElem? (i := 888) (by rfl)), List.forall_mem_append.mpr ⟨toX8_number, fun _ h => absurd h List.not_mem_nil⟩⟩
set_option maxHeartbeats 4000000 in
set_option maxRecDepth 100000 in
theorem c_X8_number (l : Launch) (D : va_G) (cI cJ cZ : ClassId) (sz : Nat) (g : Int64) : Met l yX8_number wpX8_number ({ frames := 0, cells := 0, slots := 0, locals := 0 }) (va_Pc ([.long g] : List Value) (sp_pre D vwCl (sp_ty cI cJ cZ) [] sz)) (va_Ql (fun (r : Int64) (_ : Unit) => r = kX8_number g) (sp_B D vwCl (va_A [] sz) (fun (_ : Unit) => [])) (va_A [] sz)) 0 0 (va_A [] sz) := by
  refine sp_ofW (Qc := fun A => va_Ql (fun (r : Int64) (_ : Unit) => r = kX8_number g) (sp_B D vwCl A (fun (_ : Unit) => [])) A) (by decide) rfl (Nat.le_of_ble_eq_true rfl) (fun p e s m below meth c A ls H locs C0 hA hS hP hK hD hl => ?_)
  obtain ⟨hx, hb, hr, hts, hown, hlocks, hml, hin⟩ := id C0
  have hown : s.vm.findClass RX8 = some m.cls := hown
  have hl : lv_has ls 2 [(0, .long g)] := hl
  have hK : va_K D vwCl [(cI, .int), (cJ, .long), (cZ, .boolean)] s := hK
  refine lv_lload_n hx hb dX8_number_0 rfl (lv_at hl 0 rfl) ?_
  refine lv_ldc2 (v := (-1)) hx hb hown (hts (.constantLong RX8 74 (-1)) (oX8_number_in _ (List.mem_of_getElem? (i := 0) rfl))) dX8_number_1 ?_
  refine W.lcmp hx hb dX8_number_4 ?_
  refine lv_if_ne (tgt := 12) hx hb dX8_number_5 (by decide) (fun c1 => ?_) (fun c1 => ?_)
  · skip
    have c1 := fun h => c1 ((lg_cmp_eq _ _).mpr h)
    have c1i : ¬ (g : Int64).toInt = (-1) := fun h => c1 (Int64.toInt_inj.mp h)
    refine lv_lload_n hx hb dX8_number_12 rfl (lv_at hl 0 rfl) ?_
    refine W.widen (k := 0) (n := 0) (by decide) (by decide) ?_
    exact sp_lret (u := ()) hx hb hr hlocks hS (Eq.symm ((if_neg c1i).trans rfl)) (hP.sub [] rfl) (hD.sub [] (by decide) rfl) dX8_number_13
  · skip
    have c1 := (lg_cmp_eq _ _).mp c1
    have c1i : (g : Int64).toInt = (-1) := congrArg Int64.toInt c1
    refine lv_lconst (v := 0) hx hb dX8_number_8 (by decide) ?_
    refine lv_goto (tgt := 13) hx hb dX8_number_9 (by decide) ?_
    refine W.widen (k := 0) (n := 0) (by decide) (by decide) ?_
    exact sp_lret (u := ()) hx hb hr hlocks hS (Eq.symm ((if_pos c1i).trans rfl)) (hP.sub [] rfl) (hD.sub [] (by decide) rfl) dX8_number_13
def oX8_fromBits : List Cond := [.constant RX8 144 (2147483647), .constantLong RX8 68 (2139095040), .constantLong RX8 82 (9000000000)]
def wpX8_fromBits : List Cond := .code yX8_fromBits cX8_fromBits 3 (some .long) :: (oX8_fromBits ++ ((va_wsS RX8 84 yX8_placeOf wpX8_placeOf) ++ ([] : List Cond)))
theorem oX8_fromBits_in : ∀ w ∈ oX8_fromBits, w ∈ wpX8_fromBits := fun w h => List.mem_cons_of_mem _ (List.mem_append_left _ h)
theorem gwoX8_fromBits : ∀ w ∈ oX8_fromBits, goodWord w = true := by decide +kernel
theorem gwX8_fromBits : ∀ w ∈ wpX8_fromBits, goodWord w = true := by
  unfold wpX8_fromBits
  exact List.forall_mem_cons.mpr ⟨rfl, List.forall_mem_append.mpr ⟨gwoX8_fromBits, List.forall_mem_append.mpr ⟨(sp_gS gwX8_placeOf), fun _ h => absurd h List.not_mem_nil⟩⟩⟩
set_option maxRecDepth 100000 in
theorem toX8_fromBits : ∀ w ∈ oX8_fromBits, w ∈ lw_tbl := by
  unfold oX8_fromBits
  exact List.forall_mem_cons.mpr ⟨(List.mem_of_getElem? (i := 803) (by decide +kernel)), List.forall_mem_cons.mpr ⟨(List.mem_of_getElem? (i := 682) (by decide +kernel)), List.forall_mem_cons.mpr ⟨(List.mem_of_getElem? (i := 804) (by decide +kernel)), fun _ h => absurd h List.not_mem_nil⟩⟩⟩
set_option maxRecDepth 100000 in
theorem tX8_fromBits : ∀ w ∈ wpX8_fromBits, w ∈ lw_tbl := by
  unfold wpX8_fromBits
  exact List.forall_mem_cons.mpr ⟨(List.mem_of_getElem? (i := 802) (by rfl)), List.forall_mem_append.mpr ⟨toX8_fromBits, List.forall_mem_append.mpr ⟨(sp_tS (List.mem_of_getElem? (i := 805) (by decide +kernel)) (List.mem_of_getElem? (i := 806) (by decide +kernel)) (List.mem_of_getElem? (i := 45) (by decide +kernel)) tX8_placeOf), fun _ h => absurd h List.not_mem_nil⟩⟩⟩
theorem gX8_fromBits_X8_placeOf_84 : GoodIn wpX8_fromBits (va_wsS RX8 84 yX8_placeOf wpX8_placeOf) := fun w h => ⟨List.mem_cons_of_mem _ (List.mem_append_right _ (List.mem_append_left _ h)), good_of_word (sp_gS gwX8_placeOf w h)⟩
set_option maxHeartbeats 4000000 in
set_option maxRecDepth 100000 in
theorem c_X8_fromBits (l : Launch) (D : va_G) (cI cJ cZ : ClassId) (sz : Nat) (b : Int32) : Met l yX8_fromBits wpX8_fromBits ({ frames := 1, cells := 0, slots := 0, locals := 22 }) (va_Pc ([.int b] : List Value) (sp_pre D vwCl (sp_ty cI cJ cZ) [] sz)) (va_Ql (fun (r : Int64) (_ : Unit) => r = kX8_fromBits b) (sp_B D vwCl (va_A [] sz) (fun (_ : Unit) => [])) (va_A [] sz)) 0 0 (va_A [] sz) := by
  refine sp_ofW (Qc := fun A => va_Ql (fun (r : Int64) (_ : Unit) => r = kX8_fromBits b) (sp_B D vwCl A (fun (_ : Unit) => [])) A) (by decide) rfl (Nat.le_of_ble_eq_true rfl) (fun p e s m below meth c A ls H locs C0 hA hS hP hK hD hl => ?_)
  obtain ⟨hx, hb, hr, hts, hown, hlocks, hml, hin⟩ := id C0
  have hown : s.vm.findClass RX8 = some m.cls := hown
  have hl : lv_has ls 3 [(0, .int b)] := hl
  have hK : va_K D vwCl [(cI, .int), (cJ, .long), (cZ, .boolean)] s := hK
  refine lv_iload_n hx hb dX8_fromBits_0 rfl (lv_at hl 0 rfl) ?_
  refine lv_ldc (v := 2147483647) hx hb hown (hts (.constant RX8 144 (2147483647)) (oX8_fromBits_in _ (List.mem_of_getElem? (i := 0) rfl))) dX8_fromBits_1 ?_
  refine lv_iand hx hb dX8_fromBits_3 ?_
  refine lv_i2l (v := _) hx hb dX8_fromBits_4 rfl ?_
  refine lv_lstore_n (lv' := [(1, .long (kX8_fromBits_s5 b)), (0, .int b)]) hx hb dX8_fromBits_5 rfl hl (by decide) rfl (fun ls hl => ?_)
  refine lv_lload_n hx hb dX8_fromBits_6 rfl (lv_at hl 0 rfl) ?_
  refine lv_ldc2 (v := 2139095040) hx hb hown (hts (.constantLong RX8 68 (2139095040)) (oX8_fromBits_in _ (List.mem_of_getElem? (i := 1) rfl))) dX8_fromBits_7 ?_
  refine W.lcmp hx hb dX8_fromBits_10 ?_
  refine lv_if_le (tgt := 20) hx hb dX8_fromBits_11 (by decide) (fun c1 => ?_) (fun c1 => ?_)
  · skip
    have c1 := (lg_cmp_le _ _).mp c1
    have c1i : ((kX8_fromBits_s5 b) : Int64).toInt ≤ 2139095040 := Int64.le_iff_toInt_le.mp c1
    refine lv_iload_n hx hb dX8_fromBits_20 rfl (lv_at hl 1 rfl) ?_
    refine lv_if_ge (tgt := 28) hx hb dX8_fromBits_21 (by decide) (fun c2 => ?_) (fun c2 => ?_)
    · skip
      have c2i : 0 ≤ (b : Int32).toInt := Int32.le_iff_toInt_le.mp c2
      refine lv_iconst (v := 0) hx hb dX8_fromBits_28 (by decide) ?_
      refine lv_lload_n hx hb dX8_fromBits_29 rfl (lv_at hl 0 rfl) ?_
      refine sp_callj (wr := []) (wc := []) hP hD hS hA [] [] rfl rfl (by decide) (by decide) (va_runS (As := [.int 0, .long (kX8_fromBits_s5 b)]) (rest := []) ⟨hx, hb, hml, hown, hts⟩ (c_X8_placeOf l D cI cJ cZ H.size 0 (kX8_fromBits_s5 b)) (va_cwS 2 hts gX8_fromBits_X8_placeOf_84 rfl rfl rfl (by decide +kernel) ⟨Nat.le_of_ble_eq_true rfl, Nat.le_of_ble_eq_true rfl⟩) (sp_preS [.int 0, .long (kX8_fromBits_s5 b)] hK (hP.sub (ws' := []) [] rfl) (hD.sub (ws' := []) [] (by decide) rfl)) rfl rfl hl.1 rfl (lv_room (Nat.le_of_ble_eq_true rfl)) dX8_fromBits_30 ⟨Nat.le_of_ble_eq_true rfl, Nat.le_of_ble_eq_true rfl⟩) (fun r3 u4 H locs hw5 hP hD hS => ?_)
      have hq_5_0 : r3 = (kX8_placeOf 0 (kX8_fromBits_s5 b)) := hw5
      subst r3
      have hP : va_P D vwCl [] H := hP
      have hD : va_D A [] := hD
      refine W.widen (k := 0) (n := 0) (by decide) (by decide) ?_
      exact sp_lret (u := ()) hx hb hr hlocks hS (Eq.symm ((if_pos c1i).trans ((if_pos c2i).trans rfl))) (hP.sub [] rfl) (hD.sub [] (by decide) rfl) dX8_fromBits_33
    · skip
      have c2i : ¬ 0 ≤ (b : Int32).toInt := fun h => c2 (Int32.le_iff_toInt_le.mpr h)
      refine lv_iconst (v := 1) hx hb dX8_fromBits_24 (by decide) ?_
      refine lv_goto (tgt := 29) hx hb dX8_fromBits_25 (by decide) ?_
      refine lv_lload_n hx hb dX8_fromBits_29 rfl (lv_at hl 0 rfl) ?_
      refine sp_callj (wr := []) (wc := []) hP hD hS hA [] [] rfl rfl (by decide) (by decide) (va_runS (As := [.int 1, .long (kX8_fromBits_s5 b)]) (rest := []) ⟨hx, hb, hml, hown, hts⟩ (c_X8_placeOf l D cI cJ cZ H.size 1 (kX8_fromBits_s5 b)) (va_cwS 2 hts gX8_fromBits_X8_placeOf_84 rfl rfl rfl (by decide +kernel) ⟨Nat.le_of_ble_eq_true rfl, Nat.le_of_ble_eq_true rfl⟩) (sp_preS [.int 1, .long (kX8_fromBits_s5 b)] hK (hP.sub (ws' := []) [] rfl) (hD.sub (ws' := []) [] (by decide) rfl)) rfl rfl hl.1 rfl (lv_room (Nat.le_of_ble_eq_true rfl)) dX8_fromBits_30 ⟨Nat.le_of_ble_eq_true rfl, Nat.le_of_ble_eq_true rfl⟩) (fun r6 u7 H locs hw8 hP hD hS => ?_)
      have hq_8_0 : r6 = (kX8_placeOf 1 (kX8_fromBits_s5 b)) := hw8
      subst r6
      have hP : va_P D vwCl [] H := hP
      have hD : va_D A [] := hD
      refine W.widen (k := 0) (n := 0) (by decide) (by decide) ?_
      exact sp_lret (u := ()) hx hb hr hlocks hS (Eq.symm ((if_pos c1i).trans ((if_neg c2i).trans rfl))) (hP.sub [] rfl) (hD.sub [] (by decide) rfl) dX8_fromBits_33
  · skip
    have c1 := fun h => c1 ((lg_cmp_le _ _).mpr h)
    have c1i : ¬ ((kX8_fromBits_s5 b) : Int64).toInt ≤ 2139095040 := fun h => c1 (Int64.le_iff_toInt_le.mpr h)
    refine lv_ldc2 (v := 9000000000) hx hb hown (hts (.constantLong RX8 82 (9000000000)) (oX8_fromBits_in _ (List.mem_of_getElem? (i := 2) rfl))) dX8_fromBits_14 ?_
    refine lv_goto (tgt := 33) hx hb dX8_fromBits_17 (by decide) ?_
    refine W.widen (k := 0) (n := 0) (by decide) (by decide) ?_
    exact sp_lret (u := ()) hx hb hr hlocks hS (Eq.symm ((if_neg c1i).trans rfl)) (hP.sub [] rfl) (hD.sub [] (by decide) rfl) dX8_fromBits_33
def oX8_toBits : List Cond := [.constantLong RX8 82 (9000000000), .constantLong RX8 74 (-1), .constantLong RX8 112 (2147483648), .constantLong RX8 145 (2143289344)]
def wpX8_toBits : List Cond := .code yX8_toBits cX8_toBits 2 (some .long) :: (oX8_toBits ++ ([] : List Cond))
theorem oX8_toBits_in : ∀ w ∈ oX8_toBits, w ∈ wpX8_toBits := fun w h => List.mem_cons_of_mem _ (List.mem_append_left _ h)
theorem gwoX8_toBits : ∀ w ∈ oX8_toBits, goodWord w = true := by decide +kernel
theorem gwX8_toBits : ∀ w ∈ wpX8_toBits, goodWord w = true := by
  unfold wpX8_toBits
  exact List.forall_mem_cons.mpr ⟨rfl, List.forall_mem_append.mpr ⟨gwoX8_toBits, fun _ h => absurd h List.not_mem_nil⟩⟩
set_option maxRecDepth 100000 in
theorem toX8_toBits : ∀ w ∈ oX8_toBits, w ∈ lw_tbl := by
  unfold oX8_toBits
  exact List.forall_mem_cons.mpr ⟨(List.mem_of_getElem? (i := 804) (by decide +kernel)), List.forall_mem_cons.mpr ⟨(List.mem_of_getElem? (i := 808) (by decide +kernel)), List.forall_mem_cons.mpr ⟨(List.mem_of_getElem? (i := 818) (by decide +kernel)), List.forall_mem_cons.mpr ⟨(List.mem_of_getElem? (i := 817) (by decide +kernel)), fun _ h => absurd h List.not_mem_nil⟩⟩⟩⟩
set_option maxRecDepth 100000 in
theorem tX8_toBits : ∀ w ∈ wpX8_toBits, w ∈ lw_tbl := by
  unfold wpX8_toBits
  exact List.forall_mem_cons.mpr ⟨(List.mem_of_getElem? (i := 816) (by rfl)), List.forall_mem_append.mpr ⟨toX8_toBits, fun _ h => absurd h List.not_mem_nil⟩⟩
set_option maxHeartbeats 4000000 in
set_option maxRecDepth 100000 in
theorem c_X8_toBits (l : Launch) (D : va_G) (cI cJ cZ : ClassId) (sz : Nat) (g : Int64) : Met l yX8_toBits wpX8_toBits ({ frames := 0, cells := 0, slots := 0, locals := 0 }) (va_Pc ([.long g] : List Value) (sp_pre D vwCl (sp_ty cI cJ cZ) [] sz)) (va_Ql (fun (r : Int64) (_ : Unit) => r = kX8_toBits g) (sp_B D vwCl (va_A [] sz) (fun (_ : Unit) => [])) (va_A [] sz)) 0 0 (va_A [] sz) := by
  refine sp_ofW (Qc := fun A => va_Ql (fun (r : Int64) (_ : Unit) => r = kX8_toBits g) (sp_B D vwCl A (fun (_ : Unit) => [])) A) (by decide) rfl (Nat.le_of_ble_eq_true rfl) (fun p e s m below meth c A ls H locs C0 hA hS hP hK hD hl => ?_)
  obtain ⟨hx, hb, hr, hts, hown, hlocks, hml, hin⟩ := id C0
  have hown : s.vm.findClass RX8 = some m.cls := hown
  have hl : lv_has ls 2 [(0, .long g)] := hl
  have hK : va_K D vwCl [(cI, .int), (cJ, .long), (cZ, .boolean)] s := hK
  refine lv_lload_n hx hb dX8_toBits_0 rfl (lv_at hl 0 rfl) ?_
  refine lv_ldc2 (v := 9000000000) hx hb hown (hts (.constantLong RX8 82 (9000000000)) (oX8_toBits_in _ (List.mem_of_getElem? (i := 0) rfl))) dX8_toBits_1 ?_
  refine W.lcmp hx hb dX8_toBits_4 ?_
  refine lv_if_ne (tgt := 14) hx hb dX8_toBits_5 (by decide) (fun c1 => ?_) (fun c1 => ?_)
  · skip
    have c1 := fun h => c1 ((lg_cmp_eq _ _).mpr h)
    have c1i : ¬ (g : Int64).toInt = 9000000000 := fun h => c1 (Int64.toInt_inj.mp h)
    refine lv_lload_n hx hb dX8_toBits_14 rfl (lv_at hl 0 rfl) ?_
    refine lv_lconst (v := 0) hx hb dX8_toBits_15 (by decide) ?_
    refine W.lcmp hx hb dX8_toBits_16 ?_
    refine lv_if_lt (tgt := 24) hx hb dX8_toBits_17 (by decide) (fun c2 => ?_) (fun c2 => ?_)
    · skip
      have c2 := (lg_cmp_lt _ _).mp c2
      have c2i : (g : Int64).toInt < 0 := Int64.lt_iff_toInt_lt.mp c2
      refine lv_ldc2 (v := (-1)) hx hb hown (hts (.constantLong RX8 74 (-1)) (oX8_toBits_in _ (List.mem_of_getElem? (i := 1) rfl))) dX8_toBits_24 ?_
      refine lv_lload_n hx hb dX8_toBits_27 rfl (lv_at hl 0 rfl) ?_
      refine lv_lsub hx hb dX8_toBits_28 ?_
      refine lv_ldc2 (v := 2147483648) hx hb hown (hts (.constantLong RX8 112 (2147483648)) (oX8_toBits_in _ (List.mem_of_getElem? (i := 2) rfl))) dX8_toBits_29 ?_
      refine lv_lsub hx hb dX8_toBits_32 ?_
      refine W.widen (k := 0) (n := 0) (by decide) (by decide) ?_
      exact sp_lret (u := ()) hx hb hr hlocks hS (Eq.symm ((if_neg c1i).trans ((if_pos c2i).trans rfl))) (hP.sub [] rfl) (hD.sub [] (by decide) rfl) dX8_toBits_33
    · skip
      have c2 := fun h => c2 ((lg_cmp_lt _ _).mpr h)
      have c2i : ¬ (g : Int64).toInt < 0 := fun h => c2 (Int64.lt_iff_toInt_lt.mpr h)
      refine lv_lload_n hx hb dX8_toBits_20 rfl (lv_at hl 0 rfl) ?_
      refine lv_goto (tgt := 33) hx hb dX8_toBits_21 (by decide) ?_
      refine W.widen (k := 0) (n := 0) (by decide) (by decide) ?_
      exact sp_lret (u := ()) hx hb hr hlocks hS (Eq.symm ((if_neg c1i).trans ((if_neg c2i).trans rfl))) (hP.sub [] rfl) (hD.sub [] (by decide) rfl) dX8_toBits_33
  · skip
    have c1 := (lg_cmp_eq _ _).mp c1
    have c1i : (g : Int64).toInt = 9000000000 := congrArg Int64.toInt c1
    refine lv_ldc2 (v := 2143289344) hx hb hown (hts (.constantLong RX8 145 (2143289344)) (oX8_toBits_in _ (List.mem_of_getElem? (i := 3) rfl))) dX8_toBits_8 ?_
    refine lv_goto (tgt := 33) hx hb dX8_toBits_11 (by decide) ?_
    refine W.widen (k := 0) (n := 0) (by decide) (by decide) ?_
    exact sp_lret (u := ()) hx hb hr hlocks hS (Eq.symm ((if_pos c1i).trans rfl)) (hP.sub [] rfl) (hD.sub [] (by decide) rfl) dX8_toBits_33
def oX8_hasTwo : List Cond := [.constantLong RX8 90 (2), .constantLong RX8 154 (5)]
def wpX8_hasTwo : List Cond := .code yX8_hasTwo cX8_hasTwo 1 (some .boolean) :: (oX8_hasTwo ++ ((va_wsS RX8 150 yX8_in wpX8_in) ++ ([] : List Cond)))
theorem oX8_hasTwo_in : ∀ w ∈ oX8_hasTwo, w ∈ wpX8_hasTwo := fun w h => List.mem_cons_of_mem _ (List.mem_append_left _ h)
theorem gwoX8_hasTwo : ∀ w ∈ oX8_hasTwo, goodWord w = true := by decide +kernel
theorem gwX8_hasTwo : ∀ w ∈ wpX8_hasTwo, goodWord w = true := by
  unfold wpX8_hasTwo
  exact List.forall_mem_cons.mpr ⟨rfl, List.forall_mem_append.mpr ⟨gwoX8_hasTwo, List.forall_mem_append.mpr ⟨(sp_gS gwX8_in), fun _ h => absurd h List.not_mem_nil⟩⟩⟩
set_option maxRecDepth 100000 in
theorem toX8_hasTwo : ∀ w ∈ oX8_hasTwo, w ∈ lw_tbl := by
  unfold oX8_hasTwo
  exact List.forall_mem_cons.mpr ⟨(List.mem_of_getElem? (i := 770) (by decide +kernel)), List.forall_mem_cons.mpr ⟨(List.mem_of_getElem? (i := 779) (by decide +kernel)), fun _ h => absurd h List.not_mem_nil⟩⟩
set_option maxRecDepth 100000 in
theorem tX8_hasTwo : ∀ w ∈ wpX8_hasTwo, w ∈ lw_tbl := by
  unfold wpX8_hasTwo
  exact List.forall_mem_cons.mpr ⟨(List.mem_of_getElem? (i := 778) (by rfl)), List.forall_mem_append.mpr ⟨toX8_hasTwo, List.forall_mem_append.mpr ⟨(sp_tS (List.mem_of_getElem? (i := 767) (by decide +kernel)) (List.mem_of_getElem? (i := 768) (by decide +kernel)) (List.mem_of_getElem? (i := 45) (by decide +kernel)) tX8_in), fun _ h => absurd h List.not_mem_nil⟩⟩⟩
theorem gX8_hasTwo_X8_in_150 : GoodIn wpX8_hasTwo (va_wsS RX8 150 yX8_in wpX8_in) := fun w h => ⟨List.mem_cons_of_mem _ (List.mem_append_right _ (List.mem_append_left _ h)), good_of_word (sp_gS gwX8_in w h)⟩
set_option maxHeartbeats 4000000 in
set_option maxRecDepth 100000 in
theorem c_X8_hasTwo (l : Launch) (D : va_G) (cI cJ cZ : ClassId) (sz : Nat) (v : Int32) : Met l yX8_hasTwo wpX8_hasTwo ({ frames := 1, cells := 0, slots := 0, locals := 25 }) (va_Pc ([.int v] : List Value) (sp_pre D vwCl (sp_ty cI cJ cZ) [] sz)) (va_Qi (fun (r : Int32) (_ : Unit) => r = kX8_hasTwo v ∧ ((r = 1 ∧ ((2 ≤ v.toInt ∧ v.toInt ≤ 5) ∨ v.toInt = 8 ∨ v.toInt = 9 ∨ v.toInt = 14)) ∨ (r = 0 ∧ ¬ ((2 ≤ v.toInt ∧ v.toInt ≤ 5) ∨ v.toInt = 8 ∨ v.toInt = 9 ∨ v.toInt = 14)))) (sp_B D vwCl (va_A [] sz) (fun (_ : Unit) => [])) (va_A [] sz)) 0 0 (va_A [] sz) := by
  refine sp_ofW (Qc := fun A => va_Qi (fun (r : Int32) (_ : Unit) => r = kX8_hasTwo v ∧ ((r = 1 ∧ ((2 ≤ v.toInt ∧ v.toInt ≤ 5) ∨ v.toInt = 8 ∨ v.toInt = 9 ∨ v.toInt = 14)) ∨ (r = 0 ∧ ¬ ((2 ≤ v.toInt ∧ v.toInt ≤ 5) ∨ v.toInt = 8 ∨ v.toInt = 9 ∨ v.toInt = 14)))) (sp_B D vwCl A (fun (_ : Unit) => [])) A) (by decide) rfl (Nat.le_of_ble_eq_true rfl) (fun p e s m below meth c A ls H locs C0 hA hS hP hK hD hl => ?_)
  obtain ⟨hx, hb, hr, hts, hown, hlocks, hml, hin⟩ := id C0
  have hown : s.vm.findClass RX8 = some m.cls := hown
  have hl : lv_has ls 1 [(0, .int v)] := hl
  have hK : va_K D vwCl [(cI, .int), (cJ, .long), (cZ, .boolean)] s := hK
  refine lv_iload_n hx hb dX8_hasTwo_0 rfl (lv_at hl 0 rfl) ?_
  refine lv_i2l (v := _) hx hb dX8_hasTwo_1 rfl ?_
  refine lv_ldc2 (v := 2) hx hb hown (hts (.constantLong RX8 90 (2)) (oX8_hasTwo_in _ (List.mem_of_getElem? (i := 0) rfl))) dX8_hasTwo_2 ?_
  refine lv_ldc2 (v := 5) hx hb hown (hts (.constantLong RX8 154 (5)) (oX8_hasTwo_in _ (List.mem_of_getElem? (i := 1) rfl))) dX8_hasTwo_5 ?_
  refine sp_calli (wr := []) (wc := []) hP hD hS hA [] [] rfl rfl (by decide) (by decide) (va_runS (As := [.long (v : Int32).toInt64, .long 2, .long 5]) (rest := []) ⟨hx, hb, hml, hown, hts⟩ (c_X8_in l D cI cJ cZ H.size ((v : Int32).toInt64) 2 5) (va_cwS 3 hts gX8_hasTwo_X8_in_150 rfl rfl rfl (by decide +kernel) ⟨Nat.le_of_ble_eq_true rfl, Nat.le_of_ble_eq_true rfl⟩) (sp_preS [.long (v : Int32).toInt64, .long 2, .long 5] hK (hP.sub (ws' := []) [] rfl) (hD.sub (ws' := []) [] (by decide) rfl)) rfl rfl hl.1 rfl (lv_room (Nat.le_of_ble_eq_true rfl)) dX8_hasTwo_8 ⟨Nat.le_of_ble_eq_true rfl, Nat.le_of_ble_eq_true rfl⟩) (fun r1 u2 H locs hw3 hP hD hS => ?_)
  obtain ⟨hq_3_0, hm_1_⟩ : r1 = (kX8_in ((v : Int32).toInt64) 2 5) ∧ _ := hw3
  subst r1
  have hm_1_i : (((kX8_in ((v : Int32).toInt64) 2 5) : Int32).toInt = 1 ∧ ((2 : Int) ≤ (v : Int32).toInt ∧ (v : Int32).toInt ≤ (5 : Int))) ∨ (((kX8_in ((v : Int32).toInt64) 2 5) : Int32).toInt = 0 ∧ ¬ ((2 : Int) ≤ (v : Int32).toInt ∧ (v : Int32).toInt ≤ (5 : Int))) := by have h9 := sp_bool hm_1_; simp only [Int32.toInt_toInt64] at h9; exact h9
  have hP : va_P D vwCl [] H := hP
  have hD : va_D A [] := hD
  refine lv_if_ne (tgt := 32) hx hb dX8_hasTwo_11 (by decide) (fun c4 => ?_) (fun c4 => ?_)
  · skip
    have c4i : ¬ ((kX8_in ((v : Int32).toInt64) 2 5) : Int32).toInt = 0 := fun h => c4 (Int32.toInt_inj.mp h)
    refine lv_iconst (v := 1) hx hb dX8_hasTwo_32 (by decide) ?_
    refine lv_goto (tgt := 37) hx hb dX8_hasTwo_33 (by decide) ?_
    refine W.widen (k := 0) (n := 0) (by decide) (by decide) ?_
    exact sp_zret (u := ()) hx hb hr hlocks (by decide) hS ⟨(Eq.symm ((if_neg c4i).trans rfl)), (Or.inl ⟨rfl, by omega⟩)⟩ (hP.sub [] rfl) (hD.sub [] (by decide) rfl) dX8_hasTwo_37
  · skip
    have c4i : ((kX8_in ((v : Int32).toInt64) 2 5) : Int32).toInt = 0 := congrArg Int32.toInt c4
    refine lv_iload_n hx hb dX8_hasTwo_14 rfl (lv_at hl 0 rfl) ?_
    refine lv_bipush (v := 8) hx hb dX8_hasTwo_15 (by decide) ?_
    refine lv_icmp_eq (tgt := 32) hx hb dX8_hasTwo_17 (by decide) (fun c5 => ?_) (fun c5 => ?_)
    · skip
      have c5i : (v : Int32).toInt = 8 := congrArg Int32.toInt c5
      refine lv_iconst (v := 1) hx hb dX8_hasTwo_32 (by decide) ?_
      refine lv_goto (tgt := 37) hx hb dX8_hasTwo_33 (by decide) ?_
      refine W.widen (k := 0) (n := 0) (by decide) (by decide) ?_
      exact sp_zret (u := ()) hx hb hr hlocks (by decide) hS ⟨(Eq.symm ((if_pos c4i).trans ((if_pos c5i).trans rfl))), (Or.inl ⟨rfl, by omega⟩)⟩ (hP.sub [] rfl) (hD.sub [] (by decide) rfl) dX8_hasTwo_37
    · skip
      have c5i : ¬ (v : Int32).toInt = 8 := fun h => c5 (Int32.toInt_inj.mp h)
      refine lv_iload_n hx hb dX8_hasTwo_20 rfl (lv_at hl 0 rfl) ?_
      refine lv_bipush (v := 9) hx hb dX8_hasTwo_21 (by decide) ?_
      refine lv_icmp_eq (tgt := 32) hx hb dX8_hasTwo_23 (by decide) (fun c6 => ?_) (fun c6 => ?_)
      · skip
        have c6i : (v : Int32).toInt = 9 := congrArg Int32.toInt c6
        refine lv_iconst (v := 1) hx hb dX8_hasTwo_32 (by decide) ?_
        refine lv_goto (tgt := 37) hx hb dX8_hasTwo_33 (by decide) ?_
        refine W.widen (k := 0) (n := 0) (by decide) (by decide) ?_
        exact sp_zret (u := ()) hx hb hr hlocks (by decide) hS ⟨(Eq.symm ((if_pos c4i).trans ((if_neg c5i).trans ((if_pos c6i).trans rfl)))), (Or.inl ⟨rfl, by omega⟩)⟩ (hP.sub [] rfl) (hD.sub [] (by decide) rfl) dX8_hasTwo_37
      · skip
        have c6i : ¬ (v : Int32).toInt = 9 := fun h => c6 (Int32.toInt_inj.mp h)
        refine lv_iload_n hx hb dX8_hasTwo_26 rfl (lv_at hl 0 rfl) ?_
        refine lv_bipush (v := 14) hx hb dX8_hasTwo_27 (by decide) ?_
        refine lv_icmp_ne (tgt := 36) hx hb dX8_hasTwo_29 (by decide) (fun c7 => ?_) (fun c7 => ?_)
        · skip
          have c7i : ¬ (v : Int32).toInt = 14 := fun h => c7 (Int32.toInt_inj.mp h)
          refine lv_iconst (v := 0) hx hb dX8_hasTwo_36 (by decide) ?_
          refine W.widen (k := 0) (n := 0) (by decide) (by decide) ?_
          exact sp_zret (u := ()) hx hb hr hlocks (by decide) hS ⟨(Eq.symm ((if_pos c4i).trans ((if_neg c5i).trans ((if_neg c6i).trans ((if_neg c7i).trans rfl))))), (Or.inr ⟨rfl, by omega⟩)⟩ (hP.sub [] rfl) (hD.sub [] (by decide) rfl) dX8_hasTwo_37
        · skip
          have c7i : (v : Int32).toInt = 14 := congrArg Int32.toInt c7
          refine lv_iconst (v := 1) hx hb dX8_hasTwo_32 (by decide) ?_
          refine lv_goto (tgt := 37) hx hb dX8_hasTwo_33 (by decide) ?_
          refine W.widen (k := 0) (n := 0) (by decide) (by decide) ?_
          exact sp_zret (u := ()) hx hb hr hlocks (by decide) hS ⟨(Eq.symm ((if_pos c4i).trans ((if_neg c5i).trans ((if_neg c6i).trans ((if_pos c7i).trans rfl))))), (Or.inl ⟨rfl, by omega⟩)⟩ (hP.sub [] rfl) (hD.sub [] (by decide) rfl) dX8_hasTwo_37
def oX8_valueOf : List Cond := [.constantLong RX8 82 (9000000000)]
def wpX8_valueOf : List Cond := .code yX8_valueOf cX8_valueOf 6 (some .long) :: (oX8_valueOf ++ ((va_wsS RX8 141 yX8_rootOf wpX8_rootOf) ++ ((va_wsS RX8 122 yX8_plus wpX8_plus) ++ ((va_wsS RX8 126 yX8_turned wpX8_turned) ++ ((va_wsS RX8 129 yX8_timesOf wpX8_timesOf) ++ ((va_wsS RX8 132 yX8_byOf wpX8_byOf) ++ ((va_wsS RX8 76 yX8_magOf wpX8_magOf) ++ ((va_wsS RX8 114 yX8_wholeOf wpX8_wholeOf) ++ ((va_wsS RX8 135 yX8_intOf wpX8_intOf) ++ ((va_wsS RX8 138 yX8_restOf wpX8_restOf) ++ ([] : List Cond)))))))))))
theorem oX8_valueOf_in : ∀ w ∈ oX8_valueOf, w ∈ wpX8_valueOf := fun w h => List.mem_cons_of_mem _ (List.mem_append_left _ h)
theorem gwoX8_valueOf : ∀ w ∈ oX8_valueOf, goodWord w = true := by decide +kernel
theorem gwX8_valueOf : ∀ w ∈ wpX8_valueOf, goodWord w = true := by
  unfold wpX8_valueOf
  exact List.forall_mem_cons.mpr ⟨rfl, List.forall_mem_append.mpr ⟨gwoX8_valueOf, List.forall_mem_append.mpr ⟨(sp_gS gwX8_rootOf), List.forall_mem_append.mpr ⟨(sp_gS gwX8_plus), List.forall_mem_append.mpr ⟨(sp_gS gwX8_turned), List.forall_mem_append.mpr ⟨(sp_gS gwX8_timesOf), List.forall_mem_append.mpr ⟨(sp_gS gwX8_byOf), List.forall_mem_append.mpr ⟨(sp_gS gwX8_magOf), List.forall_mem_append.mpr ⟨(sp_gS gwX8_wholeOf), List.forall_mem_append.mpr ⟨(sp_gS gwX8_intOf), List.forall_mem_append.mpr ⟨(sp_gS gwX8_restOf), fun _ h => absurd h List.not_mem_nil⟩⟩⟩⟩⟩⟩⟩⟩⟩⟩⟩
set_option maxRecDepth 100000 in
theorem toX8_valueOf : ∀ w ∈ oX8_valueOf, w ∈ lw_tbl := by
  unfold oX8_valueOf
  exact List.forall_mem_cons.mpr ⟨(List.mem_of_getElem? (i := 804) (by decide +kernel)), fun _ h => absurd h List.not_mem_nil⟩
set_option maxRecDepth 100000 in
theorem tX8_valueOf : ∀ w ∈ wpX8_valueOf, w ∈ lw_tbl := by
  unfold wpX8_valueOf
  exact List.forall_mem_cons.mpr ⟨(List.mem_of_getElem? (i := 830) (by rfl)), List.forall_mem_append.mpr ⟨toX8_valueOf, List.forall_mem_append.mpr ⟨(sp_tS (List.mem_of_getElem? (i := 875) (by decide +kernel)) (List.mem_of_getElem? (i := 876) (by decide +kernel)) (List.mem_of_getElem? (i := 45) (by decide +kernel)) tX8_rootOf), List.forall_mem_append.mpr ⟨(sp_tS (List.mem_of_getElem? (i := 831) (by decide +kernel)) (List.mem_of_getElem? (i := 832) (by decide +kernel)) (List.mem_of_getElem? (i := 45) (by decide +kernel)) tX8_plus), List.forall_mem_append.mpr ⟨(sp_tS (List.mem_of_getElem? (i := 852) (by decide +kernel)) (List.mem_of_getElem? (i := 853) (by decide +kernel)) (List.mem_of_getElem? (i := 45) (by decide +kernel)) tX8_turned), List.forall_mem_append.mpr ⟨(sp_tS (List.mem_of_getElem? (i := 855) (by decide +kernel)) (List.mem_of_getElem? (i := 856) (by decide +kernel)) (List.mem_of_getElem? (i := 45) (by decide +kernel)) tX8_timesOf), List.forall_mem_append.mpr ⟨(sp_tS (List.mem_of_getElem? (i := 861) (by decide +kernel)) (List.mem_of_getElem? (i := 862) (by decide +kernel)) (List.mem_of_getElem? (i := 45) (by decide +kernel)) tX8_byOf), List.forall_mem_append.mpr ⟨(sp_tS (List.mem_of_getElem? (i := 837) (by decide +kernel)) (List.mem_of_getElem? (i := 838) (by decide +kernel)) (List.mem_of_getElem? (i := 45) (by decide +kernel)) tX8_magOf), List.forall_mem_append.mpr ⟨(sp_tS (List.mem_of_getElem? (i := 864) (by decide +kernel)) (List.mem_of_getElem? (i := 865) (by decide +kernel)) (List.mem_of_getElem? (i := 45) (by decide +kernel)) tX8_wholeOf), List.forall_mem_append.mpr ⟨(sp_tS (List.mem_of_getElem? (i := 867) (by decide +kernel)) (List.mem_of_getElem? (i := 868) (by decide +kernel)) (List.mem_of_getElem? (i := 45) (by decide +kernel)) tX8_intOf), List.forall_mem_append.mpr ⟨(sp_tS (List.mem_of_getElem? (i := 872) (by decide +kernel)) (List.mem_of_getElem? (i := 873) (by decide +kernel)) (List.mem_of_getElem? (i := 45) (by decide +kernel)) tX8_restOf), fun _ h => absurd h List.not_mem_nil⟩⟩⟩⟩⟩⟩⟩⟩⟩⟩⟩
theorem gX8_valueOf_X8_rootOf_141 : GoodIn wpX8_valueOf (va_wsS RX8 141 yX8_rootOf wpX8_rootOf) := fun w h => ⟨List.mem_cons_of_mem _ (List.mem_append_right _ (List.mem_append_left _ h)), good_of_word (sp_gS gwX8_rootOf w h)⟩
theorem gX8_valueOf_X8_plus_122 : GoodIn wpX8_valueOf (va_wsS RX8 122 yX8_plus wpX8_plus) := fun w h => ⟨List.mem_cons_of_mem _ (List.mem_append_right _ (List.mem_append_right _ (List.mem_append_left _ h))), good_of_word (sp_gS gwX8_plus w h)⟩
theorem gX8_valueOf_X8_turned_126 : GoodIn wpX8_valueOf (va_wsS RX8 126 yX8_turned wpX8_turned) := fun w h => ⟨List.mem_cons_of_mem _ (List.mem_append_right _ (List.mem_append_right _ (List.mem_append_right _ (List.mem_append_left _ h)))), good_of_word (sp_gS gwX8_turned w h)⟩
theorem gX8_valueOf_X8_timesOf_129 : GoodIn wpX8_valueOf (va_wsS RX8 129 yX8_timesOf wpX8_timesOf) := fun w h => ⟨List.mem_cons_of_mem _ (List.mem_append_right _ (List.mem_append_right _ (List.mem_append_right _ (List.mem_append_right _ (List.mem_append_left _ h))))), good_of_word (sp_gS gwX8_timesOf w h)⟩
theorem gX8_valueOf_X8_byOf_132 : GoodIn wpX8_valueOf (va_wsS RX8 132 yX8_byOf wpX8_byOf) := fun w h => ⟨List.mem_cons_of_mem _ (List.mem_append_right _ (List.mem_append_right _ (List.mem_append_right _ (List.mem_append_right _ (List.mem_append_right _ (List.mem_append_left _ h)))))), good_of_word (sp_gS gwX8_byOf w h)⟩
theorem gX8_valueOf_X8_magOf_76 : GoodIn wpX8_valueOf (va_wsS RX8 76 yX8_magOf wpX8_magOf) := fun w h => ⟨List.mem_cons_of_mem _ (List.mem_append_right _ (List.mem_append_right _ (List.mem_append_right _ (List.mem_append_right _ (List.mem_append_right _ (List.mem_append_right _ (List.mem_append_left _ h))))))), good_of_word (sp_gS gwX8_magOf w h)⟩
theorem gX8_valueOf_X8_wholeOf_114 : GoodIn wpX8_valueOf (va_wsS RX8 114 yX8_wholeOf wpX8_wholeOf) := fun w h => ⟨List.mem_cons_of_mem _ (List.mem_append_right _ (List.mem_append_right _ (List.mem_append_right _ (List.mem_append_right _ (List.mem_append_right _ (List.mem_append_right _ (List.mem_append_right _ (List.mem_append_left _ h)))))))), good_of_word (sp_gS gwX8_wholeOf w h)⟩
theorem gX8_valueOf_X8_intOf_135 : GoodIn wpX8_valueOf (va_wsS RX8 135 yX8_intOf wpX8_intOf) := fun w h => ⟨List.mem_cons_of_mem _ (List.mem_append_right _ (List.mem_append_right _ (List.mem_append_right _ (List.mem_append_right _ (List.mem_append_right _ (List.mem_append_right _ (List.mem_append_right _ (List.mem_append_right _ (List.mem_append_left _ h))))))))), good_of_word (sp_gS gwX8_intOf w h)⟩
theorem gX8_valueOf_X8_restOf_138 : GoodIn wpX8_valueOf (va_wsS RX8 138 yX8_restOf wpX8_restOf) := fun w h => ⟨List.mem_cons_of_mem _ (List.mem_append_right _ (List.mem_append_right _ (List.mem_append_right _ (List.mem_append_right _ (List.mem_append_right _ (List.mem_append_right _ (List.mem_append_right _ (List.mem_append_right _ (List.mem_append_right _ (List.mem_append_left _ h)))))))))), good_of_word (sp_gS gwX8_restOf w h)⟩
set_option maxHeartbeats 4000000 in
set_option maxRecDepth 100000 in
theorem c_X8_valueOf (l : Launch) (D : va_G) (cI cJ cZ : ClassId) (sz : Nat) (mo ma_kind ma_opX ma_opY ma_ruleKind ma_ruleA ma_ruleB ma_low ma_high ma_var ma_found ma_worth ma_boxLow ma_boxHigh ma_has ma_least ma_most ma_mayNone ma_stack : Nat) (k : Int32) (x : Int64) (y : Int64) (mt : Int32) (mn : Int32) (mr : Int32) (mi : Int32) (mw : Int32) (mk : Int32) (mh : Int32) (mz : Int32) : Met l yX8_valueOf wpX8_valueOf ({ frames := 4, cells := 0, slots := 0, locals := 114 }) (va_Pc ([.ref mo, .int k, .long x, .long y] : List Value) (sp_pre D vwCl (sp_ty cI cJ cZ) [(mo, .inr (6, [.int mt, .int mn, .ref ma_kind, .ref ma_opX, .ref ma_opY, .int mr, .ref ma_ruleKind, .ref ma_ruleA, .ref ma_ruleB, .ref ma_low, .ref ma_high, .ref ma_var, .int mi, .int mw, .int mk, .int mh, .ref ma_found, .ref ma_worth, .ref ma_boxLow, .ref ma_boxHigh, .ref ma_has, .ref ma_least, .ref ma_most, .ref ma_mayNone, .ref ma_stack, .int mz]))] sz)) (va_Ql (fun (r : Int64) (_ : Unit) => r = kX8_valueOf k x y) (sp_B D vwCl (va_A [(mo, .inr (6, [.int mt, .int mn, .ref ma_kind, .ref ma_opX, .ref ma_opY, .int mr, .ref ma_ruleKind, .ref ma_ruleA, .ref ma_ruleB, .ref ma_low, .ref ma_high, .ref ma_var, .int mi, .int mw, .int mk, .int mh, .ref ma_found, .ref ma_worth, .ref ma_boxLow, .ref ma_boxHigh, .ref ma_has, .ref ma_least, .ref ma_most, .ref ma_mayNone, .ref ma_stack, .int mz]))] sz) (fun (_ : Unit) => [(mo, .inr (6, [.int mt, .int mn, .ref ma_kind, .ref ma_opX, .ref ma_opY, .int mr, .ref ma_ruleKind, .ref ma_ruleA, .ref ma_ruleB, .ref ma_low, .ref ma_high, .ref ma_var, .int mi, .int mw, .int mk, .int mh, .ref ma_found, .ref ma_worth, .ref ma_boxLow, .ref ma_boxHigh, .ref ma_has, .ref ma_least, .ref ma_most, .ref ma_mayNone, .ref ma_stack, .int mz]))])) (va_A [(mo, .inr (6, [.int mt, .int mn, .ref ma_kind, .ref ma_opX, .ref ma_opY, .int mr, .ref ma_ruleKind, .ref ma_ruleA, .ref ma_ruleB, .ref ma_low, .ref ma_high, .ref ma_var, .int mi, .int mw, .int mk, .int mh, .ref ma_found, .ref ma_worth, .ref ma_boxLow, .ref ma_boxHigh, .ref ma_has, .ref ma_least, .ref ma_most, .ref ma_mayNone, .ref ma_stack, .int mz]))] sz)) 0 0 (va_A [(mo, .inr (6, [.int mt, .int mn, .ref ma_kind, .ref ma_opX, .ref ma_opY, .int mr, .ref ma_ruleKind, .ref ma_ruleA, .ref ma_ruleB, .ref ma_low, .ref ma_high, .ref ma_var, .int mi, .int mw, .int mk, .int mh, .ref ma_found, .ref ma_worth, .ref ma_boxLow, .ref ma_boxHigh, .ref ma_has, .ref ma_least, .ref ma_most, .ref ma_mayNone, .ref ma_stack, .int mz]))] sz) := by
  refine sp_ofW (Qc := fun A => va_Ql (fun (r : Int64) (_ : Unit) => r = kX8_valueOf k x y) (sp_B D vwCl A (fun (_ : Unit) => [(mo, .inr (6, [.int mt, .int mn, .ref ma_kind, .ref ma_opX, .ref ma_opY, .int mr, .ref ma_ruleKind, .ref ma_ruleA, .ref ma_ruleB, .ref ma_low, .ref ma_high, .ref ma_var, .int mi, .int mw, .int mk, .int mh, .ref ma_found, .ref ma_worth, .ref ma_boxLow, .ref ma_boxHigh, .ref ma_has, .ref ma_least, .ref ma_most, .ref ma_mayNone, .ref ma_stack, .int mz]))])) A) (by decide) rfl (Nat.le_of_ble_eq_true rfl) (fun p e s m below meth c A ls H locs C0 hA hS hP hK hD hl => ?_)
  obtain ⟨hx, hb, hr, hts, hown, hlocks, hml, hin⟩ := id C0
  have hown : s.vm.findClass RX8 = some m.cls := hown
  have hl : lv_has ls 6 [(0, .ref mo), (1, .int k), (2, .long x), (4, .long y)] := hl
  have hK : va_K D vwCl [(cI, .int), (cJ, .long), (cZ, .boolean)] s := hK
  refine lv_iload_n hx hb dX8_valueOf_0 rfl (lv_at hl 1 rfl) ?_
  rcases (show (k : Int32).toInt < 2 ∨ 14 < (k : Int32).toInt ∨ (k : Int32).toInt = 2 ∨ (k : Int32).toInt = 3 ∨ (k : Int32).toInt = 4 ∨ (k : Int32).toInt = 5 ∨ (k : Int32).toInt = 6 ∨ (k : Int32).toInt = 7 ∨ (k : Int32).toInt = 8 ∨ (k : Int32).toInt = 9 ∨ (k : Int32).toInt = 10 ∨ (k : Int32).toInt = 11 ∨ (k : Int32).toInt = 12 ∨ (k : Int32).toInt = 13 ∨ (k : Int32).toInt = 14 by omega) with h1 | h1 | h1 | h1 | h1 | h1 | h1 | h1 | h1 | h1 | h1 | h1 | h1 | h1 | h1
  · skip
    refine lv_tableOut (tgt := 218) hx hb dX8_valueOf_1 (Or.inl h1) (by decide) ?_
    refine lv_lload_n hx hb dX8_valueOf_218 rfl (lv_at hl 2 rfl) ?_
    refine sp_callj (wr := [(mo, .inr (6, [.int mt, .int mn, .ref ma_kind, .ref ma_opX, .ref ma_opY, .int mr, .ref ma_ruleKind, .ref ma_ruleA, .ref ma_ruleB, .ref ma_low, .ref ma_high, .ref ma_var, .int mi, .int mw, .int mk, .int mh, .ref ma_found, .ref ma_worth, .ref ma_boxLow, .ref ma_boxHigh, .ref ma_has, .ref ma_least, .ref ma_most, .ref ma_mayNone, .ref ma_stack, .int mz]))]) (wc := []) hP hD hS hA [] [0] rfl rfl (by decide) (by decide) (va_runS (As := [.long x]) (rest := []) ⟨hx, hb, hml, hown, hts⟩ (c_X8_rootOf l D cI cJ cZ H.size x) (va_cwS 1 hts gX8_valueOf_X8_rootOf_141 rfl rfl rfl (by decide +kernel) ⟨Nat.le_of_ble_eq_true rfl, Nat.le_of_ble_eq_true rfl⟩) (sp_preS [.long x] hK (hP.sub (ws' := []) [] rfl) (hD.sub (ws' := []) [] (by decide) rfl)) rfl rfl hl.1 rfl (lv_room (Nat.le_of_ble_eq_true rfl)) dX8_valueOf_219 ⟨Nat.le_of_ble_eq_true rfl, Nat.le_of_ble_eq_true rfl⟩) (fun r2 u3 H locs hw4 hP hD hS => ?_)
    have hq_4_0 : r2 = (kX8_rootOf x) := hw4
    subst r2
    have hP : va_P D vwCl [(mo, .inr (6, [.int mt, .int mn, .ref ma_kind, .ref ma_opX, .ref ma_opY, .int mr, .ref ma_ruleKind, .ref ma_ruleA, .ref ma_ruleB, .ref ma_low, .ref ma_high, .ref ma_var, .int mi, .int mw, .int mk, .int mh, .ref ma_found, .ref ma_worth, .ref ma_boxLow, .ref ma_boxHigh, .ref ma_has, .ref ma_least, .ref ma_most, .ref ma_mayNone, .ref ma_stack, .int mz]))] H := hP
    have hD : va_D A [(mo, .inr (6, [.int mt, .int mn, .ref ma_kind, .ref ma_opX, .ref ma_opY, .int mr, .ref ma_ruleKind, .ref ma_ruleA, .ref ma_ruleB, .ref ma_low, .ref ma_high, .ref ma_var, .int mi, .int mw, .int mk, .int mh, .ref ma_found, .ref ma_worth, .ref ma_boxLow, .ref ma_boxHigh, .ref ma_has, .ref ma_least, .ref ma_most, .ref ma_mayNone, .ref ma_stack, .int mz]))] := hD
    refine W.widen (k := 0) (n := 0) (by decide) (by decide) ?_
    exact sp_lret (u := ()) hx hb hr hlocks hS (Eq.symm ((if_pos h1).trans rfl)) (hP.sub [0] rfl) (hD.sub [0] (by decide) rfl) dX8_valueOf_222
  · skip
    refine lv_tableOut (tgt := 218) hx hb dX8_valueOf_1 (Or.inr h1) (by decide) ?_
    refine lv_lload_n hx hb dX8_valueOf_218 rfl (lv_at hl 2 rfl) ?_
    refine sp_callj (wr := [(mo, .inr (6, [.int mt, .int mn, .ref ma_kind, .ref ma_opX, .ref ma_opY, .int mr, .ref ma_ruleKind, .ref ma_ruleA, .ref ma_ruleB, .ref ma_low, .ref ma_high, .ref ma_var, .int mi, .int mw, .int mk, .int mh, .ref ma_found, .ref ma_worth, .ref ma_boxLow, .ref ma_boxHigh, .ref ma_has, .ref ma_least, .ref ma_most, .ref ma_mayNone, .ref ma_stack, .int mz]))]) (wc := []) hP hD hS hA [] [0] rfl rfl (by decide) (by decide) (va_runS (As := [.long x]) (rest := []) ⟨hx, hb, hml, hown, hts⟩ (c_X8_rootOf l D cI cJ cZ H.size x) (va_cwS 1 hts gX8_valueOf_X8_rootOf_141 rfl rfl rfl (by decide +kernel) ⟨Nat.le_of_ble_eq_true rfl, Nat.le_of_ble_eq_true rfl⟩) (sp_preS [.long x] hK (hP.sub (ws' := []) [] rfl) (hD.sub (ws' := []) [] (by decide) rfl)) rfl rfl hl.1 rfl (lv_room (Nat.le_of_ble_eq_true rfl)) dX8_valueOf_219 ⟨Nat.le_of_ble_eq_true rfl, Nat.le_of_ble_eq_true rfl⟩) (fun r5 u6 H locs hw7 hP hD hS => ?_)
    have hq_7_0 : r5 = (kX8_rootOf x) := hw7
    subst r5
    have hP : va_P D vwCl [(mo, .inr (6, [.int mt, .int mn, .ref ma_kind, .ref ma_opX, .ref ma_opY, .int mr, .ref ma_ruleKind, .ref ma_ruleA, .ref ma_ruleB, .ref ma_low, .ref ma_high, .ref ma_var, .int mi, .int mw, .int mk, .int mh, .ref ma_found, .ref ma_worth, .ref ma_boxLow, .ref ma_boxHigh, .ref ma_has, .ref ma_least, .ref ma_most, .ref ma_mayNone, .ref ma_stack, .int mz]))] H := hP
    have hD : va_D A [(mo, .inr (6, [.int mt, .int mn, .ref ma_kind, .ref ma_opX, .ref ma_opY, .int mr, .ref ma_ruleKind, .ref ma_ruleA, .ref ma_ruleB, .ref ma_low, .ref ma_high, .ref ma_var, .int mi, .int mw, .int mk, .int mh, .ref ma_found, .ref ma_worth, .ref ma_boxLow, .ref ma_boxHigh, .ref ma_has, .ref ma_least, .ref ma_most, .ref ma_mayNone, .ref ma_stack, .int mz]))] := hD
    refine W.widen (k := 0) (n := 0) (by decide) (by decide) ?_
    exact sp_lret (u := ()) hx hb hr hlocks hS (Eq.symm ((if_neg (show ¬ ((k : Int32).toInt < 2) by omega)).trans ((if_pos h1).trans rfl))) (hP.sub [0] rfl) (hD.sub [0] (by decide) rfl) dX8_valueOf_222
  · skip
    refine lv_tableIn (off := 67) (tgt := 68) hx hb dX8_valueOf_1 (by omega) (by omega) (by rw [h1]; rfl) (by decide) ?_
    refine lv_lload_n hx hb dX8_valueOf_68 rfl (lv_at hl 2 rfl) ?_
    refine lv_lload hx hb dX8_valueOf_69 (lv_at hl 3 rfl) ?_
    refine sp_callj (wr := [(mo, .inr (6, [.int mt, .int mn, .ref ma_kind, .ref ma_opX, .ref ma_opY, .int mr, .ref ma_ruleKind, .ref ma_ruleA, .ref ma_ruleB, .ref ma_low, .ref ma_high, .ref ma_var, .int mi, .int mw, .int mk, .int mh, .ref ma_found, .ref ma_worth, .ref ma_boxLow, .ref ma_boxHigh, .ref ma_has, .ref ma_least, .ref ma_most, .ref ma_mayNone, .ref ma_stack, .int mz]))]) (wc := []) hP hD hS hA [] [0] rfl rfl (by decide) (by decide) (va_runS (As := [.long x, .long y]) (rest := []) ⟨hx, hb, hml, hown, hts⟩ (c_X8_plus l D cI cJ cZ H.size x y) (va_cwS 2 hts gX8_valueOf_X8_plus_122 rfl rfl rfl (by decide +kernel) ⟨Nat.le_of_ble_eq_true rfl, Nat.le_of_ble_eq_true rfl⟩) (sp_preS [.long x, .long y] hK (hP.sub (ws' := []) [] rfl) (hD.sub (ws' := []) [] (by decide) rfl)) rfl rfl hl.1 rfl (lv_room (Nat.le_of_ble_eq_true rfl)) dX8_valueOf_71 ⟨Nat.le_of_ble_eq_true rfl, Nat.le_of_ble_eq_true rfl⟩) (fun r8 u9 H locs hw10 hP hD hS => ?_)
    have hq_10_0 : r8 = (kX8_plus x y) := hw10
    subst r8
    have hP : va_P D vwCl [(mo, .inr (6, [.int mt, .int mn, .ref ma_kind, .ref ma_opX, .ref ma_opY, .int mr, .ref ma_ruleKind, .ref ma_ruleA, .ref ma_ruleB, .ref ma_low, .ref ma_high, .ref ma_var, .int mi, .int mw, .int mk, .int mh, .ref ma_found, .ref ma_worth, .ref ma_boxLow, .ref ma_boxHigh, .ref ma_has, .ref ma_least, .ref ma_most, .ref ma_mayNone, .ref ma_stack, .int mz]))] H := hP
    have hD : va_D A [(mo, .inr (6, [.int mt, .int mn, .ref ma_kind, .ref ma_opX, .ref ma_opY, .int mr, .ref ma_ruleKind, .ref ma_ruleA, .ref ma_ruleB, .ref ma_low, .ref ma_high, .ref ma_var, .int mi, .int mw, .int mk, .int mh, .ref ma_found, .ref ma_worth, .ref ma_boxLow, .ref ma_boxHigh, .ref ma_has, .ref ma_least, .ref ma_most, .ref ma_mayNone, .ref ma_stack, .int mz]))] := hD
    refine W.widen (k := 0) (n := 0) (by decide) (by decide) ?_
    exact sp_lret (u := ()) hx hb hr hlocks hS (Eq.symm ((if_neg (show ¬ ((k : Int32).toInt < 2) by omega)).trans ((if_neg (show ¬ (14 < (k : Int32).toInt) by omega)).trans ((if_pos h1).trans rfl)))) (hP.sub [0] rfl) (hD.sub [0] (by decide) rfl) dX8_valueOf_74
  · skip
    refine lv_tableIn (off := 74) (tgt := 75) hx hb dX8_valueOf_1 (by omega) (by omega) (by rw [h1]; rfl) (by decide) ?_
    refine lv_lload_n hx hb dX8_valueOf_75 rfl (lv_at hl 2 rfl) ?_
    refine lv_lload hx hb dX8_valueOf_76 (lv_at hl 3 rfl) ?_
    refine sp_callj (wr := [(mo, .inr (6, [.int mt, .int mn, .ref ma_kind, .ref ma_opX, .ref ma_opY, .int mr, .ref ma_ruleKind, .ref ma_ruleA, .ref ma_ruleB, .ref ma_low, .ref ma_high, .ref ma_var, .int mi, .int mw, .int mk, .int mh, .ref ma_found, .ref ma_worth, .ref ma_boxLow, .ref ma_boxHigh, .ref ma_has, .ref ma_least, .ref ma_most, .ref ma_mayNone, .ref ma_stack, .int mz]))]) (wc := []) hP hD hS hA [] [0] rfl rfl (by decide) (by decide) (va_runS (As := [.long y]) (rest := [.long x]) ⟨hx, hb, hml, hown, hts⟩ (c_X8_turned l D cI cJ cZ H.size y) (va_cwS 1 hts gX8_valueOf_X8_turned_126 rfl rfl rfl (by decide +kernel) ⟨Nat.le_of_ble_eq_true rfl, Nat.le_of_ble_eq_true rfl⟩) (sp_preS [.long y] hK (hP.sub (ws' := []) [] rfl) (hD.sub (ws' := []) [] (by decide) rfl)) rfl rfl hl.1 rfl (lv_room (Nat.le_of_ble_eq_true rfl)) dX8_valueOf_78 ⟨Nat.le_of_ble_eq_true rfl, Nat.le_of_ble_eq_true rfl⟩) (fun r11 u12 H locs hw13 hP hD hS => ?_)
    have hq_13_0 : r11 = (kX8_turned y) := hw13
    subst r11
    have hP : va_P D vwCl [(mo, .inr (6, [.int mt, .int mn, .ref ma_kind, .ref ma_opX, .ref ma_opY, .int mr, .ref ma_ruleKind, .ref ma_ruleA, .ref ma_ruleB, .ref ma_low, .ref ma_high, .ref ma_var, .int mi, .int mw, .int mk, .int mh, .ref ma_found, .ref ma_worth, .ref ma_boxLow, .ref ma_boxHigh, .ref ma_has, .ref ma_least, .ref ma_most, .ref ma_mayNone, .ref ma_stack, .int mz]))] H := hP
    have hD : va_D A [(mo, .inr (6, [.int mt, .int mn, .ref ma_kind, .ref ma_opX, .ref ma_opY, .int mr, .ref ma_ruleKind, .ref ma_ruleA, .ref ma_ruleB, .ref ma_low, .ref ma_high, .ref ma_var, .int mi, .int mw, .int mk, .int mh, .ref ma_found, .ref ma_worth, .ref ma_boxLow, .ref ma_boxHigh, .ref ma_has, .ref ma_least, .ref ma_most, .ref ma_mayNone, .ref ma_stack, .int mz]))] := hD
    refine sp_callj (wr := [(mo, .inr (6, [.int mt, .int mn, .ref ma_kind, .ref ma_opX, .ref ma_opY, .int mr, .ref ma_ruleKind, .ref ma_ruleA, .ref ma_ruleB, .ref ma_low, .ref ma_high, .ref ma_var, .int mi, .int mw, .int mk, .int mh, .ref ma_found, .ref ma_worth, .ref ma_boxLow, .ref ma_boxHigh, .ref ma_has, .ref ma_least, .ref ma_most, .ref ma_mayNone, .ref ma_stack, .int mz]))]) (wc := []) hP hD hS hA [] [0] rfl rfl (by decide) (by decide) (va_runS (As := [.long x, .long (kX8_turned y)]) (rest := []) ⟨hx, hb, hml, hown, hts⟩ (c_X8_plus l D cI cJ cZ H.size x (kX8_turned y)) (va_cwS 2 hts gX8_valueOf_X8_plus_122 rfl rfl rfl (by decide +kernel) ⟨Nat.le_of_ble_eq_true rfl, Nat.le_of_ble_eq_true rfl⟩) (sp_preS [.long x, .long (kX8_turned y)] hK (hP.sub (ws' := []) [] rfl) (hD.sub (ws' := []) [] (by decide) rfl)) rfl rfl hl.1 rfl (lv_room (Nat.le_of_ble_eq_true rfl)) dX8_valueOf_81 ⟨Nat.le_of_ble_eq_true rfl, Nat.le_of_ble_eq_true rfl⟩) (fun r14 u15 H locs hw16 hP hD hS => ?_)
    have hq_16_0 : r14 = (kX8_plus x (kX8_turned y)) := hw16
    subst r14
    have hP : va_P D vwCl [(mo, .inr (6, [.int mt, .int mn, .ref ma_kind, .ref ma_opX, .ref ma_opY, .int mr, .ref ma_ruleKind, .ref ma_ruleA, .ref ma_ruleB, .ref ma_low, .ref ma_high, .ref ma_var, .int mi, .int mw, .int mk, .int mh, .ref ma_found, .ref ma_worth, .ref ma_boxLow, .ref ma_boxHigh, .ref ma_has, .ref ma_least, .ref ma_most, .ref ma_mayNone, .ref ma_stack, .int mz]))] H := hP
    have hD : va_D A [(mo, .inr (6, [.int mt, .int mn, .ref ma_kind, .ref ma_opX, .ref ma_opY, .int mr, .ref ma_ruleKind, .ref ma_ruleA, .ref ma_ruleB, .ref ma_low, .ref ma_high, .ref ma_var, .int mi, .int mw, .int mk, .int mh, .ref ma_found, .ref ma_worth, .ref ma_boxLow, .ref ma_boxHigh, .ref ma_has, .ref ma_least, .ref ma_most, .ref ma_mayNone, .ref ma_stack, .int mz]))] := hD
    refine W.widen (k := 0) (n := 0) (by decide) (by decide) ?_
    exact sp_lret (u := ()) hx hb hr hlocks hS (Eq.symm ((if_neg (show ¬ ((k : Int32).toInt < 2) by omega)).trans ((if_neg (show ¬ (14 < (k : Int32).toInt) by omega)).trans ((if_neg (show ¬ ((k : Int32).toInt = 2) by omega)).trans ((if_pos h1).trans rfl))))) (hP.sub [0] rfl) (hD.sub [0] (by decide) rfl) dX8_valueOf_84
  · skip
    refine lv_tableIn (off := 84) (tgt := 85) hx hb dX8_valueOf_1 (by omega) (by omega) (by rw [h1]; rfl) (by decide) ?_
    refine lv_lload_n hx hb dX8_valueOf_85 rfl (lv_at hl 2 rfl) ?_
    refine lv_lload hx hb dX8_valueOf_86 (lv_at hl 3 rfl) ?_
    refine sp_callj (wr := [(mo, .inr (6, [.int mt, .int mn, .ref ma_kind, .ref ma_opX, .ref ma_opY, .int mr, .ref ma_ruleKind, .ref ma_ruleA, .ref ma_ruleB, .ref ma_low, .ref ma_high, .ref ma_var, .int mi, .int mw, .int mk, .int mh, .ref ma_found, .ref ma_worth, .ref ma_boxLow, .ref ma_boxHigh, .ref ma_has, .ref ma_least, .ref ma_most, .ref ma_mayNone, .ref ma_stack, .int mz]))]) (wc := []) hP hD hS hA [] [0] rfl rfl (by decide) (by decide) (va_runS (As := [.long x, .long y]) (rest := []) ⟨hx, hb, hml, hown, hts⟩ (c_X8_timesOf l D cI cJ cZ H.size x y) (va_cwS 2 hts gX8_valueOf_X8_timesOf_129 rfl rfl rfl (by decide +kernel) ⟨Nat.le_of_ble_eq_true rfl, Nat.le_of_ble_eq_true rfl⟩) (sp_preS [.long x, .long y] hK (hP.sub (ws' := []) [] rfl) (hD.sub (ws' := []) [] (by decide) rfl)) rfl rfl hl.1 rfl (lv_room (Nat.le_of_ble_eq_true rfl)) dX8_valueOf_88 ⟨Nat.le_of_ble_eq_true rfl, Nat.le_of_ble_eq_true rfl⟩) (fun r17 u18 H locs hw19 hP hD hS => ?_)
    have hq_19_0 : r17 = (kX8_timesOf x y) := hw19
    subst r17
    have hP : va_P D vwCl [(mo, .inr (6, [.int mt, .int mn, .ref ma_kind, .ref ma_opX, .ref ma_opY, .int mr, .ref ma_ruleKind, .ref ma_ruleA, .ref ma_ruleB, .ref ma_low, .ref ma_high, .ref ma_var, .int mi, .int mw, .int mk, .int mh, .ref ma_found, .ref ma_worth, .ref ma_boxLow, .ref ma_boxHigh, .ref ma_has, .ref ma_least, .ref ma_most, .ref ma_mayNone, .ref ma_stack, .int mz]))] H := hP
    have hD : va_D A [(mo, .inr (6, [.int mt, .int mn, .ref ma_kind, .ref ma_opX, .ref ma_opY, .int mr, .ref ma_ruleKind, .ref ma_ruleA, .ref ma_ruleB, .ref ma_low, .ref ma_high, .ref ma_var, .int mi, .int mw, .int mk, .int mh, .ref ma_found, .ref ma_worth, .ref ma_boxLow, .ref ma_boxHigh, .ref ma_has, .ref ma_least, .ref ma_most, .ref ma_mayNone, .ref ma_stack, .int mz]))] := hD
    refine W.widen (k := 0) (n := 0) (by decide) (by decide) ?_
    exact sp_lret (u := ()) hx hb hr hlocks hS (Eq.symm ((if_neg (show ¬ ((k : Int32).toInt < 2) by omega)).trans ((if_neg (show ¬ (14 < (k : Int32).toInt) by omega)).trans ((if_neg (show ¬ ((k : Int32).toInt = 2) by omega)).trans ((if_neg (show ¬ ((k : Int32).toInt = 3) by omega)).trans ((if_pos h1).trans rfl)))))) (hP.sub [0] rfl) (hD.sub [0] (by decide) rfl) dX8_valueOf_91
  · skip
    refine lv_tableIn (off := 91) (tgt := 92) hx hb dX8_valueOf_1 (by omega) (by omega) (by rw [h1]; rfl) (by decide) ?_
    refine lv_lload_n hx hb dX8_valueOf_92 rfl (lv_at hl 2 rfl) ?_
    refine lv_lload hx hb dX8_valueOf_93 (lv_at hl 3 rfl) ?_
    refine sp_callj (wr := [(mo, .inr (6, [.int mt, .int mn, .ref ma_kind, .ref ma_opX, .ref ma_opY, .int mr, .ref ma_ruleKind, .ref ma_ruleA, .ref ma_ruleB, .ref ma_low, .ref ma_high, .ref ma_var, .int mi, .int mw, .int mk, .int mh, .ref ma_found, .ref ma_worth, .ref ma_boxLow, .ref ma_boxHigh, .ref ma_has, .ref ma_least, .ref ma_most, .ref ma_mayNone, .ref ma_stack, .int mz]))]) (wc := []) hP hD hS hA [] [0] rfl rfl (by decide) (by decide) (va_runS (As := [.long x, .long y]) (rest := []) ⟨hx, hb, hml, hown, hts⟩ (c_X8_byOf l D cI cJ cZ H.size x y) (va_cwS 2 hts gX8_valueOf_X8_byOf_132 rfl rfl rfl (by decide +kernel) ⟨Nat.le_of_ble_eq_true rfl, Nat.le_of_ble_eq_true rfl⟩) (sp_preS [.long x, .long y] hK (hP.sub (ws' := []) [] rfl) (hD.sub (ws' := []) [] (by decide) rfl)) rfl rfl hl.1 rfl (lv_room (Nat.le_of_ble_eq_true rfl)) dX8_valueOf_95 ⟨Nat.le_of_ble_eq_true rfl, Nat.le_of_ble_eq_true rfl⟩) (fun r20 u21 H locs hw22 hP hD hS => ?_)
    have hq_22_0 : r20 = (kX8_byOf x y) := hw22
    subst r20
    have hP : va_P D vwCl [(mo, .inr (6, [.int mt, .int mn, .ref ma_kind, .ref ma_opX, .ref ma_opY, .int mr, .ref ma_ruleKind, .ref ma_ruleA, .ref ma_ruleB, .ref ma_low, .ref ma_high, .ref ma_var, .int mi, .int mw, .int mk, .int mh, .ref ma_found, .ref ma_worth, .ref ma_boxLow, .ref ma_boxHigh, .ref ma_has, .ref ma_least, .ref ma_most, .ref ma_mayNone, .ref ma_stack, .int mz]))] H := hP
    have hD : va_D A [(mo, .inr (6, [.int mt, .int mn, .ref ma_kind, .ref ma_opX, .ref ma_opY, .int mr, .ref ma_ruleKind, .ref ma_ruleA, .ref ma_ruleB, .ref ma_low, .ref ma_high, .ref ma_var, .int mi, .int mw, .int mk, .int mh, .ref ma_found, .ref ma_worth, .ref ma_boxLow, .ref ma_boxHigh, .ref ma_has, .ref ma_least, .ref ma_most, .ref ma_mayNone, .ref ma_stack, .int mz]))] := hD
    refine W.widen (k := 0) (n := 0) (by decide) (by decide) ?_
    exact sp_lret (u := ()) hx hb hr hlocks hS (Eq.symm ((if_neg (show ¬ ((k : Int32).toInt < 2) by omega)).trans ((if_neg (show ¬ (14 < (k : Int32).toInt) by omega)).trans ((if_neg (show ¬ ((k : Int32).toInt = 2) by omega)).trans ((if_neg (show ¬ ((k : Int32).toInt = 3) by omega)).trans ((if_neg (show ¬ ((k : Int32).toInt = 4) by omega)).trans ((if_pos h1).trans rfl))))))) (hP.sub [0] rfl) (hD.sub [0] (by decide) rfl) dX8_valueOf_98
  · skip
    refine lv_tableIn (off := 98) (tgt := 99) hx hb dX8_valueOf_1 (by omega) (by omega) (by rw [h1]; rfl) (by decide) ?_
    refine lv_lload_n hx hb dX8_valueOf_99 rfl (lv_at hl 2 rfl) ?_
    refine sp_callj (wr := [(mo, .inr (6, [.int mt, .int mn, .ref ma_kind, .ref ma_opX, .ref ma_opY, .int mr, .ref ma_ruleKind, .ref ma_ruleA, .ref ma_ruleB, .ref ma_low, .ref ma_high, .ref ma_var, .int mi, .int mw, .int mk, .int mh, .ref ma_found, .ref ma_worth, .ref ma_boxLow, .ref ma_boxHigh, .ref ma_has, .ref ma_least, .ref ma_most, .ref ma_mayNone, .ref ma_stack, .int mz]))]) (wc := []) hP hD hS hA [] [0] rfl rfl (by decide) (by decide) (va_runS (As := [.long x]) (rest := []) ⟨hx, hb, hml, hown, hts⟩ (c_X8_turned l D cI cJ cZ H.size x) (va_cwS 1 hts gX8_valueOf_X8_turned_126 rfl rfl rfl (by decide +kernel) ⟨Nat.le_of_ble_eq_true rfl, Nat.le_of_ble_eq_true rfl⟩) (sp_preS [.long x] hK (hP.sub (ws' := []) [] rfl) (hD.sub (ws' := []) [] (by decide) rfl)) rfl rfl hl.1 rfl (lv_room (Nat.le_of_ble_eq_true rfl)) dX8_valueOf_100 ⟨Nat.le_of_ble_eq_true rfl, Nat.le_of_ble_eq_true rfl⟩) (fun r23 u24 H locs hw25 hP hD hS => ?_)
    have hq_25_0 : r23 = (kX8_turned x) := hw25
    subst r23
    have hP : va_P D vwCl [(mo, .inr (6, [.int mt, .int mn, .ref ma_kind, .ref ma_opX, .ref ma_opY, .int mr, .ref ma_ruleKind, .ref ma_ruleA, .ref ma_ruleB, .ref ma_low, .ref ma_high, .ref ma_var, .int mi, .int mw, .int mk, .int mh, .ref ma_found, .ref ma_worth, .ref ma_boxLow, .ref ma_boxHigh, .ref ma_has, .ref ma_least, .ref ma_most, .ref ma_mayNone, .ref ma_stack, .int mz]))] H := hP
    have hD : va_D A [(mo, .inr (6, [.int mt, .int mn, .ref ma_kind, .ref ma_opX, .ref ma_opY, .int mr, .ref ma_ruleKind, .ref ma_ruleA, .ref ma_ruleB, .ref ma_low, .ref ma_high, .ref ma_var, .int mi, .int mw, .int mk, .int mh, .ref ma_found, .ref ma_worth, .ref ma_boxLow, .ref ma_boxHigh, .ref ma_has, .ref ma_least, .ref ma_most, .ref ma_mayNone, .ref ma_stack, .int mz]))] := hD
    refine W.widen (k := 0) (n := 0) (by decide) (by decide) ?_
    exact sp_lret (u := ()) hx hb hr hlocks hS (Eq.symm ((if_neg (show ¬ ((k : Int32).toInt < 2) by omega)).trans ((if_neg (show ¬ (14 < (k : Int32).toInt) by omega)).trans ((if_neg (show ¬ ((k : Int32).toInt = 2) by omega)).trans ((if_neg (show ¬ ((k : Int32).toInt = 3) by omega)).trans ((if_neg (show ¬ ((k : Int32).toInt = 4) by omega)).trans ((if_neg (show ¬ ((k : Int32).toInt = 5) by omega)).trans ((if_pos h1).trans rfl)))))))) (hP.sub [0] rfl) (hD.sub [0] (by decide) rfl) dX8_valueOf_103
  · skip
    refine lv_tableIn (off := 103) (tgt := 104) hx hb dX8_valueOf_1 (by omega) (by omega) (by rw [h1]; rfl) (by decide) ?_
    refine lv_lload_n hx hb dX8_valueOf_104 rfl (lv_at hl 2 rfl) ?_
    refine lv_ldc2 (v := 9000000000) hx hb hown (hts (.constantLong RX8 82 (9000000000)) (oX8_valueOf_in _ (List.mem_of_getElem? (i := 0) rfl))) dX8_valueOf_105 ?_
    refine W.lcmp hx hb dX8_valueOf_108 ?_
    refine lv_if_ne (tgt := 118) hx hb dX8_valueOf_109 (by decide) (fun c26 => ?_) (fun c26 => ?_)
    · skip
      have c26 := fun h => c26 ((lg_cmp_eq _ _).mpr h)
      have c26i : ¬ (x : Int64).toInt = 9000000000 := fun h => c26 (Int64.toInt_inj.mp h)
      refine lv_lload_n hx hb dX8_valueOf_118 rfl (lv_at hl 2 rfl) ?_
      refine sp_callj (wr := [(mo, .inr (6, [.int mt, .int mn, .ref ma_kind, .ref ma_opX, .ref ma_opY, .int mr, .ref ma_ruleKind, .ref ma_ruleA, .ref ma_ruleB, .ref ma_low, .ref ma_high, .ref ma_var, .int mi, .int mw, .int mk, .int mh, .ref ma_found, .ref ma_worth, .ref ma_boxLow, .ref ma_boxHigh, .ref ma_has, .ref ma_least, .ref ma_most, .ref ma_mayNone, .ref ma_stack, .int mz]))]) (wc := []) hP hD hS hA [] [0] rfl rfl (by decide) (by decide) (va_runS (As := [.long x]) (rest := []) ⟨hx, hb, hml, hown, hts⟩ (c_X8_magOf l D cI cJ cZ H.size x) (va_cwS 1 hts gX8_valueOf_X8_magOf_76 rfl rfl rfl (by decide +kernel) ⟨Nat.le_of_ble_eq_true rfl, Nat.le_of_ble_eq_true rfl⟩) (sp_preS [.long x] hK (hP.sub (ws' := []) [] rfl) (hD.sub (ws' := []) [] (by decide) rfl)) rfl rfl hl.1 rfl (lv_room (Nat.le_of_ble_eq_true rfl)) dX8_valueOf_119 ⟨Nat.le_of_ble_eq_true rfl, Nat.le_of_ble_eq_true rfl⟩) (fun r27 u28 H locs hw29 hP hD hS => ?_)
      have hq_29_0 : r27 = (kX8_magOf x) := hw29
      subst r27
      have hP : va_P D vwCl [(mo, .inr (6, [.int mt, .int mn, .ref ma_kind, .ref ma_opX, .ref ma_opY, .int mr, .ref ma_ruleKind, .ref ma_ruleA, .ref ma_ruleB, .ref ma_low, .ref ma_high, .ref ma_var, .int mi, .int mw, .int mk, .int mh, .ref ma_found, .ref ma_worth, .ref ma_boxLow, .ref ma_boxHigh, .ref ma_has, .ref ma_least, .ref ma_most, .ref ma_mayNone, .ref ma_stack, .int mz]))] H := hP
      have hD : va_D A [(mo, .inr (6, [.int mt, .int mn, .ref ma_kind, .ref ma_opX, .ref ma_opY, .int mr, .ref ma_ruleKind, .ref ma_ruleA, .ref ma_ruleB, .ref ma_low, .ref ma_high, .ref ma_var, .int mi, .int mw, .int mk, .int mh, .ref ma_found, .ref ma_worth, .ref ma_boxLow, .ref ma_boxHigh, .ref ma_has, .ref ma_least, .ref ma_most, .ref ma_mayNone, .ref ma_stack, .int mz]))] := hD
      refine W.widen (k := 0) (n := 0) (by decide) (by decide) ?_
      exact sp_lret (u := ()) hx hb hr hlocks hS (Eq.symm ((if_neg (show ¬ ((k : Int32).toInt < 2) by omega)).trans ((if_neg (show ¬ (14 < (k : Int32).toInt) by omega)).trans ((if_neg (show ¬ ((k : Int32).toInt = 2) by omega)).trans ((if_neg (show ¬ ((k : Int32).toInt = 3) by omega)).trans ((if_neg (show ¬ ((k : Int32).toInt = 4) by omega)).trans ((if_neg (show ¬ ((k : Int32).toInt = 5) by omega)).trans ((if_neg (show ¬ ((k : Int32).toInt = 6) by omega)).trans ((if_pos h1).trans ((if_neg c26i).trans rfl)))))))))) (hP.sub [0] rfl) (hD.sub [0] (by decide) rfl) dX8_valueOf_122
    · skip
      have c26 := (lg_cmp_eq _ _).mp c26
      have c26i : (x : Int64).toInt = 9000000000 := congrArg Int64.toInt c26
      refine lv_ldc2 (v := 9000000000) hx hb hown (hts (.constantLong RX8 82 (9000000000)) (oX8_valueOf_in _ (List.mem_of_getElem? (i := 0) rfl))) dX8_valueOf_112 ?_
      refine lv_goto (tgt := 122) hx hb dX8_valueOf_115 (by decide) ?_
      refine W.widen (k := 0) (n := 0) (by decide) (by decide) ?_
      exact sp_lret (u := ()) hx hb hr hlocks hS (Eq.symm ((if_neg (show ¬ ((k : Int32).toInt < 2) by omega)).trans ((if_neg (show ¬ (14 < (k : Int32).toInt) by omega)).trans ((if_neg (show ¬ ((k : Int32).toInt = 2) by omega)).trans ((if_neg (show ¬ ((k : Int32).toInt = 3) by omega)).trans ((if_neg (show ¬ ((k : Int32).toInt = 4) by omega)).trans ((if_neg (show ¬ ((k : Int32).toInt = 5) by omega)).trans ((if_neg (show ¬ ((k : Int32).toInt = 6) by omega)).trans ((if_pos h1).trans ((if_pos c26i).trans rfl)))))))))) (hP.sub [0] rfl) (hD.sub [0] (by decide) rfl) dX8_valueOf_122
  · skip
    refine lv_tableIn (off := 122) (tgt := 123) hx hb dX8_valueOf_1 (by omega) (by omega) (by rw [h1]; rfl) (by decide) ?_
    refine lv_lload_n hx hb dX8_valueOf_123 rfl (lv_at hl 2 rfl) ?_
    refine lv_ldc2 (v := 9000000000) hx hb hown (hts (.constantLong RX8 82 (9000000000)) (oX8_valueOf_in _ (List.mem_of_getElem? (i := 0) rfl))) dX8_valueOf_124 ?_
    refine W.lcmp hx hb dX8_valueOf_127 ?_
    refine lv_if_eq (tgt := 140) hx hb dX8_valueOf_128 (by decide) (fun c30 => ?_) (fun c30 => ?_)
    · skip
      have c30 := (lg_cmp_eq _ _).mp c30
      have c30i : (x : Int64).toInt = 9000000000 := congrArg Int64.toInt c30
      refine lv_ldc2 (v := 9000000000) hx hb hown (hts (.constantLong RX8 82 (9000000000)) (oX8_valueOf_in _ (List.mem_of_getElem? (i := 0) rfl))) dX8_valueOf_140 ?_
      refine lv_goto (tgt := 159) hx hb dX8_valueOf_143 (by decide) ?_
      refine W.widen (k := 0) (n := 0) (by decide) (by decide) ?_
      exact sp_lret (u := ()) hx hb hr hlocks hS (Eq.symm ((if_neg (show ¬ ((k : Int32).toInt < 2) by omega)).trans ((if_neg (show ¬ (14 < (k : Int32).toInt) by omega)).trans ((if_neg (show ¬ ((k : Int32).toInt = 2) by omega)).trans ((if_neg (show ¬ ((k : Int32).toInt = 3) by omega)).trans ((if_neg (show ¬ ((k : Int32).toInt = 4) by omega)).trans ((if_neg (show ¬ ((k : Int32).toInt = 5) by omega)).trans ((if_neg (show ¬ ((k : Int32).toInt = 6) by omega)).trans ((if_neg (show ¬ ((k : Int32).toInt = 7) by omega)).trans ((if_pos h1).trans ((if_pos c30i).trans rfl))))))))))) (hP.sub [0] rfl) (hD.sub [0] (by decide) rfl) dX8_valueOf_159
    · skip
      have c30 := fun h => c30 ((lg_cmp_eq _ _).mpr h)
      have c30i : ¬ (x : Int64).toInt = 9000000000 := fun h => c30 (Int64.toInt_inj.mp h)
      refine lv_lload hx hb dX8_valueOf_131 (lv_at hl 3 rfl) ?_
      refine lv_ldc2 (v := 9000000000) hx hb hown (hts (.constantLong RX8 82 (9000000000)) (oX8_valueOf_in _ (List.mem_of_getElem? (i := 0) rfl))) dX8_valueOf_133 ?_
      refine W.lcmp hx hb dX8_valueOf_136 ?_
      refine lv_if_ne (tgt := 146) hx hb dX8_valueOf_137 (by decide) (fun c31 => ?_) (fun c31 => ?_)
      · skip
        have c31 := fun h => c31 ((lg_cmp_eq _ _).mpr h)
        have c31i : ¬ (y : Int64).toInt = 9000000000 := fun h => c31 (Int64.toInt_inj.mp h)
        refine lv_lload_n hx hb dX8_valueOf_146 rfl (lv_at hl 2 rfl) ?_
        refine lv_lload hx hb dX8_valueOf_147 (lv_at hl 3 rfl) ?_
        refine W.lcmp hx hb dX8_valueOf_149 ?_
        refine lv_if_ge (tgt := 157) hx hb dX8_valueOf_150 (by decide) (fun c32 => ?_) (fun c32 => ?_)
        · skip
          have c32 := (lg_cmp_ge _ _).mp c32
          have c32i : (y : Int64).toInt ≤ (x : Int64).toInt := Int64.le_iff_toInt_le.mp c32
          refine lv_lload hx hb dX8_valueOf_157 (lv_at hl 3 rfl) ?_
          refine W.widen (k := 0) (n := 0) (by decide) (by decide) ?_
          exact sp_lret (u := ()) hx hb hr hlocks hS (Eq.symm ((if_neg (show ¬ ((k : Int32).toInt < 2) by omega)).trans ((if_neg (show ¬ (14 < (k : Int32).toInt) by omega)).trans ((if_neg (show ¬ ((k : Int32).toInt = 2) by omega)).trans ((if_neg (show ¬ ((k : Int32).toInt = 3) by omega)).trans ((if_neg (show ¬ ((k : Int32).toInt = 4) by omega)).trans ((if_neg (show ¬ ((k : Int32).toInt = 5) by omega)).trans ((if_neg (show ¬ ((k : Int32).toInt = 6) by omega)).trans ((if_neg (show ¬ ((k : Int32).toInt = 7) by omega)).trans ((if_pos h1).trans ((if_neg c30i).trans ((if_neg c31i).trans ((if_pos c32i).trans rfl))))))))))))) (hP.sub [0] rfl) (hD.sub [0] (by decide) rfl) dX8_valueOf_159
        · skip
          have c32 := fun h => c32 ((lg_cmp_ge _ _).mpr h)
          have c32i : ¬ (y : Int64).toInt ≤ (x : Int64).toInt := fun h => c32 (Int64.le_iff_toInt_le.mpr h)
          refine lv_lload_n hx hb dX8_valueOf_153 rfl (lv_at hl 2 rfl) ?_
          refine lv_goto (tgt := 159) hx hb dX8_valueOf_154 (by decide) ?_
          refine W.widen (k := 0) (n := 0) (by decide) (by decide) ?_
          exact sp_lret (u := ()) hx hb hr hlocks hS (Eq.symm ((if_neg (show ¬ ((k : Int32).toInt < 2) by omega)).trans ((if_neg (show ¬ (14 < (k : Int32).toInt) by omega)).trans ((if_neg (show ¬ ((k : Int32).toInt = 2) by omega)).trans ((if_neg (show ¬ ((k : Int32).toInt = 3) by omega)).trans ((if_neg (show ¬ ((k : Int32).toInt = 4) by omega)).trans ((if_neg (show ¬ ((k : Int32).toInt = 5) by omega)).trans ((if_neg (show ¬ ((k : Int32).toInt = 6) by omega)).trans ((if_neg (show ¬ ((k : Int32).toInt = 7) by omega)).trans ((if_pos h1).trans ((if_neg c30i).trans ((if_neg c31i).trans ((if_neg c32i).trans rfl))))))))))))) (hP.sub [0] rfl) (hD.sub [0] (by decide) rfl) dX8_valueOf_159
      · skip
        have c31 := (lg_cmp_eq _ _).mp c31
        have c31i : (y : Int64).toInt = 9000000000 := congrArg Int64.toInt c31
        refine lv_ldc2 (v := 9000000000) hx hb hown (hts (.constantLong RX8 82 (9000000000)) (oX8_valueOf_in _ (List.mem_of_getElem? (i := 0) rfl))) dX8_valueOf_140 ?_
        refine lv_goto (tgt := 159) hx hb dX8_valueOf_143 (by decide) ?_
        refine W.widen (k := 0) (n := 0) (by decide) (by decide) ?_
        exact sp_lret (u := ()) hx hb hr hlocks hS (Eq.symm ((if_neg (show ¬ ((k : Int32).toInt < 2) by omega)).trans ((if_neg (show ¬ (14 < (k : Int32).toInt) by omega)).trans ((if_neg (show ¬ ((k : Int32).toInt = 2) by omega)).trans ((if_neg (show ¬ ((k : Int32).toInt = 3) by omega)).trans ((if_neg (show ¬ ((k : Int32).toInt = 4) by omega)).trans ((if_neg (show ¬ ((k : Int32).toInt = 5) by omega)).trans ((if_neg (show ¬ ((k : Int32).toInt = 6) by omega)).trans ((if_neg (show ¬ ((k : Int32).toInt = 7) by omega)).trans ((if_pos h1).trans ((if_neg c30i).trans ((if_pos c31i).trans rfl)))))))))))) (hP.sub [0] rfl) (hD.sub [0] (by decide) rfl) dX8_valueOf_159
  · skip
    refine lv_tableIn (off := 159) (tgt := 160) hx hb dX8_valueOf_1 (by omega) (by omega) (by rw [h1]; rfl) (by decide) ?_
    refine lv_lload_n hx hb dX8_valueOf_160 rfl (lv_at hl 2 rfl) ?_
    refine lv_ldc2 (v := 9000000000) hx hb hown (hts (.constantLong RX8 82 (9000000000)) (oX8_valueOf_in _ (List.mem_of_getElem? (i := 0) rfl))) dX8_valueOf_161 ?_
    refine W.lcmp hx hb dX8_valueOf_164 ?_
    refine lv_if_eq (tgt := 177) hx hb dX8_valueOf_165 (by decide) (fun c33 => ?_) (fun c33 => ?_)
    · skip
      have c33 := (lg_cmp_eq _ _).mp c33
      have c33i : (x : Int64).toInt = 9000000000 := congrArg Int64.toInt c33
      refine lv_ldc2 (v := 9000000000) hx hb hown (hts (.constantLong RX8 82 (9000000000)) (oX8_valueOf_in _ (List.mem_of_getElem? (i := 0) rfl))) dX8_valueOf_177 ?_
      refine lv_goto (tgt := 196) hx hb dX8_valueOf_180 (by decide) ?_
      refine W.widen (k := 0) (n := 0) (by decide) (by decide) ?_
      exact sp_lret (u := ()) hx hb hr hlocks hS (Eq.symm ((if_neg (show ¬ ((k : Int32).toInt < 2) by omega)).trans ((if_neg (show ¬ (14 < (k : Int32).toInt) by omega)).trans ((if_neg (show ¬ ((k : Int32).toInt = 2) by omega)).trans ((if_neg (show ¬ ((k : Int32).toInt = 3) by omega)).trans ((if_neg (show ¬ ((k : Int32).toInt = 4) by omega)).trans ((if_neg (show ¬ ((k : Int32).toInt = 5) by omega)).trans ((if_neg (show ¬ ((k : Int32).toInt = 6) by omega)).trans ((if_neg (show ¬ ((k : Int32).toInt = 7) by omega)).trans ((if_neg (show ¬ ((k : Int32).toInt = 8) by omega)).trans ((if_pos h1).trans ((if_pos c33i).trans rfl)))))))))))) (hP.sub [0] rfl) (hD.sub [0] (by decide) rfl) dX8_valueOf_196
    · skip
      have c33 := fun h => c33 ((lg_cmp_eq _ _).mpr h)
      have c33i : ¬ (x : Int64).toInt = 9000000000 := fun h => c33 (Int64.toInt_inj.mp h)
      refine lv_lload hx hb dX8_valueOf_168 (lv_at hl 3 rfl) ?_
      refine lv_ldc2 (v := 9000000000) hx hb hown (hts (.constantLong RX8 82 (9000000000)) (oX8_valueOf_in _ (List.mem_of_getElem? (i := 0) rfl))) dX8_valueOf_170 ?_
      refine W.lcmp hx hb dX8_valueOf_173 ?_
      refine lv_if_ne (tgt := 183) hx hb dX8_valueOf_174 (by decide) (fun c34 => ?_) (fun c34 => ?_)
      · skip
        have c34 := fun h => c34 ((lg_cmp_eq _ _).mpr h)
        have c34i : ¬ (y : Int64).toInt = 9000000000 := fun h => c34 (Int64.toInt_inj.mp h)
        refine lv_lload_n hx hb dX8_valueOf_183 rfl (lv_at hl 2 rfl) ?_
        refine lv_lload hx hb dX8_valueOf_184 (lv_at hl 3 rfl) ?_
        refine W.lcmp hx hb dX8_valueOf_186 ?_
        refine lv_if_le (tgt := 194) hx hb dX8_valueOf_187 (by decide) (fun c35 => ?_) (fun c35 => ?_)
        · skip
          have c35 := (lg_cmp_le _ _).mp c35
          have c35i : (x : Int64).toInt ≤ (y : Int64).toInt := Int64.le_iff_toInt_le.mp c35
          refine lv_lload hx hb dX8_valueOf_194 (lv_at hl 3 rfl) ?_
          refine W.widen (k := 0) (n := 0) (by decide) (by decide) ?_
          exact sp_lret (u := ()) hx hb hr hlocks hS (Eq.symm ((if_neg (show ¬ ((k : Int32).toInt < 2) by omega)).trans ((if_neg (show ¬ (14 < (k : Int32).toInt) by omega)).trans ((if_neg (show ¬ ((k : Int32).toInt = 2) by omega)).trans ((if_neg (show ¬ ((k : Int32).toInt = 3) by omega)).trans ((if_neg (show ¬ ((k : Int32).toInt = 4) by omega)).trans ((if_neg (show ¬ ((k : Int32).toInt = 5) by omega)).trans ((if_neg (show ¬ ((k : Int32).toInt = 6) by omega)).trans ((if_neg (show ¬ ((k : Int32).toInt = 7) by omega)).trans ((if_neg (show ¬ ((k : Int32).toInt = 8) by omega)).trans ((if_pos h1).trans ((if_neg c33i).trans ((if_neg c34i).trans ((if_pos c35i).trans rfl)))))))))))))) (hP.sub [0] rfl) (hD.sub [0] (by decide) rfl) dX8_valueOf_196
        · skip
          have c35 := fun h => c35 ((lg_cmp_le _ _).mpr h)
          have c35i : ¬ (x : Int64).toInt ≤ (y : Int64).toInt := fun h => c35 (Int64.le_iff_toInt_le.mpr h)
          refine lv_lload_n hx hb dX8_valueOf_190 rfl (lv_at hl 2 rfl) ?_
          refine lv_goto (tgt := 196) hx hb dX8_valueOf_191 (by decide) ?_
          refine W.widen (k := 0) (n := 0) (by decide) (by decide) ?_
          exact sp_lret (u := ()) hx hb hr hlocks hS (Eq.symm ((if_neg (show ¬ ((k : Int32).toInt < 2) by omega)).trans ((if_neg (show ¬ (14 < (k : Int32).toInt) by omega)).trans ((if_neg (show ¬ ((k : Int32).toInt = 2) by omega)).trans ((if_neg (show ¬ ((k : Int32).toInt = 3) by omega)).trans ((if_neg (show ¬ ((k : Int32).toInt = 4) by omega)).trans ((if_neg (show ¬ ((k : Int32).toInt = 5) by omega)).trans ((if_neg (show ¬ ((k : Int32).toInt = 6) by omega)).trans ((if_neg (show ¬ ((k : Int32).toInt = 7) by omega)).trans ((if_neg (show ¬ ((k : Int32).toInt = 8) by omega)).trans ((if_pos h1).trans ((if_neg c33i).trans ((if_neg c34i).trans ((if_neg c35i).trans rfl)))))))))))))) (hP.sub [0] rfl) (hD.sub [0] (by decide) rfl) dX8_valueOf_196
      · skip
        have c34 := (lg_cmp_eq _ _).mp c34
        have c34i : (y : Int64).toInt = 9000000000 := congrArg Int64.toInt c34
        refine lv_ldc2 (v := 9000000000) hx hb hown (hts (.constantLong RX8 82 (9000000000)) (oX8_valueOf_in _ (List.mem_of_getElem? (i := 0) rfl))) dX8_valueOf_177 ?_
        refine lv_goto (tgt := 196) hx hb dX8_valueOf_180 (by decide) ?_
        refine W.widen (k := 0) (n := 0) (by decide) (by decide) ?_
        exact sp_lret (u := ()) hx hb hr hlocks hS (Eq.symm ((if_neg (show ¬ ((k : Int32).toInt < 2) by omega)).trans ((if_neg (show ¬ (14 < (k : Int32).toInt) by omega)).trans ((if_neg (show ¬ ((k : Int32).toInt = 2) by omega)).trans ((if_neg (show ¬ ((k : Int32).toInt = 3) by omega)).trans ((if_neg (show ¬ ((k : Int32).toInt = 4) by omega)).trans ((if_neg (show ¬ ((k : Int32).toInt = 5) by omega)).trans ((if_neg (show ¬ ((k : Int32).toInt = 6) by omega)).trans ((if_neg (show ¬ ((k : Int32).toInt = 7) by omega)).trans ((if_neg (show ¬ ((k : Int32).toInt = 8) by omega)).trans ((if_pos h1).trans ((if_neg c33i).trans ((if_pos c34i).trans rfl))))))))))))) (hP.sub [0] rfl) (hD.sub [0] (by decide) rfl) dX8_valueOf_196
  · skip
    refine lv_tableIn (off := 196) (tgt := 197) hx hb dX8_valueOf_1 (by omega) (by omega) (by rw [h1]; rfl) (by decide) ?_
    refine lv_lload_n hx hb dX8_valueOf_197 rfl (lv_at hl 2 rfl) ?_
    refine lv_iload_n hx hb dX8_valueOf_198 rfl (lv_at hl 1 rfl) ?_
    refine lv_bipush (v := 10) hx hb dX8_valueOf_199 (by decide) ?_
    refine lv_isub hx hb dX8_valueOf_201 ?_
    refine sp_callj (wr := [(mo, .inr (6, [.int mt, .int mn, .ref ma_kind, .ref ma_opX, .ref ma_opY, .int mr, .ref ma_ruleKind, .ref ma_ruleA, .ref ma_ruleB, .ref ma_low, .ref ma_high, .ref ma_var, .int mi, .int mw, .int mk, .int mh, .ref ma_found, .ref ma_worth, .ref ma_boxLow, .ref ma_boxHigh, .ref ma_has, .ref ma_least, .ref ma_most, .ref ma_mayNone, .ref ma_stack, .int mz]))]) (wc := []) hP hD hS hA [] [0] rfl rfl (by decide) (by decide) (va_runS (As := [.long x, .int (k - 10)]) (rest := []) ⟨hx, hb, hml, hown, hts⟩ (c_X8_wholeOf l D cI cJ cZ H.size x (k - 10)) (va_cwS 2 hts gX8_valueOf_X8_wholeOf_114 rfl rfl rfl (by decide +kernel) ⟨Nat.le_of_ble_eq_true rfl, Nat.le_of_ble_eq_true rfl⟩) (sp_preS [.long x, .int (k - 10)] hK (hP.sub (ws' := []) [] rfl) (hD.sub (ws' := []) [] (by decide) rfl)) rfl rfl hl.1 rfl (lv_room (Nat.le_of_ble_eq_true rfl)) dX8_valueOf_202 ⟨Nat.le_of_ble_eq_true rfl, Nat.le_of_ble_eq_true rfl⟩) (fun r36 u37 H locs hw38 hP hD hS => ?_)
    have hq_38_0 : r36 = (kX8_wholeOf x (k - 10)) := hw38
    subst r36
    have hP : va_P D vwCl [(mo, .inr (6, [.int mt, .int mn, .ref ma_kind, .ref ma_opX, .ref ma_opY, .int mr, .ref ma_ruleKind, .ref ma_ruleA, .ref ma_ruleB, .ref ma_low, .ref ma_high, .ref ma_var, .int mi, .int mw, .int mk, .int mh, .ref ma_found, .ref ma_worth, .ref ma_boxLow, .ref ma_boxHigh, .ref ma_has, .ref ma_least, .ref ma_most, .ref ma_mayNone, .ref ma_stack, .int mz]))] H := hP
    have hD : va_D A [(mo, .inr (6, [.int mt, .int mn, .ref ma_kind, .ref ma_opX, .ref ma_opY, .int mr, .ref ma_ruleKind, .ref ma_ruleA, .ref ma_ruleB, .ref ma_low, .ref ma_high, .ref ma_var, .int mi, .int mw, .int mk, .int mh, .ref ma_found, .ref ma_worth, .ref ma_boxLow, .ref ma_boxHigh, .ref ma_has, .ref ma_least, .ref ma_most, .ref ma_mayNone, .ref ma_stack, .int mz]))] := hD
    refine W.widen (k := 0) (n := 0) (by decide) (by decide) ?_
    exact sp_lret (u := ()) hx hb hr hlocks hS (Eq.symm ((if_neg (show ¬ ((k : Int32).toInt < 2) by omega)).trans ((if_neg (show ¬ (14 < (k : Int32).toInt) by omega)).trans ((if_neg (show ¬ ((k : Int32).toInt = 2) by omega)).trans ((if_neg (show ¬ ((k : Int32).toInt = 3) by omega)).trans ((if_neg (show ¬ ((k : Int32).toInt = 4) by omega)).trans ((if_neg (show ¬ ((k : Int32).toInt = 5) by omega)).trans ((if_neg (show ¬ ((k : Int32).toInt = 6) by omega)).trans ((if_neg (show ¬ ((k : Int32).toInt = 7) by omega)).trans ((if_neg (show ¬ ((k : Int32).toInt = 8) by omega)).trans ((if_neg (show ¬ ((k : Int32).toInt = 9) by omega)).trans ((if_pos h1).trans rfl)))))))))))) (hP.sub [0] rfl) (hD.sub [0] (by decide) rfl) dX8_valueOf_205
  · skip
    refine lv_tableIn (off := 196) (tgt := 197) hx hb dX8_valueOf_1 (by omega) (by omega) (by rw [h1]; rfl) (by decide) ?_
    refine lv_lload_n hx hb dX8_valueOf_197 rfl (lv_at hl 2 rfl) ?_
    refine lv_iload_n hx hb dX8_valueOf_198 rfl (lv_at hl 1 rfl) ?_
    refine lv_bipush (v := 10) hx hb dX8_valueOf_199 (by decide) ?_
    refine lv_isub hx hb dX8_valueOf_201 ?_
    refine sp_callj (wr := [(mo, .inr (6, [.int mt, .int mn, .ref ma_kind, .ref ma_opX, .ref ma_opY, .int mr, .ref ma_ruleKind, .ref ma_ruleA, .ref ma_ruleB, .ref ma_low, .ref ma_high, .ref ma_var, .int mi, .int mw, .int mk, .int mh, .ref ma_found, .ref ma_worth, .ref ma_boxLow, .ref ma_boxHigh, .ref ma_has, .ref ma_least, .ref ma_most, .ref ma_mayNone, .ref ma_stack, .int mz]))]) (wc := []) hP hD hS hA [] [0] rfl rfl (by decide) (by decide) (va_runS (As := [.long x, .int (k - 10)]) (rest := []) ⟨hx, hb, hml, hown, hts⟩ (c_X8_wholeOf l D cI cJ cZ H.size x (k - 10)) (va_cwS 2 hts gX8_valueOf_X8_wholeOf_114 rfl rfl rfl (by decide +kernel) ⟨Nat.le_of_ble_eq_true rfl, Nat.le_of_ble_eq_true rfl⟩) (sp_preS [.long x, .int (k - 10)] hK (hP.sub (ws' := []) [] rfl) (hD.sub (ws' := []) [] (by decide) rfl)) rfl rfl hl.1 rfl (lv_room (Nat.le_of_ble_eq_true rfl)) dX8_valueOf_202 ⟨Nat.le_of_ble_eq_true rfl, Nat.le_of_ble_eq_true rfl⟩) (fun r39 u40 H locs hw41 hP hD hS => ?_)
    have hq_41_0 : r39 = (kX8_wholeOf x (k - 10)) := hw41
    subst r39
    have hP : va_P D vwCl [(mo, .inr (6, [.int mt, .int mn, .ref ma_kind, .ref ma_opX, .ref ma_opY, .int mr, .ref ma_ruleKind, .ref ma_ruleA, .ref ma_ruleB, .ref ma_low, .ref ma_high, .ref ma_var, .int mi, .int mw, .int mk, .int mh, .ref ma_found, .ref ma_worth, .ref ma_boxLow, .ref ma_boxHigh, .ref ma_has, .ref ma_least, .ref ma_most, .ref ma_mayNone, .ref ma_stack, .int mz]))] H := hP
    have hD : va_D A [(mo, .inr (6, [.int mt, .int mn, .ref ma_kind, .ref ma_opX, .ref ma_opY, .int mr, .ref ma_ruleKind, .ref ma_ruleA, .ref ma_ruleB, .ref ma_low, .ref ma_high, .ref ma_var, .int mi, .int mw, .int mk, .int mh, .ref ma_found, .ref ma_worth, .ref ma_boxLow, .ref ma_boxHigh, .ref ma_has, .ref ma_least, .ref ma_most, .ref ma_mayNone, .ref ma_stack, .int mz]))] := hD
    refine W.widen (k := 0) (n := 0) (by decide) (by decide) ?_
    exact sp_lret (u := ()) hx hb hr hlocks hS (Eq.symm ((if_neg (show ¬ ((k : Int32).toInt < 2) by omega)).trans ((if_neg (show ¬ (14 < (k : Int32).toInt) by omega)).trans ((if_neg (show ¬ ((k : Int32).toInt = 2) by omega)).trans ((if_neg (show ¬ ((k : Int32).toInt = 3) by omega)).trans ((if_neg (show ¬ ((k : Int32).toInt = 4) by omega)).trans ((if_neg (show ¬ ((k : Int32).toInt = 5) by omega)).trans ((if_neg (show ¬ ((k : Int32).toInt = 6) by omega)).trans ((if_neg (show ¬ ((k : Int32).toInt = 7) by omega)).trans ((if_neg (show ¬ ((k : Int32).toInt = 8) by omega)).trans ((if_neg (show ¬ ((k : Int32).toInt = 9) by omega)).trans ((if_neg (show ¬ ((k : Int32).toInt = 10) by omega)).trans ((if_pos h1).trans rfl))))))))))))) (hP.sub [0] rfl) (hD.sub [0] (by decide) rfl) dX8_valueOf_205
  · skip
    refine lv_tableIn (off := 196) (tgt := 197) hx hb dX8_valueOf_1 (by omega) (by omega) (by rw [h1]; rfl) (by decide) ?_
    refine lv_lload_n hx hb dX8_valueOf_197 rfl (lv_at hl 2 rfl) ?_
    refine lv_iload_n hx hb dX8_valueOf_198 rfl (lv_at hl 1 rfl) ?_
    refine lv_bipush (v := 10) hx hb dX8_valueOf_199 (by decide) ?_
    refine lv_isub hx hb dX8_valueOf_201 ?_
    refine sp_callj (wr := [(mo, .inr (6, [.int mt, .int mn, .ref ma_kind, .ref ma_opX, .ref ma_opY, .int mr, .ref ma_ruleKind, .ref ma_ruleA, .ref ma_ruleB, .ref ma_low, .ref ma_high, .ref ma_var, .int mi, .int mw, .int mk, .int mh, .ref ma_found, .ref ma_worth, .ref ma_boxLow, .ref ma_boxHigh, .ref ma_has, .ref ma_least, .ref ma_most, .ref ma_mayNone, .ref ma_stack, .int mz]))]) (wc := []) hP hD hS hA [] [0] rfl rfl (by decide) (by decide) (va_runS (As := [.long x, .int (k - 10)]) (rest := []) ⟨hx, hb, hml, hown, hts⟩ (c_X8_wholeOf l D cI cJ cZ H.size x (k - 10)) (va_cwS 2 hts gX8_valueOf_X8_wholeOf_114 rfl rfl rfl (by decide +kernel) ⟨Nat.le_of_ble_eq_true rfl, Nat.le_of_ble_eq_true rfl⟩) (sp_preS [.long x, .int (k - 10)] hK (hP.sub (ws' := []) [] rfl) (hD.sub (ws' := []) [] (by decide) rfl)) rfl rfl hl.1 rfl (lv_room (Nat.le_of_ble_eq_true rfl)) dX8_valueOf_202 ⟨Nat.le_of_ble_eq_true rfl, Nat.le_of_ble_eq_true rfl⟩) (fun r42 u43 H locs hw44 hP hD hS => ?_)
    have hq_44_0 : r42 = (kX8_wholeOf x (k - 10)) := hw44
    subst r42
    have hP : va_P D vwCl [(mo, .inr (6, [.int mt, .int mn, .ref ma_kind, .ref ma_opX, .ref ma_opY, .int mr, .ref ma_ruleKind, .ref ma_ruleA, .ref ma_ruleB, .ref ma_low, .ref ma_high, .ref ma_var, .int mi, .int mw, .int mk, .int mh, .ref ma_found, .ref ma_worth, .ref ma_boxLow, .ref ma_boxHigh, .ref ma_has, .ref ma_least, .ref ma_most, .ref ma_mayNone, .ref ma_stack, .int mz]))] H := hP
    have hD : va_D A [(mo, .inr (6, [.int mt, .int mn, .ref ma_kind, .ref ma_opX, .ref ma_opY, .int mr, .ref ma_ruleKind, .ref ma_ruleA, .ref ma_ruleB, .ref ma_low, .ref ma_high, .ref ma_var, .int mi, .int mw, .int mk, .int mh, .ref ma_found, .ref ma_worth, .ref ma_boxLow, .ref ma_boxHigh, .ref ma_has, .ref ma_least, .ref ma_most, .ref ma_mayNone, .ref ma_stack, .int mz]))] := hD
    refine W.widen (k := 0) (n := 0) (by decide) (by decide) ?_
    exact sp_lret (u := ()) hx hb hr hlocks hS (Eq.symm ((if_neg (show ¬ ((k : Int32).toInt < 2) by omega)).trans ((if_neg (show ¬ (14 < (k : Int32).toInt) by omega)).trans ((if_neg (show ¬ ((k : Int32).toInt = 2) by omega)).trans ((if_neg (show ¬ ((k : Int32).toInt = 3) by omega)).trans ((if_neg (show ¬ ((k : Int32).toInt = 4) by omega)).trans ((if_neg (show ¬ ((k : Int32).toInt = 5) by omega)).trans ((if_neg (show ¬ ((k : Int32).toInt = 6) by omega)).trans ((if_neg (show ¬ ((k : Int32).toInt = 7) by omega)).trans ((if_neg (show ¬ ((k : Int32).toInt = 8) by omega)).trans ((if_neg (show ¬ ((k : Int32).toInt = 9) by omega)).trans ((if_neg (show ¬ ((k : Int32).toInt = 10) by omega)).trans ((if_neg (show ¬ ((k : Int32).toInt = 11) by omega)).trans ((if_pos h1).trans rfl)))))))))))))) (hP.sub [0] rfl) (hD.sub [0] (by decide) rfl) dX8_valueOf_205
  · skip
    refine lv_tableIn (off := 205) (tgt := 206) hx hb dX8_valueOf_1 (by omega) (by omega) (by rw [h1]; rfl) (by decide) ?_
    refine lv_lload_n hx hb dX8_valueOf_206 rfl (lv_at hl 2 rfl) ?_
    refine sp_callj (wr := [(mo, .inr (6, [.int mt, .int mn, .ref ma_kind, .ref ma_opX, .ref ma_opY, .int mr, .ref ma_ruleKind, .ref ma_ruleA, .ref ma_ruleB, .ref ma_low, .ref ma_high, .ref ma_var, .int mi, .int mw, .int mk, .int mh, .ref ma_found, .ref ma_worth, .ref ma_boxLow, .ref ma_boxHigh, .ref ma_has, .ref ma_least, .ref ma_most, .ref ma_mayNone, .ref ma_stack, .int mz]))]) (wc := []) hP hD hS hA [] [0] rfl rfl (by decide) (by decide) (va_runS (As := [.long x]) (rest := []) ⟨hx, hb, hml, hown, hts⟩ (c_X8_intOf l D cI cJ cZ H.size x) (va_cwS 1 hts gX8_valueOf_X8_intOf_135 rfl rfl rfl (by decide +kernel) ⟨Nat.le_of_ble_eq_true rfl, Nat.le_of_ble_eq_true rfl⟩) (sp_preS [.long x] hK (hP.sub (ws' := []) [] rfl) (hD.sub (ws' := []) [] (by decide) rfl)) rfl rfl hl.1 rfl (lv_room (Nat.le_of_ble_eq_true rfl)) dX8_valueOf_207 ⟨Nat.le_of_ble_eq_true rfl, Nat.le_of_ble_eq_true rfl⟩) (fun r45 u46 H locs hw47 hP hD hS => ?_)
    have hq_47_0 : r45 = (kX8_intOf x) := hw47
    subst r45
    have hP : va_P D vwCl [(mo, .inr (6, [.int mt, .int mn, .ref ma_kind, .ref ma_opX, .ref ma_opY, .int mr, .ref ma_ruleKind, .ref ma_ruleA, .ref ma_ruleB, .ref ma_low, .ref ma_high, .ref ma_var, .int mi, .int mw, .int mk, .int mh, .ref ma_found, .ref ma_worth, .ref ma_boxLow, .ref ma_boxHigh, .ref ma_has, .ref ma_least, .ref ma_most, .ref ma_mayNone, .ref ma_stack, .int mz]))] H := hP
    have hD : va_D A [(mo, .inr (6, [.int mt, .int mn, .ref ma_kind, .ref ma_opX, .ref ma_opY, .int mr, .ref ma_ruleKind, .ref ma_ruleA, .ref ma_ruleB, .ref ma_low, .ref ma_high, .ref ma_var, .int mi, .int mw, .int mk, .int mh, .ref ma_found, .ref ma_worth, .ref ma_boxLow, .ref ma_boxHigh, .ref ma_has, .ref ma_least, .ref ma_most, .ref ma_mayNone, .ref ma_stack, .int mz]))] := hD
    refine W.widen (k := 0) (n := 0) (by decide) (by decide) ?_
    exact sp_lret (u := ()) hx hb hr hlocks hS (Eq.symm ((if_neg (show ¬ ((k : Int32).toInt < 2) by omega)).trans ((if_neg (show ¬ (14 < (k : Int32).toInt) by omega)).trans ((if_neg (show ¬ ((k : Int32).toInt = 2) by omega)).trans ((if_neg (show ¬ ((k : Int32).toInt = 3) by omega)).trans ((if_neg (show ¬ ((k : Int32).toInt = 4) by omega)).trans ((if_neg (show ¬ ((k : Int32).toInt = 5) by omega)).trans ((if_neg (show ¬ ((k : Int32).toInt = 6) by omega)).trans ((if_neg (show ¬ ((k : Int32).toInt = 7) by omega)).trans ((if_neg (show ¬ ((k : Int32).toInt = 8) by omega)).trans ((if_neg (show ¬ ((k : Int32).toInt = 9) by omega)).trans ((if_neg (show ¬ ((k : Int32).toInt = 10) by omega)).trans ((if_neg (show ¬ ((k : Int32).toInt = 11) by omega)).trans ((if_neg (show ¬ ((k : Int32).toInt = 12) by omega)).trans ((if_pos h1).trans rfl))))))))))))))) (hP.sub [0] rfl) (hD.sub [0] (by decide) rfl) dX8_valueOf_210
  · skip
    refine lv_tableIn (off := 210) (tgt := 211) hx hb dX8_valueOf_1 (by omega) (by omega) (by rw [h1]; rfl) (by decide) ?_
    refine lv_lload_n hx hb dX8_valueOf_211 rfl (lv_at hl 2 rfl) ?_
    refine lv_lload hx hb dX8_valueOf_212 (lv_at hl 3 rfl) ?_
    refine sp_callj (wr := [(mo, .inr (6, [.int mt, .int mn, .ref ma_kind, .ref ma_opX, .ref ma_opY, .int mr, .ref ma_ruleKind, .ref ma_ruleA, .ref ma_ruleB, .ref ma_low, .ref ma_high, .ref ma_var, .int mi, .int mw, .int mk, .int mh, .ref ma_found, .ref ma_worth, .ref ma_boxLow, .ref ma_boxHigh, .ref ma_has, .ref ma_least, .ref ma_most, .ref ma_mayNone, .ref ma_stack, .int mz]))]) (wc := []) hP hD hS hA [] [0] rfl rfl (by decide) (by decide) (va_runS (As := [.long x, .long y]) (rest := []) ⟨hx, hb, hml, hown, hts⟩ (c_X8_restOf l D cI cJ cZ H.size x y) (va_cwS 2 hts gX8_valueOf_X8_restOf_138 rfl rfl rfl (by decide +kernel) ⟨Nat.le_of_ble_eq_true rfl, Nat.le_of_ble_eq_true rfl⟩) (sp_preS [.long x, .long y] hK (hP.sub (ws' := []) [] rfl) (hD.sub (ws' := []) [] (by decide) rfl)) rfl rfl hl.1 rfl (lv_room (Nat.le_of_ble_eq_true rfl)) dX8_valueOf_214 ⟨Nat.le_of_ble_eq_true rfl, Nat.le_of_ble_eq_true rfl⟩) (fun r48 u49 H locs hw50 hP hD hS => ?_)
    have hq_50_0 : r48 = (kX8_restOf x y) := hw50
    subst r48
    have hP : va_P D vwCl [(mo, .inr (6, [.int mt, .int mn, .ref ma_kind, .ref ma_opX, .ref ma_opY, .int mr, .ref ma_ruleKind, .ref ma_ruleA, .ref ma_ruleB, .ref ma_low, .ref ma_high, .ref ma_var, .int mi, .int mw, .int mk, .int mh, .ref ma_found, .ref ma_worth, .ref ma_boxLow, .ref ma_boxHigh, .ref ma_has, .ref ma_least, .ref ma_most, .ref ma_mayNone, .ref ma_stack, .int mz]))] H := hP
    have hD : va_D A [(mo, .inr (6, [.int mt, .int mn, .ref ma_kind, .ref ma_opX, .ref ma_opY, .int mr, .ref ma_ruleKind, .ref ma_ruleA, .ref ma_ruleB, .ref ma_low, .ref ma_high, .ref ma_var, .int mi, .int mw, .int mk, .int mh, .ref ma_found, .ref ma_worth, .ref ma_boxLow, .ref ma_boxHigh, .ref ma_has, .ref ma_least, .ref ma_most, .ref ma_mayNone, .ref ma_stack, .int mz]))] := hD
    refine W.widen (k := 0) (n := 0) (by decide) (by decide) ?_
    exact sp_lret (u := ()) hx hb hr hlocks hS (Eq.symm ((if_neg (show ¬ ((k : Int32).toInt < 2) by omega)).trans ((if_neg (show ¬ (14 < (k : Int32).toInt) by omega)).trans ((if_neg (show ¬ ((k : Int32).toInt = 2) by omega)).trans ((if_neg (show ¬ ((k : Int32).toInt = 3) by omega)).trans ((if_neg (show ¬ ((k : Int32).toInt = 4) by omega)).trans ((if_neg (show ¬ ((k : Int32).toInt = 5) by omega)).trans ((if_neg (show ¬ ((k : Int32).toInt = 6) by omega)).trans ((if_neg (show ¬ ((k : Int32).toInt = 7) by omega)).trans ((if_neg (show ¬ ((k : Int32).toInt = 8) by omega)).trans ((if_neg (show ¬ ((k : Int32).toInt = 9) by omega)).trans ((if_neg (show ¬ ((k : Int32).toInt = 10) by omega)).trans ((if_neg (show ¬ ((k : Int32).toInt = 11) by omega)).trans ((if_neg (show ¬ ((k : Int32).toInt = 12) by omega)).trans ((if_neg (show ¬ ((k : Int32).toInt = 13) by omega)).trans ((if_pos h1).trans rfl)))))))))))))))) (hP.sub [0] rfl) (hD.sub [0] (by decide) rfl) dX8_valueOf_217
