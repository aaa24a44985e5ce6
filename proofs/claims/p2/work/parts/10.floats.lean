theorem sp_bool {r : Int32} {P : Prop} (h : (r = 1 ∧ P) ∨ (r = 0 ∧ ¬ P)) : (r.toInt = 1 ∧ P) ∨ (r.toInt = 0 ∧ ¬ P) := by
  rcases h with ⟨rfl, h⟩ | ⟨rfl, h⟩
  · exact Or.inl ⟨rfl, h⟩
  · exact Or.inr ⟨rfl, h⟩
def oJ6_compare_7cf53 : List Cond := []
def wpJ6_compare_7cf53 : List Cond := .code yJ6_compare_7cf53 cJ6_compare_7cf53 2 (some .int) :: (oJ6_compare_7cf53 ++ ([] : List Cond))
theorem oJ6_compare_7cf53_in : ∀ w ∈ oJ6_compare_7cf53, w ∈ wpJ6_compare_7cf53 := fun w h => List.mem_cons_of_mem _ (List.mem_append_left _ h)
theorem gwoJ6_compare_7cf53 : ∀ w ∈ oJ6_compare_7cf53, goodWord w = true := by decide +kernel
theorem gwJ6_compare_7cf53 : ∀ w ∈ wpJ6_compare_7cf53, goodWord w = true := by
  unfold wpJ6_compare_7cf53
  exact List.forall_mem_cons.mpr ⟨rfl, List.forall_mem_append.mpr ⟨gwoJ6_compare_7cf53, fun _ h => absurd h List.not_mem_nil⟩⟩
set_option maxRecDepth 100000 in
theorem toJ6_compare_7cf53 : ∀ w ∈ oJ6_compare_7cf53, w ∈ lw_tbl := by
  unfold oJ6_compare_7cf53
  exact fun _ h => absurd h List.not_mem_nil
set_option maxRecDepth 100000 in
theorem tJ6_compare_7cf53 : ∀ w ∈ wpJ6_compare_7cf53, w ∈ lw_tbl := by
  unfold wpJ6_compare_7cf53
  exact List.forall_mem_cons.mpr ⟨(List.mem_of_getElem? (i := 449) (by rfl)), List.forall_mem_append.mpr ⟨toJ6_compare_7cf53, fun _ h => absurd h List.not_mem_nil⟩⟩
set_option maxHeartbeats 4000000 in
set_option maxRecDepth 100000 in
theorem c_J6_compare_7cf53 (l : Launch) (D : va_G) (cI cJ cZ : ClassId) (sz : Nat) (x : Int32) (y : Int32) : Met l yJ6_compare_7cf53 wpJ6_compare_7cf53 ({ frames := 0, cells := 0, slots := 0, locals := 0 }) (va_Pc ([.int x, .int y] : List Value) (sp_pre D vwCl (sp_ty cI cJ cZ) [] sz)) (va_Qi (fun (r : Int32) (_ : Unit) => True) (sp_B D vwCl (va_A [] sz) (fun (_ : Unit) => [])) (va_A [] sz)) 0 0 (va_A [] sz) := by
  refine sp_ofW (Qc := fun A => va_Qi (fun (r : Int32) (_ : Unit) => True) (sp_B D vwCl A (fun (_ : Unit) => [])) A) (by decide) rfl (Nat.le_of_ble_eq_true rfl) (fun p e s m below meth c A ls H locs C0 hA hS hP hK hD hl => ?_)
  obtain ⟨hx, hb, hr, hts, hown, hlocks, hml, hin⟩ := id C0
  have hown : s.vm.findClass RJ6 = some m.cls := hown
  have hl : lv_has ls 2 [(0, .int x), (1, .int y)] := hl
  have hK : va_K D vwCl [(cI, .int), (cJ, .long), (cZ, .boolean)] s := hK
  refine lv_iload_n hx hb dJ6_compare_7cf53_0 rfl (lv_at hl 0 rfl) ?_
  refine lv_iload_n hx hb dJ6_compare_7cf53_1 rfl (lv_at hl 1 rfl) ?_
  have hj10 : ∀ (z9 : Int32) (H : Heap) (locs : List Loc) (ls : Array Slot), va_P D vwCl [] H → va_D A [] → va_S A s.heap H locs → lv_has ls 2 [(0, .int x), (1, .int y)] → W p l e ({ frames := 0, cells := 0, slots := 0, locals := 0 }) s m (([.int x, .int y] : List Value).toArray) below meth c H locs 0 0 (MQ below (va_Qi (fun (r : Int32) (_ : Unit) => True) (sp_B D vwCl A (fun (_ : Unit) => [])) A) ([.int x, .int y] : List Value).toArray s 0 0 A) (F0 m 19 ls [.int z9]) := by
    intro z9 H locs ls  hP hD hS hl
    refine W.widen (k := 0) (n := 0) (by decide) (by decide) ?_
    exact sp_iret (u := ()) hx hb hr hlocks hS trivial (hP.sub [] rfl) (hD.sub [] (by decide) rfl) dJ6_compare_7cf53_19
  refine lv_icmp_ge (tgt := 9) hx hb dJ6_compare_7cf53_2 (by decide) (fun c1 => ?_) (fun c1 => ?_)
  · skip
    have c1i : (y : Int32).toInt ≤ (x : Int32).toInt := Int32.le_iff_toInt_le.mp c1
    refine lv_iload_n hx hb dJ6_compare_7cf53_9 rfl (lv_at hl 0 rfl) ?_
    refine lv_iload_n hx hb dJ6_compare_7cf53_10 rfl (lv_at hl 1 rfl) ?_
    have hj6 : ∀ (z5 : Int32) (H : Heap) (locs : List Loc) (ls : Array Slot), va_P D vwCl [] H → va_D A [] → va_S A s.heap H locs → lv_has ls 2 [(0, .int x), (1, .int y)] → W p l e ({ frames := 0, cells := 0, slots := 0, locals := 0 }) s m (([.int x, .int y] : List Value).toArray) below meth c H locs 0 0 (MQ below (va_Qi (fun (r : Int32) (_ : Unit) => True) (sp_B D vwCl A (fun (_ : Unit) => [])) A) ([.int x, .int y] : List Value).toArray s 0 0 A) (F0 m 19 ls [.int z5]) := by
      intro z5 H locs ls  hP hD hS hl
      exact hj10 (z5) _ _ _ (hP.sub [] rfl) (hD.sub [] (by decide) rfl) hS (lv_sub hl [0, 1] rfl)
    refine lv_icmp_ne (tgt := 18) hx hb dJ6_compare_7cf53_11 (by decide) (fun c2 => ?_) (fun c2 => ?_)
    · skip
      have c2i : ¬ (x : Int32).toInt = (y : Int32).toInt := fun h => c2 (Int32.toInt_inj.mp h)
      refine lv_iconst (v := 1) hx hb dJ6_compare_7cf53_18 (by decide) ?_
      exact hj6 (1) _ _ _ (hP.sub [] rfl) (hD.sub [] (by decide) rfl) hS (lv_sub hl [0, 1] rfl)
    · skip
      have c2i : (x : Int32).toInt = (y : Int32).toInt := congrArg Int32.toInt c2
      refine lv_iconst (v := 0) hx hb dJ6_compare_7cf53_14 (by decide) ?_
      refine lv_goto (tgt := 19) hx hb dJ6_compare_7cf53_15 (by decide) ?_
      exact hj6 (0) _ _ _ (hP.sub [] rfl) (hD.sub [] (by decide) rfl) hS (lv_sub hl [0, 1] rfl)
  · skip
    have c1i : ¬ (y : Int32).toInt ≤ (x : Int32).toInt := fun h => c1 (Int32.le_iff_toInt_le.mpr h)
    refine lv_iconst (v := (-1)) hx hb dJ6_compare_7cf53_5 (by decide) ?_
    refine lv_goto (tgt := 19) hx hb dJ6_compare_7cf53_6 (by decide) ?_
    exact hj10 ((-1)) _ _ _ (hP.sub [] rfl) (hD.sub [] (by decide) rfl) hS (lv_sub hl [0, 1] rfl)
def oJ6_numberOfLeadingZeros_0f7a4 : List Cond := [.constant RJ6 264 (65536)]
def wpJ6_numberOfLeadingZeros_0f7a4 : List Cond := .code yJ6_numberOfLeadingZeros_0f7a4 cJ6_numberOfLeadingZeros_0f7a4 2 (some .int) :: (oJ6_numberOfLeadingZeros_0f7a4 ++ ([] : List Cond))
theorem oJ6_numberOfLeadingZeros_0f7a4_in : ∀ w ∈ oJ6_numberOfLeadingZeros_0f7a4, w ∈ wpJ6_numberOfLeadingZeros_0f7a4 := fun w h => List.mem_cons_of_mem _ (List.mem_append_left _ h)
theorem gwoJ6_numberOfLeadingZeros_0f7a4 : ∀ w ∈ oJ6_numberOfLeadingZeros_0f7a4, goodWord w = true := by decide +kernel
theorem gwJ6_numberOfLeadingZeros_0f7a4 : ∀ w ∈ wpJ6_numberOfLeadingZeros_0f7a4, goodWord w = true := by
  unfold wpJ6_numberOfLeadingZeros_0f7a4
  exact List.forall_mem_cons.mpr ⟨rfl, List.forall_mem_append.mpr ⟨gwoJ6_numberOfLeadingZeros_0f7a4, fun _ h => absurd h List.not_mem_nil⟩⟩
set_option maxRecDepth 100000 in
theorem toJ6_numberOfLeadingZeros_0f7a4 : ∀ w ∈ oJ6_numberOfLeadingZeros_0f7a4, w ∈ lw_tbl := by
  unfold oJ6_numberOfLeadingZeros_0f7a4
  exact List.forall_mem_cons.mpr ⟨(List.mem_of_getElem? (i := 383) (by decide +kernel)), fun _ h => absurd h List.not_mem_nil⟩
set_option maxRecDepth 100000 in
theorem tJ6_numberOfLeadingZeros_0f7a4 : ∀ w ∈ wpJ6_numberOfLeadingZeros_0f7a4, w ∈ lw_tbl := by
  unfold wpJ6_numberOfLeadingZeros_0f7a4
  exact List.forall_mem_cons.mpr ⟨(List.mem_of_getElem? (i := 382) (by rfl)), List.forall_mem_append.mpr ⟨toJ6_numberOfLeadingZeros_0f7a4, fun _ h => absurd h List.not_mem_nil⟩⟩
set_option maxHeartbeats 4000000 in
set_option maxRecDepth 100000 in
theorem c_J6_numberOfLeadingZeros_0f7a4 (l : Launch) (D : va_G) (cI cJ cZ : ClassId) (sz : Nat) (x : Int32) : Met l yJ6_numberOfLeadingZeros_0f7a4 wpJ6_numberOfLeadingZeros_0f7a4 ({ frames := 0, cells := 0, slots := 0, locals := 0 }) (va_Pc ([.int x] : List Value) (sp_pre D vwCl (sp_ty cI cJ cZ) [] sz)) (va_Qi (fun (r : Int32) (_ : Unit) => True) (sp_B D vwCl (va_A [] sz) (fun (_ : Unit) => [])) (va_A [] sz)) 0 0 (va_A [] sz) := by
  refine sp_ofW (Qc := fun A => va_Qi (fun (r : Int32) (_ : Unit) => True) (sp_B D vwCl A (fun (_ : Unit) => [])) A) (by decide) rfl (Nat.le_of_ble_eq_true rfl) (fun p e s m below meth c A ls H locs C0 hA hS hP hK hD hl => ?_)
  obtain ⟨hx, hb, hr, hts, hown, hlocks, hml, hin⟩ := id C0
  have hown : s.vm.findClass RJ6 = some m.cls := hown
  have hl : lv_has ls 2 [(0, .int x)] := hl
  have hK : va_K D vwCl [(cI, .int), (cJ, .long), (cZ, .boolean)] s := hK
  refine lv_iload_n hx hb dJ6_numberOfLeadingZeros_0f7a4_0 rfl (lv_at hl 0 rfl) ?_
  refine lv_if_gt (tgt := 15) hx hb dJ6_numberOfLeadingZeros_0f7a4_1 (by decide) (fun c1 => ?_) (fun c1 => ?_)
  · skip
    have c1i : 0 < (x : Int32).toInt := Int32.lt_iff_toInt_lt.mp c1
    refine lv_bipush (v := 31) hx hb dJ6_numberOfLeadingZeros_0f7a4_15 (by decide) ?_
    refine lv_istore_n (lv' := [(1, .int 31), (0, .int x)]) hx hb dJ6_numberOfLeadingZeros_0f7a4_17 rfl hl (by decide) rfl (fun ls hl => ?_)
    refine lv_iload_n hx hb dJ6_numberOfLeadingZeros_0f7a4_18 rfl (lv_at hl 1 rfl) ?_
    refine lv_ldcw (v := 65536) hx hb hown (hts (.constant RJ6 264 (65536)) (oJ6_numberOfLeadingZeros_0f7a4_in _ (List.mem_of_getElem? (i := 0) rfl))) dJ6_numberOfLeadingZeros_0f7a4_19 ?_
    have hj7 : ∀ (z5 : Int32) (z6 : Int32) (H : Heap) (locs : List Loc) (ls : Array Slot), va_P D vwCl [] H → va_D A [] → va_S A s.heap H locs → lv_has ls 2 [(1, .int z5), (0, .int z6)] → W p l e ({ frames := 0, cells := 0, slots := 0, locals := 0 }) s m (([.int x] : List Value).toArray) below meth c H locs 0 0 (MQ below (va_Qi (fun (r : Int32) (_ : Unit) => True) (sp_B D vwCl A (fun (_ : Unit) => [])) A) ([.int x] : List Value).toArray s 0 0 A) (F0 m 33 ls []) := by
      intro z5 z6 H locs ls  hP hD hS hl
      refine lv_iload_n hx hb dJ6_numberOfLeadingZeros_0f7a4_33 rfl (lv_at hl 1 rfl) ?_
      refine lv_sipush (v := 256) hx hb dJ6_numberOfLeadingZeros_0f7a4_34 (by decide) ?_
      have hj15 : ∀ (z13 : Int32) (z14 : Int32) (H : Heap) (locs : List Loc) (ls : Array Slot), va_P D vwCl [] H → va_D A [] → va_S A s.heap H locs → lv_has ls 2 [(1, .int z13), (0, .int z14)] → W p l e ({ frames := 0, cells := 0, slots := 0, locals := 0 }) s m (([.int x] : List Value).toArray) below meth c H locs 0 0 (MQ below (va_Qi (fun (r : Int32) (_ : Unit) => True) (sp_B D vwCl A (fun (_ : Unit) => [])) A) ([.int x] : List Value).toArray s 0 0 A) (F0 m 48 ls []) := by
        intro z13 z14 H locs ls  hP hD hS hl
        refine lv_iload_n hx hb dJ6_numberOfLeadingZeros_0f7a4_48 rfl (lv_at hl 1 rfl) ?_
        refine lv_bipush (v := 16) hx hb dJ6_numberOfLeadingZeros_0f7a4_49 (by decide) ?_
        have hj23 : ∀ (z21 : Int32) (z22 : Int32) (H : Heap) (locs : List Loc) (ls : Array Slot), va_P D vwCl [] H → va_D A [] → va_S A s.heap H locs → lv_has ls 2 [(1, .int z21), (0, .int z22)] → W p l e ({ frames := 0, cells := 0, slots := 0, locals := 0 }) s m (([.int x] : List Value).toArray) below meth c H locs 0 0 (MQ below (va_Qi (fun (r : Int32) (_ : Unit) => True) (sp_B D vwCl A (fun (_ : Unit) => [])) A) ([.int x] : List Value).toArray s 0 0 A) (F0 m 61 ls []) := by
          intro z21 z22 H locs ls  hP hD hS hl
          refine lv_iload_n hx hb dJ6_numberOfLeadingZeros_0f7a4_61 rfl (lv_at hl 1 rfl) ?_
          refine lv_iconst (v := 4) hx hb dJ6_numberOfLeadingZeros_0f7a4_62 (by decide) ?_
          have hj31 : ∀ (z29 : Int32) (z30 : Int32) (H : Heap) (locs : List Loc) (ls : Array Slot), va_P D vwCl [] H → va_D A [] → va_S A s.heap H locs → lv_has ls 2 [(1, .int z29), (0, .int z30)] → W p l e ({ frames := 0, cells := 0, slots := 0, locals := 0 }) s m (([.int x] : List Value).toArray) below meth c H locs 0 0 (MQ below (va_Qi (fun (r : Int32) (_ : Unit) => True) (sp_B D vwCl A (fun (_ : Unit) => [])) A) ([.int x] : List Value).toArray s 0 0 A) (F0 m 73 ls []) := by
            intro z29 z30 H locs ls  hP hD hS hl
            refine lv_iload_n hx hb dJ6_numberOfLeadingZeros_0f7a4_73 rfl (lv_at hl 0 rfl) ?_
            refine lv_iload_n hx hb dJ6_numberOfLeadingZeros_0f7a4_74 rfl (lv_at hl 1 rfl) ?_
            refine lv_iconst (v := 1) hx hb dJ6_numberOfLeadingZeros_0f7a4_75 (by decide) ?_
            refine lv_iushr (v := _) hx hb dJ6_numberOfLeadingZeros_0f7a4_76 rfl ?_
            refine lv_isub hx hb dJ6_numberOfLeadingZeros_0f7a4_77 ?_
            refine W.widen (k := 0) (n := 0) (by decide) (by decide) ?_
            exact sp_iret (u := ()) hx hb hr hlocks hS trivial (hP.sub [] rfl) (hD.sub [] (by decide) rfl) dJ6_numberOfLeadingZeros_0f7a4_78
          refine lv_icmp_lt (tgt := 73) hx hb dJ6_numberOfLeadingZeros_0f7a4_63 (by decide) (fun c24 => ?_) (fun c24 => ?_)
          · skip
            have c24i : (z22 : Int32).toInt < 4 := Int32.lt_iff_toInt_lt.mp c24
            exact hj31 (z21) (z22) _ _ _ (hP.sub [] rfl) (hD.sub [] (by decide) rfl) hS (lv_sub hl [0, 1] rfl)
          · skip
            have c24i : ¬ (z22 : Int32).toInt < 4 := fun h => c24 (Int32.lt_iff_toInt_lt.mpr h)
            obtain ⟨y26, e27⟩ : ∃ y : Int32, y = z21 + (-2) := ⟨_, rfl⟩
            refine lv_iinc (v := y26) (lv' := [(1, .int y26), (0, .int z22)]) hx hb dJ6_numberOfLeadingZeros_0f7a4_66 hl (k := 0) rfl (by rw [e27]; rfl) (by decide) rfl (fun ls hl => ?_)
            refine lv_iload_n hx hb dJ6_numberOfLeadingZeros_0f7a4_69 rfl (lv_at hl 1 rfl) ?_
            refine lv_iconst (v := 2) hx hb dJ6_numberOfLeadingZeros_0f7a4_70 (by decide) ?_
            refine lv_iushr (v := _) hx hb dJ6_numberOfLeadingZeros_0f7a4_71 rfl ?_
            refine lv_istore_n (lv' := [(0, .int (((z22 : Int32).toUInt32 >>> ((2 : Int32).toUInt32 &&& Int32.toUInt32 31)).toInt32)), (1, .int y26)]) hx hb dJ6_numberOfLeadingZeros_0f7a4_72 rfl hl (by decide) rfl (fun ls hl => ?_)
            exact hj31 (y26) ((((z22 : Int32).toUInt32 >>> ((2 : Int32).toUInt32 &&& Int32.toUInt32 31)).toInt32)) _ _ _ (hP.sub [] rfl) (hD.sub [] (by decide) rfl) hS (lv_sub hl [1, 0] rfl)
        refine lv_icmp_lt (tgt := 61) hx hb dJ6_numberOfLeadingZeros_0f7a4_51 (by decide) (fun c16 => ?_) (fun c16 => ?_)
        · skip
          have c16i : (z14 : Int32).toInt < 16 := Int32.lt_iff_toInt_lt.mp c16
          exact hj23 (z13) (z14) _ _ _ (hP.sub [] rfl) (hD.sub [] (by decide) rfl) hS (lv_sub hl [0, 1] rfl)
        · skip
          have c16i : ¬ (z14 : Int32).toInt < 16 := fun h => c16 (Int32.lt_iff_toInt_lt.mpr h)
          obtain ⟨y18, e19⟩ : ∃ y : Int32, y = z13 + (-4) := ⟨_, rfl⟩
          refine lv_iinc (v := y18) (lv' := [(1, .int y18), (0, .int z14)]) hx hb dJ6_numberOfLeadingZeros_0f7a4_54 hl (k := 0) rfl (by rw [e19]; rfl) (by decide) rfl (fun ls hl => ?_)
          refine lv_iload_n hx hb dJ6_numberOfLeadingZeros_0f7a4_57 rfl (lv_at hl 1 rfl) ?_
          refine lv_iconst (v := 4) hx hb dJ6_numberOfLeadingZeros_0f7a4_58 (by decide) ?_
          refine lv_iushr (v := _) hx hb dJ6_numberOfLeadingZeros_0f7a4_59 rfl ?_
          refine lv_istore_n (lv' := [(0, .int (((z14 : Int32).toUInt32 >>> ((4 : Int32).toUInt32 &&& Int32.toUInt32 31)).toInt32)), (1, .int y18)]) hx hb dJ6_numberOfLeadingZeros_0f7a4_60 rfl hl (by decide) rfl (fun ls hl => ?_)
          exact hj23 (y18) ((((z14 : Int32).toUInt32 >>> ((4 : Int32).toUInt32 &&& Int32.toUInt32 31)).toInt32)) _ _ _ (hP.sub [] rfl) (hD.sub [] (by decide) rfl) hS (lv_sub hl [1, 0] rfl)
      refine lv_icmp_lt (tgt := 48) hx hb dJ6_numberOfLeadingZeros_0f7a4_37 (by decide) (fun c8 => ?_) (fun c8 => ?_)
      · skip
        have c8i : (z6 : Int32).toInt < 256 := Int32.lt_iff_toInt_lt.mp c8
        exact hj15 (z5) (z6) _ _ _ (hP.sub [] rfl) (hD.sub [] (by decide) rfl) hS (lv_sub hl [0, 1] rfl)
      · skip
        have c8i : ¬ (z6 : Int32).toInt < 256 := fun h => c8 (Int32.lt_iff_toInt_lt.mpr h)
        obtain ⟨y10, e11⟩ : ∃ y : Int32, y = z5 + (-8) := ⟨_, rfl⟩
        refine lv_iinc (v := y10) (lv' := [(1, .int y10), (0, .int z6)]) hx hb dJ6_numberOfLeadingZeros_0f7a4_40 hl (k := 0) rfl (by rw [e11]; rfl) (by decide) rfl (fun ls hl => ?_)
        refine lv_iload_n hx hb dJ6_numberOfLeadingZeros_0f7a4_43 rfl (lv_at hl 1 rfl) ?_
        refine lv_bipush (v := 8) hx hb dJ6_numberOfLeadingZeros_0f7a4_44 (by decide) ?_
        refine lv_iushr (v := _) hx hb dJ6_numberOfLeadingZeros_0f7a4_46 rfl ?_
        refine lv_istore_n (lv' := [(0, .int (((z6 : Int32).toUInt32 >>> ((8 : Int32).toUInt32 &&& Int32.toUInt32 31)).toInt32)), (1, .int y10)]) hx hb dJ6_numberOfLeadingZeros_0f7a4_47 rfl hl (by decide) rfl (fun ls hl => ?_)
        exact hj15 (y10) ((((z6 : Int32).toUInt32 >>> ((8 : Int32).toUInt32 &&& Int32.toUInt32 31)).toInt32)) _ _ _ (hP.sub [] rfl) (hD.sub [] (by decide) rfl) hS (lv_sub hl [1, 0] rfl)
    refine lv_icmp_lt (tgt := 33) hx hb dJ6_numberOfLeadingZeros_0f7a4_22 (by decide) (fun c2 => ?_) (fun c2 => ?_)
    · skip
      have c2i : (x : Int32).toInt < 65536 := Int32.lt_iff_toInt_lt.mp c2
      exact hj7 (31) (x) _ _ _ (hP.sub [] rfl) (hD.sub [] (by decide) rfl) hS (lv_sub hl [0, 1] rfl)
    · skip
      have c2i : ¬ (x : Int32).toInt < 65536 := fun h => c2 (Int32.lt_iff_toInt_lt.mpr h)
      refine lv_iinc (v := 15) (lv' := [(1, .int 15), (0, .int x)]) hx hb dJ6_numberOfLeadingZeros_0f7a4_25 hl (k := 0) rfl (by decide) (by decide) rfl (fun ls hl => ?_)
      refine lv_iload_n hx hb dJ6_numberOfLeadingZeros_0f7a4_28 rfl (lv_at hl 1 rfl) ?_
      refine lv_bipush (v := 16) hx hb dJ6_numberOfLeadingZeros_0f7a4_29 (by decide) ?_
      refine lv_iushr (v := _) hx hb dJ6_numberOfLeadingZeros_0f7a4_31 rfl ?_
      refine lv_istore_n (lv' := [(0, .int (((x : Int32).toUInt32 >>> ((16 : Int32).toUInt32 &&& Int32.toUInt32 31)).toInt32)), (1, .int 15)]) hx hb dJ6_numberOfLeadingZeros_0f7a4_32 rfl hl (by decide) rfl (fun ls hl => ?_)
      exact hj7 (15) ((((x : Int32).toUInt32 >>> ((16 : Int32).toUInt32 &&& Int32.toUInt32 31)).toInt32)) _ _ _ (hP.sub [] rfl) (hD.sub [] (by decide) rfl) hS (lv_sub hl [1, 0] rfl)
  · skip
    have c1i : ¬ 0 < (x : Int32).toInt := fun h => c1 (Int32.lt_iff_toInt_lt.mpr h)
    refine lv_iload_n hx hb dJ6_numberOfLeadingZeros_0f7a4_4 rfl (lv_at hl 0 rfl) ?_
    have hj36 : ∀ (z35 : Int32) (H : Heap) (locs : List Loc) (ls : Array Slot), va_P D vwCl [] H → va_D A [] → va_S A s.heap H locs → lv_has ls 2 [(0, .int x)] → W p l e ({ frames := 0, cells := 0, slots := 0, locals := 0 }) s m (([.int x] : List Value).toArray) below meth c H locs 0 0 (MQ below (va_Qi (fun (r : Int32) (_ : Unit) => True) (sp_B D vwCl A (fun (_ : Unit) => [])) A) ([.int x] : List Value).toArray s 0 0 A) (F0 m 14 ls [.int z35]) := by
      intro z35 H locs ls  hP hD hS hl
      refine W.widen (k := 0) (n := 0) (by decide) (by decide) ?_
      exact sp_iret (u := ()) hx hb hr hlocks hS trivial (hP.sub [] rfl) (hD.sub [] (by decide) rfl) dJ6_numberOfLeadingZeros_0f7a4_14
    refine lv_if_ne (tgt := 13) hx hb dJ6_numberOfLeadingZeros_0f7a4_5 (by decide) (fun c32 => ?_) (fun c32 => ?_)
    · skip
      have c32i : ¬ (x : Int32).toInt = 0 := fun h => c32 (Int32.toInt_inj.mp h)
      refine lv_iconst (v := 0) hx hb dJ6_numberOfLeadingZeros_0f7a4_13 (by decide) ?_
      exact hj36 (0) _ _ _ (hP.sub [] rfl) (hD.sub [] (by decide) rfl) hS (lv_sub hl [0] rfl)
    · skip
      have c32i : (x : Int32).toInt = 0 := congrArg Int32.toInt c32
      refine lv_bipush (v := 32) hx hb dJ6_numberOfLeadingZeros_0f7a4_8 (by decide) ?_
      refine lv_goto (tgt := 14) hx hb dJ6_numberOfLeadingZeros_0f7a4_10 (by decide) ?_
      exact hj36 (32) _ _ _ (hP.sub [] rfl) (hD.sub [] (by decide) rfl) hS (lv_sub hl [0] rfl)
def oJ13_numberOfLeadingZeros_95d88 : List Cond := []
def wpJ13_numberOfLeadingZeros_95d88 : List Cond := .code yJ13_numberOfLeadingZeros_95d88 cJ13_numberOfLeadingZeros_95d88 3 (some .int) :: (oJ13_numberOfLeadingZeros_95d88 ++ ((va_wsS RJ13 308 yJ6_numberOfLeadingZeros_0f7a4 wpJ6_numberOfLeadingZeros_0f7a4) ++ ([] : List Cond)))
theorem oJ13_numberOfLeadingZeros_95d88_in : ∀ w ∈ oJ13_numberOfLeadingZeros_95d88, w ∈ wpJ13_numberOfLeadingZeros_95d88 := fun w h => List.mem_cons_of_mem _ (List.mem_append_left _ h)
theorem gwoJ13_numberOfLeadingZeros_95d88 : ∀ w ∈ oJ13_numberOfLeadingZeros_95d88, goodWord w = true := by decide +kernel
theorem gwJ13_numberOfLeadingZeros_95d88 : ∀ w ∈ wpJ13_numberOfLeadingZeros_95d88, goodWord w = true := by
  unfold wpJ13_numberOfLeadingZeros_95d88
  exact List.forall_mem_cons.mpr ⟨rfl, List.forall_mem_append.mpr ⟨gwoJ13_numberOfLeadingZeros_95d88, List.forall_mem_append.mpr ⟨(sp_gS gwJ6_numberOfLeadingZeros_0f7a4), fun _ h => absurd h List.not_mem_nil⟩⟩⟩
set_option maxRecDepth 100000 in
theorem toJ13_numberOfLeadingZeros_95d88 : ∀ w ∈ oJ13_numberOfLeadingZeros_95d88, w ∈ lw_tbl := by
  unfold oJ13_numberOfLeadingZeros_95d88
  exact fun _ h => absurd h List.not_mem_nil
set_option maxRecDepth 100000 in
theorem tJ13_numberOfLeadingZeros_95d88 : ∀ w ∈ wpJ13_numberOfLeadingZeros_95d88, w ∈ lw_tbl := by
  unfold wpJ13_numberOfLeadingZeros_95d88
  exact List.forall_mem_cons.mpr ⟨(List.mem_of_getElem? (i := 379) (by rfl)), List.forall_mem_append.mpr ⟨toJ13_numberOfLeadingZeros_95d88, List.forall_mem_append.mpr ⟨(sp_tS (List.mem_of_getElem? (i := 380) (by decide +kernel)) (List.mem_of_getElem? (i := 381) (by decide +kernel)) (List.mem_of_getElem? (i := 50) (by decide +kernel)) tJ6_numberOfLeadingZeros_0f7a4), fun _ h => absurd h List.not_mem_nil⟩⟩⟩
theorem gJ13_numberOfLeadingZeros_95d88_J6_numberOfLeadingZeros_0f7a4_308 : GoodIn wpJ13_numberOfLeadingZeros_95d88 (va_wsS RJ13 308 yJ6_numberOfLeadingZeros_0f7a4 wpJ6_numberOfLeadingZeros_0f7a4) := fun w h => ⟨List.mem_cons_of_mem _ (List.mem_append_right _ (List.mem_append_left _ h)), good_of_word (sp_gS gwJ6_numberOfLeadingZeros_0f7a4 w h)⟩
set_option maxHeartbeats 4000000 in
set_option maxRecDepth 100000 in
theorem c_J13_numberOfLeadingZeros_95d88 (l : Launch) (D : va_G) (cI cJ cZ : ClassId) (sz : Nat) (x : Int64) : Met l yJ13_numberOfLeadingZeros_95d88 wpJ13_numberOfLeadingZeros_95d88 ({ frames := 1, cells := 0, slots := 0, locals := 21 }) (va_Pc ([.long x] : List Value) (sp_pre D vwCl (sp_ty cI cJ cZ) [] sz)) (va_Qi (fun (r : Int32) (_ : Unit) => True) (sp_B D vwCl (va_A [] sz) (fun (_ : Unit) => [])) (va_A [] sz)) 0 0 (va_A [] sz) := by
  refine sp_ofW (Qc := fun A => va_Qi (fun (r : Int32) (_ : Unit) => True) (sp_B D vwCl A (fun (_ : Unit) => [])) A) (by decide) rfl (Nat.le_of_ble_eq_true rfl) (fun p e s m below meth c A ls H locs C0 hA hS hP hK hD hl => ?_)
  obtain ⟨hx, hb, hr, hts, hown, hlocks, hml, hin⟩ := id C0
  have hown : s.vm.findClass RJ13 = some m.cls := hown
  have hl : lv_has ls 3 [(0, .long x)] := hl
  have hK : va_K D vwCl [(cI, .int), (cJ, .long), (cZ, .boolean)] s := hK
  refine lv_lload_n hx hb dJ13_numberOfLeadingZeros_95d88_0 rfl (lv_at hl 0 rfl) ?_
  refine lv_bipush (v := 32) hx hb dJ13_numberOfLeadingZeros_95d88_1 (by decide) ?_
  refine lv_lushr (v := _) hx hb dJ13_numberOfLeadingZeros_95d88_3 rfl ?_
  refine lv_l2i (v := _) hx hb dJ13_numberOfLeadingZeros_95d88_4 rfl ?_
  refine lv_istore_n (lv' := [(2, .int ((((x : Int64).toUInt64 >>> ((32 : Int32).toInt64.toUInt64 &&& Int64.toUInt64 63)).toInt64)).toInt32), (0, .long x)]) hx hb dJ13_numberOfLeadingZeros_95d88_5 rfl hl (by decide) rfl (fun ls hl => ?_)
  refine lv_iload_n hx hb dJ13_numberOfLeadingZeros_95d88_6 rfl (lv_at hl 0 rfl) ?_
  have hj11 : ∀ (z10 : Int32) (H : Heap) (locs : List Loc) (ls : Array Slot), va_P D vwCl [] H → va_D A [] → va_S A s.heap H locs → lv_has ls 3 [(2, .int ((((x : Int64).toUInt64 >>> ((32 : Int32).toInt64.toUInt64 &&& Int64.toUInt64 63)).toInt64)).toInt32), (0, .long x)] → W p l e ({ frames := 1, cells := 0, slots := 0, locals := 21 }) s m (([.long x] : List Value).toArray) below meth c H locs 0 0 (MQ below (va_Qi (fun (r : Int32) (_ : Unit) => True) (sp_B D vwCl A (fun (_ : Unit) => [])) A) ([.long x] : List Value).toArray s 0 0 A) (F0 m 25 ls [.int z10]) := by
    intro z10 H locs ls  hP hD hS hl
    refine W.widen (k := 0) (n := 0) (by decide) (by decide) ?_
    exact sp_iret (u := ()) hx hb hr hlocks hS trivial (hP.sub [] rfl) (hD.sub [] (by decide) rfl) dJ13_numberOfLeadingZeros_95d88_25
  refine lv_if_ne (tgt := 21) hx hb dJ13_numberOfLeadingZeros_95d88_7 (by decide) (fun c1 => ?_) (fun c1 => ?_)
  · skip
    have c1i : ¬ (((((x : Int64).toUInt64 >>> ((32 : Int32).toInt64.toUInt64 &&& Int64.toUInt64 63)).toInt64)).toInt32 : Int32).toInt = 0 := fun h => c1 (Int32.toInt_inj.mp h)
    refine lv_iload_n hx hb dJ13_numberOfLeadingZeros_95d88_21 rfl (lv_at hl 0 rfl) ?_
    refine sp_calli (wr := []) (wc := []) hP hD hS hA [] [] rfl rfl (by decide) (by decide) (va_runS (As := [.int ((((x : Int64).toUInt64 >>> ((32 : Int32).toInt64.toUInt64 &&& Int64.toUInt64 63)).toInt64)).toInt32]) (rest := []) ⟨hx, hb, hml, hown, hts⟩ (c_J6_numberOfLeadingZeros_0f7a4 l D cI cJ cZ H.size (((((x : Int64).toUInt64 >>> ((32 : Int32).toInt64.toUInt64 &&& Int64.toUInt64 63)).toInt64)).toInt32)) (va_cwS 1 hts gJ13_numberOfLeadingZeros_95d88_J6_numberOfLeadingZeros_0f7a4_308 rfl rfl rfl (by decide +kernel) ⟨Nat.le_of_ble_eq_true rfl, Nat.le_of_ble_eq_true rfl⟩) (sp_preS [.int ((((x : Int64).toUInt64 >>> ((32 : Int32).toInt64.toUInt64 &&& Int64.toUInt64 63)).toInt64)).toInt32] hK (hP.sub (ws' := []) [] rfl) (hD.sub (ws' := []) [] (by decide) rfl)) rfl rfl hl.1 rfl (lv_room (Nat.le_of_ble_eq_true rfl)) dJ13_numberOfLeadingZeros_95d88_22 ⟨Nat.le_of_ble_eq_true rfl, Nat.le_of_ble_eq_true rfl⟩) (fun r2 u3 H locs hw4 hP hD hS => ?_)
    have hP : va_P D vwCl [] H := hP
    have hD : va_D A [] := hD
    exact hj11 (r2) _ _ _ (hP.sub [] rfl) (hD.sub [] (by decide) rfl) hS (lv_sub hl [0, 1] rfl)
  · skip
    have c1i : (((((x : Int64).toUInt64 >>> ((32 : Int32).toInt64.toUInt64 &&& Int64.toUInt64 63)).toInt64)).toInt32 : Int32).toInt = 0 := congrArg Int32.toInt c1
    refine lv_bipush (v := 32) hx hb dJ13_numberOfLeadingZeros_95d88_10 (by decide) ?_
    refine lv_lload_n hx hb dJ13_numberOfLeadingZeros_95d88_12 rfl (lv_at hl 1 rfl) ?_
    refine lv_l2i (v := _) hx hb dJ13_numberOfLeadingZeros_95d88_13 rfl ?_
    refine sp_calli (wr := []) (wc := []) hP hD hS hA [] [] rfl rfl (by decide) (by decide) (va_runS (As := [.int (x).toInt32]) (rest := [.int 32]) ⟨hx, hb, hml, hown, hts⟩ (c_J6_numberOfLeadingZeros_0f7a4 l D cI cJ cZ H.size ((x).toInt32)) (va_cwS 1 hts gJ13_numberOfLeadingZeros_95d88_J6_numberOfLeadingZeros_0f7a4_308 rfl rfl rfl (by decide +kernel) ⟨Nat.le_of_ble_eq_true rfl, Nat.le_of_ble_eq_true rfl⟩) (sp_preS [.int (x).toInt32] hK (hP.sub (ws' := []) [] rfl) (hD.sub (ws' := []) [] (by decide) rfl)) rfl rfl hl.1 rfl (lv_room (Nat.le_of_ble_eq_true rfl)) dJ13_numberOfLeadingZeros_95d88_14 ⟨Nat.le_of_ble_eq_true rfl, Nat.le_of_ble_eq_true rfl⟩) (fun r6 u7 H locs hw8 hP hD hS => ?_)
    have hP : va_P D vwCl [] H := hP
    have hD : va_D A [] := hD
    refine lv_iadd hx hb dJ13_numberOfLeadingZeros_95d88_17 ?_
    refine lv_goto (tgt := 25) hx hb dJ13_numberOfLeadingZeros_95d88_18 (by decide) ?_
    exact hj11 ((32 + r6)) _ _ _ (hP.sub [] rfl) (hD.sub [] (by decide) rfl) hS (lv_sub hl [0, 1] rfl)
def oX2_isNone : List Cond := [.constant RX2 9 (2147483647), .constant RX2 10 (2139095040)]
def wpX2_isNone : List Cond := .code yX2_isNone cX2_isNone 1 (some .boolean) :: (oX2_isNone ++ ([] : List Cond))
theorem oX2_isNone_in : ∀ w ∈ oX2_isNone, w ∈ wpX2_isNone := fun w h => List.mem_cons_of_mem _ (List.mem_append_left _ h)
theorem gwoX2_isNone : ∀ w ∈ oX2_isNone, goodWord w = true := by decide +kernel
theorem gwX2_isNone : ∀ w ∈ wpX2_isNone, goodWord w = true := by
  unfold wpX2_isNone
  exact List.forall_mem_cons.mpr ⟨rfl, List.forall_mem_append.mpr ⟨gwoX2_isNone, fun _ h => absurd h List.not_mem_nil⟩⟩
set_option maxRecDepth 100000 in
theorem toX2_isNone : ∀ w ∈ oX2_isNone, w ∈ lw_tbl := by
  unfold oX2_isNone
  exact List.forall_mem_cons.mpr ⟨(List.mem_of_getElem? (i := 282) (by decide +kernel)), List.forall_mem_cons.mpr ⟨(List.mem_of_getElem? (i := 283) (by decide +kernel)), fun _ h => absurd h List.not_mem_nil⟩⟩
set_option maxRecDepth 100000 in
theorem tX2_isNone : ∀ w ∈ wpX2_isNone, w ∈ lw_tbl := by
  unfold wpX2_isNone
  exact List.forall_mem_cons.mpr ⟨(List.mem_of_getElem? (i := 281) (by rfl)), List.forall_mem_append.mpr ⟨toX2_isNone, fun _ h => absurd h List.not_mem_nil⟩⟩
set_option maxHeartbeats 4000000 in
set_option maxRecDepth 100000 in
theorem c_X2_isNone (l : Launch) (D : va_G) (cI cJ cZ : ClassId) (sz : Nat) (b : Int32) : Met l yX2_isNone wpX2_isNone ({ frames := 0, cells := 0, slots := 0, locals := 0 }) (va_Pc ([.int b] : List Value) (sp_pre D vwCl (sp_ty cI cJ cZ) [] sz)) (va_Qi (fun (r : Int32) (_ : Unit) => (r = 1 ∧ (2139095040 < (b &&& 2147483647 : Int32).toInt)) ∨ (r = 0 ∧ ¬ (2139095040 < (b &&& 2147483647 : Int32).toInt))) (sp_B D vwCl (va_A [] sz) (fun (_ : Unit) => [])) (va_A [] sz)) 0 0 (va_A [] sz) := by
  refine sp_ofW (Qc := fun A => va_Qi (fun (r : Int32) (_ : Unit) => (r = 1 ∧ (2139095040 < (b &&& 2147483647 : Int32).toInt)) ∨ (r = 0 ∧ ¬ (2139095040 < (b &&& 2147483647 : Int32).toInt))) (sp_B D vwCl A (fun (_ : Unit) => [])) A) (by decide) rfl (Nat.le_of_ble_eq_true rfl) (fun p e s m below meth c A ls H locs C0 hA hS hP hK hD hl => ?_)
  obtain ⟨hx, hb, hr, hts, hown, hlocks, hml, hin⟩ := id C0
  have hown : s.vm.findClass RX2 = some m.cls := hown
  have hl : lv_has ls 1 [(0, .int b)] := hl
  have hK : va_K D vwCl [(cI, .int), (cJ, .long), (cZ, .boolean)] s := hK
  refine lv_iload_n hx hb dX2_isNone_0 rfl (lv_at hl 0 rfl) ?_
  refine lv_ldc (v := 2147483647) hx hb hown (hts (.constant RX2 9 (2147483647)) (oX2_isNone_in _ (List.mem_of_getElem? (i := 0) rfl))) dX2_isNone_1 ?_
  refine lv_iand hx hb dX2_isNone_3 ?_
  refine lv_ldc (v := 2139095040) hx hb hown (hts (.constant RX2 10 (2139095040)) (oX2_isNone_in _ (List.mem_of_getElem? (i := 1) rfl))) dX2_isNone_4 ?_
  refine lv_icmp_le (tgt := 13) hx hb dX2_isNone_6 (by decide) (fun c1 => ?_) (fun c1 => ?_)
  · skip
    have c1i : ((b &&& 2147483647) : Int32).toInt ≤ 2139095040 := Int32.le_iff_toInt_le.mp c1
    refine lv_iconst (v := 0) hx hb dX2_isNone_13 (by decide) ?_
    refine W.widen (k := 0) (n := 0) (by decide) (by decide) ?_
    exact sp_zret (u := ()) hx hb hr hlocks (by decide) hS (Or.inr ⟨rfl, by omega⟩) (hP.sub [] rfl) (hD.sub [] (by decide) rfl) dX2_isNone_14
  · skip
    have c1i : ¬ ((b &&& 2147483647) : Int32).toInt ≤ 2139095040 := fun h => c1 (Int32.le_iff_toInt_le.mpr h)
    refine lv_iconst (v := 1) hx hb dX2_isNone_9 (by decide) ?_
    refine lv_goto (tgt := 14) hx hb dX2_isNone_10 (by decide) ?_
    refine W.widen (k := 0) (n := 0) (by decide) (by decide) ?_
    exact sp_zret (u := ()) hx hb hr hlocks (by decide) hS (Or.inl ⟨rfl, by omega⟩) (hP.sub [] rfl) (hD.sub [] (by decide) rfl) dX2_isNone_14
def oX2_placeOf : List Cond := [.constant RX2 9 (2147483647)]
def wpX2_placeOf : List Cond := .code yX2_placeOf cX2_placeOf 1 (some .int) :: (oX2_placeOf ++ ([] : List Cond))
theorem oX2_placeOf_in : ∀ w ∈ oX2_placeOf, w ∈ wpX2_placeOf := fun w h => List.mem_cons_of_mem _ (List.mem_append_left _ h)
theorem gwoX2_placeOf : ∀ w ∈ oX2_placeOf, goodWord w = true := by decide +kernel
theorem gwX2_placeOf : ∀ w ∈ wpX2_placeOf, goodWord w = true := by
  unfold wpX2_placeOf
  exact List.forall_mem_cons.mpr ⟨rfl, List.forall_mem_append.mpr ⟨gwoX2_placeOf, fun _ h => absurd h List.not_mem_nil⟩⟩
set_option maxRecDepth 100000 in
theorem toX2_placeOf : ∀ w ∈ oX2_placeOf, w ∈ lw_tbl := by
  unfold oX2_placeOf
  exact List.forall_mem_cons.mpr ⟨(List.mem_of_getElem? (i := 282) (by decide +kernel)), fun _ h => absurd h List.not_mem_nil⟩
set_option maxRecDepth 100000 in
theorem tX2_placeOf : ∀ w ∈ wpX2_placeOf, w ∈ lw_tbl := by
  unfold wpX2_placeOf
  exact List.forall_mem_cons.mpr ⟨(List.mem_of_getElem? (i := 332) (by rfl)), List.forall_mem_append.mpr ⟨toX2_placeOf, fun _ h => absurd h List.not_mem_nil⟩⟩
set_option maxHeartbeats 4000000 in
set_option maxRecDepth 100000 in
theorem c_X2_placeOf (l : Launch) (D : va_G) (cI cJ cZ : ClassId) (sz : Nat) (b : Int32) : Met l yX2_placeOf wpX2_placeOf ({ frames := 0, cells := 0, slots := 0, locals := 0 }) (va_Pc ([.int b] : List Value) (sp_pre D vwCl (sp_ty cI cJ cZ) [] sz)) (va_Qi (fun (r : Int32) (_ : Unit) => r = sq_po b) (sp_B D vwCl (va_A [] sz) (fun (_ : Unit) => [])) (va_A [] sz)) 0 0 (va_A [] sz) := by
  refine sp_ofW (Qc := fun A => va_Qi (fun (r : Int32) (_ : Unit) => r = sq_po b) (sp_B D vwCl A (fun (_ : Unit) => [])) A) (by decide) rfl (Nat.le_of_ble_eq_true rfl) (fun p e s m below meth c A ls H locs C0 hA hS hP hK hD hl => ?_)
  obtain ⟨hx, hb, hr, hts, hown, hlocks, hml, hin⟩ := id C0
  have hown : s.vm.findClass RX2 = some m.cls := hown
  have hl : lv_has ls 1 [(0, .int b)] := hl
  have hK : va_K D vwCl [(cI, .int), (cJ, .long), (cZ, .boolean)] s := hK
  refine lv_iload_n hx hb dX2_placeOf_0 rfl (lv_at hl 0 rfl) ?_
  refine lv_if_ge (tgt := 11) hx hb dX2_placeOf_1 (by decide) (fun c1 => ?_) (fun c1 => ?_)
  · skip
    have c1i : 0 ≤ (b : Int32).toInt := Int32.le_iff_toInt_le.mp c1
    refine lv_iload_n hx hb dX2_placeOf_11 rfl (lv_at hl 0 rfl) ?_
    refine W.widen (k := 0) (n := 0) (by decide) (by decide) ?_
    exact sp_iret (u := ()) hx hb hr hlocks hS (by unfold sq_po; split <;> first | (exfalso; omega) | rfl) (hP.sub [] rfl) (hD.sub [] (by decide) rfl) dX2_placeOf_12
  · skip
    have c1i : ¬ 0 ≤ (b : Int32).toInt := fun h => c1 (Int32.le_iff_toInt_le.mpr h)
    refine lv_iload_n hx hb dX2_placeOf_4 rfl (lv_at hl 0 rfl) ?_
    refine lv_ldc (v := 2147483647) hx hb hown (hts (.constant RX2 9 (2147483647)) (oX2_placeOf_in _ (List.mem_of_getElem? (i := 0) rfl))) dX2_placeOf_5 ?_
    refine lv_ixor hx hb dX2_placeOf_7 ?_
    refine lv_goto (tgt := 12) hx hb dX2_placeOf_8 (by decide) ?_
    refine W.widen (k := 0) (n := 0) (by decide) (by decide) ?_
    exact sp_iret (u := ()) hx hb hr hlocks hS (by unfold sq_po; split <;> first | (exfalso; omega) | rfl) (hP.sub [] rfl) (hD.sub [] (by decide) rfl) dX2_placeOf_12
def oX2_bitsAt : List Cond := [.constant RX2 9 (2147483647)]
def wpX2_bitsAt : List Cond := .code yX2_bitsAt cX2_bitsAt 1 (some .int) :: (oX2_bitsAt ++ ([] : List Cond))
theorem oX2_bitsAt_in : ∀ w ∈ oX2_bitsAt, w ∈ wpX2_bitsAt := fun w h => List.mem_cons_of_mem _ (List.mem_append_left _ h)
theorem gwoX2_bitsAt : ∀ w ∈ oX2_bitsAt, goodWord w = true := by decide +kernel
theorem gwX2_bitsAt : ∀ w ∈ wpX2_bitsAt, goodWord w = true := by
  unfold wpX2_bitsAt
  exact List.forall_mem_cons.mpr ⟨rfl, List.forall_mem_append.mpr ⟨gwoX2_bitsAt, fun _ h => absurd h List.not_mem_nil⟩⟩
set_option maxRecDepth 100000 in
theorem toX2_bitsAt : ∀ w ∈ oX2_bitsAt, w ∈ lw_tbl := by
  unfold oX2_bitsAt
  exact List.forall_mem_cons.mpr ⟨(List.mem_of_getElem? (i := 282) (by decide +kernel)), fun _ h => absurd h List.not_mem_nil⟩
set_option maxRecDepth 100000 in
theorem tX2_bitsAt : ∀ w ∈ wpX2_bitsAt, w ∈ lw_tbl := by
  unfold wpX2_bitsAt
  exact List.forall_mem_cons.mpr ⟨(List.mem_of_getElem? (i := 339) (by rfl)), List.forall_mem_append.mpr ⟨toX2_bitsAt, fun _ h => absurd h List.not_mem_nil⟩⟩
set_option maxHeartbeats 4000000 in
set_option maxRecDepth 100000 in
theorem c_X2_bitsAt (l : Launch) (D : va_G) (cI cJ cZ : ClassId) (sz : Nat) (b : Int32) : Met l yX2_bitsAt wpX2_bitsAt ({ frames := 0, cells := 0, slots := 0, locals := 0 }) (va_Pc ([.int b] : List Value) (sp_pre D vwCl (sp_ty cI cJ cZ) [] sz)) (va_Qi (fun (r : Int32) (_ : Unit) => r = sq_po b) (sp_B D vwCl (va_A [] sz) (fun (_ : Unit) => [])) (va_A [] sz)) 0 0 (va_A [] sz) := by
  refine sp_ofW (Qc := fun A => va_Qi (fun (r : Int32) (_ : Unit) => r = sq_po b) (sp_B D vwCl A (fun (_ : Unit) => [])) A) (by decide) rfl (Nat.le_of_ble_eq_true rfl) (fun p e s m below meth c A ls H locs C0 hA hS hP hK hD hl => ?_)
  obtain ⟨hx, hb, hr, hts, hown, hlocks, hml, hin⟩ := id C0
  have hown : s.vm.findClass RX2 = some m.cls := hown
  have hl : lv_has ls 1 [(0, .int b)] := hl
  have hK : va_K D vwCl [(cI, .int), (cJ, .long), (cZ, .boolean)] s := hK
  refine lv_iload_n hx hb dX2_bitsAt_0 rfl (lv_at hl 0 rfl) ?_
  refine lv_if_ge (tgt := 11) hx hb dX2_bitsAt_1 (by decide) (fun c1 => ?_) (fun c1 => ?_)
  · skip
    have c1i : 0 ≤ (b : Int32).toInt := Int32.le_iff_toInt_le.mp c1
    refine lv_iload_n hx hb dX2_bitsAt_11 rfl (lv_at hl 0 rfl) ?_
    refine W.widen (k := 0) (n := 0) (by decide) (by decide) ?_
    exact sp_iret (u := ()) hx hb hr hlocks hS (by unfold sq_po; split <;> first | (exfalso; omega) | rfl) (hP.sub [] rfl) (hD.sub [] (by decide) rfl) dX2_bitsAt_12
  · skip
    have c1i : ¬ 0 ≤ (b : Int32).toInt := fun h => c1 (Int32.le_iff_toInt_le.mpr h)
    refine lv_iload_n hx hb dX2_bitsAt_4 rfl (lv_at hl 0 rfl) ?_
    refine lv_ldc (v := 2147483647) hx hb hown (hts (.constant RX2 9 (2147483647)) (oX2_bitsAt_in _ (List.mem_of_getElem? (i := 0) rfl))) dX2_bitsAt_5 ?_
    refine lv_ixor hx hb dX2_bitsAt_7 ?_
    refine lv_goto (tgt := 12) hx hb dX2_bitsAt_8 (by decide) ?_
    refine W.widen (k := 0) (n := 0) (by decide) (by decide) ?_
    exact sp_iret (u := ()) hx hb hr hlocks hS (by unfold sq_po; split <;> first | (exfalso; omega) | rfl) (hP.sub [] rfl) (hD.sub [] (by decide) rfl) dX2_bitsAt_12
def oX2_rank : List Cond := []
def wpX2_rank : List Cond := .code yX2_rank cX2_rank 1 (some .int) :: (oX2_rank ++ ([] : List Cond))
theorem oX2_rank_in : ∀ w ∈ oX2_rank, w ∈ wpX2_rank := fun w h => List.mem_cons_of_mem _ (List.mem_append_left _ h)
theorem gwoX2_rank : ∀ w ∈ oX2_rank, goodWord w = true := by decide +kernel
theorem gwX2_rank : ∀ w ∈ wpX2_rank, goodWord w = true := by
  unfold wpX2_rank
  exact List.forall_mem_cons.mpr ⟨rfl, List.forall_mem_append.mpr ⟨gwoX2_rank, fun _ h => absurd h List.not_mem_nil⟩⟩
set_option maxRecDepth 100000 in
theorem toX2_rank : ∀ w ∈ oX2_rank, w ∈ lw_tbl := by
  unfold oX2_rank
  exact fun _ h => absurd h List.not_mem_nil
set_option maxRecDepth 100000 in
theorem tX2_rank : ∀ w ∈ wpX2_rank, w ∈ lw_tbl := by
  unfold wpX2_rank
  exact List.forall_mem_cons.mpr ⟨(List.mem_of_getElem? (i := 446) (by rfl)), List.forall_mem_append.mpr ⟨toX2_rank, fun _ h => absurd h List.not_mem_nil⟩⟩
set_option maxHeartbeats 4000000 in
set_option maxRecDepth 100000 in
theorem c_X2_rank (l : Launch) (D : va_G) (cI cJ cZ : ClassId) (sz : Nat) (b : Int32) : Met l yX2_rank wpX2_rank ({ frames := 0, cells := 0, slots := 0, locals := 0 }) (va_Pc ([.int b] : List Value) (sp_pre D vwCl (sp_ty cI cJ cZ) [] sz)) (va_Qi (fun (r : Int32) (_ : Unit) => True) (sp_B D vwCl (va_A [] sz) (fun (_ : Unit) => [])) (va_A [] sz)) 0 0 (va_A [] sz) := by
  refine sp_ofW (Qc := fun A => va_Qi (fun (r : Int32) (_ : Unit) => True) (sp_B D vwCl A (fun (_ : Unit) => [])) A) (by decide) rfl (Nat.le_of_ble_eq_true rfl) (fun p e s m below meth c A ls H locs C0 hA hS hP hK hD hl => ?_)
  obtain ⟨hx, hb, hr, hts, hown, hlocks, hml, hin⟩ := id C0
  have hown : s.vm.findClass RX2 = some m.cls := hown
  have hl : lv_has ls 1 [(0, .int b)] := hl
  have hK : va_K D vwCl [(cI, .int), (cJ, .long), (cZ, .boolean)] s := hK
  refine lv_iload_n hx hb dX2_rank_0 rfl (lv_at hl 0 rfl) ?_
  have hj5 : ∀ (z4 : Int32) (H : Heap) (locs : List Loc) (ls : Array Slot), va_P D vwCl [] H → va_D A [] → va_S A s.heap H locs → lv_has ls 1 [(0, .int b)] → W p l e ({ frames := 0, cells := 0, slots := 0, locals := 0 }) s m (([.int b] : List Value).toArray) below meth c H locs 0 0 (MQ below (va_Qi (fun (r : Int32) (_ : Unit) => True) (sp_B D vwCl A (fun (_ : Unit) => [])) A) ([.int b] : List Value).toArray s 0 0 A) (F0 m 11 ls [.int z4]) := by
    intro z4 H locs ls  hP hD hS hl
    refine W.widen (k := 0) (n := 0) (by decide) (by decide) ?_
    exact sp_iret (u := ()) hx hb hr hlocks hS trivial (hP.sub [] rfl) (hD.sub [] (by decide) rfl) dX2_rank_11
  refine lv_if_ge (tgt := 10) hx hb dX2_rank_1 (by decide) (fun c1 => ?_) (fun c1 => ?_)
  · skip
    have c1i : 0 ≤ (b : Int32).toInt := Int32.le_iff_toInt_le.mp c1
    refine lv_iload_n hx hb dX2_rank_10 rfl (lv_at hl 0 rfl) ?_
    exact hj5 (b) _ _ _ (hP.sub [] rfl) (hD.sub [] (by decide) rfl) hS (lv_sub hl [0] rfl)
  · skip
    have c1i : ¬ 0 ≤ (b : Int32).toInt := fun h => c1 (Int32.le_iff_toInt_le.mpr h)
    refine lv_iload_n hx hb dX2_rank_4 rfl (lv_at hl 0 rfl) ?_
    refine lv_iconst (v := 1) hx hb dX2_rank_5 (by decide) ?_
    refine lv_iadd hx hb dX2_rank_6 ?_
    refine lv_goto (tgt := 11) hx hb dX2_rank_7 (by decide) ?_
    exact hj5 ((b + 1)) _ _ _ (hP.sub [] rfl) (hD.sub [] (by decide) rfl) hS (lv_sub hl [0] rfl)
def oX2_significand : List Cond := [.constant RX2 11 (8388607), .constant RX2 10 (2139095040), .constant RX2 12 (8388608)]
def wpX2_significand : List Cond := .code yX2_significand cX2_significand 2 (some .long) :: (oX2_significand ++ ([] : List Cond))
theorem oX2_significand_in : ∀ w ∈ oX2_significand, w ∈ wpX2_significand := fun w h => List.mem_cons_of_mem _ (List.mem_append_left _ h)
theorem gwoX2_significand : ∀ w ∈ oX2_significand, goodWord w = true := by decide +kernel
theorem gwX2_significand : ∀ w ∈ wpX2_significand, goodWord w = true := by
  unfold wpX2_significand
  exact List.forall_mem_cons.mpr ⟨rfl, List.forall_mem_append.mpr ⟨gwoX2_significand, fun _ h => absurd h List.not_mem_nil⟩⟩
set_option maxRecDepth 100000 in
theorem toX2_significand : ∀ w ∈ oX2_significand, w ∈ lw_tbl := by
  unfold oX2_significand
  exact List.forall_mem_cons.mpr ⟨(List.mem_of_getElem? (i := 368) (by decide +kernel)), List.forall_mem_cons.mpr ⟨(List.mem_of_getElem? (i := 283) (by decide +kernel)), List.forall_mem_cons.mpr ⟨(List.mem_of_getElem? (i := 369) (by decide +kernel)), fun _ h => absurd h List.not_mem_nil⟩⟩⟩
set_option maxRecDepth 100000 in
theorem tX2_significand : ∀ w ∈ wpX2_significand, w ∈ lw_tbl := by
  unfold wpX2_significand
  exact List.forall_mem_cons.mpr ⟨(List.mem_of_getElem? (i := 367) (by rfl)), List.forall_mem_append.mpr ⟨toX2_significand, fun _ h => absurd h List.not_mem_nil⟩⟩
set_option maxHeartbeats 4000000 in
set_option maxRecDepth 100000 in
theorem c_X2_significand (l : Launch) (D : va_G) (cI cJ cZ : ClassId) (sz : Nat) (b : Int32) : Met l yX2_significand wpX2_significand ({ frames := 0, cells := 0, slots := 0, locals := 0 }) (va_Pc ([.int b] : List Value) (sp_pre D vwCl (sp_ty cI cJ cZ) [] sz)) (va_Ql (fun (r : Int64) (_ : Unit) => True) (sp_B D vwCl (va_A [] sz) (fun (_ : Unit) => [])) (va_A [] sz)) 0 0 (va_A [] sz) := by
  refine sp_ofW (Qc := fun A => va_Ql (fun (r : Int64) (_ : Unit) => True) (sp_B D vwCl A (fun (_ : Unit) => [])) A) (by decide) rfl (Nat.le_of_ble_eq_true rfl) (fun p e s m below meth c A ls H locs C0 hA hS hP hK hD hl => ?_)
  obtain ⟨hx, hb, hr, hts, hown, hlocks, hml, hin⟩ := id C0
  have hown : s.vm.findClass RX2 = some m.cls := hown
  have hl : lv_has ls 2 [(0, .int b)] := hl
  have hK : va_K D vwCl [(cI, .int), (cJ, .long), (cZ, .boolean)] s := hK
  refine lv_iload_n hx hb dX2_significand_0 rfl (lv_at hl 0 rfl) ?_
  refine lv_ldc (v := 8388607) hx hb hown (hts (.constant RX2 11 (8388607)) (oX2_significand_in _ (List.mem_of_getElem? (i := 0) rfl))) dX2_significand_1 ?_
  refine lv_iand hx hb dX2_significand_3 ?_
  refine lv_istore_n (lv' := [(1, .int (b &&& 8388607)), (0, .int b)]) hx hb dX2_significand_4 rfl hl (by decide) rfl (fun ls hl => ?_)
  refine lv_iload_n hx hb dX2_significand_5 rfl (lv_at hl 1 rfl) ?_
  refine lv_ldc (v := 2139095040) hx hb hown (hts (.constant RX2 10 (2139095040)) (oX2_significand_in _ (List.mem_of_getElem? (i := 1) rfl))) dX2_significand_6 ?_
  refine lv_iand hx hb dX2_significand_8 ?_
  have hj5 : ∀ (z4 : Int64) (H : Heap) (locs : List Loc) (ls : Array Slot), va_P D vwCl [] H → va_D A [] → va_S A s.heap H locs → lv_has ls 2 [(1, .int (b &&& 8388607)), (0, .int b)] → W p l e ({ frames := 0, cells := 0, slots := 0, locals := 0 }) s m (([.int b] : List Value).toArray) below meth c H locs 0 0 (MQ below (va_Ql (fun (r : Int64) (_ : Unit) => True) (sp_B D vwCl A (fun (_ : Unit) => [])) A) ([.int b] : List Value).toArray s 0 0 A) (F0 m 22 ls [.long z4]) := by
    intro z4 H locs ls  hP hD hS hl
    refine W.widen (k := 0) (n := 0) (by decide) (by decide) ?_
    exact sp_lret (u := ()) hx hb hr hlocks hS trivial (hP.sub [] rfl) (hD.sub [] (by decide) rfl) dX2_significand_22
  refine lv_if_ne (tgt := 17) hx hb dX2_significand_9 (by decide) (fun c1 => ?_) (fun c1 => ?_)
  · skip
    have c1i : ¬ ((b &&& 2139095040) : Int32).toInt = 0 := fun h => c1 (Int32.toInt_inj.mp h)
    refine lv_iload_n hx hb dX2_significand_17 rfl (lv_at hl 0 rfl) ?_
    refine lv_ldc (v := 8388608) hx hb hown (hts (.constant RX2 12 (8388608)) (oX2_significand_in _ (List.mem_of_getElem? (i := 2) rfl))) dX2_significand_18 ?_
    refine lv_ior hx hb dX2_significand_20 ?_
    refine lv_i2l (v := _) hx hb dX2_significand_21 rfl ?_
    exact hj5 ((((b &&& 8388607) ||| 8388608) : Int32).toInt64) _ _ _ (hP.sub [] rfl) (hD.sub [] (by decide) rfl) hS (lv_sub hl [0, 1] rfl)
  · skip
    have c1i : ((b &&& 2139095040) : Int32).toInt = 0 := congrArg Int32.toInt c1
    refine lv_iload_n hx hb dX2_significand_12 rfl (lv_at hl 0 rfl) ?_
    refine lv_i2l (v := _) hx hb dX2_significand_13 rfl ?_
    refine lv_goto (tgt := 22) hx hb dX2_significand_14 (by decide) ?_
    exact hj5 (((b &&& 8388607) : Int32).toInt64) _ _ _ (hP.sub [] rfl) (hD.sub [] (by decide) rfl) hS (lv_sub hl [0, 1] rfl)
def oX2_exponent : List Cond := [.constant RX2 9 (2147483647)]
def wpX2_exponent : List Cond := .code yX2_exponent cX2_exponent 2 (some .int) :: (oX2_exponent ++ ([] : List Cond))
theorem oX2_exponent_in : ∀ w ∈ oX2_exponent, w ∈ wpX2_exponent := fun w h => List.mem_cons_of_mem _ (List.mem_append_left _ h)
theorem gwoX2_exponent : ∀ w ∈ oX2_exponent, goodWord w = true := by decide +kernel
theorem gwX2_exponent : ∀ w ∈ wpX2_exponent, goodWord w = true := by
  unfold wpX2_exponent
  exact List.forall_mem_cons.mpr ⟨rfl, List.forall_mem_append.mpr ⟨gwoX2_exponent, fun _ h => absurd h List.not_mem_nil⟩⟩
set_option maxRecDepth 100000 in
theorem toX2_exponent : ∀ w ∈ oX2_exponent, w ∈ lw_tbl := by
  unfold oX2_exponent
  exact List.forall_mem_cons.mpr ⟨(List.mem_of_getElem? (i := 282) (by decide +kernel)), fun _ h => absurd h List.not_mem_nil⟩
set_option maxRecDepth 100000 in
theorem tX2_exponent : ∀ w ∈ wpX2_exponent, w ∈ lw_tbl := by
  unfold wpX2_exponent
  exact List.forall_mem_cons.mpr ⟨(List.mem_of_getElem? (i := 361) (by rfl)), List.forall_mem_append.mpr ⟨toX2_exponent, fun _ h => absurd h List.not_mem_nil⟩⟩
set_option maxHeartbeats 4000000 in
set_option maxRecDepth 100000 in
theorem c_X2_exponent (l : Launch) (D : va_G) (cI cJ cZ : ClassId) (sz : Nat) (b : Int32) : Met l yX2_exponent wpX2_exponent ({ frames := 0, cells := 0, slots := 0, locals := 0 }) (va_Pc ([.int b] : List Value) (sp_pre D vwCl (sp_ty cI cJ cZ) [] sz)) (va_Qi (fun (r : Int32) (_ : Unit) => True) (sp_B D vwCl (va_A [] sz) (fun (_ : Unit) => [])) (va_A [] sz)) 0 0 (va_A [] sz) := by
  refine sp_ofW (Qc := fun A => va_Qi (fun (r : Int32) (_ : Unit) => True) (sp_B D vwCl A (fun (_ : Unit) => [])) A) (by decide) rfl (Nat.le_of_ble_eq_true rfl) (fun p e s m below meth c A ls H locs C0 hA hS hP hK hD hl => ?_)
  obtain ⟨hx, hb, hr, hts, hown, hlocks, hml, hin⟩ := id C0
  have hown : s.vm.findClass RX2 = some m.cls := hown
  have hl : lv_has ls 2 [(0, .int b)] := hl
  have hK : va_K D vwCl [(cI, .int), (cJ, .long), (cZ, .boolean)] s := hK
  refine lv_iload_n hx hb dX2_exponent_0 rfl (lv_at hl 0 rfl) ?_
  refine lv_ldc (v := 2147483647) hx hb hown (hts (.constant RX2 9 (2147483647)) (oX2_exponent_in _ (List.mem_of_getElem? (i := 0) rfl))) dX2_exponent_1 ?_
  refine lv_iand hx hb dX2_exponent_3 ?_
  refine lv_bipush (v := 23) hx hb dX2_exponent_4 (by decide) ?_
  refine lv_iushr (v := _) hx hb dX2_exponent_6 rfl ?_
  refine lv_istore_n (lv' := [(1, .int ((((b &&& 2147483647) : Int32).toUInt32 >>> ((23 : Int32).toUInt32 &&& Int32.toUInt32 31)).toInt32)), (0, .int b)]) hx hb dX2_exponent_7 rfl hl (by decide) rfl (fun ls hl => ?_)
  refine lv_iload_n hx hb dX2_exponent_8 rfl (lv_at hl 0 rfl) ?_
  have hj5 : ∀ (z4 : Int32) (H : Heap) (locs : List Loc) (ls : Array Slot), va_P D vwCl [] H → va_D A [] → va_S A s.heap H locs → lv_has ls 2 [(1, .int ((((b &&& 2147483647) : Int32).toUInt32 >>> ((23 : Int32).toUInt32 &&& Int32.toUInt32 31)).toInt32)), (0, .int b)] → W p l e ({ frames := 0, cells := 0, slots := 0, locals := 0 }) s m (([.int b] : List Value).toArray) below meth c H locs 0 0 (MQ below (va_Qi (fun (r : Int32) (_ : Unit) => True) (sp_B D vwCl A (fun (_ : Unit) => [])) A) ([.int b] : List Value).toArray s 0 0 A) (F0 m 23 ls [.int z4]) := by
    intro z4 H locs ls  hP hD hS hl
    refine W.widen (k := 0) (n := 0) (by decide) (by decide) ?_
    exact sp_iret (u := ()) hx hb hr hlocks hS trivial (hP.sub [] rfl) (hD.sub [] (by decide) rfl) dX2_exponent_23
  refine lv_if_ne (tgt := 18) hx hb dX2_exponent_9 (by decide) (fun c1 => ?_) (fun c1 => ?_)
  · skip
    have c1i : ¬ (((((b &&& 2147483647) : Int32).toUInt32 >>> ((23 : Int32).toUInt32 &&& Int32.toUInt32 31)).toInt32) : Int32).toInt = 0 := fun h => c1 (Int32.toInt_inj.mp h)
    refine lv_iload_n hx hb dX2_exponent_18 rfl (lv_at hl 0 rfl) ?_
    refine lv_sipush (v := 150) hx hb dX2_exponent_19 (by decide) ?_
    refine lv_isub hx hb dX2_exponent_22 ?_
    exact hj5 ((((((b &&& 2147483647) : Int32).toUInt32 >>> ((23 : Int32).toUInt32 &&& Int32.toUInt32 31)).toInt32) - 150)) _ _ _ (hP.sub [] rfl) (hD.sub [] (by decide) rfl) hS (lv_sub hl [0, 1] rfl)
  · skip
    have c1i : (((((b &&& 2147483647) : Int32).toUInt32 >>> ((23 : Int32).toUInt32 &&& Int32.toUInt32 31)).toInt32) : Int32).toInt = 0 := congrArg Int32.toInt c1
    refine lv_sipush (v := (-149)) hx hb dX2_exponent_12 (by decide) ?_
    refine lv_goto (tgt := 23) hx hb dX2_exponent_15 (by decide) ?_
    exact hj5 ((-149)) _ _ _ (hP.sub [] rfl) (hD.sub [] (by decide) rfl) hS (lv_sub hl [0, 1] rfl)
def oX2_nearest : List Cond := [.methodLink RX2 19 Lib.Math.max.name, .static Lib.Math.max.name, .initialized "java/lang/Math", .code Lib.Math.max.name Lib.Math.max.code 2 (some .int), .constant RX2 10 (2139095040)]
def wpX2_nearest : List Cond := .code yX2_nearest cX2_nearest 13 (some .int) :: (oX2_nearest ++ ((va_wsS RX2 13 yJ13_numberOfLeadingZeros_95d88 wpJ13_numberOfLeadingZeros_95d88) ++ ([] : List Cond)))
theorem oX2_nearest_in : ∀ w ∈ oX2_nearest, w ∈ wpX2_nearest := fun w h => List.mem_cons_of_mem _ (List.mem_append_left _ h)
theorem gwoX2_nearest : ∀ w ∈ oX2_nearest, goodWord w = true := by decide +kernel
theorem gwX2_nearest : ∀ w ∈ wpX2_nearest, goodWord w = true := by
  unfold wpX2_nearest
  exact List.forall_mem_cons.mpr ⟨rfl, List.forall_mem_append.mpr ⟨gwoX2_nearest, List.forall_mem_append.mpr ⟨(sp_gS gwJ13_numberOfLeadingZeros_95d88), fun _ h => absurd h List.not_mem_nil⟩⟩⟩
set_option maxRecDepth 100000 in
theorem toX2_nearest : ∀ w ∈ oX2_nearest, w ∈ lw_tbl := by
  unfold oX2_nearest
  exact List.forall_mem_cons.mpr ⟨(List.mem_of_getElem? (i := 384) (by decide +kernel)), List.forall_mem_cons.mpr ⟨(List.mem_of_getElem? (i := 385) (by decide +kernel)), List.forall_mem_cons.mpr ⟨(List.mem_of_getElem? (i := 48) (by decide +kernel)), List.forall_mem_cons.mpr ⟨(List.mem_of_getElem? (i := 386) (by rfl)), List.forall_mem_cons.mpr ⟨(List.mem_of_getElem? (i := 283) (by decide +kernel)), fun _ h => absurd h List.not_mem_nil⟩⟩⟩⟩⟩
set_option maxRecDepth 100000 in
theorem tX2_nearest : ∀ w ∈ wpX2_nearest, w ∈ lw_tbl := by
  unfold wpX2_nearest
  exact List.forall_mem_cons.mpr ⟨(List.mem_of_getElem? (i := 376) (by rfl)), List.forall_mem_append.mpr ⟨toX2_nearest, List.forall_mem_append.mpr ⟨(sp_tS (List.mem_of_getElem? (i := 377) (by decide +kernel)) (List.mem_of_getElem? (i := 378) (by decide +kernel)) (List.mem_of_getElem? (i := 49) (by decide +kernel)) tJ13_numberOfLeadingZeros_95d88), fun _ h => absurd h List.not_mem_nil⟩⟩⟩
theorem gX2_nearest_J13_numberOfLeadingZeros_95d88_13 : GoodIn wpX2_nearest (va_wsS RX2 13 yJ13_numberOfLeadingZeros_95d88 wpJ13_numberOfLeadingZeros_95d88) := fun w h => ⟨List.mem_cons_of_mem _ (List.mem_append_right _ (List.mem_append_left _ h)), good_of_word (sp_gS gwJ13_numberOfLeadingZeros_95d88 w h)⟩
set_option maxHeartbeats 4000000 in
set_option maxRecDepth 100000 in
theorem c_X2_nearest (l : Launch) (D : va_G) (cI cJ cZ : ClassId) (sz : Nat) (g : Int32) (f : Int64) (x : Int32) : Met l yX2_nearest wpX2_nearest ({ frames := 2, cells := 0, slots := 0, locals := 43 }) (va_Pc ([.int g, .long f, .int x] : List Value) (sp_pre D vwCl (sp_ty cI cJ cZ) [] sz)) (va_Qi (fun (r : Int32) (_ : Unit) => True) (sp_B D vwCl (va_A [] sz) (fun (_ : Unit) => [])) (va_A [] sz)) 0 0 (va_A [] sz) := by
  refine sp_ofW (Qc := fun A => va_Qi (fun (r : Int32) (_ : Unit) => True) (sp_B D vwCl A (fun (_ : Unit) => [])) A) (by decide) rfl (Nat.le_of_ble_eq_true rfl) (fun p e s m below meth c A ls H locs C0 hA hS hP hK hD hl => ?_)
  obtain ⟨hx, hb, hr, hts, hown, hlocks, hml, hin⟩ := id C0
  have hown : s.vm.findClass RX2 = some m.cls := hown
  have hl : lv_has ls 13 [(0, .int g), (1, .long f), (3, .int x)] := hl
  have hK : va_K D vwCl [(cI, .int), (cJ, .long), (cZ, .boolean)] s := hK
  refine lv_lload_n hx hb dX2_nearest_0 rfl (lv_at hl 1 rfl) ?_
  refine lv_lconst (v := 0) hx hb dX2_nearest_1 (by decide) ?_
  refine W.lcmp hx hb dX2_nearest_2 ?_
  refine lv_if_ne (tgt := 8) hx hb dX2_nearest_3 (by decide) (fun c1 => ?_) (fun c1 => ?_)
  · skip
    have c1 := fun h => c1 ((lg_cmp_eq _ _).mpr h)
    have c1i : ¬ (f : Int64).toInt = 0 := fun h => c1 (Int64.toInt_inj.mp h)
    refine lv_bipush (v := 64) hx hb dX2_nearest_8 (by decide) ?_
    refine lv_lload_n hx hb dX2_nearest_10 rfl (lv_at hl 1 rfl) ?_
    refine sp_calli (wr := []) (wc := []) hP hD hS hA [] [] rfl rfl (by decide) (by decide) (va_runS (As := [.long f]) (rest := [.int 64]) ⟨hx, hb, hml, hown, hts⟩ (c_J13_numberOfLeadingZeros_95d88 l D cI cJ cZ H.size (f)) (va_cwS 1 hts gX2_nearest_J13_numberOfLeadingZeros_95d88_13 rfl rfl rfl (by decide +kernel) ⟨Nat.le_of_ble_eq_true rfl, Nat.le_of_ble_eq_true rfl⟩) (sp_preS [.long f] hK (hP.sub (ws' := []) [] rfl) (hD.sub (ws' := []) [] (by decide) rfl)) rfl rfl hl.1 rfl (lv_room (Nat.le_of_ble_eq_true rfl)) dX2_nearest_11 ⟨Nat.le_of_ble_eq_true rfl, Nat.le_of_ble_eq_true rfl⟩) (fun r2 u3 H locs hw4 hP hD hS => ?_)
    have hP : va_P D vwCl [] H := hP
    have hD : va_D A [] := hD
    refine lv_isub hx hb dX2_nearest_14 ?_
    refine lv_istore (lv' := [(4, .int (64 - r2)), (0, .int g), (1, .long f), (3, .int x)]) hx hb dX2_nearest_15 hl (by decide) rfl (fun ls hl => ?_)
    refine lv_iload_n hx hb dX2_nearest_17 rfl (lv_at hl 3 rfl) ?_
    refine lv_iload hx hb dX2_nearest_18 (lv_at hl 0 rfl) ?_
    refine lv_iadd hx hb dX2_nearest_20 ?_
    refine lv_bipush (v := 24) hx hb dX2_nearest_21 (by decide) ?_
    refine lv_isub hx hb dX2_nearest_23 ?_
    refine lv_sipush (v := (-149)) hx hb dX2_nearest_24 (by decide) ?_
    refine va_mmax hx hb (by rw [hml]; exact hl.1.symm) hown (hts (.methodLink RX2 19 Lib.Math.max.name) (oX2_nearest_in _ (List.mem_of_getElem? (i := 0) rfl))) (hts (.static Lib.Math.max.name) (oX2_nearest_in _ (List.mem_of_getElem? (i := 1) rfl))) (hts (.initialized "java/lang/Math") (oX2_nearest_in _ (List.mem_of_getElem? (i := 2) rfl))) (hts (.code Lib.Math.max.name Lib.Math.max.code 2 (some .int)) (oX2_nearest_in _ (List.mem_of_getElem? (i := 3) rfl))) (Nat.le_of_ble_eq_true rfl) (Nat.le_of_ble_eq_true rfl) (Nat.le_of_ble_eq_true rfl) (Nat.le_of_ble_eq_true rfl) dX2_nearest_27 ?_
    refine lv_topi (fun y5 e6 => ?_)
    refine lv_istore (lv' := [(5, .int y5), (4, .int (64 - r2)), (0, .int g), (1, .long f), (3, .int x)]) hx hb dX2_nearest_30 hl (by decide) rfl (fun ls hl => ?_)
    refine lv_iload hx hb dX2_nearest_32 (lv_at hl 0 rfl) ?_
    refine lv_iload_n hx hb dX2_nearest_34 rfl (lv_at hl 4 rfl) ?_
    refine lv_isub hx hb dX2_nearest_35 ?_
    refine lv_istore (lv' := [(6, .int (y5 - x)), (5, .int y5), (4, .int (64 - r2)), (0, .int g), (1, .long f), (3, .int x)]) hx hb dX2_nearest_36 hl (by decide) rfl (fun ls hl => ?_)
    refine lv_iload hx hb dX2_nearest_38 (lv_at hl 1 rfl) ?_
    refine lv_bipush (v := 104) hx hb dX2_nearest_40 (by decide) ?_
    refine lv_icmp_le (tgt := 50) hx hb dX2_nearest_42 (by decide) (fun c7 => ?_) (fun c7 => ?_)
    · skip
      have c7i : (y5 : Int32).toInt ≤ 104 := Int32.le_iff_toInt_le.mp c7
      refine lv_iload hx hb dX2_nearest_50 (lv_at hl 0 rfl) ?_
      refine lv_iload hx hb dX2_nearest_52 (lv_at hl 2 rfl) ?_
      refine lv_icmp_le (tgt := 59) hx hb dX2_nearest_54 (by decide) (fun c8 => ?_) (fun c8 => ?_)
      · skip
        have c8i : ((y5 - x) : Int32).toInt ≤ ((64 - r2) : Int32).toInt := Int32.le_iff_toInt_le.mp c8
        refine lv_lload_n hx hb dX2_nearest_59 rfl (lv_at hl 4 rfl) ?_
        refine lv_iload hx hb dX2_nearest_60 (lv_at hl 0 rfl) ?_
        refine lv_ineg hx hb dX2_nearest_62 ?_
        refine lv_iconst (v := 0) hx hb dX2_nearest_63 (by decide) ?_
        refine va_mmax hx hb (by rw [hml]; exact hl.1.symm) hown (hts (.methodLink RX2 19 Lib.Math.max.name) (oX2_nearest_in _ (List.mem_of_getElem? (i := 0) rfl))) (hts (.static Lib.Math.max.name) (oX2_nearest_in _ (List.mem_of_getElem? (i := 1) rfl))) (hts (.initialized "java/lang/Math") (oX2_nearest_in _ (List.mem_of_getElem? (i := 2) rfl))) (hts (.code Lib.Math.max.name Lib.Math.max.code 2 (some .int)) (oX2_nearest_in _ (List.mem_of_getElem? (i := 3) rfl))) (Nat.le_of_ble_eq_true rfl) (Nat.le_of_ble_eq_true rfl) (Nat.le_of_ble_eq_true rfl) (Nat.le_of_ble_eq_true rfl) dX2_nearest_64 ?_
        refine lv_topi (fun y9 e10 => ?_)
        refine lv_lshl (v := _) hx hb dX2_nearest_67 rfl ?_
        refine lv_lstore (lv' := [(7, .long (f <<< ((y9 : Int32).toInt64 &&& 63))), (6, .int (y5 - x)), (5, .int y5), (4, .int (64 - r2)), (0, .int g), (1, .long f), (3, .int x)]) hx hb dX2_nearest_68 hl (by decide) rfl (fun ls hl => ?_)
        refine lv_iload hx hb dX2_nearest_70 (lv_at hl 1 rfl) ?_
        have hj30 : ∀ (z29 : Int64) (H : Heap) (locs : List Loc) (ls : Array Slot), va_P D vwCl [] H → va_D A [] → va_S A s.heap H locs → lv_has ls 13 [(7, .long z29), (6, .int (y5 - x)), (5, .int y5), (4, .int (64 - r2)), (0, .int g), (1, .long f), (3, .int x)] → W p l e ({ frames := 2, cells := 0, slots := 0, locals := 43 }) s m (([.int g, .long f, .int x] : List Value).toArray) below meth c H locs 0 0 (MQ below (va_Qi (fun (r : Int32) (_ : Unit) => True) (sp_B D vwCl A (fun (_ : Unit) => [])) A) ([.int g, .long f, .int x] : List Value).toArray s 0 0 A) (F0 m 129 ls []) := by
          intro z29 H locs ls  hP hD hS hl
          refine lv_iload_n hx hb dX2_nearest_129 rfl (lv_at hl 4 rfl) ?_
          refine lv_iload hx hb dX2_nearest_130 (lv_at hl 2 rfl) ?_
          refine lv_sipush (v := 149) hx hb dX2_nearest_132 (by decide) ?_
          refine lv_iadd hx hb dX2_nearest_135 ?_
          refine lv_bipush (v := 23) hx hb dX2_nearest_136 (by decide) ?_
          refine lv_ishl hx hb dX2_nearest_138 ?_
          refine lv_lload hx hb dX2_nearest_139 (lv_at hl 0 rfl) ?_
          refine lv_l2i (v := _) hx hb dX2_nearest_141 rfl ?_
          refine lv_iadd hx hb dX2_nearest_142 ?_
          refine lv_ior hx hb dX2_nearest_143 ?_
          refine W.widen (k := 0) (n := 0) (by decide) (by decide) ?_
          exact sp_iret (u := ()) hx hb hr hlocks hS trivial (hP.sub [] rfl) (hD.sub [] (by decide) rfl) dX2_nearest_144
        refine lv_if_le (tgt := 129) hx hb dX2_nearest_72 (by decide) (fun c11 => ?_) (fun c11 => ?_)
        · skip
          have c11i : ((y5 - x) : Int32).toInt ≤ 0 := Int32.le_iff_toInt_le.mp c11
          exact hj30 ((f <<< ((y9 : Int32).toInt64 &&& 63))) _ _ _ (hP.sub [] rfl) (hD.sub [] (by decide) rfl) hS (lv_sub hl [0, 1, 2, 3, 4, 5, 6] rfl)
        · skip
          have c11i : ¬ ((y5 - x) : Int32).toInt ≤ 0 := fun h => c11 (Int32.le_iff_toInt_le.mpr h)
          refine lv_lload_n hx hb dX2_nearest_75 rfl (lv_at hl 5 rfl) ?_
          refine lv_iload hx hb dX2_nearest_76 (lv_at hl 1 rfl) ?_
          refine lv_lushr (v := _) hx hb dX2_nearest_78 rfl ?_
          refine lv_lstore (lv' := [(7, .long (((f : Int64).toUInt64 >>> (((y5 - x) : Int32).toInt64.toUInt64 &&& Int64.toUInt64 63)).toInt64)), (6, .int (y5 - x)), (5, .int y5), (4, .int (64 - r2)), (0, .int g), (1, .long f), (3, .int x)]) hx hb dX2_nearest_79 hl (by decide) rfl (fun ls hl => ?_)
          refine lv_lload_n hx hb dX2_nearest_81 rfl (lv_at hl 5 rfl) ?_
          refine lv_lload hx hb dX2_nearest_82 (lv_at hl 0 rfl) ?_
          refine lv_iload hx hb dX2_nearest_84 (lv_at hl 1 rfl) ?_
          refine lv_lshl (v := _) hx hb dX2_nearest_86 rfl ?_
          refine lv_lsub hx hb dX2_nearest_87 ?_
          refine lv_lstore (lv' := [(9, .long (f - ((((f : Int64).toUInt64 >>> (((y5 - x) : Int32).toInt64.toUInt64 &&& Int64.toUInt64 63)).toInt64) <<< (((y5 - x) : Int32).toInt64 &&& 63)))), (7, .long (((f : Int64).toUInt64 >>> (((y5 - x) : Int32).toInt64.toUInt64 &&& Int64.toUInt64 63)).toInt64)), (6, .int (y5 - x)), (5, .int y5), (4, .int (64 - r2)), (0, .int g), (1, .long f), (3, .int x)]) hx hb dX2_nearest_88 hl (by decide) rfl (fun ls hl => ?_)
          refine lv_lconst (v := 1) hx hb dX2_nearest_90 (by decide) ?_
          refine lv_iload hx hb dX2_nearest_91 (lv_at hl 2 rfl) ?_
          refine lv_iconst (v := 1) hx hb dX2_nearest_93 (by decide) ?_
          refine lv_isub hx hb dX2_nearest_94 ?_
          refine lv_lshl (v := _) hx hb dX2_nearest_95 rfl ?_
          refine lv_lstore (lv' := [(11, .long (1 <<< ((((y5 - x) - 1) : Int32).toInt64 &&& 63))), (9, .long (f - ((((f : Int64).toUInt64 >>> (((y5 - x) : Int32).toInt64.toUInt64 &&& Int64.toUInt64 63)).toInt64) <<< (((y5 - x) : Int32).toInt64 &&& 63)))), (7, .long (((f : Int64).toUInt64 >>> (((y5 - x) : Int32).toInt64.toUInt64 &&& Int64.toUInt64 63)).toInt64)), (6, .int (y5 - x)), (5, .int y5), (4, .int (64 - r2)), (0, .int g), (1, .long f), (3, .int x)]) hx hb dX2_nearest_96 hl (by decide) rfl (fun ls hl => ?_)
          refine lv_lload hx hb dX2_nearest_98 (lv_at hl 1 rfl) ?_
          refine lv_lload hx hb dX2_nearest_100 (lv_at hl 0 rfl) ?_
          refine W.lcmp hx hb dX2_nearest_102 ?_
          have hj27 : ∀ (z26 : Int64) (H : Heap) (locs : List Loc) (ls : Array Slot), va_P D vwCl [] H → va_D A [] → va_S A s.heap H locs → lv_has ls 13 [(7, .long z26), (11, .long (1 <<< ((((y5 - x) - 1) : Int32).toInt64 &&& 63))), (9, .long (f - ((((f : Int64).toUInt64 >>> (((y5 - x) : Int32).toInt64.toUInt64 &&& Int64.toUInt64 63)).toInt64) <<< (((y5 - x) : Int32).toInt64 &&& 63)))), (6, .int (y5 - x)), (5, .int y5), (4, .int (64 - r2)), (0, .int g), (1, .long f), (3, .int x)] → W p l e ({ frames := 2, cells := 0, slots := 0, locals := 43 }) s m (([.int g, .long f, .int x] : List Value).toArray) below meth c H locs 0 0 (MQ below (va_Qi (fun (r : Int32) (_ : Unit) => True) (sp_B D vwCl A (fun (_ : Unit) => [])) A) ([.int g, .long f, .int x] : List Value).toArray s 0 0 A) (F0 m 129 ls []) := by
            intro z26 H locs ls  hP hD hS hl
            exact hj30 (z26) _ _ _ (hP.sub [] rfl) (hD.sub [] (by decide) rfl) hS (lv_sub hl [0, 3, 4, 5, 6, 7, 8] rfl)
          refine lv_if_gt (tgt := 123) hx hb dX2_nearest_103 (by decide) (fun c13 => ?_) (fun c13 => ?_)
          · skip
            have c13 := (lg_cmp_gt _ _).mp c13
            have c13i : ((1 <<< ((((y5 - x) - 1) : Int32).toInt64 &&& 63)) : Int64).toInt < ((f - ((((f : Int64).toUInt64 >>> (((y5 - x) : Int32).toInt64.toUInt64 &&& Int64.toUInt64 63)).toInt64) <<< (((y5 - x) : Int32).toInt64 &&& 63))) : Int64).toInt := Int64.lt_iff_toInt_lt.mp c13
            refine lv_lload hx hb dX2_nearest_123 (lv_at hl 2 rfl) ?_
            refine lv_lconst (v := 1) hx hb dX2_nearest_125 (by decide) ?_
            refine lv_ladd hx hb dX2_nearest_126 ?_
            refine lv_lstore (lv' := [(7, .long ((((f : Int64).toUInt64 >>> (((y5 - x) : Int32).toInt64.toUInt64 &&& Int64.toUInt64 63)).toInt64) + 1)), (11, .long (1 <<< ((((y5 - x) - 1) : Int32).toInt64 &&& 63))), (9, .long (f - ((((f : Int64).toUInt64 >>> (((y5 - x) : Int32).toInt64.toUInt64 &&& Int64.toUInt64 63)).toInt64) <<< (((y5 - x) : Int32).toInt64 &&& 63)))), (6, .int (y5 - x)), (5, .int y5), (4, .int (64 - r2)), (0, .int g), (1, .long f), (3, .int x)]) hx hb dX2_nearest_127 hl (by decide) rfl (fun ls hl => ?_)
            exact hj27 (((((f : Int64).toUInt64 >>> (((y5 - x) : Int32).toInt64.toUInt64 &&& Int64.toUInt64 63)).toInt64) + 1)) _ _ _ (hP.sub [] rfl) (hD.sub [] (by decide) rfl) hS (lv_sub hl [0, 1, 2, 3, 4, 5, 6, 7, 8] rfl)
          · skip
            have c13 := fun h => c13 ((lg_cmp_gt _ _).mpr h)
            have c13i : ¬ ((1 <<< ((((y5 - x) - 1) : Int32).toInt64 &&& 63)) : Int64).toInt < ((f - ((((f : Int64).toUInt64 >>> (((y5 - x) : Int32).toInt64.toUInt64 &&& Int64.toUInt64 63)).toInt64) <<< (((y5 - x) : Int32).toInt64 &&& 63))) : Int64).toInt := fun h => c13 (Int64.lt_iff_toInt_lt.mpr h)
            refine lv_lload hx hb dX2_nearest_106 (lv_at hl 1 rfl) ?_
            refine lv_lload hx hb dX2_nearest_108 (lv_at hl 0 rfl) ?_
            refine W.lcmp hx hb dX2_nearest_110 ?_
            have hj24 : ∀ (z23 : Int64) (H : Heap) (locs : List Loc) (ls : Array Slot), va_P D vwCl [] H → va_D A [] → va_S A s.heap H locs → lv_has ls 13 [(11, .long (1 <<< ((((y5 - x) - 1) : Int32).toInt64 &&& 63))), (9, .long (f - ((((f : Int64).toUInt64 >>> (((y5 - x) : Int32).toInt64.toUInt64 &&& Int64.toUInt64 63)).toInt64) <<< (((y5 - x) : Int32).toInt64 &&& 63)))), (7, .long z23), (6, .int (y5 - x)), (5, .int y5), (4, .int (64 - r2)), (0, .int g), (1, .long f), (3, .int x)] → W p l e ({ frames := 2, cells := 0, slots := 0, locals := 43 }) s m (([.int g, .long f, .int x] : List Value).toArray) below meth c H locs 0 0 (MQ below (va_Qi (fun (r : Int32) (_ : Unit) => True) (sp_B D vwCl A (fun (_ : Unit) => [])) A) ([.int g, .long f, .int x] : List Value).toArray s 0 0 A) (F0 m 129 ls []) := by
              intro z23 H locs ls  hP hD hS hl
              exact hj27 (z23) _ _ _ (hP.sub [] rfl) (hD.sub [] (by decide) rfl) hS (lv_sub hl [2, 0, 1, 3, 4, 5, 6, 7, 8] rfl)
            refine lv_if_ne (tgt := 129) hx hb dX2_nearest_111 (by decide) (fun c15 => ?_) (fun c15 => ?_)
            · skip
              have c15 := fun h => c15 ((lg_cmp_eq _ _).mpr h)
              have c15i : ¬ ((f - ((((f : Int64).toUInt64 >>> (((y5 - x) : Int32).toInt64.toUInt64 &&& Int64.toUInt64 63)).toInt64) <<< (((y5 - x) : Int32).toInt64 &&& 63))) : Int64).toInt = ((1 <<< ((((y5 - x) - 1) : Int32).toInt64 &&& 63)) : Int64).toInt := fun h => c15 (Int64.toInt_inj.mp h)
              exact hj24 ((((f : Int64).toUInt64 >>> (((y5 - x) : Int32).toInt64.toUInt64 &&& Int64.toUInt64 63)).toInt64)) _ _ _ (hP.sub [] rfl) (hD.sub [] (by decide) rfl) hS (lv_sub hl [0, 1, 2, 3, 4, 5, 6, 7, 8] rfl)
            · skip
              have c15 := (lg_cmp_eq _ _).mp c15
              have c15i : ((f - ((((f : Int64).toUInt64 >>> (((y5 - x) : Int32).toInt64.toUInt64 &&& Int64.toUInt64 63)).toInt64) <<< (((y5 - x) : Int32).toInt64 &&& 63))) : Int64).toInt = ((1 <<< ((((y5 - x) - 1) : Int32).toInt64 &&& 63)) : Int64).toInt := congrArg Int64.toInt c15
              refine lv_lload hx hb dX2_nearest_114 (lv_at hl 2 rfl) ?_
              refine lv_lconst (v := 1) hx hb dX2_nearest_116 (by decide) ?_
              refine lv_land hx hb dX2_nearest_117 ?_
              refine lv_lconst (v := 1) hx hb dX2_nearest_118 (by decide) ?_
              refine W.lcmp hx hb dX2_nearest_119 ?_
              have hj21 : ∀ (z20 : Int64) (H : Heap) (locs : List Loc) (ls : Array Slot), va_P D vwCl [] H → va_D A [] → va_S A s.heap H locs → lv_has ls 13 [(11, .long (1 <<< ((((y5 - x) - 1) : Int32).toInt64 &&& 63))), (9, .long (f - ((((f : Int64).toUInt64 >>> (((y5 - x) : Int32).toInt64.toUInt64 &&& Int64.toUInt64 63)).toInt64) <<< (((y5 - x) : Int32).toInt64 &&& 63)))), (7, .long z20), (6, .int (y5 - x)), (5, .int y5), (4, .int (64 - r2)), (0, .int g), (1, .long f), (3, .int x)] → W p l e ({ frames := 2, cells := 0, slots := 0, locals := 43 }) s m (([.int g, .long f, .int x] : List Value).toArray) below meth c H locs 0 0 (MQ below (va_Qi (fun (r : Int32) (_ : Unit) => True) (sp_B D vwCl A (fun (_ : Unit) => [])) A) ([.int g, .long f, .int x] : List Value).toArray s 0 0 A) (F0 m 129 ls []) := by
                intro z20 H locs ls  hP hD hS hl
                exact hj24 (z20) _ _ _ (hP.sub [] rfl) (hD.sub [] (by decide) rfl) hS (lv_sub hl [0, 1, 2, 3, 4, 5, 6, 7, 8] rfl)
              refine lv_if_ne (tgt := 129) hx hb dX2_nearest_120 (by decide) (fun c17 => ?_) (fun c17 => ?_)
              · skip
                have c17 := fun h => c17 ((lg_cmp_eq _ _).mpr h)
                have c17i : ¬ (((((f : Int64).toUInt64 >>> (((y5 - x) : Int32).toInt64.toUInt64 &&& Int64.toUInt64 63)).toInt64) &&& 1) : Int64).toInt = 1 := fun h => c17 (Int64.toInt_inj.mp h)
                exact hj21 ((((f : Int64).toUInt64 >>> (((y5 - x) : Int32).toInt64.toUInt64 &&& Int64.toUInt64 63)).toInt64)) _ _ _ (hP.sub [] rfl) (hD.sub [] (by decide) rfl) hS (lv_sub hl [0, 1, 2, 3, 4, 5, 6, 7, 8] rfl)
              · skip
                have c17 := (lg_cmp_eq _ _).mp c17
                have c17i : (((((f : Int64).toUInt64 >>> (((y5 - x) : Int32).toInt64.toUInt64 &&& Int64.toUInt64 63)).toInt64) &&& 1) : Int64).toInt = 1 := congrArg Int64.toInt c17
                refine lv_lload hx hb dX2_nearest_123 (lv_at hl 2 rfl) ?_
                refine lv_lconst (v := 1) hx hb dX2_nearest_125 (by decide) ?_
                refine lv_ladd hx hb dX2_nearest_126 ?_
                refine lv_lstore (lv' := [(7, .long ((((f : Int64).toUInt64 >>> (((y5 - x) : Int32).toInt64.toUInt64 &&& Int64.toUInt64 63)).toInt64) + 1)), (11, .long (1 <<< ((((y5 - x) - 1) : Int32).toInt64 &&& 63))), (9, .long (f - ((((f : Int64).toUInt64 >>> (((y5 - x) : Int32).toInt64.toUInt64 &&& Int64.toUInt64 63)).toInt64) <<< (((y5 - x) : Int32).toInt64 &&& 63)))), (6, .int (y5 - x)), (5, .int y5), (4, .int (64 - r2)), (0, .int g), (1, .long f), (3, .int x)]) hx hb dX2_nearest_127 hl (by decide) rfl (fun ls hl => ?_)
                exact hj21 (((((f : Int64).toUInt64 >>> (((y5 - x) : Int32).toInt64.toUInt64 &&& Int64.toUInt64 63)).toInt64) + 1)) _ _ _ (hP.sub [] rfl) (hD.sub [] (by decide) rfl) hS (lv_sub hl [1, 2, 0, 3, 4, 5, 6, 7, 8] rfl)
      · skip
        have c8i : ¬ ((y5 - x) : Int32).toInt ≤ ((64 - r2) : Int32).toInt := fun h => c8 (Int32.le_iff_toInt_le.mpr h)
        refine lv_iload_n hx hb dX2_nearest_57 rfl (lv_at hl 3 rfl) ?_
        refine W.widen (k := 0) (n := 0) (by decide) (by decide) ?_
        exact sp_iret (u := ()) hx hb hr hlocks hS trivial (hP.sub [] rfl) (hD.sub [] (by decide) rfl) dX2_nearest_58
    · skip
      have c7i : ¬ (y5 : Int32).toInt ≤ 104 := fun h => c7 (Int32.le_iff_toInt_le.mpr h)
      refine lv_iload_n hx hb dX2_nearest_45 rfl (lv_at hl 3 rfl) ?_
      refine lv_ldc (v := 2139095040) hx hb hown (hts (.constant RX2 10 (2139095040)) (oX2_nearest_in _ (List.mem_of_getElem? (i := 4) rfl))) dX2_nearest_46 ?_
      refine lv_ior hx hb dX2_nearest_48 ?_
      refine W.widen (k := 0) (n := 0) (by decide) (by decide) ?_
      exact sp_iret (u := ()) hx hb hr hlocks hS trivial (hP.sub [] rfl) (hD.sub [] (by decide) rfl) dX2_nearest_49
  · skip
    have c1 := (lg_cmp_eq _ _).mp c1
    have c1i : (f : Int64).toInt = 0 := congrArg Int64.toInt c1
    refine lv_iload_n hx hb dX2_nearest_6 rfl (lv_at hl 0 rfl) ?_
    refine W.widen (k := 0) (n := 0) (by decide) (by decide) ?_
    exact sp_iret (u := ()) hx hb hr hlocks hS trivial (hP.sub [] rfl) (hD.sub [] (by decide) rfl) dX2_nearest_7
