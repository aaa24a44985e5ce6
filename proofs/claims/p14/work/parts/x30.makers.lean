def oJ7_fill_53178 : List Cond := []
def wpJ7_fill_53178 : List Cond := .code yJ7_fill_53178 cJ7_fill_53178 4 none :: (oJ7_fill_53178 ++ ([] : List Cond))
theorem oJ7_fill_53178_in : ∀ w ∈ oJ7_fill_53178, w ∈ wpJ7_fill_53178 := fun w h => List.mem_cons_of_mem _ (List.mem_append_left _ h)
theorem gwoJ7_fill_53178 : ∀ w ∈ oJ7_fill_53178, goodWord w = true := by decide +kernel
theorem gwJ7_fill_53178 : ∀ w ∈ wpJ7_fill_53178, goodWord w = true := by
  unfold wpJ7_fill_53178
  exact List.forall_mem_cons.mpr ⟨rfl, List.forall_mem_append.mpr ⟨gwoJ7_fill_53178, fun _ h => absurd h List.not_mem_nil⟩⟩
set_option maxRecDepth 100000 in
theorem toJ7_fill_53178 : ∀ w ∈ oJ7_fill_53178, w ∈ lw_tbl := by
  unfold oJ7_fill_53178
  exact fun _ h => absurd h List.not_mem_nil
set_option maxRecDepth 100000 in
theorem tJ7_fill_53178 : ∀ w ∈ wpJ7_fill_53178, w ∈ lw_tbl := by
  unfold wpJ7_fill_53178
  exact List.forall_mem_cons.mpr ⟨(List.mem_of_getElem? (i := 132) (by rfl)), List.forall_mem_append.mpr ⟨toJ7_fill_53178, fun _ h => absurd h List.not_mem_nil⟩⟩
set_option maxHeartbeats 4000000 in
set_option maxRecDepth 100000 in
theorem c_J7_fill_53178 (l : Launch) (D : va_G) (cI cJ cZ : ClassId) (sz : Nat) (a : Nat) (f : Nat → Int32) (v : Int32) : Met l yJ7_fill_53178 wpJ7_fill_53178 ({ frames := 0, cells := 0, slots := 0, locals := 0 }) (va_Pc [.ref a, .int v] (sp_pre D vwCl (sp_ty cI cJ cZ) [(a, .inl (cI, 4, .inl f))] sz)) (va_Qv (fun (u : Nat → Int32) => ∀ j : Nat, j < 4 → u j = v) (sp_B D vwCl (va_A [(a, .inl (cI, 4, .inl f))] sz) (fun (u : Nat → Int32) => [(a, .inl (cI, 4, .inl u))])) (va_A [(a, .inl (cI, 4, .inl f))] sz)) 0 0 (va_A [(a, .inl (cI, 4, .inl f))] sz) := by
  refine sp_ofW (Qc := fun A => va_Qv (fun (u : Nat → Int32) => ∀ j : Nat, j < 4 → u j = v) (sp_B D vwCl A (fun (u : Nat → Int32) => [(a, .inl (cI, 4, .inl u))])) A) (by decide) rfl (Nat.le_of_ble_eq_true rfl) (fun p e s m below meth c A ls H locs C0 hA hS hP hK hD hl => ?_)
  obtain ⟨hx, hb, hr, hts, hown, hlocks, hml, hin⟩ := C0
  have hown : s.vm.findClass RJ7 = some m.cls := hown
  have hl : lv_has ls 4 [(0, .ref a), (1, .int v)] := hl
  have hK : va_K D vwCl [(cI, .int), (cJ, .long), (cZ, .boolean)] s := hK
  refine lv_iconst (v := 0) hx hb dJ7_fill_53178_0 (by decide) ?_
  refine lv_istore_n (lv' := [(2, .int 0), (0, .ref a), (1, .int v)]) hx hb dJ7_fill_53178_1 rfl hl (by decide) rfl (fun ls hl => ?_)
  refine lv_aload_n hx hb dJ7_fill_53178_2 rfl (lv_at hl 1 rfl) ?_
  refine va_alen (v := 4) hx hb hK hP 0 0 rfl (ty := .int) rfl rfl dJ7_fill_53178_3 ?_
  refine lv_istore_n (lv' := [(3, .int 4), (2, .int 0), (0, .ref a), (1, .int v)]) hx hb dJ7_fill_53178_4 rfl hl (by decide) rfl (fun ls hl => ?_)
  refine lv_iload_n hx hb dJ7_fill_53178_5 rfl (lv_at hl 1 rfl) ?_
  refine lv_iload_n hx hb dJ7_fill_53178_6 rfl (lv_at hl 0 rfl) ?_
  refine lv_icmp_ge (tgt := 20) hx hb dJ7_fill_53178_7 (by decide) (fun c1 => absurd c1 (by decide)) (fun _ => ?_)
  refine lv_aload_n hx hb dJ7_fill_53178_10 rfl (lv_at hl 2 rfl) ?_
  refine lv_iload_n hx hb dJ7_fill_53178_11 rfl (lv_at hl 1 rfl) ?_
  refine lv_iload_n hx hb dJ7_fill_53178_12 rfl (lv_at hl 3 rfl) ?_
  refine va_iast hx hb hK hP hD hS 0 0 rfl rfl (by unfold vp_in; decide) dJ7_fill_53178_13 (fun H locs hP hD hS => ?_)
  obtain ⟨f2, ef3⟩ : ∃ z9 : Nat → Int32, z9 = upd f (0 : Int32).toNatClampNeg v := ⟨_, rfl⟩
  rw [← ef3] at hP hD
  have hP : va_P D vwCl [(a, .inl (cI, 4, .inl f2))] H := hP
  have hD : va_D A [(a, .inl (cI, 4, .inl f2))] := hD
  refine lv_iinc (v := 1) (lv' := [(2, .int 1), (3, .int 4), (0, .ref a), (1, .int v)]) hx hb dJ7_fill_53178_14 hl (k := 1) rfl (by decide) (by decide) rfl (fun ls hl => ?_)
  refine lv_goto (tgt := 5) hx hb dJ7_fill_53178_17 (by decide) ?_
  refine lv_iload_n hx hb dJ7_fill_53178_5 rfl (lv_at hl 0 rfl) ?_
  refine lv_iload_n hx hb dJ7_fill_53178_6 rfl (lv_at hl 1 rfl) ?_
  refine lv_icmp_ge (tgt := 20) hx hb dJ7_fill_53178_7 (by decide) (fun c4 => absurd c4 (by decide)) (fun _ => ?_)
  refine lv_aload_n hx hb dJ7_fill_53178_10 rfl (lv_at hl 2 rfl) ?_
  refine lv_iload_n hx hb dJ7_fill_53178_11 rfl (lv_at hl 0 rfl) ?_
  refine lv_iload_n hx hb dJ7_fill_53178_12 rfl (lv_at hl 3 rfl) ?_
  refine va_iast hx hb hK hP hD hS 0 0 rfl rfl (by unfold vp_in; decide) dJ7_fill_53178_13 (fun H locs hP hD hS => ?_)
  obtain ⟨f5, ef6⟩ : ∃ z9 : Nat → Int32, z9 = upd f2 (1 : Int32).toNatClampNeg v := ⟨_, rfl⟩
  rw [← ef6] at hP hD
  have hP : va_P D vwCl [(a, .inl (cI, 4, .inl f5))] H := hP
  have hD : va_D A [(a, .inl (cI, 4, .inl f5))] := hD
  refine lv_iinc (v := 2) (lv' := [(2, .int 2), (3, .int 4), (0, .ref a), (1, .int v)]) hx hb dJ7_fill_53178_14 hl (k := 0) rfl (by decide) (by decide) rfl (fun ls hl => ?_)
  refine lv_goto (tgt := 5) hx hb dJ7_fill_53178_17 (by decide) ?_
  refine lv_iload_n hx hb dJ7_fill_53178_5 rfl (lv_at hl 0 rfl) ?_
  refine lv_iload_n hx hb dJ7_fill_53178_6 rfl (lv_at hl 1 rfl) ?_
  refine lv_icmp_ge (tgt := 20) hx hb dJ7_fill_53178_7 (by decide) (fun c7 => absurd c7 (by decide)) (fun _ => ?_)
  refine lv_aload_n hx hb dJ7_fill_53178_10 rfl (lv_at hl 2 rfl) ?_
  refine lv_iload_n hx hb dJ7_fill_53178_11 rfl (lv_at hl 0 rfl) ?_
  refine lv_iload_n hx hb dJ7_fill_53178_12 rfl (lv_at hl 3 rfl) ?_
  refine va_iast hx hb hK hP hD hS 0 0 rfl rfl (by unfold vp_in; decide) dJ7_fill_53178_13 (fun H locs hP hD hS => ?_)
  obtain ⟨f8, ef9⟩ : ∃ z9 : Nat → Int32, z9 = upd f5 (2 : Int32).toNatClampNeg v := ⟨_, rfl⟩
  rw [← ef9] at hP hD
  have hP : va_P D vwCl [(a, .inl (cI, 4, .inl f8))] H := hP
  have hD : va_D A [(a, .inl (cI, 4, .inl f8))] := hD
  refine lv_iinc (v := 3) (lv' := [(2, .int 3), (3, .int 4), (0, .ref a), (1, .int v)]) hx hb dJ7_fill_53178_14 hl (k := 0) rfl (by decide) (by decide) rfl (fun ls hl => ?_)
  refine lv_goto (tgt := 5) hx hb dJ7_fill_53178_17 (by decide) ?_
  refine lv_iload_n hx hb dJ7_fill_53178_5 rfl (lv_at hl 0 rfl) ?_
  refine lv_iload_n hx hb dJ7_fill_53178_6 rfl (lv_at hl 1 rfl) ?_
  refine lv_icmp_ge (tgt := 20) hx hb dJ7_fill_53178_7 (by decide) (fun c10 => absurd c10 (by decide)) (fun _ => ?_)
  refine lv_aload_n hx hb dJ7_fill_53178_10 rfl (lv_at hl 2 rfl) ?_
  refine lv_iload_n hx hb dJ7_fill_53178_11 rfl (lv_at hl 0 rfl) ?_
  refine lv_iload_n hx hb dJ7_fill_53178_12 rfl (lv_at hl 3 rfl) ?_
  refine va_iast hx hb hK hP hD hS 0 0 rfl rfl (by unfold vp_in; decide) dJ7_fill_53178_13 (fun H locs hP hD hS => ?_)
  obtain ⟨f11, ef12⟩ : ∃ z9 : Nat → Int32, z9 = upd f8 (3 : Int32).toNatClampNeg v := ⟨_, rfl⟩
  rw [← ef12] at hP hD
  have hP : va_P D vwCl [(a, .inl (cI, 4, .inl f11))] H := hP
  have hD : va_D A [(a, .inl (cI, 4, .inl f11))] := hD
  refine lv_iinc (v := 4) (lv' := [(2, .int 4), (3, .int 4), (0, .ref a), (1, .int v)]) hx hb dJ7_fill_53178_14 hl (k := 0) rfl (by decide) (by decide) rfl (fun ls hl => ?_)
  refine lv_goto (tgt := 5) hx hb dJ7_fill_53178_17 (by decide) ?_
  refine lv_iload_n hx hb dJ7_fill_53178_5 rfl (lv_at hl 0 rfl) ?_
  refine lv_iload_n hx hb dJ7_fill_53178_6 rfl (lv_at hl 1 rfl) ?_
  refine lv_icmp_ge (tgt := 20) hx hb dJ7_fill_53178_7 (by decide) (fun _ => ?_) (fun c13 => absurd (by decide) c13)
  refine W.widen (k := 0) (n := 0) (by decide) (by decide) ?_
  exact sp_vret (u := f11) hx hb hr hlocks hS (by intro j hj; rw [ef12, ef9, ef6, ef3]; rcases (show j = 0 ∨ j = 1 ∨ j = 2 ∨ j = 3 by omega) with rfl | rfl | rfl | rfl <;> rfl) (hP.sub [0] rfl) (hD.sub [0] (by decide) rfl) dJ7_fill_53178_20
def oX1_init : List Cond := [.methodLink RX1 3 objectInit, .instanceMethod objectInit, .code objectInit ⟨#[0xb1]⟩ 1 none, .arrayClass .int, .fieldLink RX1 9 "FloatSolver$Box" "low" "[I", .fieldLink RX1 15 "FloatSolver$Box" "high" "[I", .constant RX1 18 (-2139095041), .constant RX1 25 (2139095040)]
def wpX1_init : List Cond := .code yX1_init cX1_init 1 none :: (oX1_init ++ (wsX10 ++ ((va_wsS RX1 19 yJ7_fill_53178 wpJ7_fill_53178) ++ ([] : List Cond))))
theorem oX1_init_in : ∀ w ∈ oX1_init, w ∈ wpX1_init := fun w h => List.mem_cons_of_mem _ (List.mem_append_left _ h)
theorem gwoX1_init : ∀ w ∈ oX1_init, goodWord w = true := by decide +kernel
theorem gwX1_init : ∀ w ∈ wpX1_init, goodWord w = true := by
  unfold wpX1_init
  exact List.forall_mem_cons.mpr ⟨rfl, List.forall_mem_append.mpr ⟨gwoX1_init, List.forall_mem_append.mpr ⟨gwX1, List.forall_mem_append.mpr ⟨(sp_gS gwJ7_fill_53178), fun _ h => absurd h List.not_mem_nil⟩⟩⟩⟩
set_option maxRecDepth 100000 in
theorem toX1_init : ∀ w ∈ oX1_init, w ∈ lw_tbl := by
  unfold oX1_init
  exact List.forall_mem_cons.mpr ⟨(List.mem_of_getElem? (i := 128) (by decide +kernel)), List.forall_mem_cons.mpr ⟨(List.mem_of_getElem? (i := 61) (by decide +kernel)), List.forall_mem_cons.mpr ⟨(List.mem_of_getElem? (i := 62) (by rfl)), List.forall_mem_cons.mpr ⟨(List.mem_of_getElem? (i := 101) (by decide +kernel)), List.forall_mem_cons.mpr ⟨(List.mem_of_getElem? (i := 134) (by decide +kernel)), List.forall_mem_cons.mpr ⟨(List.mem_of_getElem? (i := 138) (by decide +kernel)), List.forall_mem_cons.mpr ⟨(List.mem_of_getElem? (i := 129) (by decide +kernel)), List.forall_mem_cons.mpr ⟨(List.mem_of_getElem? (i := 133) (by decide +kernel)), fun _ h => absurd h List.not_mem_nil⟩⟩⟩⟩⟩⟩⟩⟩
set_option maxRecDepth 100000 in
theorem tX1_init : ∀ w ∈ wpX1_init, w ∈ lw_tbl := by
  unfold wpX1_init
  exact List.forall_mem_cons.mpr ⟨(List.mem_of_getElem? (i := 127) (by rfl)), List.forall_mem_append.mpr ⟨toX1_init, List.forall_mem_append.mpr ⟨in_wsX10, List.forall_mem_append.mpr ⟨(sp_tS (List.mem_of_getElem? (i := 130) (by decide +kernel)) (List.mem_of_getElem? (i := 131) (by decide +kernel)) (List.mem_of_getElem? (i := 42) (by decide +kernel)) tJ7_fill_53178), fun _ h => absurd h List.not_mem_nil⟩⟩⟩⟩
theorem iX1_init_X1 : ∀ w ∈ wsX10, w ∈ wpX1_init := fun w h => List.mem_cons_of_mem _ (List.mem_append_right _ (List.mem_append_left _ h))
theorem gX1_init_J7_fill_53178_19 : GoodIn wpX1_init (va_wsS RX1 19 yJ7_fill_53178 wpJ7_fill_53178) := fun w h => ⟨List.mem_cons_of_mem _ (List.mem_append_right _ (List.mem_append_right _ (List.mem_append_left _ h))), good_of_word (sp_gS gwJ7_fill_53178 w h)⟩
set_option maxHeartbeats 4000000 in
set_option maxRecDepth 100000 in
theorem c_X1_init (l : Launch) (D : va_G) (cI cJ cZ : ClassId) (sz : Nat) (h : Nat) : Met l yX1_init wpX1_init ({ frames := 1, cells := 2, slots := 8, locals := 24 }) (va_Pc [.ref h] (sp_pre D vwCl (sp_ty cI cJ cZ) [(h, .inr (0, [.null, .null]))] sz)) (va_Qv (fun (u : Nat × Nat × (Nat → Int32) × (Nat → Int32)) => match u with | (a, b, f, g) => (∀ j : Nat, j < 4 → f j = (-2139095041)) ∧ (∀ j : Nat, j < 4 → g j = 2139095040)) (sp_B D vwCl (va_A [(h, .inr (0, [.null, .null]))] sz) (fun (u : Nat × Nat × (Nat → Int32) × (Nat → Int32)) => match u with | (a, b, f, g) => [(h, .inr (0, [.ref a, .ref b])), (a, .inl (cI, 4, .inl f)), (b, .inl (cI, 4, .inl g))])) (va_A [(h, .inr (0, [.null, .null]))] sz)) 2 8 (va_A [(h, .inr (0, [.null, .null]))] sz) := by
  refine sp_ofW (Qc := fun A => va_Qv (fun (u : Nat × Nat × (Nat → Int32) × (Nat → Int32)) => match u with | (a, b, f, g) => (∀ j : Nat, j < 4 → f j = (-2139095041)) ∧ (∀ j : Nat, j < 4 → g j = 2139095040)) (sp_B D vwCl A (fun (u : Nat × Nat × (Nat → Int32) × (Nat → Int32)) => match u with | (a, b, f, g) => [(h, .inr (0, [.ref a, .ref b])), (a, .inl (cI, 4, .inl f)), (b, .inl (cI, 4, .inl g))])) A) (by decide) rfl (Nat.le_of_ble_eq_true rfl) (fun p e s m below meth c A ls H locs C0 hA hS hP hK hD hl => ?_)
  obtain ⟨hx, hb, hr, hts, hown, hlocks, hml, hin⟩ := C0
  have hown : s.vm.findClass RX1 = some m.cls := hown
  have hin : meth.name = "<init>" := hin
  have hl : lv_has ls 1 [(0, .ref h)] := hl
  have hK : va_K D vwCl [(cI, .int), (cJ, .long), (cZ, .boolean)] s := hK
  refine lv_aload_n hx hb dX1_init_0 rfl (lv_at hl 0 rfl) ?_
  refine W.objInit hx hb hown (hts (.methodLink RX1 3 objectInit) (oX1_init_in _ (List.mem_of_getElem? (i := 0) rfl))) (hts (.instanceMethod objectInit) (oX1_init_in _ (List.mem_of_getElem? (i := 1) rfl))) (hts (.code objectInit ⟨#[0xb1]⟩ 1 none) (oX1_init_in _ (List.mem_of_getElem? (i := 2) rfl))) rfl (by rw [hml]; exact hl.1) rfl dX1_init_1 (Nat.le_of_ble_eq_true rfl) (Nat.le_of_ble_eq_true rfl) ?_
  refine W.eq (g2 := F0 m 4 ls []) rfl ?_
  refine lv_aload_n hx hb dX1_init_4 rfl (lv_at hl 0 rfl) ?_
  refine lv_iconst (v := 4) hx hb dX1_init_5 (by decide) ?_
  refine sp_newa (atype := .int) (ty := .int) (a0 := (4, .inl (fun _ => 0))) hx hb (hts (.arrayClass .int) (oX1_init_in _ (List.mem_of_getElem? (i := 3) rfl))) rfl hK hP hD hS hA 0 rfl (fun _ => rfl) (by decide) (by decide) (by decide) (Nat.le_of_ble_eq_true rfl) (Nat.le_of_ble_eq_true rfl) dX1_init_6 (fun q1 H hP hD hS => ?_)
  have hP : va_P D vwCl [(h, .inr (0, [.null, .null])), (q1, .inl (cI, 4, .inl (fun _ => 0)))] H := hP
  have hD : va_D A [(h, .inr (0, [.null, .null])), (q1, .inl (cI, 4, .inl (fun _ => 0)))] := hD
  refine W.widen (k := 1) (n := 4) (by decide) (by decide) ?_
  refine va_putF (D := D) (ci := 0) (v := .ref q1) (ty := (.array .int)) (C := RX1) (T := TX1) (N := 2) hx hb hts iX1_init_X1 tyX1 tyX1_ok nmX1 hown hK hP hD hS 0 rfl rfl 0 (by decide) (hts (.fieldLink RX1 9 "FloatSolver$Box" "low" "[I") (oX1_init_in _ (List.mem_of_getElem? (i := 4) rfl))) (fun _ h9 => h9) rfl hin rfl (by decide +kernel) rfl rfl (Nat.le_of_ble_eq_true rfl) dX1_init_8 (fun H locs hP hD hS => ?_)
  have hP : va_P D vwCl [(h, .inr (0, [.ref q1, .null])), (q1, .inl (cI, 4, .inl (fun _ => 0)))] H := hP
  have hD : va_D A [(h, .inr (0, [.ref q1, .null])), (q1, .inl (cI, 4, .inl (fun _ => 0)))] := hD
  refine lv_aload_n hx hb dX1_init_11 rfl (lv_at hl 0 rfl) ?_
  refine lv_iconst (v := 4) hx hb dX1_init_12 (by decide) ?_
  refine sp_newa (atype := .int) (ty := .int) (a0 := (4, .inl (fun _ => 0))) hx hb (hts (.arrayClass .int) (oX1_init_in _ (List.mem_of_getElem? (i := 3) rfl))) rfl hK hP hD hS hA 0 rfl (fun _ => rfl) (by decide) (by decide) (by decide) (Nat.le_of_ble_eq_true rfl) (Nat.le_of_ble_eq_true rfl) dX1_init_13 (fun q2 H hP hD hS => ?_)
  have hP : va_P D vwCl [(h, .inr (0, [.ref q1, .null])), (q1, .inl (cI, 4, .inl (fun _ => 0))), (q2, .inl (cI, 4, .inl (fun _ => 0)))] H := hP
  have hD : va_D A [(h, .inr (0, [.ref q1, .null])), (q1, .inl (cI, 4, .inl (fun _ => 0))), (q2, .inl (cI, 4, .inl (fun _ => 0)))] := hD
  refine W.widen (k := 2) (n := 8) (by decide) (by decide) ?_
  refine va_putF (D := D) (ci := 0) (v := .ref q2) (ty := (.array .int)) (C := RX1) (T := TX1) (N := 2) hx hb hts iX1_init_X1 tyX1 tyX1_ok nmX1 hown hK hP hD hS 0 rfl rfl 1 (by decide) (hts (.fieldLink RX1 15 "FloatSolver$Box" "high" "[I") (oX1_init_in _ (List.mem_of_getElem? (i := 5) rfl))) (fun _ h9 => h9) rfl hin rfl (by decide +kernel) rfl rfl (Nat.le_of_ble_eq_true rfl) dX1_init_15 (fun H locs hP hD hS => ?_)
  have hP : va_P D vwCl [(h, .inr (0, [.ref q1, .ref q2])), (q1, .inl (cI, 4, .inl (fun _ => 0))), (q2, .inl (cI, 4, .inl (fun _ => 0)))] H := hP
  have hD : va_D A [(h, .inr (0, [.ref q1, .ref q2])), (q1, .inl (cI, 4, .inl (fun _ => 0))), (q2, .inl (cI, 4, .inl (fun _ => 0)))] := hD
  refine lv_aload_n hx hb dX1_init_18 rfl (lv_at hl 0 rfl) ?_
  refine va_get (D := D) (ci := 0) (v := .ref q1) (C := RX1) (T := TX1) (N := 2) hx hb hts iX1_init_X1 hown hK hP 0 rfl rfl 0 (by decide) (hts (.fieldLink RX1 9 "FloatSolver$Box" "low" "[I") (oX1_init_in _ (List.mem_of_getElem? (i := 4) rfl))) (fun _ h9 => h9) rfl dX1_init_19 ?_
  refine lv_ldc (v := (-2139095041)) hx hb hown (hts (.constant RX1 18 (-2139095041)) (oX1_init_in _ (List.mem_of_getElem? (i := 6) rfl))) dX1_init_22 ?_
  refine sp_callv (wr := [(h, .inr (0, [.ref q1, .ref q2])), (q2, .inl (cI, 4, .inl (fun _ => 0)))]) (wc := [(q1, .inl (cI, 4, .inl (fun _ => 0)))]) hP hD hS hA [1] [0, 2] rfl rfl (by decide) (by decide) (va_runS (As := [.ref q1, .int (-2139095041)]) (rest := []) ⟨hx, hb, hml, hown, hts⟩ (c_J7_fill_53178 l D cI cJ cZ H.size q1 (fun _ => 0) ((-2139095041))) (va_cwS 2 hts gX1_init_J7_fill_53178_19 rfl rfl rfl (by decide +kernel) ⟨Nat.le_of_ble_eq_true rfl, Nat.le_of_ble_eq_true rfl⟩) (sp_preS [.ref q1, .int (-2139095041)] hK (hP.sub (ws' := [(q1, .inl (cI, 4, .inl (fun _ => 0)))]) [1] rfl) (hD.sub (ws' := [(q1, .inl (cI, 4, .inl (fun _ => 0)))]) [1] (by decide) rfl)) rfl rfl hl.1 rfl (lv_room (Nat.le_of_ble_eq_true rfl)) dX1_init_24 ⟨Nat.le_of_ble_eq_true rfl, Nat.le_of_ble_eq_true rfl⟩) (fun u4 H locs hw5 hP hD hS => ?_)
  have hP : va_P D vwCl [(h, .inr (0, [.ref q1, .ref q2])), (q2, .inl (cI, 4, .inl (fun _ => 0))), (q1, .inl (cI, 4, .inl u4))] H := hP
  have hD : va_D A [(h, .inr (0, [.ref q1, .ref q2])), (q2, .inl (cI, 4, .inl (fun _ => 0))), (q1, .inl (cI, 4, .inl u4))] := hD
  refine lv_aload_n hx hb dX1_init_27 rfl (lv_at hl 0 rfl) ?_
  refine va_get (D := D) (ci := 0) (v := .ref q2) (C := RX1) (T := TX1) (N := 2) hx hb hts iX1_init_X1 hown hK hP 0 rfl rfl 1 (by decide) (hts (.fieldLink RX1 15 "FloatSolver$Box" "high" "[I") (oX1_init_in _ (List.mem_of_getElem? (i := 5) rfl))) (fun _ h9 => h9) rfl dX1_init_28 ?_
  refine lv_ldc (v := 2139095040) hx hb hown (hts (.constant RX1 25 (2139095040)) (oX1_init_in _ (List.mem_of_getElem? (i := 7) rfl))) dX1_init_31 ?_
  refine sp_callv (wr := [(h, .inr (0, [.ref q1, .ref q2])), (q1, .inl (cI, 4, .inl u4))]) (wc := [(q2, .inl (cI, 4, .inl (fun _ => 0)))]) hP hD hS hA [1] [0, 2] rfl rfl (by decide) (by decide) (va_runS (As := [.ref q2, .int 2139095040]) (rest := []) ⟨hx, hb, hml, hown, hts⟩ (c_J7_fill_53178 l D cI cJ cZ H.size q2 (fun _ => 0) (2139095040)) (va_cwS 2 hts gX1_init_J7_fill_53178_19 rfl rfl rfl (by decide +kernel) ⟨Nat.le_of_ble_eq_true rfl, Nat.le_of_ble_eq_true rfl⟩) (sp_preS [.ref q2, .int 2139095040] hK (hP.sub (ws' := [(q2, .inl (cI, 4, .inl (fun _ => 0)))]) [1] rfl) (hD.sub (ws' := [(q2, .inl (cI, 4, .inl (fun _ => 0)))]) [1] (by decide) rfl)) rfl rfl hl.1 rfl (lv_room (Nat.le_of_ble_eq_true rfl)) dX1_init_33 ⟨Nat.le_of_ble_eq_true rfl, Nat.le_of_ble_eq_true rfl⟩) (fun u7 H locs hw8 hP hD hS => ?_)
  have hP : va_P D vwCl [(h, .inr (0, [.ref q1, .ref q2])), (q1, .inl (cI, 4, .inl u4)), (q2, .inl (cI, 4, .inl u7))] H := hP
  have hD : va_D A [(h, .inr (0, [.ref q1, .ref q2])), (q1, .inl (cI, 4, .inl u4)), (q2, .inl (cI, 4, .inl u7))] := hD
  refine W.widen (k := 2) (n := 8) (by decide) (by decide) ?_
  exact sp_vret (u := (q1, q2, u4, u7)) hx hb hr hlocks hS ⟨hw5, hw8⟩ (hP.sub [0, 1, 2] rfl) (hD.sub [0, 1, 2] (by decide) rfl) dX1_init_36
def oX3_init : List Cond := [.methodLink RX3 3 objectInit, .instanceMethod objectInit, .code objectInit ⟨#[0xb1]⟩ 1 none, .arrayClass .int, .fieldLink RX3 9 "FloatSolver$Nodes" "kind" "[I", .fieldLink RX3 15 "FloatSolver$Nodes" "x" "[I", .fieldLink RX3 18 "FloatSolver$Nodes" "y" "[I", .fieldLink RX3 21 "FloatSolver$Nodes" "values" "[I", .arrayClass .long, .fieldLink RX3 24 "FloatSolver$Nodes" "rests" "[J", .fieldLink RX3 28 "FloatSolver$Nodes" "users" "[J", .fieldLink RX3 31 "FloatSolver$Nodes" "count" "I"]
def wpX3_init : List Cond := .code yX3_init cX3_init 1 none :: (oX3_init ++ (wsX30 ++ ([] : List Cond)))
theorem oX3_init_in : ∀ w ∈ oX3_init, w ∈ wpX3_init := fun w h => List.mem_cons_of_mem _ (List.mem_append_left _ h)
theorem gwoX3_init : ∀ w ∈ oX3_init, goodWord w = true := by decide +kernel
theorem gwX3_init : ∀ w ∈ wpX3_init, goodWord w = true := by
  unfold wpX3_init
  exact List.forall_mem_cons.mpr ⟨rfl, List.forall_mem_append.mpr ⟨gwoX3_init, List.forall_mem_append.mpr ⟨gwX3, fun _ h => absurd h List.not_mem_nil⟩⟩⟩
set_option maxRecDepth 100000 in
theorem toX3_init : ∀ w ∈ oX3_init, w ∈ lw_tbl := by
  unfold oX3_init
  exact List.forall_mem_cons.mpr ⟨(List.mem_of_getElem? (i := 68) (by decide +kernel)), List.forall_mem_cons.mpr ⟨(List.mem_of_getElem? (i := 61) (by decide +kernel)), List.forall_mem_cons.mpr ⟨(List.mem_of_getElem? (i := 62) (by rfl)), List.forall_mem_cons.mpr ⟨(List.mem_of_getElem? (i := 101) (by decide +kernel)), List.forall_mem_cons.mpr ⟨(List.mem_of_getElem? (i := 69) (by decide +kernel)), List.forall_mem_cons.mpr ⟨(List.mem_of_getElem? (i := 71) (by decide +kernel)), List.forall_mem_cons.mpr ⟨(List.mem_of_getElem? (i := 73) (by decide +kernel)), List.forall_mem_cons.mpr ⟨(List.mem_of_getElem? (i := 75) (by decide +kernel)), List.forall_mem_cons.mpr ⟨(List.mem_of_getElem? (i := 102) (by decide +kernel)), List.forall_mem_cons.mpr ⟨(List.mem_of_getElem? (i := 78) (by decide +kernel)), List.forall_mem_cons.mpr ⟨(List.mem_of_getElem? (i := 81) (by decide +kernel)), List.forall_mem_cons.mpr ⟨(List.mem_of_getElem? (i := 83) (by decide +kernel)), fun _ h => absurd h List.not_mem_nil⟩⟩⟩⟩⟩⟩⟩⟩⟩⟩⟩⟩
set_option maxRecDepth 100000 in
theorem tX3_init : ∀ w ∈ wpX3_init, w ∈ lw_tbl := by
  unfold wpX3_init
  exact List.forall_mem_cons.mpr ⟨(List.mem_of_getElem? (i := 67) (by rfl)), List.forall_mem_append.mpr ⟨toX3_init, List.forall_mem_append.mpr ⟨in_wsX30, fun _ h => absurd h List.not_mem_nil⟩⟩⟩
theorem iX3_init_X3 : ∀ w ∈ wsX30, w ∈ wpX3_init := fun w h => List.mem_cons_of_mem _ (List.mem_append_right _ (List.mem_append_left _ h))
set_option maxHeartbeats 4000000 in
set_option maxRecDepth 100000 in
theorem c_X3_init (l : Launch) (D : va_G) (cI cJ cZ : ClassId) (sz : Nat) (h : Nat) : Met l yX3_init wpX3_init ({ frames := 1, cells := 6, slots := 204, locals := 24 }) (va_Pc [.ref h] (sp_pre D vwCl (sp_ty cI cJ cZ) [(h, .inr (1, [.null, .null, .null, .null, .null, .null, .int 0]))] sz)) (va_Qv (fun (u : Nat × Nat × Nat × Nat × Nat × Nat) => match u with | (a0, a1, a2, a3, a4, a5) => True) (sp_B D vwCl (va_A [(h, .inr (1, [.null, .null, .null, .null, .null, .null, .int 0]))] sz) (fun (u : Nat × Nat × Nat × Nat × Nat × Nat) => match u with | (a0, a1, a2, a3, a4, a5) => [(h, .inr (1, [.ref a0, .ref a1, .ref a2, .ref a3, .ref a4, .ref a5, .int 0])), (a0, .inl (cI, 40, .inl (fun _ => 0))), (a1, .inl (cI, 40, .inl (fun _ => 0))), (a2, .inl (cI, 40, .inl (fun _ => 0))), (a3, .inl (cI, 40, .inl (fun _ => 0))), (a4, .inl (cJ, 40, .inr (.inl (fun _ => 0)))), (a5, .inl (cJ, 4, .inr (.inl (fun _ => 0))))])) (va_A [(h, .inr (1, [.null, .null, .null, .null, .null, .null, .int 0]))] sz)) 6 204 (va_A [(h, .inr (1, [.null, .null, .null, .null, .null, .null, .int 0]))] sz) := by
  refine sp_ofW (Qc := fun A => va_Qv (fun (u : Nat × Nat × Nat × Nat × Nat × Nat) => match u with | (a0, a1, a2, a3, a4, a5) => True) (sp_B D vwCl A (fun (u : Nat × Nat × Nat × Nat × Nat × Nat) => match u with | (a0, a1, a2, a3, a4, a5) => [(h, .inr (1, [.ref a0, .ref a1, .ref a2, .ref a3, .ref a4, .ref a5, .int 0])), (a0, .inl (cI, 40, .inl (fun _ => 0))), (a1, .inl (cI, 40, .inl (fun _ => 0))), (a2, .inl (cI, 40, .inl (fun _ => 0))), (a3, .inl (cI, 40, .inl (fun _ => 0))), (a4, .inl (cJ, 40, .inr (.inl (fun _ => 0)))), (a5, .inl (cJ, 4, .inr (.inl (fun _ => 0))))])) A) (by decide) rfl (Nat.le_of_ble_eq_true rfl) (fun p e s m below meth c A ls H locs C0 hA hS hP hK hD hl => ?_)
  obtain ⟨hx, hb, hr, hts, hown, hlocks, hml, hin⟩ := C0
  have hown : s.vm.findClass RX3 = some m.cls := hown
  have hin : meth.name = "<init>" := hin
  have hl : lv_has ls 1 [(0, .ref h)] := hl
  have hK : va_K D vwCl [(cI, .int), (cJ, .long), (cZ, .boolean)] s := hK
  refine lv_aload_n hx hb dX3_init_0 rfl (lv_at hl 0 rfl) ?_
  refine W.objInit hx hb hown (hts (.methodLink RX3 3 objectInit) (oX3_init_in _ (List.mem_of_getElem? (i := 0) rfl))) (hts (.instanceMethod objectInit) (oX3_init_in _ (List.mem_of_getElem? (i := 1) rfl))) (hts (.code objectInit ⟨#[0xb1]⟩ 1 none) (oX3_init_in _ (List.mem_of_getElem? (i := 2) rfl))) rfl (by rw [hml]; exact hl.1) rfl dX3_init_1 (Nat.le_of_ble_eq_true rfl) (Nat.le_of_ble_eq_true rfl) ?_
  refine W.eq (g2 := F0 m 4 ls []) rfl ?_
  refine lv_aload_n hx hb dX3_init_4 rfl (lv_at hl 0 rfl) ?_
  refine lv_bipush (v := 40) hx hb dX3_init_5 (by decide) ?_
  refine sp_newa (atype := .int) (ty := .int) (a0 := (40, .inl (fun _ => 0))) hx hb (hts (.arrayClass .int) (oX3_init_in _ (List.mem_of_getElem? (i := 3) rfl))) rfl hK hP hD hS hA 0 rfl (fun _ => rfl) (by decide) (by decide) (by decide) (Nat.le_of_ble_eq_true rfl) (Nat.le_of_ble_eq_true rfl) dX3_init_7 (fun q1 H hP hD hS => ?_)
  have hP : va_P D vwCl [(h, .inr (1, [.null, .null, .null, .null, .null, .null, .int 0])), (q1, .inl (cI, 40, .inl (fun _ => 0)))] H := hP
  have hD : va_D A [(h, .inr (1, [.null, .null, .null, .null, .null, .null, .int 0])), (q1, .inl (cI, 40, .inl (fun _ => 0)))] := hD
  refine W.widen (k := 1) (n := 40) (by decide) (by decide) ?_
  refine va_putF (D := D) (ci := 1) (v := .ref q1) (ty := (.array .int)) (C := RX3) (T := TX3) (N := 7) hx hb hts iX3_init_X3 tyX3 tyX3_ok nmX3 hown hK hP hD hS 0 rfl rfl 0 (by decide) (hts (.fieldLink RX3 9 "FloatSolver$Nodes" "kind" "[I") (oX3_init_in _ (List.mem_of_getElem? (i := 4) rfl))) (fun _ h9 => h9) rfl hin rfl (by decide +kernel) rfl rfl (Nat.le_of_ble_eq_true rfl) dX3_init_9 (fun H locs hP hD hS => ?_)
  have hP : va_P D vwCl [(h, .inr (1, [.ref q1, .null, .null, .null, .null, .null, .int 0])), (q1, .inl (cI, 40, .inl (fun _ => 0)))] H := hP
  have hD : va_D A [(h, .inr (1, [.ref q1, .null, .null, .null, .null, .null, .int 0])), (q1, .inl (cI, 40, .inl (fun _ => 0)))] := hD
  refine lv_aload_n hx hb dX3_init_12 rfl (lv_at hl 0 rfl) ?_
  refine lv_bipush (v := 40) hx hb dX3_init_13 (by decide) ?_
  refine sp_newa (atype := .int) (ty := .int) (a0 := (40, .inl (fun _ => 0))) hx hb (hts (.arrayClass .int) (oX3_init_in _ (List.mem_of_getElem? (i := 3) rfl))) rfl hK hP hD hS hA 0 rfl (fun _ => rfl) (by decide) (by decide) (by decide) (Nat.le_of_ble_eq_true rfl) (Nat.le_of_ble_eq_true rfl) dX3_init_15 (fun q2 H hP hD hS => ?_)
  have hP : va_P D vwCl [(h, .inr (1, [.ref q1, .null, .null, .null, .null, .null, .int 0])), (q1, .inl (cI, 40, .inl (fun _ => 0))), (q2, .inl (cI, 40, .inl (fun _ => 0)))] H := hP
  have hD : va_D A [(h, .inr (1, [.ref q1, .null, .null, .null, .null, .null, .int 0])), (q1, .inl (cI, 40, .inl (fun _ => 0))), (q2, .inl (cI, 40, .inl (fun _ => 0)))] := hD
  refine W.widen (k := 2) (n := 80) (by decide) (by decide) ?_
  refine va_putF (D := D) (ci := 1) (v := .ref q2) (ty := (.array .int)) (C := RX3) (T := TX3) (N := 7) hx hb hts iX3_init_X3 tyX3 tyX3_ok nmX3 hown hK hP hD hS 0 rfl rfl 1 (by decide) (hts (.fieldLink RX3 15 "FloatSolver$Nodes" "x" "[I") (oX3_init_in _ (List.mem_of_getElem? (i := 5) rfl))) (fun _ h9 => h9) rfl hin rfl (by decide +kernel) rfl rfl (Nat.le_of_ble_eq_true rfl) dX3_init_17 (fun H locs hP hD hS => ?_)
  have hP : va_P D vwCl [(h, .inr (1, [.ref q1, .ref q2, .null, .null, .null, .null, .int 0])), (q1, .inl (cI, 40, .inl (fun _ => 0))), (q2, .inl (cI, 40, .inl (fun _ => 0)))] H := hP
  have hD : va_D A [(h, .inr (1, [.ref q1, .ref q2, .null, .null, .null, .null, .int 0])), (q1, .inl (cI, 40, .inl (fun _ => 0))), (q2, .inl (cI, 40, .inl (fun _ => 0)))] := hD
  refine lv_aload_n hx hb dX3_init_20 rfl (lv_at hl 0 rfl) ?_
  refine lv_bipush (v := 40) hx hb dX3_init_21 (by decide) ?_
  refine sp_newa (atype := .int) (ty := .int) (a0 := (40, .inl (fun _ => 0))) hx hb (hts (.arrayClass .int) (oX3_init_in _ (List.mem_of_getElem? (i := 3) rfl))) rfl hK hP hD hS hA 0 rfl (fun _ => rfl) (by decide) (by decide) (by decide) (Nat.le_of_ble_eq_true rfl) (Nat.le_of_ble_eq_true rfl) dX3_init_23 (fun q3 H hP hD hS => ?_)
  have hP : va_P D vwCl [(h, .inr (1, [.ref q1, .ref q2, .null, .null, .null, .null, .int 0])), (q1, .inl (cI, 40, .inl (fun _ => 0))), (q2, .inl (cI, 40, .inl (fun _ => 0))), (q3, .inl (cI, 40, .inl (fun _ => 0)))] H := hP
  have hD : va_D A [(h, .inr (1, [.ref q1, .ref q2, .null, .null, .null, .null, .int 0])), (q1, .inl (cI, 40, .inl (fun _ => 0))), (q2, .inl (cI, 40, .inl (fun _ => 0))), (q3, .inl (cI, 40, .inl (fun _ => 0)))] := hD
  refine W.widen (k := 3) (n := 120) (by decide) (by decide) ?_
  refine va_putF (D := D) (ci := 1) (v := .ref q3) (ty := (.array .int)) (C := RX3) (T := TX3) (N := 7) hx hb hts iX3_init_X3 tyX3 tyX3_ok nmX3 hown hK hP hD hS 0 rfl rfl 2 (by decide) (hts (.fieldLink RX3 18 "FloatSolver$Nodes" "y" "[I") (oX3_init_in _ (List.mem_of_getElem? (i := 6) rfl))) (fun _ h9 => h9) rfl hin rfl (by decide +kernel) rfl rfl (Nat.le_of_ble_eq_true rfl) dX3_init_25 (fun H locs hP hD hS => ?_)
  have hP : va_P D vwCl [(h, .inr (1, [.ref q1, .ref q2, .ref q3, .null, .null, .null, .int 0])), (q1, .inl (cI, 40, .inl (fun _ => 0))), (q2, .inl (cI, 40, .inl (fun _ => 0))), (q3, .inl (cI, 40, .inl (fun _ => 0)))] H := hP
  have hD : va_D A [(h, .inr (1, [.ref q1, .ref q2, .ref q3, .null, .null, .null, .int 0])), (q1, .inl (cI, 40, .inl (fun _ => 0))), (q2, .inl (cI, 40, .inl (fun _ => 0))), (q3, .inl (cI, 40, .inl (fun _ => 0)))] := hD
  refine lv_aload_n hx hb dX3_init_28 rfl (lv_at hl 0 rfl) ?_
  refine lv_bipush (v := 40) hx hb dX3_init_29 (by decide) ?_
  refine sp_newa (atype := .int) (ty := .int) (a0 := (40, .inl (fun _ => 0))) hx hb (hts (.arrayClass .int) (oX3_init_in _ (List.mem_of_getElem? (i := 3) rfl))) rfl hK hP hD hS hA 0 rfl (fun _ => rfl) (by decide) (by decide) (by decide) (Nat.le_of_ble_eq_true rfl) (Nat.le_of_ble_eq_true rfl) dX3_init_31 (fun q4 H hP hD hS => ?_)
  have hP : va_P D vwCl [(h, .inr (1, [.ref q1, .ref q2, .ref q3, .null, .null, .null, .int 0])), (q1, .inl (cI, 40, .inl (fun _ => 0))), (q2, .inl (cI, 40, .inl (fun _ => 0))), (q3, .inl (cI, 40, .inl (fun _ => 0))), (q4, .inl (cI, 40, .inl (fun _ => 0)))] H := hP
  have hD : va_D A [(h, .inr (1, [.ref q1, .ref q2, .ref q3, .null, .null, .null, .int 0])), (q1, .inl (cI, 40, .inl (fun _ => 0))), (q2, .inl (cI, 40, .inl (fun _ => 0))), (q3, .inl (cI, 40, .inl (fun _ => 0))), (q4, .inl (cI, 40, .inl (fun _ => 0)))] := hD
  refine W.widen (k := 4) (n := 160) (by decide) (by decide) ?_
  refine va_putF (D := D) (ci := 1) (v := .ref q4) (ty := (.array .int)) (C := RX3) (T := TX3) (N := 7) hx hb hts iX3_init_X3 tyX3 tyX3_ok nmX3 hown hK hP hD hS 0 rfl rfl 3 (by decide) (hts (.fieldLink RX3 21 "FloatSolver$Nodes" "values" "[I") (oX3_init_in _ (List.mem_of_getElem? (i := 7) rfl))) (fun _ h9 => h9) rfl hin rfl (by decide +kernel) rfl rfl (Nat.le_of_ble_eq_true rfl) dX3_init_33 (fun H locs hP hD hS => ?_)
  have hP : va_P D vwCl [(h, .inr (1, [.ref q1, .ref q2, .ref q3, .ref q4, .null, .null, .int 0])), (q1, .inl (cI, 40, .inl (fun _ => 0))), (q2, .inl (cI, 40, .inl (fun _ => 0))), (q3, .inl (cI, 40, .inl (fun _ => 0))), (q4, .inl (cI, 40, .inl (fun _ => 0)))] H := hP
  have hD : va_D A [(h, .inr (1, [.ref q1, .ref q2, .ref q3, .ref q4, .null, .null, .int 0])), (q1, .inl (cI, 40, .inl (fun _ => 0))), (q2, .inl (cI, 40, .inl (fun _ => 0))), (q3, .inl (cI, 40, .inl (fun _ => 0))), (q4, .inl (cI, 40, .inl (fun _ => 0)))] := hD
  refine lv_aload_n hx hb dX3_init_36 rfl (lv_at hl 0 rfl) ?_
  refine lv_bipush (v := 40) hx hb dX3_init_37 (by decide) ?_
  refine sp_newa (atype := .long) (ty := .long) (a0 := (40, .inr (.inl (fun _ => 0)))) hx hb (hts (.arrayClass .long) (oX3_init_in _ (List.mem_of_getElem? (i := 8) rfl))) rfl hK hP hD hS hA 1 rfl (fun _ => rfl) (by decide) (by decide) (by decide) (Nat.le_of_ble_eq_true rfl) (Nat.le_of_ble_eq_true rfl) dX3_init_39 (fun q5 H hP hD hS => ?_)
  have hP : va_P D vwCl [(h, .inr (1, [.ref q1, .ref q2, .ref q3, .ref q4, .null, .null, .int 0])), (q1, .inl (cI, 40, .inl (fun _ => 0))), (q2, .inl (cI, 40, .inl (fun _ => 0))), (q3, .inl (cI, 40, .inl (fun _ => 0))), (q4, .inl (cI, 40, .inl (fun _ => 0))), (q5, .inl (cJ, 40, .inr (.inl (fun _ => 0))))] H := hP
  have hD : va_D A [(h, .inr (1, [.ref q1, .ref q2, .ref q3, .ref q4, .null, .null, .int 0])), (q1, .inl (cI, 40, .inl (fun _ => 0))), (q2, .inl (cI, 40, .inl (fun _ => 0))), (q3, .inl (cI, 40, .inl (fun _ => 0))), (q4, .inl (cI, 40, .inl (fun _ => 0))), (q5, .inl (cJ, 40, .inr (.inl (fun _ => 0))))] := hD
  refine W.widen (k := 5) (n := 200) (by decide) (by decide) ?_
  refine va_putF (D := D) (ci := 1) (v := .ref q5) (ty := (.array .long)) (C := RX3) (T := TX3) (N := 7) hx hb hts iX3_init_X3 tyX3 tyX3_ok nmX3 hown hK hP hD hS 0 rfl rfl 4 (by decide) (hts (.fieldLink RX3 24 "FloatSolver$Nodes" "rests" "[J") (oX3_init_in _ (List.mem_of_getElem? (i := 9) rfl))) (fun _ h9 => h9) rfl hin rfl (by decide +kernel) rfl rfl (Nat.le_of_ble_eq_true rfl) dX3_init_41 (fun H locs hP hD hS => ?_)
  have hP : va_P D vwCl [(h, .inr (1, [.ref q1, .ref q2, .ref q3, .ref q4, .ref q5, .null, .int 0])), (q1, .inl (cI, 40, .inl (fun _ => 0))), (q2, .inl (cI, 40, .inl (fun _ => 0))), (q3, .inl (cI, 40, .inl (fun _ => 0))), (q4, .inl (cI, 40, .inl (fun _ => 0))), (q5, .inl (cJ, 40, .inr (.inl (fun _ => 0))))] H := hP
  have hD : va_D A [(h, .inr (1, [.ref q1, .ref q2, .ref q3, .ref q4, .ref q5, .null, .int 0])), (q1, .inl (cI, 40, .inl (fun _ => 0))), (q2, .inl (cI, 40, .inl (fun _ => 0))), (q3, .inl (cI, 40, .inl (fun _ => 0))), (q4, .inl (cI, 40, .inl (fun _ => 0))), (q5, .inl (cJ, 40, .inr (.inl (fun _ => 0))))] := hD
  refine lv_aload_n hx hb dX3_init_44 rfl (lv_at hl 0 rfl) ?_
  refine lv_iconst (v := 4) hx hb dX3_init_45 (by decide) ?_
  refine sp_newa (atype := .long) (ty := .long) (a0 := (4, .inr (.inl (fun _ => 0)))) hx hb (hts (.arrayClass .long) (oX3_init_in _ (List.mem_of_getElem? (i := 8) rfl))) rfl hK hP hD hS hA 1 rfl (fun _ => rfl) (by decide) (by decide) (by decide) (Nat.le_of_ble_eq_true rfl) (Nat.le_of_ble_eq_true rfl) dX3_init_46 (fun q6 H hP hD hS => ?_)
  have hP : va_P D vwCl [(h, .inr (1, [.ref q1, .ref q2, .ref q3, .ref q4, .ref q5, .null, .int 0])), (q1, .inl (cI, 40, .inl (fun _ => 0))), (q2, .inl (cI, 40, .inl (fun _ => 0))), (q3, .inl (cI, 40, .inl (fun _ => 0))), (q4, .inl (cI, 40, .inl (fun _ => 0))), (q5, .inl (cJ, 40, .inr (.inl (fun _ => 0)))), (q6, .inl (cJ, 4, .inr (.inl (fun _ => 0))))] H := hP
  have hD : va_D A [(h, .inr (1, [.ref q1, .ref q2, .ref q3, .ref q4, .ref q5, .null, .int 0])), (q1, .inl (cI, 40, .inl (fun _ => 0))), (q2, .inl (cI, 40, .inl (fun _ => 0))), (q3, .inl (cI, 40, .inl (fun _ => 0))), (q4, .inl (cI, 40, .inl (fun _ => 0))), (q5, .inl (cJ, 40, .inr (.inl (fun _ => 0)))), (q6, .inl (cJ, 4, .inr (.inl (fun _ => 0))))] := hD
  refine W.widen (k := 6) (n := 204) (by decide) (by decide) ?_
  refine va_putF (D := D) (ci := 1) (v := .ref q6) (ty := (.array .long)) (C := RX3) (T := TX3) (N := 7) hx hb hts iX3_init_X3 tyX3 tyX3_ok nmX3 hown hK hP hD hS 0 rfl rfl 5 (by decide) (hts (.fieldLink RX3 28 "FloatSolver$Nodes" "users" "[J") (oX3_init_in _ (List.mem_of_getElem? (i := 10) rfl))) (fun _ h9 => h9) rfl hin rfl (by decide +kernel) rfl rfl (Nat.le_of_ble_eq_true rfl) dX3_init_48 (fun H locs hP hD hS => ?_)
  have hP : va_P D vwCl [(h, .inr (1, [.ref q1, .ref q2, .ref q3, .ref q4, .ref q5, .ref q6, .int 0])), (q1, .inl (cI, 40, .inl (fun _ => 0))), (q2, .inl (cI, 40, .inl (fun _ => 0))), (q3, .inl (cI, 40, .inl (fun _ => 0))), (q4, .inl (cI, 40, .inl (fun _ => 0))), (q5, .inl (cJ, 40, .inr (.inl (fun _ => 0)))), (q6, .inl (cJ, 4, .inr (.inl (fun _ => 0))))] H := hP
  have hD : va_D A [(h, .inr (1, [.ref q1, .ref q2, .ref q3, .ref q4, .ref q5, .ref q6, .int 0])), (q1, .inl (cI, 40, .inl (fun _ => 0))), (q2, .inl (cI, 40, .inl (fun _ => 0))), (q3, .inl (cI, 40, .inl (fun _ => 0))), (q4, .inl (cI, 40, .inl (fun _ => 0))), (q5, .inl (cJ, 40, .inr (.inl (fun _ => 0)))), (q6, .inl (cJ, 4, .inr (.inl (fun _ => 0))))] := hD
  refine lv_aload_n hx hb dX3_init_51 rfl (lv_at hl 0 rfl) ?_
  refine lv_iconst (v := 0) hx hb dX3_init_52 (by decide) ?_
  refine va_put (D := D) (ci := 1) (v := .int 0) (ty := .int) (C := RX3) (T := TX3) (N := 7) hx hb hts iX3_init_X3 tyX3 tyX3_ok nmX3 hown hK hP hD hS 0 rfl rfl 6 (by decide) (hts (.fieldLink RX3 31 "FloatSolver$Nodes" "count" "I") (oX3_init_in _ (List.mem_of_getElem? (i := 11) rfl))) (fun _ h9 => h9) rfl (by decide +kernel) rfl rfl (Nat.le_of_ble_eq_true rfl) dX3_init_53 (fun H locs hP hD hS => ?_)
  have hP : va_P D vwCl [(h, .inr (1, [.ref q1, .ref q2, .ref q3, .ref q4, .ref q5, .ref q6, .int 0])), (q1, .inl (cI, 40, .inl (fun _ => 0))), (q2, .inl (cI, 40, .inl (fun _ => 0))), (q3, .inl (cI, 40, .inl (fun _ => 0))), (q4, .inl (cI, 40, .inl (fun _ => 0))), (q5, .inl (cJ, 40, .inr (.inl (fun _ => 0)))), (q6, .inl (cJ, 4, .inr (.inl (fun _ => 0))))] H := hP
  have hD : va_D A [(h, .inr (1, [.ref q1, .ref q2, .ref q3, .ref q4, .ref q5, .ref q6, .int 0])), (q1, .inl (cI, 40, .inl (fun _ => 0))), (q2, .inl (cI, 40, .inl (fun _ => 0))), (q3, .inl (cI, 40, .inl (fun _ => 0))), (q4, .inl (cI, 40, .inl (fun _ => 0))), (q5, .inl (cJ, 40, .inr (.inl (fun _ => 0)))), (q6, .inl (cJ, 4, .inr (.inl (fun _ => 0))))] := hD
  refine W.widen (k := 6) (n := 204) (by decide) (by decide) ?_
  exact sp_vret (u := (q1, q2, q3, q4, q5, q6)) hx hb hr hlocks hS trivial (hP.sub [0, 1, 2, 3, 4, 5, 6] rfl) (hD.sub [0, 1, 2, 3, 4, 5, 6] (by decide) rfl) dX3_init_56
def oX4_init : List Cond := [.methodLink RX4 3 objectInit, .instanceMethod objectInit, .code objectInit ⟨#[0xb1]⟩ 1 none, .arrayClass .int, .fieldLink RX4 9 "FloatSolver$Rules" "kind" "[I", .fieldLink RX4 15 "FloatSolver$Rules" "a" "[I", .fieldLink RX4 18 "FloatSolver$Rules" "b" "[I", .fieldLink RX4 21 "FloatSolver$Rules" "count" "I"]
def wpX4_init : List Cond := .code yX4_init cX4_init 1 none :: (oX4_init ++ (wsX40 ++ ([] : List Cond)))
theorem oX4_init_in : ∀ w ∈ oX4_init, w ∈ wpX4_init := fun w h => List.mem_cons_of_mem _ (List.mem_append_left _ h)
theorem gwoX4_init : ∀ w ∈ oX4_init, goodWord w = true := by decide +kernel
theorem gwX4_init : ∀ w ∈ wpX4_init, goodWord w = true := by
  unfold wpX4_init
  exact List.forall_mem_cons.mpr ⟨rfl, List.forall_mem_append.mpr ⟨gwoX4_init, List.forall_mem_append.mpr ⟨gwX4, fun _ h => absurd h List.not_mem_nil⟩⟩⟩
set_option maxRecDepth 100000 in
theorem toX4_init : ∀ w ∈ oX4_init, w ∈ lw_tbl := by
  unfold oX4_init
  exact List.forall_mem_cons.mpr ⟨(List.mem_of_getElem? (i := 108) (by decide +kernel)), List.forall_mem_cons.mpr ⟨(List.mem_of_getElem? (i := 61) (by decide +kernel)), List.forall_mem_cons.mpr ⟨(List.mem_of_getElem? (i := 62) (by rfl)), List.forall_mem_cons.mpr ⟨(List.mem_of_getElem? (i := 101) (by decide +kernel)), List.forall_mem_cons.mpr ⟨(List.mem_of_getElem? (i := 109) (by decide +kernel)), List.forall_mem_cons.mpr ⟨(List.mem_of_getElem? (i := 110) (by decide +kernel)), List.forall_mem_cons.mpr ⟨(List.mem_of_getElem? (i := 111) (by decide +kernel)), List.forall_mem_cons.mpr ⟨(List.mem_of_getElem? (i := 112) (by decide +kernel)), fun _ h => absurd h List.not_mem_nil⟩⟩⟩⟩⟩⟩⟩⟩
set_option maxRecDepth 100000 in
theorem tX4_init : ∀ w ∈ wpX4_init, w ∈ lw_tbl := by
  unfold wpX4_init
  exact List.forall_mem_cons.mpr ⟨(List.mem_of_getElem? (i := 107) (by rfl)), List.forall_mem_append.mpr ⟨toX4_init, List.forall_mem_append.mpr ⟨in_wsX40, fun _ h => absurd h List.not_mem_nil⟩⟩⟩
theorem iX4_init_X4 : ∀ w ∈ wsX40, w ∈ wpX4_init := fun w h => List.mem_cons_of_mem _ (List.mem_append_right _ (List.mem_append_left _ h))
set_option maxHeartbeats 4000000 in
set_option maxRecDepth 100000 in
theorem c_X4_init (l : Launch) (D : va_G) (cI cJ cZ : ClassId) (sz : Nat) (h : Nat) : Met l yX4_init wpX4_init ({ frames := 1, cells := 3, slots := 36, locals := 24 }) (va_Pc [.ref h] (sp_pre D vwCl (sp_ty cI cJ cZ) [(h, .inr (2, [.null, .null, .null, .int 0]))] sz)) (va_Qv (fun (u : Nat × Nat × Nat) => match u with | (a0, a1, a2) => True) (sp_B D vwCl (va_A [(h, .inr (2, [.null, .null, .null, .int 0]))] sz) (fun (u : Nat × Nat × Nat) => match u with | (a0, a1, a2) => [(h, .inr (2, [.ref a0, .ref a1, .ref a2, .int 0])), (a0, .inl (cI, 12, .inl (fun _ => 0))), (a1, .inl (cI, 12, .inl (fun _ => 0))), (a2, .inl (cI, 12, .inl (fun _ => 0)))])) (va_A [(h, .inr (2, [.null, .null, .null, .int 0]))] sz)) 3 36 (va_A [(h, .inr (2, [.null, .null, .null, .int 0]))] sz) := by
  refine sp_ofW (Qc := fun A => va_Qv (fun (u : Nat × Nat × Nat) => match u with | (a0, a1, a2) => True) (sp_B D vwCl A (fun (u : Nat × Nat × Nat) => match u with | (a0, a1, a2) => [(h, .inr (2, [.ref a0, .ref a1, .ref a2, .int 0])), (a0, .inl (cI, 12, .inl (fun _ => 0))), (a1, .inl (cI, 12, .inl (fun _ => 0))), (a2, .inl (cI, 12, .inl (fun _ => 0)))])) A) (by decide) rfl (Nat.le_of_ble_eq_true rfl) (fun p e s m below meth c A ls H locs C0 hA hS hP hK hD hl => ?_)
  obtain ⟨hx, hb, hr, hts, hown, hlocks, hml, hin⟩ := C0
  have hown : s.vm.findClass RX4 = some m.cls := hown
  have hin : meth.name = "<init>" := hin
  have hl : lv_has ls 1 [(0, .ref h)] := hl
  have hK : va_K D vwCl [(cI, .int), (cJ, .long), (cZ, .boolean)] s := hK
  refine lv_aload_n hx hb dX4_init_0 rfl (lv_at hl 0 rfl) ?_
  refine W.objInit hx hb hown (hts (.methodLink RX4 3 objectInit) (oX4_init_in _ (List.mem_of_getElem? (i := 0) rfl))) (hts (.instanceMethod objectInit) (oX4_init_in _ (List.mem_of_getElem? (i := 1) rfl))) (hts (.code objectInit ⟨#[0xb1]⟩ 1 none) (oX4_init_in _ (List.mem_of_getElem? (i := 2) rfl))) rfl (by rw [hml]; exact hl.1) rfl dX4_init_1 (Nat.le_of_ble_eq_true rfl) (Nat.le_of_ble_eq_true rfl) ?_
  refine W.eq (g2 := F0 m 4 ls []) rfl ?_
  refine lv_aload_n hx hb dX4_init_4 rfl (lv_at hl 0 rfl) ?_
  refine lv_bipush (v := 12) hx hb dX4_init_5 (by decide) ?_
  refine sp_newa (atype := .int) (ty := .int) (a0 := (12, .inl (fun _ => 0))) hx hb (hts (.arrayClass .int) (oX4_init_in _ (List.mem_of_getElem? (i := 3) rfl))) rfl hK hP hD hS hA 0 rfl (fun _ => rfl) (by decide) (by decide) (by decide) (Nat.le_of_ble_eq_true rfl) (Nat.le_of_ble_eq_true rfl) dX4_init_7 (fun q1 H hP hD hS => ?_)
  have hP : va_P D vwCl [(h, .inr (2, [.null, .null, .null, .int 0])), (q1, .inl (cI, 12, .inl (fun _ => 0)))] H := hP
  have hD : va_D A [(h, .inr (2, [.null, .null, .null, .int 0])), (q1, .inl (cI, 12, .inl (fun _ => 0)))] := hD
  refine W.widen (k := 1) (n := 12) (by decide) (by decide) ?_
  refine va_putF (D := D) (ci := 2) (v := .ref q1) (ty := (.array .int)) (C := RX4) (T := TX4) (N := 4) hx hb hts iX4_init_X4 tyX4 tyX4_ok nmX4 hown hK hP hD hS 0 rfl rfl 0 (by decide) (hts (.fieldLink RX4 9 "FloatSolver$Rules" "kind" "[I") (oX4_init_in _ (List.mem_of_getElem? (i := 4) rfl))) (fun _ h9 => h9) rfl hin rfl (by decide +kernel) rfl rfl (Nat.le_of_ble_eq_true rfl) dX4_init_9 (fun H locs hP hD hS => ?_)
  have hP : va_P D vwCl [(h, .inr (2, [.ref q1, .null, .null, .int 0])), (q1, .inl (cI, 12, .inl (fun _ => 0)))] H := hP
  have hD : va_D A [(h, .inr (2, [.ref q1, .null, .null, .int 0])), (q1, .inl (cI, 12, .inl (fun _ => 0)))] := hD
  refine lv_aload_n hx hb dX4_init_12 rfl (lv_at hl 0 rfl) ?_
  refine lv_bipush (v := 12) hx hb dX4_init_13 (by decide) ?_
  refine sp_newa (atype := .int) (ty := .int) (a0 := (12, .inl (fun _ => 0))) hx hb (hts (.arrayClass .int) (oX4_init_in _ (List.mem_of_getElem? (i := 3) rfl))) rfl hK hP hD hS hA 0 rfl (fun _ => rfl) (by decide) (by decide) (by decide) (Nat.le_of_ble_eq_true rfl) (Nat.le_of_ble_eq_true rfl) dX4_init_15 (fun q2 H hP hD hS => ?_)
  have hP : va_P D vwCl [(h, .inr (2, [.ref q1, .null, .null, .int 0])), (q1, .inl (cI, 12, .inl (fun _ => 0))), (q2, .inl (cI, 12, .inl (fun _ => 0)))] H := hP
  have hD : va_D A [(h, .inr (2, [.ref q1, .null, .null, .int 0])), (q1, .inl (cI, 12, .inl (fun _ => 0))), (q2, .inl (cI, 12, .inl (fun _ => 0)))] := hD
  refine W.widen (k := 2) (n := 24) (by decide) (by decide) ?_
  refine va_putF (D := D) (ci := 2) (v := .ref q2) (ty := (.array .int)) (C := RX4) (T := TX4) (N := 4) hx hb hts iX4_init_X4 tyX4 tyX4_ok nmX4 hown hK hP hD hS 0 rfl rfl 1 (by decide) (hts (.fieldLink RX4 15 "FloatSolver$Rules" "a" "[I") (oX4_init_in _ (List.mem_of_getElem? (i := 5) rfl))) (fun _ h9 => h9) rfl hin rfl (by decide +kernel) rfl rfl (Nat.le_of_ble_eq_true rfl) dX4_init_17 (fun H locs hP hD hS => ?_)
  have hP : va_P D vwCl [(h, .inr (2, [.ref q1, .ref q2, .null, .int 0])), (q1, .inl (cI, 12, .inl (fun _ => 0))), (q2, .inl (cI, 12, .inl (fun _ => 0)))] H := hP
  have hD : va_D A [(h, .inr (2, [.ref q1, .ref q2, .null, .int 0])), (q1, .inl (cI, 12, .inl (fun _ => 0))), (q2, .inl (cI, 12, .inl (fun _ => 0)))] := hD
  refine lv_aload_n hx hb dX4_init_20 rfl (lv_at hl 0 rfl) ?_
  refine lv_bipush (v := 12) hx hb dX4_init_21 (by decide) ?_
  refine sp_newa (atype := .int) (ty := .int) (a0 := (12, .inl (fun _ => 0))) hx hb (hts (.arrayClass .int) (oX4_init_in _ (List.mem_of_getElem? (i := 3) rfl))) rfl hK hP hD hS hA 0 rfl (fun _ => rfl) (by decide) (by decide) (by decide) (Nat.le_of_ble_eq_true rfl) (Nat.le_of_ble_eq_true rfl) dX4_init_23 (fun q3 H hP hD hS => ?_)
  have hP : va_P D vwCl [(h, .inr (2, [.ref q1, .ref q2, .null, .int 0])), (q1, .inl (cI, 12, .inl (fun _ => 0))), (q2, .inl (cI, 12, .inl (fun _ => 0))), (q3, .inl (cI, 12, .inl (fun _ => 0)))] H := hP
  have hD : va_D A [(h, .inr (2, [.ref q1, .ref q2, .null, .int 0])), (q1, .inl (cI, 12, .inl (fun _ => 0))), (q2, .inl (cI, 12, .inl (fun _ => 0))), (q3, .inl (cI, 12, .inl (fun _ => 0)))] := hD
  refine W.widen (k := 3) (n := 36) (by decide) (by decide) ?_
  refine va_putF (D := D) (ci := 2) (v := .ref q3) (ty := (.array .int)) (C := RX4) (T := TX4) (N := 4) hx hb hts iX4_init_X4 tyX4 tyX4_ok nmX4 hown hK hP hD hS 0 rfl rfl 2 (by decide) (hts (.fieldLink RX4 18 "FloatSolver$Rules" "b" "[I") (oX4_init_in _ (List.mem_of_getElem? (i := 6) rfl))) (fun _ h9 => h9) rfl hin rfl (by decide +kernel) rfl rfl (Nat.le_of_ble_eq_true rfl) dX4_init_25 (fun H locs hP hD hS => ?_)
  have hP : va_P D vwCl [(h, .inr (2, [.ref q1, .ref q2, .ref q3, .int 0])), (q1, .inl (cI, 12, .inl (fun _ => 0))), (q2, .inl (cI, 12, .inl (fun _ => 0))), (q3, .inl (cI, 12, .inl (fun _ => 0)))] H := hP
  have hD : va_D A [(h, .inr (2, [.ref q1, .ref q2, .ref q3, .int 0])), (q1, .inl (cI, 12, .inl (fun _ => 0))), (q2, .inl (cI, 12, .inl (fun _ => 0))), (q3, .inl (cI, 12, .inl (fun _ => 0)))] := hD
  refine lv_aload_n hx hb dX4_init_28 rfl (lv_at hl 0 rfl) ?_
  refine lv_iconst (v := 0) hx hb dX4_init_29 (by decide) ?_
  refine va_put (D := D) (ci := 2) (v := .int 0) (ty := .int) (C := RX4) (T := TX4) (N := 4) hx hb hts iX4_init_X4 tyX4 tyX4_ok nmX4 hown hK hP hD hS 0 rfl rfl 3 (by decide) (hts (.fieldLink RX4 21 "FloatSolver$Rules" "count" "I") (oX4_init_in _ (List.mem_of_getElem? (i := 7) rfl))) (fun _ h9 => h9) rfl (by decide +kernel) rfl rfl (Nat.le_of_ble_eq_true rfl) dX4_init_30 (fun H locs hP hD hS => ?_)
  have hP : va_P D vwCl [(h, .inr (2, [.ref q1, .ref q2, .ref q3, .int 0])), (q1, .inl (cI, 12, .inl (fun _ => 0))), (q2, .inl (cI, 12, .inl (fun _ => 0))), (q3, .inl (cI, 12, .inl (fun _ => 0)))] H := hP
  have hD : va_D A [(h, .inr (2, [.ref q1, .ref q2, .ref q3, .int 0])), (q1, .inl (cI, 12, .inl (fun _ => 0))), (q2, .inl (cI, 12, .inl (fun _ => 0))), (q3, .inl (cI, 12, .inl (fun _ => 0)))] := hD
  refine W.widen (k := 3) (n := 36) (by decide) (by decide) ?_
  exact sp_vret (u := (q1, q2, q3)) hx hb hr hlocks hS trivial (hP.sub [0, 1, 2, 3] rfl) (hD.sub [0, 1, 2, 3] (by decide) rfl) dX4_init_33
def oX6_init : List Cond := [.methodLink RX6 3 objectInit, .instanceMethod objectInit, .code objectInit ⟨#[0xb1]⟩ 1 none, .arrayClass .boolean, .fieldLink RX6 9 "FloatSolver$Spans" "some" "[Z", .fieldLink RX6 15 "FloatSolver$Spans" "none" "[Z", .arrayClass .int, .fieldLink RX6 18 "FloatSolver$Spans" "low" "[I", .fieldLink RX6 22 "FloatSolver$Spans" "high" "[I", .classLink RX6 25 RX1, .instantiable RX1 2, .initialized RX1, .methodLink RX6 27 yX1_init, .instanceMethod yX1_init, .fieldLink RX6 28 "FloatSolver$Spans" "box" "LFloatSolver$Box;", .fieldLink RX6 32 "FloatSolver$Spans" "standing" "J", .fieldLink RX6 36 "FloatSolver$Spans" "nodes" "LFloatSolver$Nodes;"]
def wpX6_init : List Cond := .code yX6_init cX6_init 2 none :: (oX6_init ++ (wsX60 ++ (wsX10 ++ ((wpX1_init) ++ ([] : List Cond)))))
theorem oX6_init_in : ∀ w ∈ oX6_init, w ∈ wpX6_init := fun w h => List.mem_cons_of_mem _ (List.mem_append_left _ h)
theorem gwoX6_init : ∀ w ∈ oX6_init, goodWord w = true := by decide +kernel
theorem gwX6_init : ∀ w ∈ wpX6_init, goodWord w = true := by
  unfold wpX6_init
  exact List.forall_mem_cons.mpr ⟨rfl, List.forall_mem_append.mpr ⟨gwoX6_init, List.forall_mem_append.mpr ⟨gwX6, List.forall_mem_append.mpr ⟨gwX1, List.forall_mem_append.mpr ⟨(gwX1_init), fun _ h => absurd h List.not_mem_nil⟩⟩⟩⟩⟩
set_option maxRecDepth 100000 in
theorem toX6_init : ∀ w ∈ oX6_init, w ∈ lw_tbl := by
  unfold oX6_init
  exact List.forall_mem_cons.mpr ⟨(List.mem_of_getElem? (i := 152) (by decide +kernel)), List.forall_mem_cons.mpr ⟨(List.mem_of_getElem? (i := 61) (by decide +kernel)), List.forall_mem_cons.mpr ⟨(List.mem_of_getElem? (i := 62) (by rfl)), List.forall_mem_cons.mpr ⟨(List.mem_of_getElem? (i := 185) (by decide +kernel)), List.forall_mem_cons.mpr ⟨(List.mem_of_getElem? (i := 155) (by decide +kernel)), List.forall_mem_cons.mpr ⟨(List.mem_of_getElem? (i := 158) (by decide +kernel)), List.forall_mem_cons.mpr ⟨(List.mem_of_getElem? (i := 101) (by decide +kernel)), List.forall_mem_cons.mpr ⟨(List.mem_of_getElem? (i := 161) (by decide +kernel)), List.forall_mem_cons.mpr ⟨(List.mem_of_getElem? (i := 164) (by decide +kernel)), List.forall_mem_cons.mpr ⟨(List.mem_of_getElem? (i := 153) (by decide +kernel)), List.forall_mem_cons.mpr ⟨(List.mem_of_getElem? (i := 124) (by decide +kernel)), List.forall_mem_cons.mpr ⟨(List.mem_of_getElem? (i := 41) (by decide +kernel)), List.forall_mem_cons.mpr ⟨(List.mem_of_getElem? (i := 154) (by decide +kernel)), List.forall_mem_cons.mpr ⟨(List.mem_of_getElem? (i := 126) (by decide +kernel)), List.forall_mem_cons.mpr ⟨(List.mem_of_getElem? (i := 168) (by decide +kernel)), List.forall_mem_cons.mpr ⟨(List.mem_of_getElem? (i := 169) (by decide +kernel)), List.forall_mem_cons.mpr ⟨(List.mem_of_getElem? (i := 167) (by decide +kernel)), fun _ h => absurd h List.not_mem_nil⟩⟩⟩⟩⟩⟩⟩⟩⟩⟩⟩⟩⟩⟩⟩⟩⟩
set_option maxRecDepth 100000 in
theorem tX6_init : ∀ w ∈ wpX6_init, w ∈ lw_tbl := by
  unfold wpX6_init
  exact List.forall_mem_cons.mpr ⟨(List.mem_of_getElem? (i := 151) (by rfl)), List.forall_mem_append.mpr ⟨toX6_init, List.forall_mem_append.mpr ⟨in_wsX60, List.forall_mem_append.mpr ⟨in_wsX10, List.forall_mem_append.mpr ⟨(tX1_init), fun _ h => absurd h List.not_mem_nil⟩⟩⟩⟩⟩
theorem iX6_init_X6 : ∀ w ∈ wsX60, w ∈ wpX6_init := fun w h => List.mem_cons_of_mem _ (List.mem_append_right _ (List.mem_append_left _ h))
theorem iX6_init_X1 : ∀ w ∈ wsX10, w ∈ wpX6_init := fun w h => List.mem_cons_of_mem _ (List.mem_append_right _ (List.mem_append_right _ (List.mem_append_left _ h)))
theorem gX6_init_X1_init_27 : GoodIn wpX6_init (wpX1_init) := fun w h => ⟨List.mem_cons_of_mem _ (List.mem_append_right _ (List.mem_append_right _ (List.mem_append_right _ (List.mem_append_left _ h)))), good_of_word (gwX1_init w h)⟩
set_option maxHeartbeats 4000000 in
set_option maxRecDepth 100000 in
theorem c_X6_init (l : Launch) (D : va_G) (cI cJ cZ : ClassId) (sz : Nat) (h n : Nat) : Met l yX6_init wpX6_init ({ frames := 2, cells := 7, slots := 170, locals := 44 }) (va_Pc [.ref h, .ref n] (sp_pre D vwCl (sp_ty cI cJ cZ) [(h, .inr (4, [.null, .null, .null, .null, .null, .null, .long 0]))] sz)) (va_Qv (fun (u : Nat × Nat × Nat × Nat × Nat × Nat × Nat × (Nat → Int32) × (Nat → Int32)) => match u with | (a0, a1, a2, a3, bx, a, b, f, g) => (∀ j : Nat, j < 4 → f j = (-2139095041)) ∧ (∀ j : Nat, j < 4 → g j = 2139095040)) (sp_B D vwCl (va_A [(h, .inr (4, [.null, .null, .null, .null, .null, .null, .long 0]))] sz) (fun (u : Nat × Nat × Nat × Nat × Nat × Nat × Nat × (Nat → Int32) × (Nat → Int32)) => match u with | (a0, a1, a2, a3, bx, a, b, f, g) => [(h, .inr (4, [.ref a0, .ref a1, .ref a2, .ref a3, .ref n, .ref bx, .long 0])), (a0, .inl (cZ, 40, .inl (fun _ => 0))), (a1, .inl (cZ, 40, .inl (fun _ => 0))), (a2, .inl (cI, 40, .inl (fun _ => 0))), (a3, .inl (cI, 40, .inl (fun _ => 0))), (bx, .inr (0, [.ref a, .ref b])), (a, .inl (cI, 4, .inl f)), (b, .inl (cI, 4, .inl g))])) (va_A [(h, .inr (4, [.null, .null, .null, .null, .null, .null, .long 0]))] sz)) 7 170 (va_A [(h, .inr (4, [.null, .null, .null, .null, .null, .null, .long 0]))] sz) := by
  refine sp_ofW (Qc := fun A => va_Qv (fun (u : Nat × Nat × Nat × Nat × Nat × Nat × Nat × (Nat → Int32) × (Nat → Int32)) => match u with | (a0, a1, a2, a3, bx, a, b, f, g) => (∀ j : Nat, j < 4 → f j = (-2139095041)) ∧ (∀ j : Nat, j < 4 → g j = 2139095040)) (sp_B D vwCl A (fun (u : Nat × Nat × Nat × Nat × Nat × Nat × Nat × (Nat → Int32) × (Nat → Int32)) => match u with | (a0, a1, a2, a3, bx, a, b, f, g) => [(h, .inr (4, [.ref a0, .ref a1, .ref a2, .ref a3, .ref n, .ref bx, .long 0])), (a0, .inl (cZ, 40, .inl (fun _ => 0))), (a1, .inl (cZ, 40, .inl (fun _ => 0))), (a2, .inl (cI, 40, .inl (fun _ => 0))), (a3, .inl (cI, 40, .inl (fun _ => 0))), (bx, .inr (0, [.ref a, .ref b])), (a, .inl (cI, 4, .inl f)), (b, .inl (cI, 4, .inl g))])) A) (by decide) rfl (Nat.le_of_ble_eq_true rfl) (fun p e s m below meth c A ls H locs C0 hA hS hP hK hD hl => ?_)
  obtain ⟨hx, hb, hr, hts, hown, hlocks, hml, hin⟩ := C0
  have hown : s.vm.findClass RX6 = some m.cls := hown
  have hin : meth.name = "<init>" := hin
  have hl : lv_has ls 2 [(0, .ref h), (1, .ref n)] := hl
  have hK : va_K D vwCl [(cI, .int), (cJ, .long), (cZ, .boolean)] s := hK
  refine lv_aload_n hx hb dX6_init_0 rfl (lv_at hl 0 rfl) ?_
  refine W.objInit hx hb hown (hts (.methodLink RX6 3 objectInit) (oX6_init_in _ (List.mem_of_getElem? (i := 0) rfl))) (hts (.instanceMethod objectInit) (oX6_init_in _ (List.mem_of_getElem? (i := 1) rfl))) (hts (.code objectInit ⟨#[0xb1]⟩ 1 none) (oX6_init_in _ (List.mem_of_getElem? (i := 2) rfl))) rfl (by rw [hml]; exact hl.1) rfl dX6_init_1 (Nat.le_of_ble_eq_true rfl) (Nat.le_of_ble_eq_true rfl) ?_
  refine W.eq (g2 := F0 m 4 ls []) rfl ?_
  refine lv_aload_n hx hb dX6_init_4 rfl (lv_at hl 0 rfl) ?_
  refine lv_bipush (v := 40) hx hb dX6_init_5 (by decide) ?_
  refine sp_newa (atype := .boolean) (ty := .boolean) (a0 := (40, .inl (fun _ => 0))) hx hb (hts (.arrayClass .boolean) (oX6_init_in _ (List.mem_of_getElem? (i := 3) rfl))) rfl hK hP hD hS hA 2 rfl (fun _ => rfl) (by decide) (by decide) (by decide) (Nat.le_of_ble_eq_true rfl) (Nat.le_of_ble_eq_true rfl) dX6_init_7 (fun q1 H hP hD hS => ?_)
  have hP : va_P D vwCl [(h, .inr (4, [.null, .null, .null, .null, .null, .null, .long 0])), (q1, .inl (cZ, 40, .inl (fun _ => 0)))] H := hP
  have hD : va_D A [(h, .inr (4, [.null, .null, .null, .null, .null, .null, .long 0])), (q1, .inl (cZ, 40, .inl (fun _ => 0)))] := hD
  refine W.widen (k := 1) (n := 40) (by decide) (by decide) ?_
  refine va_putF (D := D) (ci := 4) (v := .ref q1) (ty := (.array .boolean)) (C := RX6) (T := TX6) (N := 7) hx hb hts iX6_init_X6 tyX6 tyX6_ok nmX6 hown hK hP hD hS 0 rfl rfl 0 (by decide) (hts (.fieldLink RX6 9 "FloatSolver$Spans" "some" "[Z") (oX6_init_in _ (List.mem_of_getElem? (i := 4) rfl))) (fun _ h9 => h9) rfl hin rfl (by decide +kernel) rfl rfl (Nat.le_of_ble_eq_true rfl) dX6_init_9 (fun H locs hP hD hS => ?_)
  have hP : va_P D vwCl [(h, .inr (4, [.ref q1, .null, .null, .null, .null, .null, .long 0])), (q1, .inl (cZ, 40, .inl (fun _ => 0)))] H := hP
  have hD : va_D A [(h, .inr (4, [.ref q1, .null, .null, .null, .null, .null, .long 0])), (q1, .inl (cZ, 40, .inl (fun _ => 0)))] := hD
  refine lv_aload_n hx hb dX6_init_12 rfl (lv_at hl 0 rfl) ?_
  refine lv_bipush (v := 40) hx hb dX6_init_13 (by decide) ?_
  refine sp_newa (atype := .boolean) (ty := .boolean) (a0 := (40, .inl (fun _ => 0))) hx hb (hts (.arrayClass .boolean) (oX6_init_in _ (List.mem_of_getElem? (i := 3) rfl))) rfl hK hP hD hS hA 2 rfl (fun _ => rfl) (by decide) (by decide) (by decide) (Nat.le_of_ble_eq_true rfl) (Nat.le_of_ble_eq_true rfl) dX6_init_15 (fun q2 H hP hD hS => ?_)
  have hP : va_P D vwCl [(h, .inr (4, [.ref q1, .null, .null, .null, .null, .null, .long 0])), (q1, .inl (cZ, 40, .inl (fun _ => 0))), (q2, .inl (cZ, 40, .inl (fun _ => 0)))] H := hP
  have hD : va_D A [(h, .inr (4, [.ref q1, .null, .null, .null, .null, .null, .long 0])), (q1, .inl (cZ, 40, .inl (fun _ => 0))), (q2, .inl (cZ, 40, .inl (fun _ => 0)))] := hD
  refine W.widen (k := 2) (n := 80) (by decide) (by decide) ?_
  refine va_putF (D := D) (ci := 4) (v := .ref q2) (ty := (.array .boolean)) (C := RX6) (T := TX6) (N := 7) hx hb hts iX6_init_X6 tyX6 tyX6_ok nmX6 hown hK hP hD hS 0 rfl rfl 1 (by decide) (hts (.fieldLink RX6 15 "FloatSolver$Spans" "none" "[Z") (oX6_init_in _ (List.mem_of_getElem? (i := 5) rfl))) (fun _ h9 => h9) rfl hin rfl (by decide +kernel) rfl rfl (Nat.le_of_ble_eq_true rfl) dX6_init_17 (fun H locs hP hD hS => ?_)
  have hP : va_P D vwCl [(h, .inr (4, [.ref q1, .ref q2, .null, .null, .null, .null, .long 0])), (q1, .inl (cZ, 40, .inl (fun _ => 0))), (q2, .inl (cZ, 40, .inl (fun _ => 0)))] H := hP
  have hD : va_D A [(h, .inr (4, [.ref q1, .ref q2, .null, .null, .null, .null, .long 0])), (q1, .inl (cZ, 40, .inl (fun _ => 0))), (q2, .inl (cZ, 40, .inl (fun _ => 0)))] := hD
  refine lv_aload_n hx hb dX6_init_20 rfl (lv_at hl 0 rfl) ?_
  refine lv_bipush (v := 40) hx hb dX6_init_21 (by decide) ?_
  refine sp_newa (atype := .int) (ty := .int) (a0 := (40, .inl (fun _ => 0))) hx hb (hts (.arrayClass .int) (oX6_init_in _ (List.mem_of_getElem? (i := 6) rfl))) rfl hK hP hD hS hA 0 rfl (fun _ => rfl) (by decide) (by decide) (by decide) (Nat.le_of_ble_eq_true rfl) (Nat.le_of_ble_eq_true rfl) dX6_init_23 (fun q3 H hP hD hS => ?_)
  have hP : va_P D vwCl [(h, .inr (4, [.ref q1, .ref q2, .null, .null, .null, .null, .long 0])), (q1, .inl (cZ, 40, .inl (fun _ => 0))), (q2, .inl (cZ, 40, .inl (fun _ => 0))), (q3, .inl (cI, 40, .inl (fun _ => 0)))] H := hP
  have hD : va_D A [(h, .inr (4, [.ref q1, .ref q2, .null, .null, .null, .null, .long 0])), (q1, .inl (cZ, 40, .inl (fun _ => 0))), (q2, .inl (cZ, 40, .inl (fun _ => 0))), (q3, .inl (cI, 40, .inl (fun _ => 0)))] := hD
  refine W.widen (k := 3) (n := 120) (by decide) (by decide) ?_
  refine va_putF (D := D) (ci := 4) (v := .ref q3) (ty := (.array .int)) (C := RX6) (T := TX6) (N := 7) hx hb hts iX6_init_X6 tyX6 tyX6_ok nmX6 hown hK hP hD hS 0 rfl rfl 2 (by decide) (hts (.fieldLink RX6 18 "FloatSolver$Spans" "low" "[I") (oX6_init_in _ (List.mem_of_getElem? (i := 7) rfl))) (fun _ h9 => h9) rfl hin rfl (by decide +kernel) rfl rfl (Nat.le_of_ble_eq_true rfl) dX6_init_25 (fun H locs hP hD hS => ?_)
  have hP : va_P D vwCl [(h, .inr (4, [.ref q1, .ref q2, .ref q3, .null, .null, .null, .long 0])), (q1, .inl (cZ, 40, .inl (fun _ => 0))), (q2, .inl (cZ, 40, .inl (fun _ => 0))), (q3, .inl (cI, 40, .inl (fun _ => 0)))] H := hP
  have hD : va_D A [(h, .inr (4, [.ref q1, .ref q2, .ref q3, .null, .null, .null, .long 0])), (q1, .inl (cZ, 40, .inl (fun _ => 0))), (q2, .inl (cZ, 40, .inl (fun _ => 0))), (q3, .inl (cI, 40, .inl (fun _ => 0)))] := hD
  refine lv_aload_n hx hb dX6_init_28 rfl (lv_at hl 0 rfl) ?_
  refine lv_bipush (v := 40) hx hb dX6_init_29 (by decide) ?_
  refine sp_newa (atype := .int) (ty := .int) (a0 := (40, .inl (fun _ => 0))) hx hb (hts (.arrayClass .int) (oX6_init_in _ (List.mem_of_getElem? (i := 6) rfl))) rfl hK hP hD hS hA 0 rfl (fun _ => rfl) (by decide) (by decide) (by decide) (Nat.le_of_ble_eq_true rfl) (Nat.le_of_ble_eq_true rfl) dX6_init_31 (fun q4 H hP hD hS => ?_)
  have hP : va_P D vwCl [(h, .inr (4, [.ref q1, .ref q2, .ref q3, .null, .null, .null, .long 0])), (q1, .inl (cZ, 40, .inl (fun _ => 0))), (q2, .inl (cZ, 40, .inl (fun _ => 0))), (q3, .inl (cI, 40, .inl (fun _ => 0))), (q4, .inl (cI, 40, .inl (fun _ => 0)))] H := hP
  have hD : va_D A [(h, .inr (4, [.ref q1, .ref q2, .ref q3, .null, .null, .null, .long 0])), (q1, .inl (cZ, 40, .inl (fun _ => 0))), (q2, .inl (cZ, 40, .inl (fun _ => 0))), (q3, .inl (cI, 40, .inl (fun _ => 0))), (q4, .inl (cI, 40, .inl (fun _ => 0)))] := hD
  refine W.widen (k := 4) (n := 160) (by decide) (by decide) ?_
  refine va_putF (D := D) (ci := 4) (v := .ref q4) (ty := (.array .int)) (C := RX6) (T := TX6) (N := 7) hx hb hts iX6_init_X6 tyX6 tyX6_ok nmX6 hown hK hP hD hS 0 rfl rfl 3 (by decide) (hts (.fieldLink RX6 22 "FloatSolver$Spans" "high" "[I") (oX6_init_in _ (List.mem_of_getElem? (i := 8) rfl))) (fun _ h9 => h9) rfl hin rfl (by decide +kernel) rfl rfl (Nat.le_of_ble_eq_true rfl) dX6_init_33 (fun H locs hP hD hS => ?_)
  have hP : va_P D vwCl [(h, .inr (4, [.ref q1, .ref q2, .ref q3, .ref q4, .null, .null, .long 0])), (q1, .inl (cZ, 40, .inl (fun _ => 0))), (q2, .inl (cZ, 40, .inl (fun _ => 0))), (q3, .inl (cI, 40, .inl (fun _ => 0))), (q4, .inl (cI, 40, .inl (fun _ => 0)))] H := hP
  have hD : va_D A [(h, .inr (4, [.ref q1, .ref q2, .ref q3, .ref q4, .null, .null, .long 0])), (q1, .inl (cZ, 40, .inl (fun _ => 0))), (q2, .inl (cZ, 40, .inl (fun _ => 0))), (q3, .inl (cI, 40, .inl (fun _ => 0))), (q4, .inl (cI, 40, .inl (fun _ => 0)))] := hD
  refine lv_aload_n hx hb dX6_init_36 rfl (lv_at hl 0 rfl) ?_
  refine va_new (ci := 0) (fs := [.null, .null]) (C := RX1) (T := TX1) (N := 2) hx hb hts iX6_init_X1 tyX1 tyX1_ok hown (hts (.classLink RX6 25 RX1) (oX6_init_in _ (List.mem_of_getElem? (i := 9) rfl))) (hts (.instantiable RX1 2) (oX6_init_in _ (List.mem_of_getElem? (i := 10) rfl))) (hts (.initialized RX1) (oX6_init_in _ (List.mem_of_getElem? (i := 11) rfl))) hK hP hD hS hA rfl (fun j hj => by revert j; decide) (Nat.le_of_ble_eq_true rfl) (Nat.le_of_ble_eq_true rfl) dX6_init_37 (fun q5 H hP hD hS => ?_)
  have hP : va_P D vwCl [(h, .inr (4, [.ref q1, .ref q2, .ref q3, .ref q4, .null, .null, .long 0])), (q1, .inl (cZ, 40, .inl (fun _ => 0))), (q2, .inl (cZ, 40, .inl (fun _ => 0))), (q3, .inl (cI, 40, .inl (fun _ => 0))), (q4, .inl (cI, 40, .inl (fun _ => 0))), (q5, .inr (0, [.null, .null]))] H := hP
  have hD : va_D A [(h, .inr (4, [.ref q1, .ref q2, .ref q3, .ref q4, .null, .null, .long 0])), (q1, .inl (cZ, 40, .inl (fun _ => 0))), (q2, .inl (cZ, 40, .inl (fun _ => 0))), (q3, .inl (cI, 40, .inl (fun _ => 0))), (q4, .inl (cI, 40, .inl (fun _ => 0))), (q5, .inr (0, [.null, .null]))] := hD
  refine W.widen (k := 5) (n := 162) (by decide) (by decide) ?_
  refine lv_dup hx hb dX6_init_40 rfl ?_
  refine sp_callv (wr := [(h, .inr (4, [.ref q1, .ref q2, .ref q3, .ref q4, .null, .null, .long 0])), (q1, .inl (cZ, 40, .inl (fun _ => 0))), (q2, .inl (cZ, 40, .inl (fun _ => 0))), (q3, .inl (cI, 40, .inl (fun _ => 0))), (q4, .inl (cI, 40, .inl (fun _ => 0)))]) (wc := [(q5, .inr (0, [.null, .null]))]) hP hD hS hA [5] [0, 1, 2, 3, 4] rfl rfl (by decide) (by decide) (va_runI (As := []) (rest := [.ref q5, .ref h]) ⟨hx, hb, hml, hown, hts⟩ (c_X1_init l D cI cJ cZ H.size q5) (cwI 0 hts gX6_init_X1_init_27 rfl rfl rfl (hts (.initialized RX1) (oX6_init_in _ (List.mem_of_getElem? (i := 11) rfl))) (hts (.methodLink RX6 27 yX1_init) (oX6_init_in _ (List.mem_of_getElem? (i := 12) rfl))) (hts (.instanceMethod yX1_init) (oX6_init_in _ (List.mem_of_getElem? (i := 13) rfl))) rfl (by decide +kernel) ⟨Nat.le_of_ble_eq_true rfl, Nat.le_of_ble_eq_true rfl⟩) (sp_preS [.ref q5] hK (hP.sub (ws' := [(q5, .inr (0, [.null, .null]))]) [5] rfl) (hD.sub (ws' := [(q5, .inr (0, [.null, .null]))]) [5] (by decide) rfl)) rfl rfl hl.1 rfl (lv_room (Nat.le_of_ble_eq_true rfl)) dX6_init_41 ⟨Nat.le_of_ble_eq_true rfl, Nat.le_of_ble_eq_true rfl⟩) (fun u7 H locs hw8 hP hD hS => ?_)
  obtain ⟨a9, a10, f11, f12⟩ := u7
  obtain ⟨hf13, hf14⟩ : (∀ j : Nat, j < 4 → f11 j = (-2139095041)) ∧ (∀ j : Nat, j < 4 → f12 j = 2139095040) := hw8
  have hP : va_P D vwCl [(h, .inr (4, [.ref q1, .ref q2, .ref q3, .ref q4, .null, .null, .long 0])), (q1, .inl (cZ, 40, .inl (fun _ => 0))), (q2, .inl (cZ, 40, .inl (fun _ => 0))), (q3, .inl (cI, 40, .inl (fun _ => 0))), (q4, .inl (cI, 40, .inl (fun _ => 0))), (q5, .inr (0, [.ref a9, .ref a10])), (a9, .inl (cI, 4, .inl f11)), (a10, .inl (cI, 4, .inl f12))] H := hP
  have hD : va_D A [(h, .inr (4, [.ref q1, .ref q2, .ref q3, .ref q4, .null, .null, .long 0])), (q1, .inl (cZ, 40, .inl (fun _ => 0))), (q2, .inl (cZ, 40, .inl (fun _ => 0))), (q3, .inl (cI, 40, .inl (fun _ => 0))), (q4, .inl (cI, 40, .inl (fun _ => 0))), (q5, .inr (0, [.ref a9, .ref a10])), (a9, .inl (cI, 4, .inl f11)), (a10, .inl (cI, 4, .inl f12))] := hD
  refine W.widen (k := 7) (n := 170) (by decide) (by decide) ?_
  refine va_putF (D := D) (ci := 4) (v := .ref q5) (ty := (.object "FloatSolver$Box")) (C := RX6) (T := TX6) (N := 7) hx hb hts iX6_init_X6 tyX6 tyX6_ok nmX6 hown hK hP hD hS 0 rfl rfl 5 (by decide) (hts (.fieldLink RX6 28 "FloatSolver$Spans" "box" "LFloatSolver$Box;") (oX6_init_in _ (List.mem_of_getElem? (i := 14) rfl))) (fun _ h9 => h9) rfl hin rfl (by decide +kernel) rfl rfl (Nat.le_of_ble_eq_true rfl) dX6_init_44 (fun H locs hP hD hS => ?_)
  have hP : va_P D vwCl [(h, .inr (4, [.ref q1, .ref q2, .ref q3, .ref q4, .null, .ref q5, .long 0])), (q1, .inl (cZ, 40, .inl (fun _ => 0))), (q2, .inl (cZ, 40, .inl (fun _ => 0))), (q3, .inl (cI, 40, .inl (fun _ => 0))), (q4, .inl (cI, 40, .inl (fun _ => 0))), (q5, .inr (0, [.ref a9, .ref a10])), (a9, .inl (cI, 4, .inl f11)), (a10, .inl (cI, 4, .inl f12))] H := hP
  have hD : va_D A [(h, .inr (4, [.ref q1, .ref q2, .ref q3, .ref q4, .null, .ref q5, .long 0])), (q1, .inl (cZ, 40, .inl (fun _ => 0))), (q2, .inl (cZ, 40, .inl (fun _ => 0))), (q3, .inl (cI, 40, .inl (fun _ => 0))), (q4, .inl (cI, 40, .inl (fun _ => 0))), (q5, .inr (0, [.ref a9, .ref a10])), (a9, .inl (cI, 4, .inl f11)), (a10, .inl (cI, 4, .inl f12))] := hD
  refine lv_aload_n hx hb dX6_init_47 rfl (lv_at hl 0 rfl) ?_
  refine lv_lconst (v := 0) hx hb dX6_init_48 (by decide) ?_
  refine va_put (D := D) (ci := 4) (v := .long 0) (ty := .long) (C := RX6) (T := TX6) (N := 7) hx hb hts iX6_init_X6 tyX6 tyX6_ok nmX6 hown hK hP hD hS 0 rfl rfl 6 (by decide) (hts (.fieldLink RX6 32 "FloatSolver$Spans" "standing" "J") (oX6_init_in _ (List.mem_of_getElem? (i := 15) rfl))) (fun _ h9 => h9) rfl (by decide +kernel) rfl rfl (Nat.le_of_ble_eq_true rfl) dX6_init_49 (fun H locs hP hD hS => ?_)
  have hP : va_P D vwCl [(h, .inr (4, [.ref q1, .ref q2, .ref q3, .ref q4, .null, .ref q5, .long 0])), (q1, .inl (cZ, 40, .inl (fun _ => 0))), (q2, .inl (cZ, 40, .inl (fun _ => 0))), (q3, .inl (cI, 40, .inl (fun _ => 0))), (q4, .inl (cI, 40, .inl (fun _ => 0))), (q5, .inr (0, [.ref a9, .ref a10])), (a9, .inl (cI, 4, .inl f11)), (a10, .inl (cI, 4, .inl f12))] H := hP
  have hD : va_D A [(h, .inr (4, [.ref q1, .ref q2, .ref q3, .ref q4, .null, .ref q5, .long 0])), (q1, .inl (cZ, 40, .inl (fun _ => 0))), (q2, .inl (cZ, 40, .inl (fun _ => 0))), (q3, .inl (cI, 40, .inl (fun _ => 0))), (q4, .inl (cI, 40, .inl (fun _ => 0))), (q5, .inr (0, [.ref a9, .ref a10])), (a9, .inl (cI, 4, .inl f11)), (a10, .inl (cI, 4, .inl f12))] := hD
  refine lv_aload_n hx hb dX6_init_52 rfl (lv_at hl 0 rfl) ?_
  refine lv_aload_n hx hb dX6_init_53 rfl (lv_at hl 1 rfl) ?_
  refine va_putF (D := D) (ci := 4) (v := .ref n) (ty := (.object "FloatSolver$Nodes")) (C := RX6) (T := TX6) (N := 7) hx hb hts iX6_init_X6 tyX6 tyX6_ok nmX6 hown hK hP hD hS 0 rfl rfl 4 (by decide) (hts (.fieldLink RX6 36 "FloatSolver$Spans" "nodes" "LFloatSolver$Nodes;") (oX6_init_in _ (List.mem_of_getElem? (i := 16) rfl))) (fun _ h9 => h9) rfl hin rfl (by decide +kernel) rfl rfl (Nat.le_of_ble_eq_true rfl) dX6_init_54 (fun H locs hP hD hS => ?_)
  have hP : va_P D vwCl [(h, .inr (4, [.ref q1, .ref q2, .ref q3, .ref q4, .ref n, .ref q5, .long 0])), (q1, .inl (cZ, 40, .inl (fun _ => 0))), (q2, .inl (cZ, 40, .inl (fun _ => 0))), (q3, .inl (cI, 40, .inl (fun _ => 0))), (q4, .inl (cI, 40, .inl (fun _ => 0))), (q5, .inr (0, [.ref a9, .ref a10])), (a9, .inl (cI, 4, .inl f11)), (a10, .inl (cI, 4, .inl f12))] H := hP
  have hD : va_D A [(h, .inr (4, [.ref q1, .ref q2, .ref q3, .ref q4, .ref n, .ref q5, .long 0])), (q1, .inl (cZ, 40, .inl (fun _ => 0))), (q2, .inl (cZ, 40, .inl (fun _ => 0))), (q3, .inl (cI, 40, .inl (fun _ => 0))), (q4, .inl (cI, 40, .inl (fun _ => 0))), (q5, .inr (0, [.ref a9, .ref a10])), (a9, .inl (cI, 4, .inl f11)), (a10, .inl (cI, 4, .inl f12))] := hD
  refine W.widen (k := 7) (n := 170) (by decide) (by decide) ?_
  exact sp_vret (u := (q1, q2, q3, q4, q5, a9, a10, f11, f12)) hx hb hr hlocks hS ⟨hf13, hf14⟩ (hP.sub [0, 1, 2, 3, 4, 5, 6, 7] rfl) (hD.sub [0, 1, 2, 3, 4, 5, 6, 7] (by decide) rfl) dX6_init_57
def oX5_init : List Cond := [.methodLink RX5 3 objectInit, .instanceMethod objectInit, .code objectInit ⟨#[0xb1]⟩ 1 none, .arrayClass .int, .fieldLink RX5 11 "FloatSolver$Search" "asideVariable" "[I", .fieldLink RX5 15 "FloatSolver$Search" "asideLow" "[I", .fieldLink RX5 18 "FloatSolver$Search" "asideHigh" "[I", .fieldLink RX5 21 "FloatSolver$Search" "aside" "I", .classLink RX5 25 RX1, .instantiable RX1 2, .initialized RX1, .methodLink RX5 27 yX1_init, .instanceMethod yX1_init, .fieldLink RX5 28 "FloatSolver$Search" "box" "LFloatSolver$Box;", .fieldLink RX5 32 "FloatSolver$Search" "hasRun" "Z", .fieldLink RX5 36 "FloatSolver$Search" "answer" "I", .fieldLink RX5 39 "FloatSolver$Search" "looked" "I", .fieldLink RX5 42 "FloatSolver$Search" "halved" "I", .fieldLink RX5 45 "FloatSolver$Search" "nodes" "LFloatSolver$Nodes;", .fieldLink RX5 49 "FloatSolver$Search" "rules" "LFloatSolver$Rules;", .fieldLink RX5 53 "FloatSolver$Search" "spans" "LFloatSolver$Spans;", .fieldLink RX5 57 "FloatSolver$Search" "ranges" "LFloatSolver$Box;"]
def wpX5_init : List Cond := .code yX5_init cX5_init 5 none :: (oX5_init ++ (wsX50 ++ (wsX10 ++ ((wpX1_init) ++ ([] : List Cond)))))
theorem oX5_init_in : ∀ w ∈ oX5_init, w ∈ wpX5_init := fun w h => List.mem_cons_of_mem _ (List.mem_append_left _ h)
theorem gwoX5_init : ∀ w ∈ oX5_init, goodWord w = true := by decide +kernel
theorem gwX5_init : ∀ w ∈ wpX5_init, goodWord w = true := by
  unfold wpX5_init
  exact List.forall_mem_cons.mpr ⟨rfl, List.forall_mem_append.mpr ⟨gwoX5_init, List.forall_mem_append.mpr ⟨gwX5, List.forall_mem_append.mpr ⟨gwX1, List.forall_mem_append.mpr ⟨(gwX1_init), fun _ h => absurd h List.not_mem_nil⟩⟩⟩⟩⟩
set_option maxRecDepth 100000 in
theorem toX5_init : ∀ w ∈ oX5_init, w ∈ lw_tbl := by
  unfold oX5_init
  exact List.forall_mem_cons.mpr ⟨(List.mem_of_getElem? (i := 191) (by decide +kernel)), List.forall_mem_cons.mpr ⟨(List.mem_of_getElem? (i := 61) (by decide +kernel)), List.forall_mem_cons.mpr ⟨(List.mem_of_getElem? (i := 62) (by rfl)), List.forall_mem_cons.mpr ⟨(List.mem_of_getElem? (i := 101) (by decide +kernel)), List.forall_mem_cons.mpr ⟨(List.mem_of_getElem? (i := 198) (by decide +kernel)), List.forall_mem_cons.mpr ⟨(List.mem_of_getElem? (i := 199) (by decide +kernel)), List.forall_mem_cons.mpr ⟨(List.mem_of_getElem? (i := 200) (by decide +kernel)), List.forall_mem_cons.mpr ⟨(List.mem_of_getElem? (i := 201) (by decide +kernel)), List.forall_mem_cons.mpr ⟨(List.mem_of_getElem? (i := 192) (by decide +kernel)), List.forall_mem_cons.mpr ⟨(List.mem_of_getElem? (i := 124) (by decide +kernel)), List.forall_mem_cons.mpr ⟨(List.mem_of_getElem? (i := 41) (by decide +kernel)), List.forall_mem_cons.mpr ⟨(List.mem_of_getElem? (i := 193) (by decide +kernel)), List.forall_mem_cons.mpr ⟨(List.mem_of_getElem? (i := 126) (by decide +kernel)), List.forall_mem_cons.mpr ⟨(List.mem_of_getElem? (i := 202) (by decide +kernel)), List.forall_mem_cons.mpr ⟨(List.mem_of_getElem? (i := 204) (by decide +kernel)), List.forall_mem_cons.mpr ⟨(List.mem_of_getElem? (i := 206) (by decide +kernel)), List.forall_mem_cons.mpr ⟨(List.mem_of_getElem? (i := 208) (by decide +kernel)), List.forall_mem_cons.mpr ⟨(List.mem_of_getElem? (i := 210) (by decide +kernel)), List.forall_mem_cons.mpr ⟨(List.mem_of_getElem? (i := 194) (by decide +kernel)), List.forall_mem_cons.mpr ⟨(List.mem_of_getElem? (i := 195) (by decide +kernel)), List.forall_mem_cons.mpr ⟨(List.mem_of_getElem? (i := 196) (by decide +kernel)), List.forall_mem_cons.mpr ⟨(List.mem_of_getElem? (i := 197) (by decide +kernel)), fun _ h => absurd h List.not_mem_nil⟩⟩⟩⟩⟩⟩⟩⟩⟩⟩⟩⟩⟩⟩⟩⟩⟩⟩⟩⟩⟩⟩
set_option maxRecDepth 100000 in
theorem tX5_init : ∀ w ∈ wpX5_init, w ∈ lw_tbl := by
  unfold wpX5_init
  exact List.forall_mem_cons.mpr ⟨(List.mem_of_getElem? (i := 190) (by rfl)), List.forall_mem_append.mpr ⟨toX5_init, List.forall_mem_append.mpr ⟨in_wsX50, List.forall_mem_append.mpr ⟨in_wsX10, List.forall_mem_append.mpr ⟨(tX1_init), fun _ h => absurd h List.not_mem_nil⟩⟩⟩⟩⟩
theorem iX5_init_X5 : ∀ w ∈ wsX50, w ∈ wpX5_init := fun w h => List.mem_cons_of_mem _ (List.mem_append_right _ (List.mem_append_left _ h))
theorem iX5_init_X1 : ∀ w ∈ wsX10, w ∈ wpX5_init := fun w h => List.mem_cons_of_mem _ (List.mem_append_right _ (List.mem_append_right _ (List.mem_append_left _ h)))
theorem gX5_init_X1_init_27 : GoodIn wpX5_init (wpX1_init) := fun w h => ⟨List.mem_cons_of_mem _ (List.mem_append_right _ (List.mem_append_right _ (List.mem_append_right _ (List.mem_append_left _ h)))), good_of_word (gwX1_init w h)⟩
set_option maxHeartbeats 4000000 in
set_option maxRecDepth 100000 in
theorem c_X5_init (l : Launch) (D : va_G) (cI cJ cZ : ClassId) (sz : Nat) (h n ru sp rg : Nat) : Met l yX5_init wpX5_init ({ frames := 2, cells := 6, slots := 394, locals := 44 }) (va_Pc [.ref h, .ref n, .ref ru, .ref sp, .ref rg] (sp_pre D vwCl (sp_ty cI cJ cZ) [(h, .inr (3, [.null, .null, .null, .null, .null, .null, .null, .int 0, .null, .int 0, .int 0, .int 0, .int 0]))] sz)) (va_Qv (fun (u : Nat × Nat × Nat × Nat × Nat × Nat × (Nat → Int32) × (Nat → Int32)) => match u with | (a0, a1, a2, bx, a, b, f, g) => (∀ j : Nat, j < 4 → f j = (-2139095041)) ∧ (∀ j : Nat, j < 4 → g j = 2139095040)) (sp_B D vwCl (va_A [(h, .inr (3, [.null, .null, .null, .null, .null, .null, .null, .int 0, .null, .int 0, .int 0, .int 0, .int 0]))] sz) (fun (u : Nat × Nat × Nat × Nat × Nat × Nat × (Nat → Int32) × (Nat → Int32)) => match u with | (a0, a1, a2, bx, a, b, f, g) => [(h, .inr (3, [.ref n, .ref ru, .ref sp, .ref rg, .ref a0, .ref a1, .ref a2, .int 0, .ref bx, .int 0, .int 0, .int 0, .int 0])), (a0, .inl (cI, 128, .inl (fun _ => 0))), (a1, .inl (cI, 128, .inl (fun _ => 0))), (a2, .inl (cI, 128, .inl (fun _ => 0))), (bx, .inr (0, [.ref a, .ref b])), (a, .inl (cI, 4, .inl f)), (b, .inl (cI, 4, .inl g))])) (va_A [(h, .inr (3, [.null, .null, .null, .null, .null, .null, .null, .int 0, .null, .int 0, .int 0, .int 0, .int 0]))] sz)) 6 394 (va_A [(h, .inr (3, [.null, .null, .null, .null, .null, .null, .null, .int 0, .null, .int 0, .int 0, .int 0, .int 0]))] sz) := by
  refine sp_ofW (Qc := fun A => va_Qv (fun (u : Nat × Nat × Nat × Nat × Nat × Nat × (Nat → Int32) × (Nat → Int32)) => match u with | (a0, a1, a2, bx, a, b, f, g) => (∀ j : Nat, j < 4 → f j = (-2139095041)) ∧ (∀ j : Nat, j < 4 → g j = 2139095040)) (sp_B D vwCl A (fun (u : Nat × Nat × Nat × Nat × Nat × Nat × (Nat → Int32) × (Nat → Int32)) => match u with | (a0, a1, a2, bx, a, b, f, g) => [(h, .inr (3, [.ref n, .ref ru, .ref sp, .ref rg, .ref a0, .ref a1, .ref a2, .int 0, .ref bx, .int 0, .int 0, .int 0, .int 0])), (a0, .inl (cI, 128, .inl (fun _ => 0))), (a1, .inl (cI, 128, .inl (fun _ => 0))), (a2, .inl (cI, 128, .inl (fun _ => 0))), (bx, .inr (0, [.ref a, .ref b])), (a, .inl (cI, 4, .inl f)), (b, .inl (cI, 4, .inl g))])) A) (by decide) rfl (Nat.le_of_ble_eq_true rfl) (fun p e s m below meth c A ls H locs C0 hA hS hP hK hD hl => ?_)
  obtain ⟨hx, hb, hr, hts, hown, hlocks, hml, hin⟩ := C0
  have hown : s.vm.findClass RX5 = some m.cls := hown
  have hin : meth.name = "<init>" := hin
  have hl : lv_has ls 5 [(0, .ref h), (1, .ref n), (2, .ref ru), (3, .ref sp), (4, .ref rg)] := hl
  have hK : va_K D vwCl [(cI, .int), (cJ, .long), (cZ, .boolean)] s := hK
  refine lv_aload_n hx hb dX5_init_0 rfl (lv_at hl 0 rfl) ?_
  refine W.objInit hx hb hown (hts (.methodLink RX5 3 objectInit) (oX5_init_in _ (List.mem_of_getElem? (i := 0) rfl))) (hts (.instanceMethod objectInit) (oX5_init_in _ (List.mem_of_getElem? (i := 1) rfl))) (hts (.code objectInit ⟨#[0xb1]⟩ 1 none) (oX5_init_in _ (List.mem_of_getElem? (i := 2) rfl))) rfl (by rw [hml]; exact hl.1) rfl dX5_init_1 (Nat.le_of_ble_eq_true rfl) (Nat.le_of_ble_eq_true rfl) ?_
  refine W.eq (g2 := F0 m 4 ls []) rfl ?_
  refine lv_aload_n hx hb dX5_init_4 rfl (lv_at hl 0 rfl) ?_
  refine lv_sipush (v := 128) hx hb dX5_init_5 (by decide) ?_
  refine sp_newa (atype := .int) (ty := .int) (a0 := (128, .inl (fun _ => 0))) hx hb (hts (.arrayClass .int) (oX5_init_in _ (List.mem_of_getElem? (i := 3) rfl))) rfl hK hP hD hS hA 0 rfl (fun _ => rfl) (by decide) (by decide) (by decide) (Nat.le_of_ble_eq_true rfl) (Nat.le_of_ble_eq_true rfl) dX5_init_8 (fun q1 H hP hD hS => ?_)
  have hP : va_P D vwCl [(h, .inr (3, [.null, .null, .null, .null, .null, .null, .null, .int 0, .null, .int 0, .int 0, .int 0, .int 0])), (q1, .inl (cI, 128, .inl (fun _ => 0)))] H := hP
  have hD : va_D A [(h, .inr (3, [.null, .null, .null, .null, .null, .null, .null, .int 0, .null, .int 0, .int 0, .int 0, .int 0])), (q1, .inl (cI, 128, .inl (fun _ => 0)))] := hD
  refine W.widen (k := 1) (n := 128) (by decide) (by decide) ?_
  refine va_putF (D := D) (ci := 3) (v := .ref q1) (ty := (.array .int)) (C := RX5) (T := TX5) (N := 13) hx hb hts iX5_init_X5 tyX5 tyX5_ok nmX5 hown hK hP hD hS 0 rfl rfl 4 (by decide) (hts (.fieldLink RX5 11 "FloatSolver$Search" "asideVariable" "[I") (oX5_init_in _ (List.mem_of_getElem? (i := 4) rfl))) (fun _ h9 => h9) rfl hin rfl (by decide +kernel) rfl rfl (Nat.le_of_ble_eq_true rfl) dX5_init_10 (fun H locs hP hD hS => ?_)
  have hP : va_P D vwCl [(h, .inr (3, [.null, .null, .null, .null, .ref q1, .null, .null, .int 0, .null, .int 0, .int 0, .int 0, .int 0])), (q1, .inl (cI, 128, .inl (fun _ => 0)))] H := hP
  have hD : va_D A [(h, .inr (3, [.null, .null, .null, .null, .ref q1, .null, .null, .int 0, .null, .int 0, .int 0, .int 0, .int 0])), (q1, .inl (cI, 128, .inl (fun _ => 0)))] := hD
  refine lv_aload_n hx hb dX5_init_13 rfl (lv_at hl 0 rfl) ?_
  refine lv_sipush (v := 128) hx hb dX5_init_14 (by decide) ?_
  refine sp_newa (atype := .int) (ty := .int) (a0 := (128, .inl (fun _ => 0))) hx hb (hts (.arrayClass .int) (oX5_init_in _ (List.mem_of_getElem? (i := 3) rfl))) rfl hK hP hD hS hA 0 rfl (fun _ => rfl) (by decide) (by decide) (by decide) (Nat.le_of_ble_eq_true rfl) (Nat.le_of_ble_eq_true rfl) dX5_init_17 (fun q2 H hP hD hS => ?_)
  have hP : va_P D vwCl [(h, .inr (3, [.null, .null, .null, .null, .ref q1, .null, .null, .int 0, .null, .int 0, .int 0, .int 0, .int 0])), (q1, .inl (cI, 128, .inl (fun _ => 0))), (q2, .inl (cI, 128, .inl (fun _ => 0)))] H := hP
  have hD : va_D A [(h, .inr (3, [.null, .null, .null, .null, .ref q1, .null, .null, .int 0, .null, .int 0, .int 0, .int 0, .int 0])), (q1, .inl (cI, 128, .inl (fun _ => 0))), (q2, .inl (cI, 128, .inl (fun _ => 0)))] := hD
  refine W.widen (k := 2) (n := 256) (by decide) (by decide) ?_
  refine va_putF (D := D) (ci := 3) (v := .ref q2) (ty := (.array .int)) (C := RX5) (T := TX5) (N := 13) hx hb hts iX5_init_X5 tyX5 tyX5_ok nmX5 hown hK hP hD hS 0 rfl rfl 5 (by decide) (hts (.fieldLink RX5 15 "FloatSolver$Search" "asideLow" "[I") (oX5_init_in _ (List.mem_of_getElem? (i := 5) rfl))) (fun _ h9 => h9) rfl hin rfl (by decide +kernel) rfl rfl (Nat.le_of_ble_eq_true rfl) dX5_init_19 (fun H locs hP hD hS => ?_)
  have hP : va_P D vwCl [(h, .inr (3, [.null, .null, .null, .null, .ref q1, .ref q2, .null, .int 0, .null, .int 0, .int 0, .int 0, .int 0])), (q1, .inl (cI, 128, .inl (fun _ => 0))), (q2, .inl (cI, 128, .inl (fun _ => 0)))] H := hP
  have hD : va_D A [(h, .inr (3, [.null, .null, .null, .null, .ref q1, .ref q2, .null, .int 0, .null, .int 0, .int 0, .int 0, .int 0])), (q1, .inl (cI, 128, .inl (fun _ => 0))), (q2, .inl (cI, 128, .inl (fun _ => 0)))] := hD
  refine lv_aload_n hx hb dX5_init_22 rfl (lv_at hl 0 rfl) ?_
  refine lv_sipush (v := 128) hx hb dX5_init_23 (by decide) ?_
  refine sp_newa (atype := .int) (ty := .int) (a0 := (128, .inl (fun _ => 0))) hx hb (hts (.arrayClass .int) (oX5_init_in _ (List.mem_of_getElem? (i := 3) rfl))) rfl hK hP hD hS hA 0 rfl (fun _ => rfl) (by decide) (by decide) (by decide) (Nat.le_of_ble_eq_true rfl) (Nat.le_of_ble_eq_true rfl) dX5_init_26 (fun q3 H hP hD hS => ?_)
  have hP : va_P D vwCl [(h, .inr (3, [.null, .null, .null, .null, .ref q1, .ref q2, .null, .int 0, .null, .int 0, .int 0, .int 0, .int 0])), (q1, .inl (cI, 128, .inl (fun _ => 0))), (q2, .inl (cI, 128, .inl (fun _ => 0))), (q3, .inl (cI, 128, .inl (fun _ => 0)))] H := hP
  have hD : va_D A [(h, .inr (3, [.null, .null, .null, .null, .ref q1, .ref q2, .null, .int 0, .null, .int 0, .int 0, .int 0, .int 0])), (q1, .inl (cI, 128, .inl (fun _ => 0))), (q2, .inl (cI, 128, .inl (fun _ => 0))), (q3, .inl (cI, 128, .inl (fun _ => 0)))] := hD
  refine W.widen (k := 3) (n := 384) (by decide) (by decide) ?_
  refine va_putF (D := D) (ci := 3) (v := .ref q3) (ty := (.array .int)) (C := RX5) (T := TX5) (N := 13) hx hb hts iX5_init_X5 tyX5 tyX5_ok nmX5 hown hK hP hD hS 0 rfl rfl 6 (by decide) (hts (.fieldLink RX5 18 "FloatSolver$Search" "asideHigh" "[I") (oX5_init_in _ (List.mem_of_getElem? (i := 6) rfl))) (fun _ h9 => h9) rfl hin rfl (by decide +kernel) rfl rfl (Nat.le_of_ble_eq_true rfl) dX5_init_28 (fun H locs hP hD hS => ?_)
  have hP : va_P D vwCl [(h, .inr (3, [.null, .null, .null, .null, .ref q1, .ref q2, .ref q3, .int 0, .null, .int 0, .int 0, .int 0, .int 0])), (q1, .inl (cI, 128, .inl (fun _ => 0))), (q2, .inl (cI, 128, .inl (fun _ => 0))), (q3, .inl (cI, 128, .inl (fun _ => 0)))] H := hP
  have hD : va_D A [(h, .inr (3, [.null, .null, .null, .null, .ref q1, .ref q2, .ref q3, .int 0, .null, .int 0, .int 0, .int 0, .int 0])), (q1, .inl (cI, 128, .inl (fun _ => 0))), (q2, .inl (cI, 128, .inl (fun _ => 0))), (q3, .inl (cI, 128, .inl (fun _ => 0)))] := hD
  refine lv_aload_n hx hb dX5_init_31 rfl (lv_at hl 0 rfl) ?_
  refine lv_iconst (v := 0) hx hb dX5_init_32 (by decide) ?_
  refine va_put (D := D) (ci := 3) (v := .int 0) (ty := .int) (C := RX5) (T := TX5) (N := 13) hx hb hts iX5_init_X5 tyX5 tyX5_ok nmX5 hown hK hP hD hS 0 rfl rfl 7 (by decide) (hts (.fieldLink RX5 21 "FloatSolver$Search" "aside" "I") (oX5_init_in _ (List.mem_of_getElem? (i := 7) rfl))) (fun _ h9 => h9) rfl (by decide +kernel) rfl rfl (Nat.le_of_ble_eq_true rfl) dX5_init_33 (fun H locs hP hD hS => ?_)
  have hP : va_P D vwCl [(h, .inr (3, [.null, .null, .null, .null, .ref q1, .ref q2, .ref q3, .int 0, .null, .int 0, .int 0, .int 0, .int 0])), (q1, .inl (cI, 128, .inl (fun _ => 0))), (q2, .inl (cI, 128, .inl (fun _ => 0))), (q3, .inl (cI, 128, .inl (fun _ => 0)))] H := hP
  have hD : va_D A [(h, .inr (3, [.null, .null, .null, .null, .ref q1, .ref q2, .ref q3, .int 0, .null, .int 0, .int 0, .int 0, .int 0])), (q1, .inl (cI, 128, .inl (fun _ => 0))), (q2, .inl (cI, 128, .inl (fun _ => 0))), (q3, .inl (cI, 128, .inl (fun _ => 0)))] := hD
  refine lv_aload_n hx hb dX5_init_36 rfl (lv_at hl 0 rfl) ?_
  refine va_new (ci := 0) (fs := [.null, .null]) (C := RX1) (T := TX1) (N := 2) hx hb hts iX5_init_X1 tyX1 tyX1_ok hown (hts (.classLink RX5 25 RX1) (oX5_init_in _ (List.mem_of_getElem? (i := 8) rfl))) (hts (.instantiable RX1 2) (oX5_init_in _ (List.mem_of_getElem? (i := 9) rfl))) (hts (.initialized RX1) (oX5_init_in _ (List.mem_of_getElem? (i := 10) rfl))) hK hP hD hS hA rfl (fun j hj => by revert j; decide) (Nat.le_of_ble_eq_true rfl) (Nat.le_of_ble_eq_true rfl) dX5_init_37 (fun q4 H hP hD hS => ?_)
  have hP : va_P D vwCl [(h, .inr (3, [.null, .null, .null, .null, .ref q1, .ref q2, .ref q3, .int 0, .null, .int 0, .int 0, .int 0, .int 0])), (q1, .inl (cI, 128, .inl (fun _ => 0))), (q2, .inl (cI, 128, .inl (fun _ => 0))), (q3, .inl (cI, 128, .inl (fun _ => 0))), (q4, .inr (0, [.null, .null]))] H := hP
  have hD : va_D A [(h, .inr (3, [.null, .null, .null, .null, .ref q1, .ref q2, .ref q3, .int 0, .null, .int 0, .int 0, .int 0, .int 0])), (q1, .inl (cI, 128, .inl (fun _ => 0))), (q2, .inl (cI, 128, .inl (fun _ => 0))), (q3, .inl (cI, 128, .inl (fun _ => 0))), (q4, .inr (0, [.null, .null]))] := hD
  refine W.widen (k := 4) (n := 386) (by decide) (by decide) ?_
  refine lv_dup hx hb dX5_init_40 rfl ?_
  refine sp_callv (wr := [(h, .inr (3, [.null, .null, .null, .null, .ref q1, .ref q2, .ref q3, .int 0, .null, .int 0, .int 0, .int 0, .int 0])), (q1, .inl (cI, 128, .inl (fun _ => 0))), (q2, .inl (cI, 128, .inl (fun _ => 0))), (q3, .inl (cI, 128, .inl (fun _ => 0)))]) (wc := [(q4, .inr (0, [.null, .null]))]) hP hD hS hA [4] [0, 1, 2, 3] rfl rfl (by decide) (by decide) (va_runI (As := []) (rest := [.ref q4, .ref h]) ⟨hx, hb, hml, hown, hts⟩ (c_X1_init l D cI cJ cZ H.size q4) (cwI 0 hts gX5_init_X1_init_27 rfl rfl rfl (hts (.initialized RX1) (oX5_init_in _ (List.mem_of_getElem? (i := 10) rfl))) (hts (.methodLink RX5 27 yX1_init) (oX5_init_in _ (List.mem_of_getElem? (i := 11) rfl))) (hts (.instanceMethod yX1_init) (oX5_init_in _ (List.mem_of_getElem? (i := 12) rfl))) rfl (by decide +kernel) ⟨Nat.le_of_ble_eq_true rfl, Nat.le_of_ble_eq_true rfl⟩) (sp_preS [.ref q4] hK (hP.sub (ws' := [(q4, .inr (0, [.null, .null]))]) [4] rfl) (hD.sub (ws' := [(q4, .inr (0, [.null, .null]))]) [4] (by decide) rfl)) rfl rfl hl.1 rfl (lv_room (Nat.le_of_ble_eq_true rfl)) dX5_init_41 ⟨Nat.le_of_ble_eq_true rfl, Nat.le_of_ble_eq_true rfl⟩) (fun u6 H locs hw7 hP hD hS => ?_)
  obtain ⟨a8, a9, f10, f11⟩ := u6
  obtain ⟨hf12, hf13⟩ : (∀ j : Nat, j < 4 → f10 j = (-2139095041)) ∧ (∀ j : Nat, j < 4 → f11 j = 2139095040) := hw7
  have hP : va_P D vwCl [(h, .inr (3, [.null, .null, .null, .null, .ref q1, .ref q2, .ref q3, .int 0, .null, .int 0, .int 0, .int 0, .int 0])), (q1, .inl (cI, 128, .inl (fun _ => 0))), (q2, .inl (cI, 128, .inl (fun _ => 0))), (q3, .inl (cI, 128, .inl (fun _ => 0))), (q4, .inr (0, [.ref a8, .ref a9])), (a8, .inl (cI, 4, .inl f10)), (a9, .inl (cI, 4, .inl f11))] H := hP
  have hD : va_D A [(h, .inr (3, [.null, .null, .null, .null, .ref q1, .ref q2, .ref q3, .int 0, .null, .int 0, .int 0, .int 0, .int 0])), (q1, .inl (cI, 128, .inl (fun _ => 0))), (q2, .inl (cI, 128, .inl (fun _ => 0))), (q3, .inl (cI, 128, .inl (fun _ => 0))), (q4, .inr (0, [.ref a8, .ref a9])), (a8, .inl (cI, 4, .inl f10)), (a9, .inl (cI, 4, .inl f11))] := hD
  refine W.widen (k := 6) (n := 394) (by decide) (by decide) ?_
  refine va_putF (D := D) (ci := 3) (v := .ref q4) (ty := (.object "FloatSolver$Box")) (C := RX5) (T := TX5) (N := 13) hx hb hts iX5_init_X5 tyX5 tyX5_ok nmX5 hown hK hP hD hS 0 rfl rfl 8 (by decide) (hts (.fieldLink RX5 28 "FloatSolver$Search" "box" "LFloatSolver$Box;") (oX5_init_in _ (List.mem_of_getElem? (i := 13) rfl))) (fun _ h9 => h9) rfl hin rfl (by decide +kernel) rfl rfl (Nat.le_of_ble_eq_true rfl) dX5_init_44 (fun H locs hP hD hS => ?_)
  have hP : va_P D vwCl [(h, .inr (3, [.null, .null, .null, .null, .ref q1, .ref q2, .ref q3, .int 0, .ref q4, .int 0, .int 0, .int 0, .int 0])), (q1, .inl (cI, 128, .inl (fun _ => 0))), (q2, .inl (cI, 128, .inl (fun _ => 0))), (q3, .inl (cI, 128, .inl (fun _ => 0))), (q4, .inr (0, [.ref a8, .ref a9])), (a8, .inl (cI, 4, .inl f10)), (a9, .inl (cI, 4, .inl f11))] H := hP
  have hD : va_D A [(h, .inr (3, [.null, .null, .null, .null, .ref q1, .ref q2, .ref q3, .int 0, .ref q4, .int 0, .int 0, .int 0, .int 0])), (q1, .inl (cI, 128, .inl (fun _ => 0))), (q2, .inl (cI, 128, .inl (fun _ => 0))), (q3, .inl (cI, 128, .inl (fun _ => 0))), (q4, .inr (0, [.ref a8, .ref a9])), (a8, .inl (cI, 4, .inl f10)), (a9, .inl (cI, 4, .inl f11))] := hD
  refine lv_aload_n hx hb dX5_init_47 rfl (lv_at hl 0 rfl) ?_
  refine lv_iconst (v := 0) hx hb dX5_init_48 (by decide) ?_
  refine va_put (D := D) (ci := 3) (v := .int 0) (ty := .boolean) (C := RX5) (T := TX5) (N := 13) hx hb hts iX5_init_X5 tyX5 tyX5_ok nmX5 hown hK hP hD hS 0 rfl rfl 9 (by decide) (hts (.fieldLink RX5 32 "FloatSolver$Search" "hasRun" "Z") (oX5_init_in _ (List.mem_of_getElem? (i := 14) rfl))) (fun _ h9 => h9) rfl (by decide +kernel) rfl rfl (Nat.le_of_ble_eq_true rfl) dX5_init_49 (fun H locs hP hD hS => ?_)
  have hP : va_P D vwCl [(h, .inr (3, [.null, .null, .null, .null, .ref q1, .ref q2, .ref q3, .int 0, .ref q4, .int 0, .int 0, .int 0, .int 0])), (q1, .inl (cI, 128, .inl (fun _ => 0))), (q2, .inl (cI, 128, .inl (fun _ => 0))), (q3, .inl (cI, 128, .inl (fun _ => 0))), (q4, .inr (0, [.ref a8, .ref a9])), (a8, .inl (cI, 4, .inl f10)), (a9, .inl (cI, 4, .inl f11))] H := hP
  have hD : va_D A [(h, .inr (3, [.null, .null, .null, .null, .ref q1, .ref q2, .ref q3, .int 0, .ref q4, .int 0, .int 0, .int 0, .int 0])), (q1, .inl (cI, 128, .inl (fun _ => 0))), (q2, .inl (cI, 128, .inl (fun _ => 0))), (q3, .inl (cI, 128, .inl (fun _ => 0))), (q4, .inr (0, [.ref a8, .ref a9])), (a8, .inl (cI, 4, .inl f10)), (a9, .inl (cI, 4, .inl f11))] := hD
  refine lv_aload_n hx hb dX5_init_52 rfl (lv_at hl 0 rfl) ?_
  refine lv_iconst (v := 0) hx hb dX5_init_53 (by decide) ?_
  refine va_put (D := D) (ci := 3) (v := .int 0) (ty := .int) (C := RX5) (T := TX5) (N := 13) hx hb hts iX5_init_X5 tyX5 tyX5_ok nmX5 hown hK hP hD hS 0 rfl rfl 10 (by decide) (hts (.fieldLink RX5 36 "FloatSolver$Search" "answer" "I") (oX5_init_in _ (List.mem_of_getElem? (i := 15) rfl))) (fun _ h9 => h9) rfl (by decide +kernel) rfl rfl (Nat.le_of_ble_eq_true rfl) dX5_init_54 (fun H locs hP hD hS => ?_)
  have hP : va_P D vwCl [(h, .inr (3, [.null, .null, .null, .null, .ref q1, .ref q2, .ref q3, .int 0, .ref q4, .int 0, .int 0, .int 0, .int 0])), (q1, .inl (cI, 128, .inl (fun _ => 0))), (q2, .inl (cI, 128, .inl (fun _ => 0))), (q3, .inl (cI, 128, .inl (fun _ => 0))), (q4, .inr (0, [.ref a8, .ref a9])), (a8, .inl (cI, 4, .inl f10)), (a9, .inl (cI, 4, .inl f11))] H := hP
  have hD : va_D A [(h, .inr (3, [.null, .null, .null, .null, .ref q1, .ref q2, .ref q3, .int 0, .ref q4, .int 0, .int 0, .int 0, .int 0])), (q1, .inl (cI, 128, .inl (fun _ => 0))), (q2, .inl (cI, 128, .inl (fun _ => 0))), (q3, .inl (cI, 128, .inl (fun _ => 0))), (q4, .inr (0, [.ref a8, .ref a9])), (a8, .inl (cI, 4, .inl f10)), (a9, .inl (cI, 4, .inl f11))] := hD
  refine lv_aload_n hx hb dX5_init_57 rfl (lv_at hl 0 rfl) ?_
  refine lv_iconst (v := 0) hx hb dX5_init_58 (by decide) ?_
  refine va_put (D := D) (ci := 3) (v := .int 0) (ty := .int) (C := RX5) (T := TX5) (N := 13) hx hb hts iX5_init_X5 tyX5 tyX5_ok nmX5 hown hK hP hD hS 0 rfl rfl 11 (by decide) (hts (.fieldLink RX5 39 "FloatSolver$Search" "looked" "I") (oX5_init_in _ (List.mem_of_getElem? (i := 16) rfl))) (fun _ h9 => h9) rfl (by decide +kernel) rfl rfl (Nat.le_of_ble_eq_true rfl) dX5_init_59 (fun H locs hP hD hS => ?_)
  have hP : va_P D vwCl [(h, .inr (3, [.null, .null, .null, .null, .ref q1, .ref q2, .ref q3, .int 0, .ref q4, .int 0, .int 0, .int 0, .int 0])), (q1, .inl (cI, 128, .inl (fun _ => 0))), (q2, .inl (cI, 128, .inl (fun _ => 0))), (q3, .inl (cI, 128, .inl (fun _ => 0))), (q4, .inr (0, [.ref a8, .ref a9])), (a8, .inl (cI, 4, .inl f10)), (a9, .inl (cI, 4, .inl f11))] H := hP
  have hD : va_D A [(h, .inr (3, [.null, .null, .null, .null, .ref q1, .ref q2, .ref q3, .int 0, .ref q4, .int 0, .int 0, .int 0, .int 0])), (q1, .inl (cI, 128, .inl (fun _ => 0))), (q2, .inl (cI, 128, .inl (fun _ => 0))), (q3, .inl (cI, 128, .inl (fun _ => 0))), (q4, .inr (0, [.ref a8, .ref a9])), (a8, .inl (cI, 4, .inl f10)), (a9, .inl (cI, 4, .inl f11))] := hD
  refine lv_aload_n hx hb dX5_init_62 rfl (lv_at hl 0 rfl) ?_
  refine lv_iconst (v := 0) hx hb dX5_init_63 (by decide) ?_
  refine va_put (D := D) (ci := 3) (v := .int 0) (ty := .int) (C := RX5) (T := TX5) (N := 13) hx hb hts iX5_init_X5 tyX5 tyX5_ok nmX5 hown hK hP hD hS 0 rfl rfl 12 (by decide) (hts (.fieldLink RX5 42 "FloatSolver$Search" "halved" "I") (oX5_init_in _ (List.mem_of_getElem? (i := 17) rfl))) (fun _ h9 => h9) rfl (by decide +kernel) rfl rfl (Nat.le_of_ble_eq_true rfl) dX5_init_64 (fun H locs hP hD hS => ?_)
  have hP : va_P D vwCl [(h, .inr (3, [.null, .null, .null, .null, .ref q1, .ref q2, .ref q3, .int 0, .ref q4, .int 0, .int 0, .int 0, .int 0])), (q1, .inl (cI, 128, .inl (fun _ => 0))), (q2, .inl (cI, 128, .inl (fun _ => 0))), (q3, .inl (cI, 128, .inl (fun _ => 0))), (q4, .inr (0, [.ref a8, .ref a9])), (a8, .inl (cI, 4, .inl f10)), (a9, .inl (cI, 4, .inl f11))] H := hP
  have hD : va_D A [(h, .inr (3, [.null, .null, .null, .null, .ref q1, .ref q2, .ref q3, .int 0, .ref q4, .int 0, .int 0, .int 0, .int 0])), (q1, .inl (cI, 128, .inl (fun _ => 0))), (q2, .inl (cI, 128, .inl (fun _ => 0))), (q3, .inl (cI, 128, .inl (fun _ => 0))), (q4, .inr (0, [.ref a8, .ref a9])), (a8, .inl (cI, 4, .inl f10)), (a9, .inl (cI, 4, .inl f11))] := hD
  refine lv_aload_n hx hb dX5_init_67 rfl (lv_at hl 0 rfl) ?_
  refine lv_aload_n hx hb dX5_init_68 rfl (lv_at hl 1 rfl) ?_
  refine va_putF (D := D) (ci := 3) (v := .ref n) (ty := (.object "FloatSolver$Nodes")) (C := RX5) (T := TX5) (N := 13) hx hb hts iX5_init_X5 tyX5 tyX5_ok nmX5 hown hK hP hD hS 0 rfl rfl 0 (by decide) (hts (.fieldLink RX5 45 "FloatSolver$Search" "nodes" "LFloatSolver$Nodes;") (oX5_init_in _ (List.mem_of_getElem? (i := 18) rfl))) (fun _ h9 => h9) rfl hin rfl (by decide +kernel) rfl rfl (Nat.le_of_ble_eq_true rfl) dX5_init_69 (fun H locs hP hD hS => ?_)
  have hP : va_P D vwCl [(h, .inr (3, [.ref n, .null, .null, .null, .ref q1, .ref q2, .ref q3, .int 0, .ref q4, .int 0, .int 0, .int 0, .int 0])), (q1, .inl (cI, 128, .inl (fun _ => 0))), (q2, .inl (cI, 128, .inl (fun _ => 0))), (q3, .inl (cI, 128, .inl (fun _ => 0))), (q4, .inr (0, [.ref a8, .ref a9])), (a8, .inl (cI, 4, .inl f10)), (a9, .inl (cI, 4, .inl f11))] H := hP
  have hD : va_D A [(h, .inr (3, [.ref n, .null, .null, .null, .ref q1, .ref q2, .ref q3, .int 0, .ref q4, .int 0, .int 0, .int 0, .int 0])), (q1, .inl (cI, 128, .inl (fun _ => 0))), (q2, .inl (cI, 128, .inl (fun _ => 0))), (q3, .inl (cI, 128, .inl (fun _ => 0))), (q4, .inr (0, [.ref a8, .ref a9])), (a8, .inl (cI, 4, .inl f10)), (a9, .inl (cI, 4, .inl f11))] := hD
  refine lv_aload_n hx hb dX5_init_72 rfl (lv_at hl 0 rfl) ?_
  refine lv_aload_n hx hb dX5_init_73 rfl (lv_at hl 2 rfl) ?_
  refine va_putF (D := D) (ci := 3) (v := .ref ru) (ty := (.object "FloatSolver$Rules")) (C := RX5) (T := TX5) (N := 13) hx hb hts iX5_init_X5 tyX5 tyX5_ok nmX5 hown hK hP hD hS 0 rfl rfl 1 (by decide) (hts (.fieldLink RX5 49 "FloatSolver$Search" "rules" "LFloatSolver$Rules;") (oX5_init_in _ (List.mem_of_getElem? (i := 19) rfl))) (fun _ h9 => h9) rfl hin rfl (by decide +kernel) rfl rfl (Nat.le_of_ble_eq_true rfl) dX5_init_74 (fun H locs hP hD hS => ?_)
  have hP : va_P D vwCl [(h, .inr (3, [.ref n, .ref ru, .null, .null, .ref q1, .ref q2, .ref q3, .int 0, .ref q4, .int 0, .int 0, .int 0, .int 0])), (q1, .inl (cI, 128, .inl (fun _ => 0))), (q2, .inl (cI, 128, .inl (fun _ => 0))), (q3, .inl (cI, 128, .inl (fun _ => 0))), (q4, .inr (0, [.ref a8, .ref a9])), (a8, .inl (cI, 4, .inl f10)), (a9, .inl (cI, 4, .inl f11))] H := hP
  have hD : va_D A [(h, .inr (3, [.ref n, .ref ru, .null, .null, .ref q1, .ref q2, .ref q3, .int 0, .ref q4, .int 0, .int 0, .int 0, .int 0])), (q1, .inl (cI, 128, .inl (fun _ => 0))), (q2, .inl (cI, 128, .inl (fun _ => 0))), (q3, .inl (cI, 128, .inl (fun _ => 0))), (q4, .inr (0, [.ref a8, .ref a9])), (a8, .inl (cI, 4, .inl f10)), (a9, .inl (cI, 4, .inl f11))] := hD
  refine lv_aload_n hx hb dX5_init_77 rfl (lv_at hl 0 rfl) ?_
  refine lv_aload_n hx hb dX5_init_78 rfl (lv_at hl 3 rfl) ?_
  refine va_putF (D := D) (ci := 3) (v := .ref sp) (ty := (.object "FloatSolver$Spans")) (C := RX5) (T := TX5) (N := 13) hx hb hts iX5_init_X5 tyX5 tyX5_ok nmX5 hown hK hP hD hS 0 rfl rfl 2 (by decide) (hts (.fieldLink RX5 53 "FloatSolver$Search" "spans" "LFloatSolver$Spans;") (oX5_init_in _ (List.mem_of_getElem? (i := 20) rfl))) (fun _ h9 => h9) rfl hin rfl (by decide +kernel) rfl rfl (Nat.le_of_ble_eq_true rfl) dX5_init_79 (fun H locs hP hD hS => ?_)
  have hP : va_P D vwCl [(h, .inr (3, [.ref n, .ref ru, .ref sp, .null, .ref q1, .ref q2, .ref q3, .int 0, .ref q4, .int 0, .int 0, .int 0, .int 0])), (q1, .inl (cI, 128, .inl (fun _ => 0))), (q2, .inl (cI, 128, .inl (fun _ => 0))), (q3, .inl (cI, 128, .inl (fun _ => 0))), (q4, .inr (0, [.ref a8, .ref a9])), (a8, .inl (cI, 4, .inl f10)), (a9, .inl (cI, 4, .inl f11))] H := hP
  have hD : va_D A [(h, .inr (3, [.ref n, .ref ru, .ref sp, .null, .ref q1, .ref q2, .ref q3, .int 0, .ref q4, .int 0, .int 0, .int 0, .int 0])), (q1, .inl (cI, 128, .inl (fun _ => 0))), (q2, .inl (cI, 128, .inl (fun _ => 0))), (q3, .inl (cI, 128, .inl (fun _ => 0))), (q4, .inr (0, [.ref a8, .ref a9])), (a8, .inl (cI, 4, .inl f10)), (a9, .inl (cI, 4, .inl f11))] := hD
  refine lv_aload_n hx hb dX5_init_82 rfl (lv_at hl 0 rfl) ?_
  refine lv_aload hx hb dX5_init_83 (lv_at hl 4 rfl) ?_
  refine va_putF (D := D) (ci := 3) (v := .ref rg) (ty := (.object "FloatSolver$Box")) (C := RX5) (T := TX5) (N := 13) hx hb hts iX5_init_X5 tyX5 tyX5_ok nmX5 hown hK hP hD hS 0 rfl rfl 3 (by decide) (hts (.fieldLink RX5 57 "FloatSolver$Search" "ranges" "LFloatSolver$Box;") (oX5_init_in _ (List.mem_of_getElem? (i := 21) rfl))) (fun _ h9 => h9) rfl hin rfl (by decide +kernel) rfl rfl (Nat.le_of_ble_eq_true rfl) dX5_init_85 (fun H locs hP hD hS => ?_)
  have hP : va_P D vwCl [(h, .inr (3, [.ref n, .ref ru, .ref sp, .ref rg, .ref q1, .ref q2, .ref q3, .int 0, .ref q4, .int 0, .int 0, .int 0, .int 0])), (q1, .inl (cI, 128, .inl (fun _ => 0))), (q2, .inl (cI, 128, .inl (fun _ => 0))), (q3, .inl (cI, 128, .inl (fun _ => 0))), (q4, .inr (0, [.ref a8, .ref a9])), (a8, .inl (cI, 4, .inl f10)), (a9, .inl (cI, 4, .inl f11))] H := hP
  have hD : va_D A [(h, .inr (3, [.ref n, .ref ru, .ref sp, .ref rg, .ref q1, .ref q2, .ref q3, .int 0, .ref q4, .int 0, .int 0, .int 0, .int 0])), (q1, .inl (cI, 128, .inl (fun _ => 0))), (q2, .inl (cI, 128, .inl (fun _ => 0))), (q3, .inl (cI, 128, .inl (fun _ => 0))), (q4, .inr (0, [.ref a8, .ref a9])), (a8, .inl (cI, 4, .inl f10)), (a9, .inl (cI, 4, .inl f11))] := hD
  refine W.widen (k := 6) (n := 394) (by decide) (by decide) ?_
  exact sp_vret (u := (q1, q2, q3, q4, a8, a9, f10, f11)) hx hb hr hlocks hS ⟨hf12, hf13⟩ (hP.sub [0, 1, 2, 3, 4, 5, 6] rfl) (hD.sub [0, 1, 2, 3, 4, 5, 6] (by decide) rfl) dX5_init_88
