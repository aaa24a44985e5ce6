def oX1_follow : List Cond := [.fieldLink RX1 9 "FloatSolver$Box" "low" "[I", .fieldLink RX1 15 "FloatSolver$Box" "high" "[I"]
def wpX1_follow : List Cond := .code yX1_follow cX1_follow 4 (some .int) :: (oX1_follow ++ (wsX10 ++ ([] : List Cond)))
theorem oX1_follow_in : ∀ w ∈ oX1_follow, w ∈ wpX1_follow := fun w h => List.mem_cons_of_mem _ (List.mem_append_left _ h)
theorem gwoX1_follow : ∀ w ∈ oX1_follow, goodWord w = true := by decide +kernel
theorem gwX1_follow : ∀ w ∈ wpX1_follow, goodWord w = true := by
  unfold wpX1_follow
  exact List.forall_mem_cons.mpr ⟨rfl, List.forall_mem_append.mpr ⟨gwoX1_follow, List.forall_mem_append.mpr ⟨gwX1, fun _ h => absurd h List.not_mem_nil⟩⟩⟩
set_option maxRecDepth 100000 in
theorem toX1_follow : ∀ w ∈ oX1_follow, w ∈ lw_tbl := by
  unfold oX1_follow
  exact List.forall_mem_cons.mpr ⟨(List.mem_of_getElem? (i := 134) (by decide +kernel)), List.forall_mem_cons.mpr ⟨(List.mem_of_getElem? (i := 138) (by decide +kernel)), fun _ h => absurd h List.not_mem_nil⟩⟩
set_option maxRecDepth 100000 in
theorem tX1_follow : ∀ w ∈ wpX1_follow, w ∈ lw_tbl := by
  unfold wpX1_follow
  exact List.forall_mem_cons.mpr ⟨(List.mem_of_getElem? (i := 461) (by rfl)), List.forall_mem_append.mpr ⟨toX1_follow, List.forall_mem_append.mpr ⟨in_wsX10, fun _ h => absurd h List.not_mem_nil⟩⟩⟩
theorem iX1_follow_X1 : ∀ w ∈ wsX10, w ∈ wpX1_follow := fun w h => List.mem_cons_of_mem _ (List.mem_append_right _ (List.mem_append_left _ h))
set_option maxHeartbeats 4000000 in
set_option maxRecDepth 100000 in
theorem c_X1_follow (l : Launch) (D : va_G) (cI cJ cZ : ClassId) (sz : Nat) (h a b : Nat) (f g : Nat → Int32) (kf : ∀ j : Nat, j < 4 → f j = -2139095041) (kg : ∀ j : Nat, j < 4 → g j = 2139095040) (h2 a2 b2 : Nat) (f2 g2 : Nat → Int32) (kf2 : ∀ j : Nat, j < 4 → f2 j = -2139095041) (kg2 : ∀ j : Nat, j < 4 → g2 j = 2139095040) : Met l yX1_follow wpX1_follow ({ frames := 1, cells := 0, slots := 0, locals := 23 }) (va_Pc [.ref h, .ref h2] (sp_pre D vwCl (sp_ty cI cJ cZ) [(h, .inr (0, [.ref a, .ref b])), (a, .inl (cI, 4, .inl f)), (b, .inl (cI, 4, .inl g)), (h2, .inr (0, [.ref a2, .ref b2])), (a2, .inl (cI, 4, .inl f2)), (b2, .inl (cI, 4, .inl g2))] sz)) (va_Qi (fun (r : Int32) (_ : Unit) => r = 0) (sp_B D vwCl (va_A [(h, .inr (0, [.ref a, .ref b])), (a, .inl (cI, 4, .inl f)), (b, .inl (cI, 4, .inl g)), (h2, .inr (0, [.ref a2, .ref b2])), (a2, .inl (cI, 4, .inl f2)), (b2, .inl (cI, 4, .inl g2))] sz) (fun (_ : Unit) => [(h, .inr (0, [.ref a, .ref b])), (a, .inl (cI, 4, .inl f)), (b, .inl (cI, 4, .inl g)), (h2, .inr (0, [.ref a2, .ref b2])), (a2, .inl (cI, 4, .inl f2)), (b2, .inl (cI, 4, .inl g2))])) (va_A [(h, .inr (0, [.ref a, .ref b])), (a, .inl (cI, 4, .inl f)), (b, .inl (cI, 4, .inl g)), (h2, .inr (0, [.ref a2, .ref b2])), (a2, .inl (cI, 4, .inl f2)), (b2, .inl (cI, 4, .inl g2))] sz)) 0 0 (va_A [(h, .inr (0, [.ref a, .ref b])), (a, .inl (cI, 4, .inl f)), (b, .inl (cI, 4, .inl g)), (h2, .inr (0, [.ref a2, .ref b2])), (a2, .inl (cI, 4, .inl f2)), (b2, .inl (cI, 4, .inl g2))] sz) := by
  refine sp_ofW (Qc := fun A => va_Qi (fun (r : Int32) (_ : Unit) => r = 0) (sp_B D vwCl A (fun (_ : Unit) => [(h, .inr (0, [.ref a, .ref b])), (a, .inl (cI, 4, .inl f)), (b, .inl (cI, 4, .inl g)), (h2, .inr (0, [.ref a2, .ref b2])), (a2, .inl (cI, 4, .inl f2)), (b2, .inl (cI, 4, .inl g2))])) A) (by decide) rfl (Nat.le_of_ble_eq_true rfl) (fun p e s m below meth c A ls H locs C0 hA hS hP hK hD hl => ?_)
  obtain ⟨hx, hb, hr, hts, hown, hlocks, hml, hin⟩ := C0
  have hown : s.vm.findClass RX1 = some m.cls := hown
  have hl : lv_has ls 4 [(0, .ref h), (1, .ref h2)] := hl
  have hK : va_K D vwCl [(cI, .int), (cJ, .long), (cZ, .boolean)] s := hK
  refine lv_iconst (v := 0) hx hb dX1_follow_0 (by decide) ?_
  refine lv_istore_n (lv' := [(2, .int 0), (0, .ref h), (1, .ref h2)]) hx hb dX1_follow_1 rfl hl (by decide) rfl (fun ls hl => ?_)
  refine lv_iconst (v := 0) hx hb dX1_follow_2 (by decide) ?_
  refine lv_istore_n (lv' := [(3, .int 0), (2, .int 0), (0, .ref h), (1, .ref h2)]) hx hb dX1_follow_3 rfl hl (by decide) rfl (fun ls hl => ?_)
  refine lv_iload_n hx hb dX1_follow_4 rfl (lv_at hl 0 rfl) ?_
  refine lv_iconst (v := 4) hx hb dX1_follow_5 (by decide) ?_
  refine lv_icmp_ge (tgt := 68) hx hb dX1_follow_6 (by decide) (fun c1 => absurd c1 (by decide)) (fun _ => ?_)
  refine lv_aload_n hx hb dX1_follow_9 rfl (lv_at hl 2 rfl) ?_
  refine va_get (D := D) (ci := 0) (v := .ref a) (C := RX1) (T := TX1) (N := 2) hx hb hts iX1_follow_X1 hown hK hP 0 rfl rfl 0 (by decide) (hts (.fieldLink RX1 9 "FloatSolver$Box" "low" "[I") (oX1_follow_in _ (List.mem_of_getElem? (i := 0) rfl))) (fun _ h9 => h9) rfl dX1_follow_10 ?_
  refine lv_iload_n hx hb dX1_follow_13 rfl (lv_at hl 0 rfl) ?_
  refine va_iald hx hb hK hP 1 0 rfl rfl (by unfold vp_in; decide) dX1_follow_14 ?_
  refine lv_topi (fun y2 e3 => ?_)
  obtain rfl : y2 = (-2139095041) := e3.trans (kf 0 (by decide))
  refine lv_aload_n hx hb dX1_follow_15 rfl (lv_at hl 3 rfl) ?_
  refine va_get (D := D) (ci := 0) (v := .ref a2) (C := RX1) (T := TX1) (N := 2) hx hb hts iX1_follow_X1 hown hK hP 3 rfl rfl 0 (by decide) (hts (.fieldLink RX1 9 "FloatSolver$Box" "low" "[I") (oX1_follow_in _ (List.mem_of_getElem? (i := 0) rfl))) (fun _ h9 => h9) rfl dX1_follow_16 ?_
  refine lv_iload_n hx hb dX1_follow_19 rfl (lv_at hl 0 rfl) ?_
  refine va_iald hx hb hK hP 4 0 rfl rfl (by unfold vp_in; decide) dX1_follow_20 ?_
  refine lv_topi (fun y4 e5 => ?_)
  obtain rfl : y4 = (-2139095041) := e5.trans (kf2 0 (by decide))
  refine lv_icmp_ne (tgt := 39) hx hb dX1_follow_21 (by decide) (fun c6 => absurd (by decide) c6) (fun _ => ?_)
  refine lv_aload_n hx hb dX1_follow_24 rfl (lv_at hl 2 rfl) ?_
  refine va_get (D := D) (ci := 0) (v := .ref b) (C := RX1) (T := TX1) (N := 2) hx hb hts iX1_follow_X1 hown hK hP 0 rfl rfl 1 (by decide) (hts (.fieldLink RX1 15 "FloatSolver$Box" "high" "[I") (oX1_follow_in _ (List.mem_of_getElem? (i := 1) rfl))) (fun _ h9 => h9) rfl dX1_follow_25 ?_
  refine lv_iload_n hx hb dX1_follow_28 rfl (lv_at hl 0 rfl) ?_
  refine va_iald hx hb hK hP 2 0 rfl rfl (by unfold vp_in; decide) dX1_follow_29 ?_
  refine lv_topi (fun y7 e8 => ?_)
  obtain rfl : y7 = 2139095040 := e8.trans (kg 0 (by decide))
  refine lv_aload_n hx hb dX1_follow_30 rfl (lv_at hl 3 rfl) ?_
  refine va_get (D := D) (ci := 0) (v := .ref b2) (C := RX1) (T := TX1) (N := 2) hx hb hts iX1_follow_X1 hown hK hP 3 rfl rfl 1 (by decide) (hts (.fieldLink RX1 15 "FloatSolver$Box" "high" "[I") (oX1_follow_in _ (List.mem_of_getElem? (i := 1) rfl))) (fun _ h9 => h9) rfl dX1_follow_31 ?_
  refine lv_iload_n hx hb dX1_follow_34 rfl (lv_at hl 0 rfl) ?_
  refine va_iald hx hb hK hP 5 0 rfl rfl (by unfold vp_in; decide) dX1_follow_35 ?_
  refine lv_topi (fun y9 e10 => ?_)
  obtain rfl : y9 = 2139095040 := e10.trans (kg2 0 (by decide))
  refine lv_icmp_eq (tgt := 62) hx hb dX1_follow_36 (by decide) (fun _ => ?_) (fun c11 => absurd (by decide) c11)
  refine lv_iinc (v := 1) (lv' := [(3, .int 1), (2, .int 0), (0, .ref h), (1, .ref h2)]) hx hb dX1_follow_62 hl (k := 0) rfl (by decide) (by decide) rfl (fun ls hl => ?_)
  refine lv_goto (tgt := 4) hx hb dX1_follow_65 (by decide) ?_
  refine lv_iload_n hx hb dX1_follow_4 rfl (lv_at hl 0 rfl) ?_
  refine lv_iconst (v := 4) hx hb dX1_follow_5 (by decide) ?_
  refine lv_icmp_ge (tgt := 68) hx hb dX1_follow_6 (by decide) (fun c12 => absurd c12 (by decide)) (fun _ => ?_)
  refine lv_aload_n hx hb dX1_follow_9 rfl (lv_at hl 2 rfl) ?_
  refine va_get (D := D) (ci := 0) (v := .ref a) (C := RX1) (T := TX1) (N := 2) hx hb hts iX1_follow_X1 hown hK hP 0 rfl rfl 0 (by decide) (hts (.fieldLink RX1 9 "FloatSolver$Box" "low" "[I") (oX1_follow_in _ (List.mem_of_getElem? (i := 0) rfl))) (fun _ h9 => h9) rfl dX1_follow_10 ?_
  refine lv_iload_n hx hb dX1_follow_13 rfl (lv_at hl 0 rfl) ?_
  refine va_iald hx hb hK hP 1 0 rfl rfl (by unfold vp_in; decide) dX1_follow_14 ?_
  refine lv_topi (fun y13 e14 => ?_)
  obtain rfl : y13 = (-2139095041) := e14.trans (kf 1 (by decide))
  refine lv_aload_n hx hb dX1_follow_15 rfl (lv_at hl 3 rfl) ?_
  refine va_get (D := D) (ci := 0) (v := .ref a2) (C := RX1) (T := TX1) (N := 2) hx hb hts iX1_follow_X1 hown hK hP 3 rfl rfl 0 (by decide) (hts (.fieldLink RX1 9 "FloatSolver$Box" "low" "[I") (oX1_follow_in _ (List.mem_of_getElem? (i := 0) rfl))) (fun _ h9 => h9) rfl dX1_follow_16 ?_
  refine lv_iload_n hx hb dX1_follow_19 rfl (lv_at hl 0 rfl) ?_
  refine va_iald hx hb hK hP 4 0 rfl rfl (by unfold vp_in; decide) dX1_follow_20 ?_
  refine lv_topi (fun y15 e16 => ?_)
  obtain rfl : y15 = (-2139095041) := e16.trans (kf2 1 (by decide))
  refine lv_icmp_ne (tgt := 39) hx hb dX1_follow_21 (by decide) (fun c17 => absurd (by decide) c17) (fun _ => ?_)
  refine lv_aload_n hx hb dX1_follow_24 rfl (lv_at hl 2 rfl) ?_
  refine va_get (D := D) (ci := 0) (v := .ref b) (C := RX1) (T := TX1) (N := 2) hx hb hts iX1_follow_X1 hown hK hP 0 rfl rfl 1 (by decide) (hts (.fieldLink RX1 15 "FloatSolver$Box" "high" "[I") (oX1_follow_in _ (List.mem_of_getElem? (i := 1) rfl))) (fun _ h9 => h9) rfl dX1_follow_25 ?_
  refine lv_iload_n hx hb dX1_follow_28 rfl (lv_at hl 0 rfl) ?_
  refine va_iald hx hb hK hP 2 0 rfl rfl (by unfold vp_in; decide) dX1_follow_29 ?_
  refine lv_topi (fun y18 e19 => ?_)
  obtain rfl : y18 = 2139095040 := e19.trans (kg 1 (by decide))
  refine lv_aload_n hx hb dX1_follow_30 rfl (lv_at hl 3 rfl) ?_
  refine va_get (D := D) (ci := 0) (v := .ref b2) (C := RX1) (T := TX1) (N := 2) hx hb hts iX1_follow_X1 hown hK hP 3 rfl rfl 1 (by decide) (hts (.fieldLink RX1 15 "FloatSolver$Box" "high" "[I") (oX1_follow_in _ (List.mem_of_getElem? (i := 1) rfl))) (fun _ h9 => h9) rfl dX1_follow_31 ?_
  refine lv_iload_n hx hb dX1_follow_34 rfl (lv_at hl 0 rfl) ?_
  refine va_iald hx hb hK hP 5 0 rfl rfl (by unfold vp_in; decide) dX1_follow_35 ?_
  refine lv_topi (fun y20 e21 => ?_)
  obtain rfl : y20 = 2139095040 := e21.trans (kg2 1 (by decide))
  refine lv_icmp_eq (tgt := 62) hx hb dX1_follow_36 (by decide) (fun _ => ?_) (fun c22 => absurd (by decide) c22)
  refine lv_iinc (v := 2) (lv' := [(3, .int 2), (2, .int 0), (0, .ref h), (1, .ref h2)]) hx hb dX1_follow_62 hl (k := 0) rfl (by decide) (by decide) rfl (fun ls hl => ?_)
  refine lv_goto (tgt := 4) hx hb dX1_follow_65 (by decide) ?_
  refine lv_iload_n hx hb dX1_follow_4 rfl (lv_at hl 0 rfl) ?_
  refine lv_iconst (v := 4) hx hb dX1_follow_5 (by decide) ?_
  refine lv_icmp_ge (tgt := 68) hx hb dX1_follow_6 (by decide) (fun c23 => absurd c23 (by decide)) (fun _ => ?_)
  refine lv_aload_n hx hb dX1_follow_9 rfl (lv_at hl 2 rfl) ?_
  refine va_get (D := D) (ci := 0) (v := .ref a) (C := RX1) (T := TX1) (N := 2) hx hb hts iX1_follow_X1 hown hK hP 0 rfl rfl 0 (by decide) (hts (.fieldLink RX1 9 "FloatSolver$Box" "low" "[I") (oX1_follow_in _ (List.mem_of_getElem? (i := 0) rfl))) (fun _ h9 => h9) rfl dX1_follow_10 ?_
  refine lv_iload_n hx hb dX1_follow_13 rfl (lv_at hl 0 rfl) ?_
  refine va_iald hx hb hK hP 1 0 rfl rfl (by unfold vp_in; decide) dX1_follow_14 ?_
  refine lv_topi (fun y24 e25 => ?_)
  obtain rfl : y24 = (-2139095041) := e25.trans (kf 2 (by decide))
  refine lv_aload_n hx hb dX1_follow_15 rfl (lv_at hl 3 rfl) ?_
  refine va_get (D := D) (ci := 0) (v := .ref a2) (C := RX1) (T := TX1) (N := 2) hx hb hts iX1_follow_X1 hown hK hP 3 rfl rfl 0 (by decide) (hts (.fieldLink RX1 9 "FloatSolver$Box" "low" "[I") (oX1_follow_in _ (List.mem_of_getElem? (i := 0) rfl))) (fun _ h9 => h9) rfl dX1_follow_16 ?_
  refine lv_iload_n hx hb dX1_follow_19 rfl (lv_at hl 0 rfl) ?_
  refine va_iald hx hb hK hP 4 0 rfl rfl (by unfold vp_in; decide) dX1_follow_20 ?_
  refine lv_topi (fun y26 e27 => ?_)
  obtain rfl : y26 = (-2139095041) := e27.trans (kf2 2 (by decide))
  refine lv_icmp_ne (tgt := 39) hx hb dX1_follow_21 (by decide) (fun c28 => absurd (by decide) c28) (fun _ => ?_)
  refine lv_aload_n hx hb dX1_follow_24 rfl (lv_at hl 2 rfl) ?_
  refine va_get (D := D) (ci := 0) (v := .ref b) (C := RX1) (T := TX1) (N := 2) hx hb hts iX1_follow_X1 hown hK hP 0 rfl rfl 1 (by decide) (hts (.fieldLink RX1 15 "FloatSolver$Box" "high" "[I") (oX1_follow_in _ (List.mem_of_getElem? (i := 1) rfl))) (fun _ h9 => h9) rfl dX1_follow_25 ?_
  refine lv_iload_n hx hb dX1_follow_28 rfl (lv_at hl 0 rfl) ?_
  refine va_iald hx hb hK hP 2 0 rfl rfl (by unfold vp_in; decide) dX1_follow_29 ?_
  refine lv_topi (fun y29 e30 => ?_)
  obtain rfl : y29 = 2139095040 := e30.trans (kg 2 (by decide))
  refine lv_aload_n hx hb dX1_follow_30 rfl (lv_at hl 3 rfl) ?_
  refine va_get (D := D) (ci := 0) (v := .ref b2) (C := RX1) (T := TX1) (N := 2) hx hb hts iX1_follow_X1 hown hK hP 3 rfl rfl 1 (by decide) (hts (.fieldLink RX1 15 "FloatSolver$Box" "high" "[I") (oX1_follow_in _ (List.mem_of_getElem? (i := 1) rfl))) (fun _ h9 => h9) rfl dX1_follow_31 ?_
  refine lv_iload_n hx hb dX1_follow_34 rfl (lv_at hl 0 rfl) ?_
  refine va_iald hx hb hK hP 5 0 rfl rfl (by unfold vp_in; decide) dX1_follow_35 ?_
  refine lv_topi (fun y31 e32 => ?_)
  obtain rfl : y31 = 2139095040 := e32.trans (kg2 2 (by decide))
  refine lv_icmp_eq (tgt := 62) hx hb dX1_follow_36 (by decide) (fun _ => ?_) (fun c33 => absurd (by decide) c33)
  refine lv_iinc (v := 3) (lv' := [(3, .int 3), (2, .int 0), (0, .ref h), (1, .ref h2)]) hx hb dX1_follow_62 hl (k := 0) rfl (by decide) (by decide) rfl (fun ls hl => ?_)
  refine lv_goto (tgt := 4) hx hb dX1_follow_65 (by decide) ?_
  refine lv_iload_n hx hb dX1_follow_4 rfl (lv_at hl 0 rfl) ?_
  refine lv_iconst (v := 4) hx hb dX1_follow_5 (by decide) ?_
  refine lv_icmp_ge (tgt := 68) hx hb dX1_follow_6 (by decide) (fun c34 => absurd c34 (by decide)) (fun _ => ?_)
  refine lv_aload_n hx hb dX1_follow_9 rfl (lv_at hl 2 rfl) ?_
  refine va_get (D := D) (ci := 0) (v := .ref a) (C := RX1) (T := TX1) (N := 2) hx hb hts iX1_follow_X1 hown hK hP 0 rfl rfl 0 (by decide) (hts (.fieldLink RX1 9 "FloatSolver$Box" "low" "[I") (oX1_follow_in _ (List.mem_of_getElem? (i := 0) rfl))) (fun _ h9 => h9) rfl dX1_follow_10 ?_
  refine lv_iload_n hx hb dX1_follow_13 rfl (lv_at hl 0 rfl) ?_
  refine va_iald hx hb hK hP 1 0 rfl rfl (by unfold vp_in; decide) dX1_follow_14 ?_
  refine lv_topi (fun y35 e36 => ?_)
  obtain rfl : y35 = (-2139095041) := e36.trans (kf 3 (by decide))
  refine lv_aload_n hx hb dX1_follow_15 rfl (lv_at hl 3 rfl) ?_
  refine va_get (D := D) (ci := 0) (v := .ref a2) (C := RX1) (T := TX1) (N := 2) hx hb hts iX1_follow_X1 hown hK hP 3 rfl rfl 0 (by decide) (hts (.fieldLink RX1 9 "FloatSolver$Box" "low" "[I") (oX1_follow_in _ (List.mem_of_getElem? (i := 0) rfl))) (fun _ h9 => h9) rfl dX1_follow_16 ?_
  refine lv_iload_n hx hb dX1_follow_19 rfl (lv_at hl 0 rfl) ?_
  refine va_iald hx hb hK hP 4 0 rfl rfl (by unfold vp_in; decide) dX1_follow_20 ?_
  refine lv_topi (fun y37 e38 => ?_)
  obtain rfl : y37 = (-2139095041) := e38.trans (kf2 3 (by decide))
  refine lv_icmp_ne (tgt := 39) hx hb dX1_follow_21 (by decide) (fun c39 => absurd (by decide) c39) (fun _ => ?_)
  refine lv_aload_n hx hb dX1_follow_24 rfl (lv_at hl 2 rfl) ?_
  refine va_get (D := D) (ci := 0) (v := .ref b) (C := RX1) (T := TX1) (N := 2) hx hb hts iX1_follow_X1 hown hK hP 0 rfl rfl 1 (by decide) (hts (.fieldLink RX1 15 "FloatSolver$Box" "high" "[I") (oX1_follow_in _ (List.mem_of_getElem? (i := 1) rfl))) (fun _ h9 => h9) rfl dX1_follow_25 ?_
  refine lv_iload_n hx hb dX1_follow_28 rfl (lv_at hl 0 rfl) ?_
  refine va_iald hx hb hK hP 2 0 rfl rfl (by unfold vp_in; decide) dX1_follow_29 ?_
  refine lv_topi (fun y40 e41 => ?_)
  obtain rfl : y40 = 2139095040 := e41.trans (kg 3 (by decide))
  refine lv_aload_n hx hb dX1_follow_30 rfl (lv_at hl 3 rfl) ?_
  refine va_get (D := D) (ci := 0) (v := .ref b2) (C := RX1) (T := TX1) (N := 2) hx hb hts iX1_follow_X1 hown hK hP 3 rfl rfl 1 (by decide) (hts (.fieldLink RX1 15 "FloatSolver$Box" "high" "[I") (oX1_follow_in _ (List.mem_of_getElem? (i := 1) rfl))) (fun _ h9 => h9) rfl dX1_follow_31 ?_
  refine lv_iload_n hx hb dX1_follow_34 rfl (lv_at hl 0 rfl) ?_
  refine va_iald hx hb hK hP 5 0 rfl rfl (by unfold vp_in; decide) dX1_follow_35 ?_
  refine lv_topi (fun y42 e43 => ?_)
  obtain rfl : y42 = 2139095040 := e43.trans (kg2 3 (by decide))
  refine lv_icmp_eq (tgt := 62) hx hb dX1_follow_36 (by decide) (fun _ => ?_) (fun c44 => absurd (by decide) c44)
  refine lv_iinc (v := 4) (lv' := [(3, .int 4), (2, .int 0), (0, .ref h), (1, .ref h2)]) hx hb dX1_follow_62 hl (k := 0) rfl (by decide) (by decide) rfl (fun ls hl => ?_)
  refine lv_goto (tgt := 4) hx hb dX1_follow_65 (by decide) ?_
  refine lv_iload_n hx hb dX1_follow_4 rfl (lv_at hl 0 rfl) ?_
  refine lv_iconst (v := 4) hx hb dX1_follow_5 (by decide) ?_
  refine lv_icmp_ge (tgt := 68) hx hb dX1_follow_6 (by decide) (fun _ => ?_) (fun c45 => absurd (by decide) c45)
  refine lv_iload_n hx hb dX1_follow_68 rfl (lv_at hl 1 rfl) ?_
  refine W.widen (k := 0) (n := 0) (by decide) (by decide) ?_
  exact sp_iret (u := ()) hx hb hr hlocks hS rfl (hP.sub [0, 1, 2, 3, 4, 5] rfl) (hD.sub [0, 1, 2, 3, 4, 5] (by decide) rfl) dX1_follow_69
def oX1_firstWide : List Cond := [.fieldLink RX1 9 "FloatSolver$Box" "low" "[I", .fieldLink RX1 15 "FloatSolver$Box" "high" "[I"]
def wpX1_firstWide : List Cond := .code yX1_firstWide cX1_firstWide 2 (some .int) :: (oX1_firstWide ++ (wsX10 ++ ([] : List Cond)))
theorem oX1_firstWide_in : ∀ w ∈ oX1_firstWide, w ∈ wpX1_firstWide := fun w h => List.mem_cons_of_mem _ (List.mem_append_left _ h)
theorem gwoX1_firstWide : ∀ w ∈ oX1_firstWide, goodWord w = true := by decide +kernel
theorem gwX1_firstWide : ∀ w ∈ wpX1_firstWide, goodWord w = true := by
  unfold wpX1_firstWide
  exact List.forall_mem_cons.mpr ⟨rfl, List.forall_mem_append.mpr ⟨gwoX1_firstWide, List.forall_mem_append.mpr ⟨gwX1, fun _ h => absurd h List.not_mem_nil⟩⟩⟩
set_option maxRecDepth 100000 in
theorem toX1_firstWide : ∀ w ∈ oX1_firstWide, w ∈ lw_tbl := by
  unfold oX1_firstWide
  exact List.forall_mem_cons.mpr ⟨(List.mem_of_getElem? (i := 134) (by decide +kernel)), List.forall_mem_cons.mpr ⟨(List.mem_of_getElem? (i := 138) (by decide +kernel)), fun _ h => absurd h List.not_mem_nil⟩⟩
set_option maxRecDepth 100000 in
theorem tX1_firstWide : ∀ w ∈ wpX1_firstWide, w ∈ lw_tbl := by
  unfold wpX1_firstWide
  exact List.forall_mem_cons.mpr ⟨(List.mem_of_getElem? (i := 573) (by rfl)), List.forall_mem_append.mpr ⟨toX1_firstWide, List.forall_mem_append.mpr ⟨in_wsX10, fun _ h => absurd h List.not_mem_nil⟩⟩⟩
theorem iX1_firstWide_X1 : ∀ w ∈ wsX10, w ∈ wpX1_firstWide := fun w h => List.mem_cons_of_mem _ (List.mem_append_right _ (List.mem_append_left _ h))
set_option maxHeartbeats 4000000 in
set_option maxRecDepth 100000 in
theorem c_X1_firstWide (l : Launch) (D : va_G) (cI cJ cZ : ClassId) (sz : Nat) (h a b : Nat) (f g : Nat → Int32) (kf : ∀ j : Nat, j < 4 → f j = -2139095041) (kg : ∀ j : Nat, j < 4 → g j = 2139095040) : Met l yX1_firstWide wpX1_firstWide ({ frames := 0, cells := 0, slots := 0, locals := 0 }) (va_Pc [.ref h] (sp_pre D vwCl (sp_ty cI cJ cZ) [(h, .inr (0, [.ref a, .ref b])), (a, .inl (cI, 4, .inl f)), (b, .inl (cI, 4, .inl g))] sz)) (va_Qi (fun (r : Int32) (_ : Unit) => r = 0) (sp_B D vwCl (va_A [(h, .inr (0, [.ref a, .ref b])), (a, .inl (cI, 4, .inl f)), (b, .inl (cI, 4, .inl g))] sz) (fun (_ : Unit) => [])) (va_A [(h, .inr (0, [.ref a, .ref b])), (a, .inl (cI, 4, .inl f)), (b, .inl (cI, 4, .inl g))] sz)) 0 0 (va_A [(h, .inr (0, [.ref a, .ref b])), (a, .inl (cI, 4, .inl f)), (b, .inl (cI, 4, .inl g))] sz) := by
  refine sp_ofW (Qc := fun A => va_Qi (fun (r : Int32) (_ : Unit) => r = 0) (sp_B D vwCl A (fun (_ : Unit) => [])) A) (by decide) rfl (Nat.le_of_ble_eq_true rfl) (fun p e s m below meth c A ls H locs C0 hA hS hP hK hD hl => ?_)
  obtain ⟨hx, hb, hr, hts, hown, hlocks, hml, hin⟩ := C0
  have hown : s.vm.findClass RX1 = some m.cls := hown
  have hl : lv_has ls 2 [(0, .ref h)] := hl
  have hK : va_K D vwCl [(cI, .int), (cJ, .long), (cZ, .boolean)] s := hK
  refine lv_iconst (v := 0) hx hb dX1_firstWide_0 (by decide) ?_
  refine lv_istore_n (lv' := [(1, .int 0), (0, .ref h)]) hx hb dX1_firstWide_1 rfl hl (by decide) rfl (fun ls hl => ?_)
  refine lv_iload_n hx hb dX1_firstWide_2 rfl (lv_at hl 0 rfl) ?_
  refine lv_iconst (v := 4) hx hb dX1_firstWide_3 (by decide) ?_
  refine lv_icmp_ge (tgt := 28) hx hb dX1_firstWide_4 (by decide) (fun c1 => absurd c1 (by decide)) (fun _ => ?_)
  refine lv_aload_n hx hb dX1_firstWide_7 rfl (lv_at hl 1 rfl) ?_
  refine va_get (D := D) (ci := 0) (v := .ref a) (C := RX1) (T := TX1) (N := 2) hx hb hts iX1_firstWide_X1 hown hK hP 0 rfl rfl 0 (by decide) (hts (.fieldLink RX1 9 "FloatSolver$Box" "low" "[I") (oX1_firstWide_in _ (List.mem_of_getElem? (i := 0) rfl))) (fun _ h9 => h9) rfl dX1_firstWide_8 ?_
  refine lv_iload_n hx hb dX1_firstWide_11 rfl (lv_at hl 0 rfl) ?_
  refine va_iald hx hb hK hP 1 0 rfl rfl (by unfold vp_in; decide) dX1_firstWide_12 ?_
  refine lv_topi (fun y2 e3 => ?_)
  obtain rfl : y2 = (-2139095041) := e3.trans (kf 0 (by decide))
  refine lv_aload_n hx hb dX1_firstWide_13 rfl (lv_at hl 1 rfl) ?_
  refine va_get (D := D) (ci := 0) (v := .ref b) (C := RX1) (T := TX1) (N := 2) hx hb hts iX1_firstWide_X1 hown hK hP 0 rfl rfl 1 (by decide) (hts (.fieldLink RX1 15 "FloatSolver$Box" "high" "[I") (oX1_firstWide_in _ (List.mem_of_getElem? (i := 1) rfl))) (fun _ h9 => h9) rfl dX1_firstWide_14 ?_
  refine lv_iload_n hx hb dX1_firstWide_17 rfl (lv_at hl 0 rfl) ?_
  refine va_iald hx hb hK hP 2 0 rfl rfl (by unfold vp_in; decide) dX1_firstWide_18 ?_
  refine lv_topi (fun y4 e5 => ?_)
  obtain rfl : y4 = 2139095040 := e5.trans (kg 0 (by decide))
  refine lv_icmp_ne (tgt := 28) hx hb dX1_firstWide_19 (by decide) (fun _ => ?_) (fun c6 => absurd c6 (by decide))
  refine lv_iload_n hx hb dX1_firstWide_28 rfl (lv_at hl 0 rfl) ?_
  refine W.widen (k := 0) (n := 0) (by decide) (by decide) ?_
  exact sp_iret (u := ()) hx hb hr hlocks hS rfl (hP.sub [] rfl) (hD.sub [] (by decide) rfl) dX1_firstWide_29
def oX4_allRestOn : List Cond := [.fieldLink RX4 21 "FloatSolver$Rules" "count" "I"]
def wpX4_allRestOn : List Cond := .code yX4_allRestOn cX4_allRestOn 5 (some .long) :: (oX4_allRestOn ++ (wsX40 ++ ([] : List Cond)))
theorem oX4_allRestOn_in : ∀ w ∈ oX4_allRestOn, w ∈ wpX4_allRestOn := fun w h => List.mem_cons_of_mem _ (List.mem_append_left _ h)
theorem gwoX4_allRestOn : ∀ w ∈ oX4_allRestOn, goodWord w = true := by decide +kernel
theorem gwX4_allRestOn : ∀ w ∈ wpX4_allRestOn, goodWord w = true := by
  unfold wpX4_allRestOn
  exact List.forall_mem_cons.mpr ⟨rfl, List.forall_mem_append.mpr ⟨gwoX4_allRestOn, List.forall_mem_append.mpr ⟨gwX4, fun _ h => absurd h List.not_mem_nil⟩⟩⟩
set_option maxRecDepth 100000 in
theorem toX4_allRestOn : ∀ w ∈ oX4_allRestOn, w ∈ lw_tbl := by
  unfold oX4_allRestOn
  exact List.forall_mem_cons.mpr ⟨(List.mem_of_getElem? (i := 112) (by decide +kernel)), fun _ h => absurd h List.not_mem_nil⟩
set_option maxRecDepth 100000 in
theorem tX4_allRestOn : ∀ w ∈ wpX4_allRestOn, w ∈ lw_tbl := by
  unfold wpX4_allRestOn
  exact List.forall_mem_cons.mpr ⟨(List.mem_of_getElem? (i := 562) (by rfl)), List.forall_mem_append.mpr ⟨toX4_allRestOn, List.forall_mem_append.mpr ⟨in_wsX40, fun _ h => absurd h List.not_mem_nil⟩⟩⟩
theorem iX4_allRestOn_X4 : ∀ w ∈ wsX40, w ∈ wpX4_allRestOn := fun w h => List.mem_cons_of_mem _ (List.mem_append_right _ (List.mem_append_left _ h))
set_option maxHeartbeats 4000000 in
set_option maxRecDepth 100000 in
theorem c_X4_allRestOn (l : Launch) (D : va_G) (cI cJ cZ : ClassId) (sz : Nat) (oR r0 r1 r2 oN : Nat) : Met l yX4_allRestOn wpX4_allRestOn ({ frames := 0, cells := 0, slots := 0, locals := 0 }) (va_Pc [.ref oR, .ref oN] (sp_pre D vwCl (sp_ty cI cJ cZ) [(oR, .inr (2, [.ref r0, .ref r1, .ref r2, .int 0]))] sz)) (va_Ql (fun (r : Int64) (_ : Unit) => r = 0) (sp_B D vwCl (va_A [(oR, .inr (2, [.ref r0, .ref r1, .ref r2, .int 0]))] sz) (fun (_ : Unit) => [(oR, .inr (2, [.ref r0, .ref r1, .ref r2, .int 0]))])) (va_A [(oR, .inr (2, [.ref r0, .ref r1, .ref r2, .int 0]))] sz)) 0 0 (va_A [(oR, .inr (2, [.ref r0, .ref r1, .ref r2, .int 0]))] sz) := by
  refine sp_ofW (Qc := fun A => va_Ql (fun (r : Int64) (_ : Unit) => r = 0) (sp_B D vwCl A (fun (_ : Unit) => [(oR, .inr (2, [.ref r0, .ref r1, .ref r2, .int 0]))])) A) (by decide) rfl (Nat.le_of_ble_eq_true rfl) (fun p e s m below meth c A ls H locs C0 hA hS hP hK hD hl => ?_)
  obtain ⟨hx, hb, hr, hts, hown, hlocks, hml, hin⟩ := C0
  have hown : s.vm.findClass RX4 = some m.cls := hown
  have hl : lv_has ls 5 [(0, .ref oR), (1, .ref oN)] := hl
  have hK : va_K D vwCl [(cI, .int), (cJ, .long), (cZ, .boolean)] s := hK
  refine lv_lconst (v := 0) hx hb dX4_allRestOn_0 (by decide) ?_
  refine lv_lstore_n (lv' := [(2, .long 0), (0, .ref oR), (1, .ref oN)]) hx hb dX4_allRestOn_1 rfl hl (by decide) rfl (fun ls hl => ?_)
  refine lv_iconst (v := 0) hx hb dX4_allRestOn_2 (by decide) ?_
  refine lv_istore (lv' := [(4, .int 0), (2, .long 0), (0, .ref oR), (1, .ref oN)]) hx hb dX4_allRestOn_3 hl (by decide) rfl (fun ls hl => ?_)
  refine lv_iload hx hb dX4_allRestOn_5 (lv_at hl 0 rfl) ?_
  refine lv_aload_n hx hb dX4_allRestOn_7 rfl (lv_at hl 2 rfl) ?_
  refine va_get (D := D) (ci := 2) (v := .int 0) (C := RX4) (T := TX4) (N := 4) hx hb hts iX4_allRestOn_X4 hown hK hP 0 rfl rfl 3 (by decide) (hts (.fieldLink RX4 21 "FloatSolver$Rules" "count" "I") (oX4_allRestOn_in _ (List.mem_of_getElem? (i := 0) rfl))) (fun _ h9 => h9) rfl dX4_allRestOn_8 ?_
  refine lv_icmp_ge (tgt := 30) hx hb dX4_allRestOn_11 (by decide) (fun _ => ?_) (fun c1 => absurd (by decide) c1)
  refine lv_lload_n hx hb dX4_allRestOn_30 rfl (lv_at hl 1 rfl) ?_
  refine W.widen (k := 0) (n := 0) (by decide) (by decide) ?_
  exact sp_lret (u := ()) hx hb hr hlocks hS rfl (hP.sub [0] rfl) (hD.sub [0] (by decide) rfl) dX4_allRestOn_31
def oX4_verdictOfAll : List Cond := [.fieldLink RX4 21 "FloatSolver$Rules" "count" "I"]
def wpX4_verdictOfAll : List Cond := .code yX4_verdictOfAll cX4_verdictOfAll 5 (some .int) :: (oX4_verdictOfAll ++ (wsX40 ++ ([] : List Cond)))
theorem oX4_verdictOfAll_in : ∀ w ∈ oX4_verdictOfAll, w ∈ wpX4_verdictOfAll := fun w h => List.mem_cons_of_mem _ (List.mem_append_left _ h)
theorem gwoX4_verdictOfAll : ∀ w ∈ oX4_verdictOfAll, goodWord w = true := by decide +kernel
theorem gwX4_verdictOfAll : ∀ w ∈ wpX4_verdictOfAll, goodWord w = true := by
  unfold wpX4_verdictOfAll
  exact List.forall_mem_cons.mpr ⟨rfl, List.forall_mem_append.mpr ⟨gwoX4_verdictOfAll, List.forall_mem_append.mpr ⟨gwX4, fun _ h => absurd h List.not_mem_nil⟩⟩⟩
set_option maxRecDepth 100000 in
theorem toX4_verdictOfAll : ∀ w ∈ oX4_verdictOfAll, w ∈ lw_tbl := by
  unfold oX4_verdictOfAll
  exact List.forall_mem_cons.mpr ⟨(List.mem_of_getElem? (i := 112) (by decide +kernel)), fun _ h => absurd h List.not_mem_nil⟩
set_option maxRecDepth 100000 in
theorem tX4_verdictOfAll : ∀ w ∈ wpX4_verdictOfAll, w ∈ lw_tbl := by
  unfold wpX4_verdictOfAll
  exact List.forall_mem_cons.mpr ⟨(List.mem_of_getElem? (i := 568) (by rfl)), List.forall_mem_append.mpr ⟨toX4_verdictOfAll, List.forall_mem_append.mpr ⟨in_wsX40, fun _ h => absurd h List.not_mem_nil⟩⟩⟩
theorem iX4_verdictOfAll_X4 : ∀ w ∈ wsX40, w ∈ wpX4_verdictOfAll := fun w h => List.mem_cons_of_mem _ (List.mem_append_right _ (List.mem_append_left _ h))
set_option maxHeartbeats 4000000 in
set_option maxRecDepth 100000 in
theorem c_X4_verdictOfAll (l : Launch) (D : va_G) (cI cJ cZ : ClassId) (sz : Nat) (oR r0 r1 r2 oN : Nat) : Met l yX4_verdictOfAll wpX4_verdictOfAll ({ frames := 0, cells := 0, slots := 0, locals := 0 }) (va_Pc [.ref oR, .ref oN] (sp_pre D vwCl (sp_ty cI cJ cZ) [(oR, .inr (2, [.ref r0, .ref r1, .ref r2, .int 0]))] sz)) (va_Qi (fun (r : Int32) (_ : Unit) => r = 1) (sp_B D vwCl (va_A [(oR, .inr (2, [.ref r0, .ref r1, .ref r2, .int 0]))] sz) (fun (_ : Unit) => [(oR, .inr (2, [.ref r0, .ref r1, .ref r2, .int 0]))])) (va_A [(oR, .inr (2, [.ref r0, .ref r1, .ref r2, .int 0]))] sz)) 0 0 (va_A [(oR, .inr (2, [.ref r0, .ref r1, .ref r2, .int 0]))] sz) := by
  refine sp_ofW (Qc := fun A => va_Qi (fun (r : Int32) (_ : Unit) => r = 1) (sp_B D vwCl A (fun (_ : Unit) => [(oR, .inr (2, [.ref r0, .ref r1, .ref r2, .int 0]))])) A) (by decide) rfl (Nat.le_of_ble_eq_true rfl) (fun p e s m below meth c A ls H locs C0 hA hS hP hK hD hl => ?_)
  obtain ⟨hx, hb, hr, hts, hown, hlocks, hml, hin⟩ := C0
  have hown : s.vm.findClass RX4 = some m.cls := hown
  have hl : lv_has ls 5 [(0, .ref oR), (1, .ref oN)] := hl
  have hK : va_K D vwCl [(cI, .int), (cJ, .long), (cZ, .boolean)] s := hK
  refine lv_iconst (v := 1) hx hb dX4_verdictOfAll_0 (by decide) ?_
  refine lv_istore_n (lv' := [(2, .int 1), (0, .ref oR), (1, .ref oN)]) hx hb dX4_verdictOfAll_1 rfl hl (by decide) rfl (fun ls hl => ?_)
  refine lv_iconst (v := 0) hx hb dX4_verdictOfAll_2 (by decide) ?_
  refine lv_istore_n (lv' := [(3, .int 0), (2, .int 1), (0, .ref oR), (1, .ref oN)]) hx hb dX4_verdictOfAll_3 rfl hl (by decide) rfl (fun ls hl => ?_)
  refine lv_iload_n hx hb dX4_verdictOfAll_4 rfl (lv_at hl 0 rfl) ?_
  refine lv_aload_n hx hb dX4_verdictOfAll_5 rfl (lv_at hl 2 rfl) ?_
  refine va_get (D := D) (ci := 2) (v := .int 0) (C := RX4) (T := TX4) (N := 4) hx hb hts iX4_verdictOfAll_X4 hown hK hP 0 rfl rfl 3 (by decide) (hts (.fieldLink RX4 21 "FloatSolver$Rules" "count" "I") (oX4_verdictOfAll_in _ (List.mem_of_getElem? (i := 0) rfl))) (fun _ h9 => h9) rfl dX4_verdictOfAll_6 ?_
  refine lv_icmp_ge (tgt := 41) hx hb dX4_verdictOfAll_9 (by decide) (fun _ => ?_) (fun c1 => absurd (by decide) c1)
  refine lv_iload_n hx hb dX4_verdictOfAll_41 rfl (lv_at hl 1 rfl) ?_
  refine W.widen (k := 0) (n := 0) (by decide) (by decide) ?_
  exact sp_iret (u := ()) hx hb hr hlocks hS rfl (hP.sub [0] rfl) (hD.sub [0] (by decide) rfl) dX4_verdictOfAll_42
def oX6_forget : List Cond := []
def wpX6_forget : List Cond := .code yX6_forget cX6_forget 3 none :: (oX6_forget ++ ([] : List Cond))
theorem oX6_forget_in : ∀ w ∈ oX6_forget, w ∈ wpX6_forget := fun w h => List.mem_cons_of_mem _ (List.mem_append_left _ h)
theorem gwoX6_forget : ∀ w ∈ oX6_forget, goodWord w = true := by decide +kernel
theorem gwX6_forget : ∀ w ∈ wpX6_forget, goodWord w = true := by
  unfold wpX6_forget
  exact List.forall_mem_cons.mpr ⟨rfl, List.forall_mem_append.mpr ⟨gwoX6_forget, fun _ h => absurd h List.not_mem_nil⟩⟩
set_option maxRecDepth 100000 in
theorem toX6_forget : ∀ w ∈ oX6_forget, w ∈ lw_tbl := by
  unfold oX6_forget
  exact fun _ h => absurd h List.not_mem_nil
set_option maxRecDepth 100000 in
theorem tX6_forget : ∀ w ∈ wpX6_forget, w ∈ lw_tbl := by
  unfold wpX6_forget
  exact List.forall_mem_cons.mpr ⟨(List.mem_of_getElem? (i := 466) (by rfl)), List.forall_mem_append.mpr ⟨toX6_forget, fun _ h => absurd h List.not_mem_nil⟩⟩
set_option maxHeartbeats 4000000 in
set_option maxRecDepth 100000 in
theorem c_X6_forget (l : Launch) (D : va_G) (cI cJ cZ : ClassId) (sz : Nat) (oP s0 s1 s2 s3 oN h2 : Nat) (sd : Int64) : Met l yX6_forget wpX6_forget ({ frames := 0, cells := 0, slots := 0, locals := 0 }) (va_Pc [.ref oP, .int 0] (sp_pre D vwCl (sp_ty cI cJ cZ) [(oP, .inr (4, [.ref s0, .ref s1, .ref s2, .ref s3, .ref oN, .ref h2, .long sd]))] sz)) (va_Qv (fun (_ : Unit) => True) (sp_B D vwCl (va_A [(oP, .inr (4, [.ref s0, .ref s1, .ref s2, .ref s3, .ref oN, .ref h2, .long sd]))] sz) (fun (_ : Unit) => [(oP, .inr (4, [.ref s0, .ref s1, .ref s2, .ref s3, .ref oN, .ref h2, .long sd]))])) (va_A [(oP, .inr (4, [.ref s0, .ref s1, .ref s2, .ref s3, .ref oN, .ref h2, .long sd]))] sz)) 0 0 (va_A [(oP, .inr (4, [.ref s0, .ref s1, .ref s2, .ref s3, .ref oN, .ref h2, .long sd]))] sz) := by
  refine sp_ofW (Qc := fun A => va_Qv (fun (_ : Unit) => True) (sp_B D vwCl A (fun (_ : Unit) => [(oP, .inr (4, [.ref s0, .ref s1, .ref s2, .ref s3, .ref oN, .ref h2, .long sd]))])) A) (by decide) rfl (Nat.le_of_ble_eq_true rfl) (fun p e s m below meth c A ls H locs C0 hA hS hP hK hD hl => ?_)
  obtain ⟨hx, hb, hr, hts, hown, hlocks, hml, hin⟩ := C0
  have hown : s.vm.findClass RX6 = some m.cls := hown
  have hl : lv_has ls 3 [(0, .ref oP), (1, .int 0)] := hl
  have hK : va_K D vwCl [(cI, .int), (cJ, .long), (cZ, .boolean)] s := hK
  refine lv_iconst (v := 0) hx hb dX6_forget_0 (by decide) ?_
  refine lv_istore_n (lv' := [(2, .int 0), (0, .ref oP), (1, .int 0)]) hx hb dX6_forget_1 rfl hl (by decide) rfl (fun ls hl => ?_)
  refine lv_iload_n hx hb dX6_forget_2 rfl (lv_at hl 0 rfl) ?_
  refine lv_iconst (v := 4) hx hb dX6_forget_3 (by decide) ?_
  refine lv_icmp_ge (tgt := 43) hx hb dX6_forget_4 (by decide) (fun c1 => absurd c1 (by decide)) (fun _ => ?_)
  refine lv_iload_n hx hb dX6_forget_7 rfl (lv_at hl 2 rfl) ?_
  refine lv_iconst (v := 1) hx hb dX6_forget_8 (by decide) ?_
  refine lv_iload_n hx hb dX6_forget_9 rfl (lv_at hl 0 rfl) ?_
  refine lv_ishl hx hb dX6_forget_10 ?_
  refine lv_topi (fun y2 e3 => ?_)
  obtain rfl : y2 = 1 := e3.trans (by decide)
  refine lv_iand hx hb dX6_forget_11 ?_
  refine lv_topi (fun y4 e5 => ?_)
  obtain rfl : y4 = 0 := e5.trans (by decide)
  refine lv_if_eq (tgt := 37) hx hb dX6_forget_12 (by decide) (fun _ => ?_) (fun c6 => absurd (by decide) c6)
  refine lv_iinc (v := 1) (lv' := [(2, .int 1), (0, .ref oP), (1, .int 0)]) hx hb dX6_forget_37 hl (k := 0) rfl (by decide) (by decide) rfl (fun ls hl => ?_)
  refine lv_goto (tgt := 2) hx hb dX6_forget_40 (by decide) ?_
  refine lv_iload_n hx hb dX6_forget_2 rfl (lv_at hl 0 rfl) ?_
  refine lv_iconst (v := 4) hx hb dX6_forget_3 (by decide) ?_
  refine lv_icmp_ge (tgt := 43) hx hb dX6_forget_4 (by decide) (fun c7 => absurd c7 (by decide)) (fun _ => ?_)
  refine lv_iload_n hx hb dX6_forget_7 rfl (lv_at hl 2 rfl) ?_
  refine lv_iconst (v := 1) hx hb dX6_forget_8 (by decide) ?_
  refine lv_iload_n hx hb dX6_forget_9 rfl (lv_at hl 0 rfl) ?_
  refine lv_ishl hx hb dX6_forget_10 ?_
  refine lv_topi (fun y8 e9 => ?_)
  obtain rfl : y8 = 2 := e9.trans (by decide)
  refine lv_iand hx hb dX6_forget_11 ?_
  refine lv_topi (fun y10 e11 => ?_)
  obtain rfl : y10 = 0 := e11.trans (by decide)
  refine lv_if_eq (tgt := 37) hx hb dX6_forget_12 (by decide) (fun _ => ?_) (fun c12 => absurd (by decide) c12)
  refine lv_iinc (v := 2) (lv' := [(2, .int 2), (0, .ref oP), (1, .int 0)]) hx hb dX6_forget_37 hl (k := 0) rfl (by decide) (by decide) rfl (fun ls hl => ?_)
  refine lv_goto (tgt := 2) hx hb dX6_forget_40 (by decide) ?_
  refine lv_iload_n hx hb dX6_forget_2 rfl (lv_at hl 0 rfl) ?_
  refine lv_iconst (v := 4) hx hb dX6_forget_3 (by decide) ?_
  refine lv_icmp_ge (tgt := 43) hx hb dX6_forget_4 (by decide) (fun c13 => absurd c13 (by decide)) (fun _ => ?_)
  refine lv_iload_n hx hb dX6_forget_7 rfl (lv_at hl 2 rfl) ?_
  refine lv_iconst (v := 1) hx hb dX6_forget_8 (by decide) ?_
  refine lv_iload_n hx hb dX6_forget_9 rfl (lv_at hl 0 rfl) ?_
  refine lv_ishl hx hb dX6_forget_10 ?_
  refine lv_topi (fun y14 e15 => ?_)
  obtain rfl : y14 = 4 := e15.trans (by decide)
  refine lv_iand hx hb dX6_forget_11 ?_
  refine lv_topi (fun y16 e17 => ?_)
  obtain rfl : y16 = 0 := e17.trans (by decide)
  refine lv_if_eq (tgt := 37) hx hb dX6_forget_12 (by decide) (fun _ => ?_) (fun c18 => absurd (by decide) c18)
  refine lv_iinc (v := 3) (lv' := [(2, .int 3), (0, .ref oP), (1, .int 0)]) hx hb dX6_forget_37 hl (k := 0) rfl (by decide) (by decide) rfl (fun ls hl => ?_)
  refine lv_goto (tgt := 2) hx hb dX6_forget_40 (by decide) ?_
  refine lv_iload_n hx hb dX6_forget_2 rfl (lv_at hl 0 rfl) ?_
  refine lv_iconst (v := 4) hx hb dX6_forget_3 (by decide) ?_
  refine lv_icmp_ge (tgt := 43) hx hb dX6_forget_4 (by decide) (fun c19 => absurd c19 (by decide)) (fun _ => ?_)
  refine lv_iload_n hx hb dX6_forget_7 rfl (lv_at hl 2 rfl) ?_
  refine lv_iconst (v := 1) hx hb dX6_forget_8 (by decide) ?_
  refine lv_iload_n hx hb dX6_forget_9 rfl (lv_at hl 0 rfl) ?_
  refine lv_ishl hx hb dX6_forget_10 ?_
  refine lv_topi (fun y20 e21 => ?_)
  obtain rfl : y20 = 8 := e21.trans (by decide)
  refine lv_iand hx hb dX6_forget_11 ?_
  refine lv_topi (fun y22 e23 => ?_)
  obtain rfl : y22 = 0 := e23.trans (by decide)
  refine lv_if_eq (tgt := 37) hx hb dX6_forget_12 (by decide) (fun _ => ?_) (fun c24 => absurd (by decide) c24)
  refine lv_iinc (v := 4) (lv' := [(2, .int 4), (0, .ref oP), (1, .int 0)]) hx hb dX6_forget_37 hl (k := 0) rfl (by decide) (by decide) rfl (fun ls hl => ?_)
  refine lv_goto (tgt := 2) hx hb dX6_forget_40 (by decide) ?_
  refine lv_iload_n hx hb dX6_forget_2 rfl (lv_at hl 0 rfl) ?_
  refine lv_iconst (v := 4) hx hb dX6_forget_3 (by decide) ?_
  refine lv_icmp_ge (tgt := 43) hx hb dX6_forget_4 (by decide) (fun _ => ?_) (fun c25 => absurd (by decide) c25)
  refine W.widen (k := 0) (n := 0) (by decide) (by decide) ?_
  exact sp_vret (u := ()) hx hb hr hlocks hS trivial (hP.sub [0] rfl) (hD.sub [0] (by decide) rfl) dX6_forget_43
def oX6_fill : List Cond := [.fieldLink RX6 28 "FloatSolver$Spans" "box" "LFloatSolver$Box;", .fieldLink RX6 32 "FloatSolver$Spans" "standing" "J", .constantLong RX6 48 (-1), .fieldLink RX6 36 "FloatSolver$Spans" "nodes" "LFloatSolver$Nodes;", .fieldLink RX6 50 "FloatSolver$Nodes" "count" "I"]
def wpX6_fill : List Cond := .code yX6_fill cX6_fill 8 none :: (oX6_fill ++ (wsX60 ++ (wsX30 ++ ((wsV RX6 40 RX1 yX1_follow wpX1_follow) ++ ((wsV RX6 44 RX6 yX6_forget wpX6_forget) ++ ([] : List Cond))))))
theorem oX6_fill_in : ∀ w ∈ oX6_fill, w ∈ wpX6_fill := fun w h => List.mem_cons_of_mem _ (List.mem_append_left _ h)
theorem gwoX6_fill : ∀ w ∈ oX6_fill, goodWord w = true := by decide +kernel
theorem gwX6_fill : ∀ w ∈ wpX6_fill, goodWord w = true := by
  unfold wpX6_fill
  exact List.forall_mem_cons.mpr ⟨rfl, List.forall_mem_append.mpr ⟨gwoX6_fill, List.forall_mem_append.mpr ⟨gwX6, List.forall_mem_append.mpr ⟨gwX3, List.forall_mem_append.mpr ⟨(sp_gV gwX1_follow), List.forall_mem_append.mpr ⟨(sp_gV gwX6_forget), fun _ h => absurd h List.not_mem_nil⟩⟩⟩⟩⟩⟩
set_option maxRecDepth 100000 in
theorem toX6_fill : ∀ w ∈ oX6_fill, w ∈ lw_tbl := by
  unfold oX6_fill
  exact List.forall_mem_cons.mpr ⟨(List.mem_of_getElem? (i := 168) (by decide +kernel)), List.forall_mem_cons.mpr ⟨(List.mem_of_getElem? (i := 169) (by decide +kernel)), List.forall_mem_cons.mpr ⟨(List.mem_of_getElem? (i := 467) (by decide +kernel)), List.forall_mem_cons.mpr ⟨(List.mem_of_getElem? (i := 167) (by decide +kernel)), List.forall_mem_cons.mpr ⟨(List.mem_of_getElem? (i := 84) (by decide +kernel)), fun _ h => absurd h List.not_mem_nil⟩⟩⟩⟩⟩
set_option maxRecDepth 100000 in
theorem tX6_fill : ∀ w ∈ wpX6_fill, w ∈ lw_tbl := by
  unfold wpX6_fill
  exact List.forall_mem_cons.mpr ⟨(List.mem_of_getElem? (i := 457) (by rfl)), List.forall_mem_append.mpr ⟨toX6_fill, List.forall_mem_append.mpr ⟨in_wsX60, List.forall_mem_append.mpr ⟨in_wsX30, List.forall_mem_append.mpr ⟨(sp_tV (List.mem_of_getElem? (i := 458) (by decide +kernel)) (List.mem_of_getElem? (i := 459) (by decide +kernel)) (List.mem_of_getElem? (i := 460) (by decide +kernel)) (List.mem_of_getElem? (i := 41) (by decide +kernel)) tX1_follow), List.forall_mem_append.mpr ⟨(sp_tV (List.mem_of_getElem? (i := 463) (by decide +kernel)) (List.mem_of_getElem? (i := 465) (by decide +kernel)) (List.mem_of_getElem? (i := 1) (by decide +kernel)) (List.mem_of_getElem? (i := 43) (by decide +kernel)) tX6_forget), fun _ h => absurd h List.not_mem_nil⟩⟩⟩⟩⟩⟩
theorem iX6_fill_X6 : ∀ w ∈ wsX60, w ∈ wpX6_fill := fun w h => List.mem_cons_of_mem _ (List.mem_append_right _ (List.mem_append_left _ h))
theorem iX6_fill_X3 : ∀ w ∈ wsX30, w ∈ wpX6_fill := fun w h => List.mem_cons_of_mem _ (List.mem_append_right _ (List.mem_append_right _ (List.mem_append_left _ h)))
theorem gX6_fill_X1_follow_40 : GoodIn wpX6_fill (wsV RX6 40 RX1 yX1_follow wpX1_follow) := fun w h => ⟨List.mem_cons_of_mem _ (List.mem_append_right _ (List.mem_append_right _ (List.mem_append_right _ (List.mem_append_left _ h)))), good_of_word (sp_gV gwX1_follow w h)⟩
theorem gX6_fill_X6_forget_44 : GoodIn wpX6_fill (wsV RX6 44 RX6 yX6_forget wpX6_forget) := fun w h => ⟨List.mem_cons_of_mem _ (List.mem_append_right _ (List.mem_append_right _ (List.mem_append_right _ (List.mem_append_right _ (List.mem_append_left _ h))))), good_of_word (sp_gV gwX6_forget w h)⟩
set_option maxHeartbeats 4000000 in
set_option maxRecDepth 100000 in
theorem c_X6_fill (l : Launch) (D : va_G) (cI cJ cZ : ClassId) (sz : Nat) (oP s0 s1 s2 s3 : Nat) (sd : Int64) (oN : Nat) (n0 n1 n2 n3 n4 n5 : Nat) (h2 a2 b2 : Nat) (f2 g2 : Nat → Int32) (kf2 : ∀ j : Nat, j < 4 → f2 j = -2139095041) (kg2 : ∀ j : Nat, j < 4 → g2 j = 2139095040) (h a b : Nat) (f g : Nat → Int32) (kf : ∀ j : Nat, j < 4 → f j = -2139095041) (kg : ∀ j : Nat, j < 4 → g j = 2139095040) (nd : Int64) : Met l yX6_fill wpX6_fill ({ frames := 2, cells := 0, slots := 0, locals := 46 }) (va_Pc [.ref oP, .ref h, .long nd] (sp_pre D vwCl (sp_ty cI cJ cZ) [(oP, .inr (4, [.ref s0, .ref s1, .ref s2, .ref s3, .ref oN, .ref h2, .long sd])), (oN, .inr (1, [.ref n0, .ref n1, .ref n2, .ref n3, .ref n4, .ref n5, .int 0])), (h2, .inr (0, [.ref a2, .ref b2])), (a2, .inl (cI, 4, .inl f2)), (b2, .inl (cI, 4, .inl g2)), (h, .inr (0, [.ref a, .ref b])), (a, .inl (cI, 4, .inl f)), (b, .inl (cI, 4, .inl g))] sz)) (va_Qv (fun (_ : Unit) => True) (sp_B D vwCl (va_A [(oP, .inr (4, [.ref s0, .ref s1, .ref s2, .ref s3, .ref oN, .ref h2, .long sd])), (oN, .inr (1, [.ref n0, .ref n1, .ref n2, .ref n3, .ref n4, .ref n5, .int 0])), (h2, .inr (0, [.ref a2, .ref b2])), (a2, .inl (cI, 4, .inl f2)), (b2, .inl (cI, 4, .inl g2)), (h, .inr (0, [.ref a, .ref b])), (a, .inl (cI, 4, .inl f)), (b, .inl (cI, 4, .inl g))] sz) (fun (_ : Unit) => [(h, .inr (0, [.ref a, .ref b])), (a, .inl (cI, 4, .inl f)), (b, .inl (cI, 4, .inl g))])) (va_A [(oP, .inr (4, [.ref s0, .ref s1, .ref s2, .ref s3, .ref oN, .ref h2, .long sd])), (oN, .inr (1, [.ref n0, .ref n1, .ref n2, .ref n3, .ref n4, .ref n5, .int 0])), (h2, .inr (0, [.ref a2, .ref b2])), (a2, .inl (cI, 4, .inl f2)), (b2, .inl (cI, 4, .inl g2)), (h, .inr (0, [.ref a, .ref b])), (a, .inl (cI, 4, .inl f)), (b, .inl (cI, 4, .inl g))] sz)) 0 0 (va_A [(oP, .inr (4, [.ref s0, .ref s1, .ref s2, .ref s3, .ref oN, .ref h2, .long sd])), (oN, .inr (1, [.ref n0, .ref n1, .ref n2, .ref n3, .ref n4, .ref n5, .int 0])), (h2, .inr (0, [.ref a2, .ref b2])), (a2, .inl (cI, 4, .inl f2)), (b2, .inl (cI, 4, .inl g2)), (h, .inr (0, [.ref a, .ref b])), (a, .inl (cI, 4, .inl f)), (b, .inl (cI, 4, .inl g))] sz) := by
  refine sp_ofW (Qc := fun A => va_Qv (fun (_ : Unit) => True) (sp_B D vwCl A (fun (_ : Unit) => [(h, .inr (0, [.ref a, .ref b])), (a, .inl (cI, 4, .inl f)), (b, .inl (cI, 4, .inl g))])) A) (by decide) rfl (Nat.le_of_ble_eq_true rfl) (fun p e s m below meth c A ls H locs C0 hA hS hP hK hD hl => ?_)
  obtain ⟨hx, hb, hr, hts, hown, hlocks, hml, hin⟩ := C0
  have hown : s.vm.findClass RX6 = some m.cls := hown
  have hl : lv_has ls 8 [(0, .ref oP), (1, .ref h), (2, .long nd)] := hl
  have hK : va_K D vwCl [(cI, .int), (cJ, .long), (cZ, .boolean)] s := hK
  refine lv_aload_n hx hb dX6_fill_0 rfl (lv_at hl 0 rfl) ?_
  refine lv_aload_n hx hb dX6_fill_1 rfl (lv_at hl 0 rfl) ?_
  refine va_get (D := D) (ci := 4) (v := .ref h2) (C := RX6) (T := TX6) (N := 7) hx hb hts iX6_fill_X6 hown hK hP 0 rfl rfl 5 (by decide) (hts (.fieldLink RX6 28 "FloatSolver$Spans" "box" "LFloatSolver$Box;") (oX6_fill_in _ (List.mem_of_getElem? (i := 0) rfl))) (fun _ h9 => h9) rfl dX6_fill_2 ?_
  refine lv_aload_n hx hb dX6_fill_5 rfl (lv_at hl 1 rfl) ?_
  refine sp_calli (wr := [(oP, .inr (4, [.ref s0, .ref s1, .ref s2, .ref s3, .ref oN, .ref h2, .long sd])), (oN, .inr (1, [.ref n0, .ref n1, .ref n2, .ref n3, .ref n4, .ref n5, .int 0]))]) (wc := [(h2, .inr (0, [.ref a2, .ref b2])), (a2, .inl (cI, 4, .inl f2)), (b2, .inl (cI, 4, .inl g2)), (h, .inr (0, [.ref a, .ref b])), (a, .inl (cI, 4, .inl f)), (b, .inl (cI, 4, .inl g))]) hP hD hS hA [2, 3, 4, 5, 6, 7] [0, 1] rfl rfl (by decide) (by decide) (va_runV (As := [.ref h]) (rest := [.ref oP]) ⟨hx, hb, hml, hown, hts⟩ (c_X1_follow l D cI cJ cZ H.size h2 a2 b2 f2 g2 kf2 kg2 h a b f g kf kg) (cwV 1 hts gX6_fill_X1_follow_40 rfl rfl rfl (by decide +kernel) ⟨Nat.le_of_ble_eq_true rfl, Nat.le_of_ble_eq_true rfl⟩) (sp_preV (ci := 0) (q0 := 0) [.ref h] hK (hP.sub (ws' := [(h2, .inr (0, [.ref a2, .ref b2])), (a2, .inl (cI, 4, .inl f2)), (b2, .inl (cI, 4, .inl g2)), (h, .inr (0, [.ref a, .ref b])), (a, .inl (cI, 4, .inl f)), (b, .inl (cI, 4, .inl g))]) [2, 3, 4, 5, 6, 7] rfl) (hD.sub (ws' := [(h2, .inr (0, [.ref a2, .ref b2])), (a2, .inl (cI, 4, .inl f2)), (b2, .inl (cI, 4, .inl g2)), (h, .inr (0, [.ref a, .ref b])), (a, .inl (cI, 4, .inl f)), (b, .inl (cI, 4, .inl g))]) [2, 3, 4, 5, 6, 7] (by decide) rfl) rfl rfl) rfl rfl hl.1 rfl (lv_room (Nat.le_of_ble_eq_true rfl)) dX6_fill_6 ⟨Nat.le_of_ble_eq_true rfl, Nat.le_of_ble_eq_true rfl⟩) (fun r1 u2 H locs hw3 hP hD hS => ?_)
  obtain rfl := hw3
  have hP : va_P D vwCl [(oP, .inr (4, [.ref s0, .ref s1, .ref s2, .ref s3, .ref oN, .ref h2, .long sd])), (oN, .inr (1, [.ref n0, .ref n1, .ref n2, .ref n3, .ref n4, .ref n5, .int 0])), (h2, .inr (0, [.ref a2, .ref b2])), (a2, .inl (cI, 4, .inl f2)), (b2, .inl (cI, 4, .inl g2)), (h, .inr (0, [.ref a, .ref b])), (a, .inl (cI, 4, .inl f)), (b, .inl (cI, 4, .inl g))] H := hP
  have hD : va_D A [(oP, .inr (4, [.ref s0, .ref s1, .ref s2, .ref s3, .ref oN, .ref h2, .long sd])), (oN, .inr (1, [.ref n0, .ref n1, .ref n2, .ref n3, .ref n4, .ref n5, .int 0])), (h2, .inr (0, [.ref a2, .ref b2])), (a2, .inl (cI, 4, .inl f2)), (b2, .inl (cI, 4, .inl g2)), (h, .inr (0, [.ref a, .ref b])), (a, .inl (cI, 4, .inl f)), (b, .inl (cI, 4, .inl g))] := hD
  refine sp_callv (wr := [(oN, .inr (1, [.ref n0, .ref n1, .ref n2, .ref n3, .ref n4, .ref n5, .int 0])), (h2, .inr (0, [.ref a2, .ref b2])), (a2, .inl (cI, 4, .inl f2)), (b2, .inl (cI, 4, .inl g2)), (h, .inr (0, [.ref a, .ref b])), (a, .inl (cI, 4, .inl f)), (b, .inl (cI, 4, .inl g))]) (wc := [(oP, .inr (4, [.ref s0, .ref s1, .ref s2, .ref s3, .ref oN, .ref h2, .long sd]))]) hP hD hS hA [0] [1, 2, 3, 4, 5, 6, 7] rfl rfl (by decide) (by decide) (va_runV (As := [.int 0]) (rest := []) ⟨hx, hb, hml, hown, hts⟩ (c_X6_forget l D cI cJ cZ H.size oP s0 s1 s2 s3 oN h2 (sd)) (cwV 1 hts gX6_fill_X6_forget_44 rfl rfl rfl (by decide +kernel) ⟨Nat.le_of_ble_eq_true rfl, Nat.le_of_ble_eq_true rfl⟩) (sp_preV (ci := 4) (q0 := 0) [.int 0] hK (hP.sub (ws' := [(oP, .inr (4, [.ref s0, .ref s1, .ref s2, .ref s3, .ref oN, .ref h2, .long sd]))]) [0] rfl) (hD.sub (ws' := [(oP, .inr (4, [.ref s0, .ref s1, .ref s2, .ref s3, .ref oN, .ref h2, .long sd]))]) [0] (by decide) rfl) rfl rfl) rfl rfl hl.1 rfl (lv_room (Nat.le_of_ble_eq_true rfl)) dX6_fill_9 ⟨Nat.le_of_ble_eq_true rfl, Nat.le_of_ble_eq_true rfl⟩) (fun u5 H locs hw6 hP hD hS => ?_)
  have hP : va_P D vwCl [(oN, .inr (1, [.ref n0, .ref n1, .ref n2, .ref n3, .ref n4, .ref n5, .int 0])), (h2, .inr (0, [.ref a2, .ref b2])), (a2, .inl (cI, 4, .inl f2)), (b2, .inl (cI, 4, .inl g2)), (h, .inr (0, [.ref a, .ref b])), (a, .inl (cI, 4, .inl f)), (b, .inl (cI, 4, .inl g)), (oP, .inr (4, [.ref s0, .ref s1, .ref s2, .ref s3, .ref oN, .ref h2, .long sd]))] H := hP
  have hD : va_D A [(oN, .inr (1, [.ref n0, .ref n1, .ref n2, .ref n3, .ref n4, .ref n5, .int 0])), (h2, .inr (0, [.ref a2, .ref b2])), (a2, .inl (cI, 4, .inl f2)), (b2, .inl (cI, 4, .inl g2)), (h, .inr (0, [.ref a, .ref b])), (a, .inl (cI, 4, .inl f)), (b, .inl (cI, 4, .inl g)), (oP, .inr (4, [.ref s0, .ref s1, .ref s2, .ref s3, .ref oN, .ref h2, .long sd]))] := hD
  refine lv_lload_n hx hb dX6_fill_12 rfl (lv_at hl 2 rfl) ?_
  refine lv_aload_n hx hb dX6_fill_13 rfl (lv_at hl 0 rfl) ?_
  refine va_get (D := D) (ci := 4) (v := .long sd) (C := RX6) (T := TX6) (N := 7) hx hb hts iX6_fill_X6 hown hK hP 7 rfl rfl 6 (by decide) (hts (.fieldLink RX6 32 "FloatSolver$Spans" "standing" "J") (oX6_fill_in _ (List.mem_of_getElem? (i := 1) rfl))) (fun _ h9 => h9) rfl dX6_fill_14 ?_
  refine lv_ldc2 (v := (-1)) hx hb hown (hts (.constantLong RX6 48 (-1)) (oX6_fill_in _ (List.mem_of_getElem? (i := 2) rfl))) dX6_fill_17 ?_
  refine lv_lxor hx hb dX6_fill_20 ?_
  refine lv_topl (fun y7 e8 => ?_)
  refine lv_land hx hb dX6_fill_21 ?_
  refine lv_topl (fun y9 e10 => ?_)
  refine lv_lstore (lv' := [(4, .long y9), (0, .ref oP), (1, .ref h), (2, .long nd)]) hx hb dX6_fill_22 hl (by decide) rfl (fun ls hl => ?_)
  refine lv_iconst (v := 0) hx hb dX6_fill_24 (by decide) ?_
  refine lv_istore (lv' := [(6, .int 0), (4, .long y9), (0, .ref oP), (1, .ref h), (2, .long nd)]) hx hb dX6_fill_25 hl (by decide) rfl (fun ls hl => ?_)
  refine lv_iload hx hb dX6_fill_27 (lv_at hl 0 rfl) ?_
  refine lv_aload_n hx hb dX6_fill_29 rfl (lv_at hl 2 rfl) ?_
  refine va_get (D := D) (ci := 4) (v := .ref oN) (C := RX6) (T := TX6) (N := 7) hx hb hts iX6_fill_X6 hown hK hP 7 rfl rfl 4 (by decide) (hts (.fieldLink RX6 36 "FloatSolver$Spans" "nodes" "LFloatSolver$Nodes;") (oX6_fill_in _ (List.mem_of_getElem? (i := 3) rfl))) (fun _ h9 => h9) rfl dX6_fill_30 ?_
  refine va_get (D := D) (ci := 1) (v := .int 0) (C := RX3) (T := TX3) (N := 7) hx hb hts iX6_fill_X3 hown hK hP 0 rfl rfl 6 (by decide) (hts (.fieldLink RX6 50 "FloatSolver$Nodes" "count" "I") (oX6_fill_in _ (List.mem_of_getElem? (i := 4) rfl))) (fun _ h9 => h9) rfl dX6_fill_33 ?_
  refine lv_icmp_ge (tgt := 352) hx hb dX6_fill_36 (by decide) (fun _ => ?_) (fun c11 => absurd (by decide) c11)
  refine lv_aload_n hx hb dX6_fill_352 rfl (lv_at hl 2 rfl) ?_
  refine lv_dup hx hb dX6_fill_353 rfl ?_
  refine va_get (D := D) (ci := 4) (v := .long sd) (C := RX6) (T := TX6) (N := 7) hx hb hts iX6_fill_X6 hown hK hP 7 rfl rfl 6 (by decide) (hts (.fieldLink RX6 32 "FloatSolver$Spans" "standing" "J") (oX6_fill_in _ (List.mem_of_getElem? (i := 1) rfl))) (fun _ h9 => h9) rfl dX6_fill_354 ?_
  refine lv_lload hx hb dX6_fill_357 (lv_at hl 1 rfl) ?_
  refine lv_lor hx hb dX6_fill_359 ?_
  refine lv_topl (fun y12 e13 => ?_)
  refine va_put (D := D) (ci := 4) (v := .long y12) (ty := .long) (C := RX6) (T := TX6) (N := 7) hx hb hts iX6_fill_X6 tyX6 tyX6_ok nmX6 hown hK hP hD hS 7 rfl rfl 6 (by decide) (hts (.fieldLink RX6 32 "FloatSolver$Spans" "standing" "J") (oX6_fill_in _ (List.mem_of_getElem? (i := 1) rfl))) (fun _ h9 => h9) rfl (by decide +kernel) rfl rfl (Nat.le_of_ble_eq_true rfl) dX6_fill_360 (fun H locs hP hD hS => ?_)
  have hP : va_P D vwCl [(oN, .inr (1, [.ref n0, .ref n1, .ref n2, .ref n3, .ref n4, .ref n5, .int 0])), (h2, .inr (0, [.ref a2, .ref b2])), (a2, .inl (cI, 4, .inl f2)), (b2, .inl (cI, 4, .inl g2)), (h, .inr (0, [.ref a, .ref b])), (a, .inl (cI, 4, .inl f)), (b, .inl (cI, 4, .inl g)), (oP, .inr (4, [.ref s0, .ref s1, .ref s2, .ref s3, .ref oN, .ref h2, .long y12]))] H := hP
  have hD : va_D A [(oN, .inr (1, [.ref n0, .ref n1, .ref n2, .ref n3, .ref n4, .ref n5, .int 0])), (h2, .inr (0, [.ref a2, .ref b2])), (a2, .inl (cI, 4, .inl f2)), (b2, .inl (cI, 4, .inl g2)), (h, .inr (0, [.ref a, .ref b])), (a, .inl (cI, 4, .inl f)), (b, .inl (cI, 4, .inl g)), (oP, .inr (4, [.ref s0, .ref s1, .ref s2, .ref s3, .ref oN, .ref h2, .long y12]))] := hD
  refine W.widen (k := 0) (n := 0) (by decide) (by decide) ?_
  exact sp_vret (u := ()) hx hb hr hlocks hS trivial (hP.sub [4, 5, 6] rfl) (hD.sub [4, 5, 6] (by decide) rfl) dX6_fill_363
def oX5_start : List Cond := [.fieldLink RX5 28 "FloatSolver$Search" "box" "LFloatSolver$Box;", .fieldLink RX5 57 "FloatSolver$Search" "ranges" "LFloatSolver$Box;", .fieldLink RX5 21 "FloatSolver$Search" "aside" "I", .fieldLink RX5 39 "FloatSolver$Search" "looked" "I", .fieldLink RX5 42 "FloatSolver$Search" "halved" "I"]
def wpX5_start : List Cond := .code yX5_start cX5_start 1 none :: (oX5_start ++ (wsX50 ++ ((wsV RX5 98 RX1 yX1_follow wpX1_follow) ++ ([] : List Cond))))
theorem oX5_start_in : ∀ w ∈ oX5_start, w ∈ wpX5_start := fun w h => List.mem_cons_of_mem _ (List.mem_append_left _ h)
theorem gwoX5_start : ∀ w ∈ oX5_start, goodWord w = true := by decide +kernel
theorem gwX5_start : ∀ w ∈ wpX5_start, goodWord w = true := by
  unfold wpX5_start
  exact List.forall_mem_cons.mpr ⟨rfl, List.forall_mem_append.mpr ⟨gwoX5_start, List.forall_mem_append.mpr ⟨gwX5, List.forall_mem_append.mpr ⟨(sp_gV gwX1_follow), fun _ h => absurd h List.not_mem_nil⟩⟩⟩⟩
set_option maxRecDepth 100000 in
theorem toX5_start : ∀ w ∈ oX5_start, w ∈ lw_tbl := by
  unfold oX5_start
  exact List.forall_mem_cons.mpr ⟨(List.mem_of_getElem? (i := 202) (by decide +kernel)), List.forall_mem_cons.mpr ⟨(List.mem_of_getElem? (i := 197) (by decide +kernel)), List.forall_mem_cons.mpr ⟨(List.mem_of_getElem? (i := 201) (by decide +kernel)), List.forall_mem_cons.mpr ⟨(List.mem_of_getElem? (i := 208) (by decide +kernel)), List.forall_mem_cons.mpr ⟨(List.mem_of_getElem? (i := 210) (by decide +kernel)), fun _ h => absurd h List.not_mem_nil⟩⟩⟩⟩⟩
set_option maxRecDepth 100000 in
theorem tX5_start : ∀ w ∈ wpX5_start, w ∈ lw_tbl := by
  unfold wpX5_start
  exact List.forall_mem_cons.mpr ⟨(List.mem_of_getElem? (i := 557) (by rfl)), List.forall_mem_append.mpr ⟨toX5_start, List.forall_mem_append.mpr ⟨in_wsX50, List.forall_mem_append.mpr ⟨(sp_tV (List.mem_of_getElem? (i := 558) (by decide +kernel)) (List.mem_of_getElem? (i := 459) (by decide +kernel)) (List.mem_of_getElem? (i := 460) (by decide +kernel)) (List.mem_of_getElem? (i := 41) (by decide +kernel)) tX1_follow), fun _ h => absurd h List.not_mem_nil⟩⟩⟩⟩
theorem iX5_start_X5 : ∀ w ∈ wsX50, w ∈ wpX5_start := fun w h => List.mem_cons_of_mem _ (List.mem_append_right _ (List.mem_append_left _ h))
theorem gX5_start_X1_follow_98 : GoodIn wpX5_start (wsV RX5 98 RX1 yX1_follow wpX1_follow) := fun w h => ⟨List.mem_cons_of_mem _ (List.mem_append_right _ (List.mem_append_right _ (List.mem_append_left _ h))), good_of_word (sp_gV gwX1_follow w h)⟩
set_option maxHeartbeats 4000000 in
set_option maxRecDepth 100000 in
theorem c_X5_start (l : Launch) (D : va_G) (cI cJ cZ : ClassId) (sz : Nat) (oQ oN oR oP q0 q1 q2 : Nat) (oX x0 x1 : Nat) (fx gx : Nat → Int32) (kfx : ∀ j : Nat, j < 4 → fx j = -2139095041) (kgx : ∀ j : Nat, j < 4 → gx j = 2139095040) (oB b0 b1 : Nat) (fb gb : Nat → Int32) (kfb : ∀ j : Nat, j < 4 → fb j = -2139095041) (kgb : ∀ j : Nat, j < 4 → gb j = 2139095040) : Met l yX5_start wpX5_start ({ frames := 2, cells := 0, slots := 0, locals := 46 }) (va_Pc [.ref oQ] (sp_pre D vwCl (sp_ty cI cJ cZ) [(oQ, .inr (3, [.ref oN, .ref oR, .ref oP, .ref oB, .ref q0, .ref q1, .ref q2, .int 0, .ref oX, .int 0, .int 0, .int 0, .int 0])), (oX, .inr (0, [.ref x0, .ref x1])), (x0, .inl (cI, 4, .inl fx)), (x1, .inl (cI, 4, .inl gx)), (oB, .inr (0, [.ref b0, .ref b1])), (b0, .inl (cI, 4, .inl fb)), (b1, .inl (cI, 4, .inl gb))] sz)) (va_Qv (fun (_ : Unit) => True) (sp_B D vwCl (va_A [(oQ, .inr (3, [.ref oN, .ref oR, .ref oP, .ref oB, .ref q0, .ref q1, .ref q2, .int 0, .ref oX, .int 0, .int 0, .int 0, .int 0])), (oX, .inr (0, [.ref x0, .ref x1])), (x0, .inl (cI, 4, .inl fx)), (x1, .inl (cI, 4, .inl gx)), (oB, .inr (0, [.ref b0, .ref b1])), (b0, .inl (cI, 4, .inl fb)), (b1, .inl (cI, 4, .inl gb))] sz) (fun (_ : Unit) => [(oQ, .inr (3, [.ref oN, .ref oR, .ref oP, .ref oB, .ref q0, .ref q1, .ref q2, .int 0, .ref oX, .int 0, .int 0, .int 0, .int 0])), (oX, .inr (0, [.ref x0, .ref x1])), (x0, .inl (cI, 4, .inl fx)), (x1, .inl (cI, 4, .inl gx)), (oB, .inr (0, [.ref b0, .ref b1])), (b0, .inl (cI, 4, .inl fb)), (b1, .inl (cI, 4, .inl gb))])) (va_A [(oQ, .inr (3, [.ref oN, .ref oR, .ref oP, .ref oB, .ref q0, .ref q1, .ref q2, .int 0, .ref oX, .int 0, .int 0, .int 0, .int 0])), (oX, .inr (0, [.ref x0, .ref x1])), (x0, .inl (cI, 4, .inl fx)), (x1, .inl (cI, 4, .inl gx)), (oB, .inr (0, [.ref b0, .ref b1])), (b0, .inl (cI, 4, .inl fb)), (b1, .inl (cI, 4, .inl gb))] sz)) 0 0 (va_A [(oQ, .inr (3, [.ref oN, .ref oR, .ref oP, .ref oB, .ref q0, .ref q1, .ref q2, .int 0, .ref oX, .int 0, .int 0, .int 0, .int 0])), (oX, .inr (0, [.ref x0, .ref x1])), (x0, .inl (cI, 4, .inl fx)), (x1, .inl (cI, 4, .inl gx)), (oB, .inr (0, [.ref b0, .ref b1])), (b0, .inl (cI, 4, .inl fb)), (b1, .inl (cI, 4, .inl gb))] sz) := by
  refine sp_ofW (Qc := fun A => va_Qv (fun (_ : Unit) => True) (sp_B D vwCl A (fun (_ : Unit) => [(oQ, .inr (3, [.ref oN, .ref oR, .ref oP, .ref oB, .ref q0, .ref q1, .ref q2, .int 0, .ref oX, .int 0, .int 0, .int 0, .int 0])), (oX, .inr (0, [.ref x0, .ref x1])), (x0, .inl (cI, 4, .inl fx)), (x1, .inl (cI, 4, .inl gx)), (oB, .inr (0, [.ref b0, .ref b1])), (b0, .inl (cI, 4, .inl fb)), (b1, .inl (cI, 4, .inl gb))])) A) (by decide) rfl (Nat.le_of_ble_eq_true rfl) (fun p e s m below meth c A ls H locs C0 hA hS hP hK hD hl => ?_)
  obtain ⟨hx, hb, hr, hts, hown, hlocks, hml, hin⟩ := C0
  have hown : s.vm.findClass RX5 = some m.cls := hown
  have hl : lv_has ls 1 [(0, .ref oQ)] := hl
  have hK : va_K D vwCl [(cI, .int), (cJ, .long), (cZ, .boolean)] s := hK
  refine lv_aload_n hx hb dX5_start_0 rfl (lv_at hl 0 rfl) ?_
  refine va_get (D := D) (ci := 3) (v := .ref oX) (C := RX5) (T := TX5) (N := 13) hx hb hts iX5_start_X5 hown hK hP 0 rfl rfl 8 (by decide) (hts (.fieldLink RX5 28 "FloatSolver$Search" "box" "LFloatSolver$Box;") (oX5_start_in _ (List.mem_of_getElem? (i := 0) rfl))) (fun _ h9 => h9) rfl dX5_start_1 ?_
  refine lv_aload_n hx hb dX5_start_4 rfl (lv_at hl 0 rfl) ?_
  refine va_get (D := D) (ci := 3) (v := .ref oB) (C := RX5) (T := TX5) (N := 13) hx hb hts iX5_start_X5 hown hK hP 0 rfl rfl 3 (by decide) (hts (.fieldLink RX5 57 "FloatSolver$Search" "ranges" "LFloatSolver$Box;") (oX5_start_in _ (List.mem_of_getElem? (i := 1) rfl))) (fun _ h9 => h9) rfl dX5_start_5 ?_
  refine sp_calli (wr := [(oQ, .inr (3, [.ref oN, .ref oR, .ref oP, .ref oB, .ref q0, .ref q1, .ref q2, .int 0, .ref oX, .int 0, .int 0, .int 0, .int 0]))]) (wc := [(oX, .inr (0, [.ref x0, .ref x1])), (x0, .inl (cI, 4, .inl fx)), (x1, .inl (cI, 4, .inl gx)), (oB, .inr (0, [.ref b0, .ref b1])), (b0, .inl (cI, 4, .inl fb)), (b1, .inl (cI, 4, .inl gb))]) hP hD hS hA [1, 2, 3, 4, 5, 6] [0] rfl rfl (by decide) (by decide) (va_runV (As := [.ref oB]) (rest := []) ⟨hx, hb, hml, hown, hts⟩ (c_X1_follow l D cI cJ cZ H.size oX x0 x1 fx gx kfx kgx oB b0 b1 fb gb kfb kgb) (cwV 1 hts gX5_start_X1_follow_98 rfl rfl rfl (by decide +kernel) ⟨Nat.le_of_ble_eq_true rfl, Nat.le_of_ble_eq_true rfl⟩) (sp_preV (ci := 0) (q0 := 0) [.ref oB] hK (hP.sub (ws' := [(oX, .inr (0, [.ref x0, .ref x1])), (x0, .inl (cI, 4, .inl fx)), (x1, .inl (cI, 4, .inl gx)), (oB, .inr (0, [.ref b0, .ref b1])), (b0, .inl (cI, 4, .inl fb)), (b1, .inl (cI, 4, .inl gb))]) [1, 2, 3, 4, 5, 6] rfl) (hD.sub (ws' := [(oX, .inr (0, [.ref x0, .ref x1])), (x0, .inl (cI, 4, .inl fx)), (x1, .inl (cI, 4, .inl gx)), (oB, .inr (0, [.ref b0, .ref b1])), (b0, .inl (cI, 4, .inl fb)), (b1, .inl (cI, 4, .inl gb))]) [1, 2, 3, 4, 5, 6] (by decide) rfl) rfl rfl) rfl rfl hl.1 rfl (lv_room (Nat.le_of_ble_eq_true rfl)) dX5_start_8 ⟨Nat.le_of_ble_eq_true rfl, Nat.le_of_ble_eq_true rfl⟩) (fun r1 u2 H locs hw3 hP hD hS => ?_)
  obtain rfl := hw3
  have hP : va_P D vwCl [(oQ, .inr (3, [.ref oN, .ref oR, .ref oP, .ref oB, .ref q0, .ref q1, .ref q2, .int 0, .ref oX, .int 0, .int 0, .int 0, .int 0])), (oX, .inr (0, [.ref x0, .ref x1])), (x0, .inl (cI, 4, .inl fx)), (x1, .inl (cI, 4, .inl gx)), (oB, .inr (0, [.ref b0, .ref b1])), (b0, .inl (cI, 4, .inl fb)), (b1, .inl (cI, 4, .inl gb))] H := hP
  have hD : va_D A [(oQ, .inr (3, [.ref oN, .ref oR, .ref oP, .ref oB, .ref q0, .ref q1, .ref q2, .int 0, .ref oX, .int 0, .int 0, .int 0, .int 0])), (oX, .inr (0, [.ref x0, .ref x1])), (x0, .inl (cI, 4, .inl fx)), (x1, .inl (cI, 4, .inl gx)), (oB, .inr (0, [.ref b0, .ref b1])), (b0, .inl (cI, 4, .inl fb)), (b1, .inl (cI, 4, .inl gb))] := hD
  refine lv_pop hx hb dX5_start_11 rfl ?_
  refine lv_aload_n hx hb dX5_start_12 rfl (lv_at hl 0 rfl) ?_
  refine lv_iconst (v := 0) hx hb dX5_start_13 (by decide) ?_
  refine va_put (D := D) (ci := 3) (v := .int 0) (ty := .int) (C := RX5) (T := TX5) (N := 13) hx hb hts iX5_start_X5 tyX5 tyX5_ok nmX5 hown hK hP hD hS 0 rfl rfl 7 (by decide) (hts (.fieldLink RX5 21 "FloatSolver$Search" "aside" "I") (oX5_start_in _ (List.mem_of_getElem? (i := 2) rfl))) (fun _ h9 => h9) rfl (by decide +kernel) rfl rfl (Nat.le_of_ble_eq_true rfl) dX5_start_14 (fun H locs hP hD hS => ?_)
  have hP : va_P D vwCl [(oQ, .inr (3, [.ref oN, .ref oR, .ref oP, .ref oB, .ref q0, .ref q1, .ref q2, .int 0, .ref oX, .int 0, .int 0, .int 0, .int 0])), (oX, .inr (0, [.ref x0, .ref x1])), (x0, .inl (cI, 4, .inl fx)), (x1, .inl (cI, 4, .inl gx)), (oB, .inr (0, [.ref b0, .ref b1])), (b0, .inl (cI, 4, .inl fb)), (b1, .inl (cI, 4, .inl gb))] H := hP
  have hD : va_D A [(oQ, .inr (3, [.ref oN, .ref oR, .ref oP, .ref oB, .ref q0, .ref q1, .ref q2, .int 0, .ref oX, .int 0, .int 0, .int 0, .int 0])), (oX, .inr (0, [.ref x0, .ref x1])), (x0, .inl (cI, 4, .inl fx)), (x1, .inl (cI, 4, .inl gx)), (oB, .inr (0, [.ref b0, .ref b1])), (b0, .inl (cI, 4, .inl fb)), (b1, .inl (cI, 4, .inl gb))] := hD
  refine lv_aload_n hx hb dX5_start_17 rfl (lv_at hl 0 rfl) ?_
  refine lv_iconst (v := 0) hx hb dX5_start_18 (by decide) ?_
  refine va_put (D := D) (ci := 3) (v := .int 0) (ty := .int) (C := RX5) (T := TX5) (N := 13) hx hb hts iX5_start_X5 tyX5 tyX5_ok nmX5 hown hK hP hD hS 0 rfl rfl 11 (by decide) (hts (.fieldLink RX5 39 "FloatSolver$Search" "looked" "I") (oX5_start_in _ (List.mem_of_getElem? (i := 3) rfl))) (fun _ h9 => h9) rfl (by decide +kernel) rfl rfl (Nat.le_of_ble_eq_true rfl) dX5_start_19 (fun H locs hP hD hS => ?_)
  have hP : va_P D vwCl [(oQ, .inr (3, [.ref oN, .ref oR, .ref oP, .ref oB, .ref q0, .ref q1, .ref q2, .int 0, .ref oX, .int 0, .int 0, .int 0, .int 0])), (oX, .inr (0, [.ref x0, .ref x1])), (x0, .inl (cI, 4, .inl fx)), (x1, .inl (cI, 4, .inl gx)), (oB, .inr (0, [.ref b0, .ref b1])), (b0, .inl (cI, 4, .inl fb)), (b1, .inl (cI, 4, .inl gb))] H := hP
  have hD : va_D A [(oQ, .inr (3, [.ref oN, .ref oR, .ref oP, .ref oB, .ref q0, .ref q1, .ref q2, .int 0, .ref oX, .int 0, .int 0, .int 0, .int 0])), (oX, .inr (0, [.ref x0, .ref x1])), (x0, .inl (cI, 4, .inl fx)), (x1, .inl (cI, 4, .inl gx)), (oB, .inr (0, [.ref b0, .ref b1])), (b0, .inl (cI, 4, .inl fb)), (b1, .inl (cI, 4, .inl gb))] := hD
  refine lv_aload_n hx hb dX5_start_22 rfl (lv_at hl 0 rfl) ?_
  refine lv_iconst (v := 0) hx hb dX5_start_23 (by decide) ?_
  refine va_put (D := D) (ci := 3) (v := .int 0) (ty := .int) (C := RX5) (T := TX5) (N := 13) hx hb hts iX5_start_X5 tyX5 tyX5_ok nmX5 hown hK hP hD hS 0 rfl rfl 12 (by decide) (hts (.fieldLink RX5 42 "FloatSolver$Search" "halved" "I") (oX5_start_in _ (List.mem_of_getElem? (i := 4) rfl))) (fun _ h9 => h9) rfl (by decide +kernel) rfl rfl (Nat.le_of_ble_eq_true rfl) dX5_start_24 (fun H locs hP hD hS => ?_)
  have hP : va_P D vwCl [(oQ, .inr (3, [.ref oN, .ref oR, .ref oP, .ref oB, .ref q0, .ref q1, .ref q2, .int 0, .ref oX, .int 0, .int 0, .int 0, .int 0])), (oX, .inr (0, [.ref x0, .ref x1])), (x0, .inl (cI, 4, .inl fx)), (x1, .inl (cI, 4, .inl gx)), (oB, .inr (0, [.ref b0, .ref b1])), (b0, .inl (cI, 4, .inl fb)), (b1, .inl (cI, 4, .inl gb))] H := hP
  have hD : va_D A [(oQ, .inr (3, [.ref oN, .ref oR, .ref oP, .ref oB, .ref q0, .ref q1, .ref q2, .int 0, .ref oX, .int 0, .int 0, .int 0, .int 0])), (oX, .inr (0, [.ref x0, .ref x1])), (x0, .inl (cI, 4, .inl fx)), (x1, .inl (cI, 4, .inl gx)), (oB, .inr (0, [.ref b0, .ref b1])), (b0, .inl (cI, 4, .inl fb)), (b1, .inl (cI, 4, .inl gb))] := hD
  refine W.widen (k := 0) (n := 0) (by decide) (by decide) ?_
  exact sp_vret (u := ()) hx hb hr hlocks hS trivial (hP.sub [0, 1, 2, 3, 4, 5, 6] rfl) (hD.sub [0, 1, 2, 3, 4, 5, 6] (by decide) rfl) dX5_start_27
def oX5_end : List Cond := [.fieldLink RX5 32 "FloatSolver$Search" "hasRun" "Z", .fieldLink RX5 36 "FloatSolver$Search" "answer" "I"]
def wpX5_end : List Cond := .code yX5_end cX5_end 2 (some .int) :: (oX5_end ++ (wsX50 ++ ([] : List Cond)))
theorem oX5_end_in : ∀ w ∈ oX5_end, w ∈ wpX5_end := fun w h => List.mem_cons_of_mem _ (List.mem_append_left _ h)
theorem gwoX5_end : ∀ w ∈ oX5_end, goodWord w = true := by decide +kernel
theorem gwX5_end : ∀ w ∈ wpX5_end, goodWord w = true := by
  unfold wpX5_end
  exact List.forall_mem_cons.mpr ⟨rfl, List.forall_mem_append.mpr ⟨gwoX5_end, List.forall_mem_append.mpr ⟨gwX5, fun _ h => absurd h List.not_mem_nil⟩⟩⟩
set_option maxRecDepth 100000 in
theorem toX5_end : ∀ w ∈ oX5_end, w ∈ lw_tbl := by
  unfold oX5_end
  exact List.forall_mem_cons.mpr ⟨(List.mem_of_getElem? (i := 204) (by decide +kernel)), List.forall_mem_cons.mpr ⟨(List.mem_of_getElem? (i := 206) (by decide +kernel)), fun _ h => absurd h List.not_mem_nil⟩⟩
set_option maxRecDepth 100000 in
theorem tX5_end : ∀ w ∈ wpX5_end, w ∈ lw_tbl := by
  unfold wpX5_end
  exact List.forall_mem_cons.mpr ⟨(List.mem_of_getElem? (i := 587) (by rfl)), List.forall_mem_append.mpr ⟨toX5_end, List.forall_mem_append.mpr ⟨in_wsX50, fun _ h => absurd h List.not_mem_nil⟩⟩⟩
theorem iX5_end_X5 : ∀ w ∈ wsX50, w ∈ wpX5_end := fun w h => List.mem_cons_of_mem _ (List.mem_append_right _ (List.mem_append_left _ h))
set_option maxHeartbeats 4000000 in
set_option maxRecDepth 100000 in
theorem c_X5_end (l : Launch) (D : va_G) (cI cJ cZ : ClassId) (sz : Nat) (oQ oN oR oP oB q0 q1 q2 oX : Nat) (lk a : Int32) : Met l yX5_end wpX5_end ({ frames := 0, cells := 0, slots := 0, locals := 0 }) (va_Pc [.ref oQ, .int a] (sp_pre D vwCl (sp_ty cI cJ cZ) [(oQ, .inr (3, [.ref oN, .ref oR, .ref oP, .ref oB, .ref q0, .ref q1, .ref q2, .int 0, .ref oX, .int 0, .int 0, .int lk, .int 0]))] sz)) (va_Qi (fun (r : Int32) (_ : Unit) => r = a) (sp_B D vwCl (va_A [(oQ, .inr (3, [.ref oN, .ref oR, .ref oP, .ref oB, .ref q0, .ref q1, .ref q2, .int 0, .ref oX, .int 0, .int 0, .int lk, .int 0]))] sz) (fun (_ : Unit) => [])) (va_A [(oQ, .inr (3, [.ref oN, .ref oR, .ref oP, .ref oB, .ref q0, .ref q1, .ref q2, .int 0, .ref oX, .int 0, .int 0, .int lk, .int 0]))] sz)) 0 0 (va_A [(oQ, .inr (3, [.ref oN, .ref oR, .ref oP, .ref oB, .ref q0, .ref q1, .ref q2, .int 0, .ref oX, .int 0, .int 0, .int lk, .int 0]))] sz) := by
  refine sp_ofW (Qc := fun A => va_Qi (fun (r : Int32) (_ : Unit) => r = a) (sp_B D vwCl A (fun (_ : Unit) => [])) A) (by decide) rfl (Nat.le_of_ble_eq_true rfl) (fun p e s m below meth c A ls H locs C0 hA hS hP hK hD hl => ?_)
  obtain ⟨hx, hb, hr, hts, hown, hlocks, hml, hin⟩ := C0
  have hown : s.vm.findClass RX5 = some m.cls := hown
  have hl : lv_has ls 2 [(0, .ref oQ), (1, .int a)] := hl
  have hK : va_K D vwCl [(cI, .int), (cJ, .long), (cZ, .boolean)] s := hK
  refine lv_aload_n hx hb dX5_end_0 rfl (lv_at hl 0 rfl) ?_
  refine lv_iconst (v := 1) hx hb dX5_end_1 (by decide) ?_
  refine va_put (D := D) (ci := 3) (v := .int 1) (ty := .boolean) (C := RX5) (T := TX5) (N := 13) hx hb hts iX5_end_X5 tyX5 tyX5_ok nmX5 hown hK hP hD hS 0 rfl rfl 9 (by decide) (hts (.fieldLink RX5 32 "FloatSolver$Search" "hasRun" "Z") (oX5_end_in _ (List.mem_of_getElem? (i := 0) rfl))) (fun _ h9 => h9) rfl (by decide +kernel) rfl rfl (Nat.le_of_ble_eq_true rfl) dX5_end_2 (fun H locs hP hD hS => ?_)
  have hP : va_P D vwCl [(oQ, .inr (3, [.ref oN, .ref oR, .ref oP, .ref oB, .ref q0, .ref q1, .ref q2, .int 0, .ref oX, .int 1, .int 0, .int lk, .int 0]))] H := hP
  have hD : va_D A [(oQ, .inr (3, [.ref oN, .ref oR, .ref oP, .ref oB, .ref q0, .ref q1, .ref q2, .int 0, .ref oX, .int 1, .int 0, .int lk, .int 0]))] := hD
  refine lv_aload_n hx hb dX5_end_5 rfl (lv_at hl 0 rfl) ?_
  refine lv_iload_n hx hb dX5_end_6 rfl (lv_at hl 1 rfl) ?_
  refine va_put (D := D) (ci := 3) (v := .int a) (ty := .int) (C := RX5) (T := TX5) (N := 13) hx hb hts iX5_end_X5 tyX5 tyX5_ok nmX5 hown hK hP hD hS 0 rfl rfl 10 (by decide) (hts (.fieldLink RX5 36 "FloatSolver$Search" "answer" "I") (oX5_end_in _ (List.mem_of_getElem? (i := 1) rfl))) (fun _ h9 => h9) rfl (by decide +kernel) rfl rfl (Nat.le_of_ble_eq_true rfl) dX5_end_7 (fun H locs hP hD hS => ?_)
  have hP : va_P D vwCl [(oQ, .inr (3, [.ref oN, .ref oR, .ref oP, .ref oB, .ref q0, .ref q1, .ref q2, .int 0, .ref oX, .int 1, .int a, .int lk, .int 0]))] H := hP
  have hD : va_D A [(oQ, .inr (3, [.ref oN, .ref oR, .ref oP, .ref oB, .ref q0, .ref q1, .ref q2, .int 0, .ref oX, .int 1, .int a, .int lk, .int 0]))] := hD
  refine lv_iload_n hx hb dX5_end_10 rfl (lv_at hl 1 rfl) ?_
  refine W.widen (k := 0) (n := 0) (by decide) (by decide) ?_
  exact sp_iret (u := ()) hx hb hr hlocks hS rfl (hP.sub [] rfl) (hD.sub [] (by decide) rfl) dX5_end_11
def oX5_run : List Cond := [.fieldLink RX5 49 "FloatSolver$Search" "rules" "LFloatSolver$Rules;", .fieldLink RX5 45 "FloatSolver$Search" "nodes" "LFloatSolver$Nodes;", .fieldLink RX5 39 "FloatSolver$Search" "looked" "I", .fieldLink RX5 53 "FloatSolver$Search" "spans" "LFloatSolver$Spans;", .fieldLink RX5 28 "FloatSolver$Search" "box" "LFloatSolver$Box;"]
def wpX5_run : List Cond := .code yX5_run cX5_run 7 (some .int) :: (oX5_run ++ (wsX50 ++ ((wsV RX5 60 RX5 yX5_start wpX5_start) ++ ((wsV RX5 63 RX4 yX4_allRestOn wpX4_allRestOn) ++ ((wsV RX5 69 RX6 yX6_fill wpX6_fill) ++ ((wsV RX5 75 RX4 yX4_verdictOfAll wpX4_verdictOfAll) ++ ((wsV RX5 79 RX1 yX1_firstWide wpX1_firstWide) ++ ((wsV RX5 87 RX5 yX5_end wpX5_end) ++ ([] : List Cond)))))))))
theorem oX5_run_in : ∀ w ∈ oX5_run, w ∈ wpX5_run := fun w h => List.mem_cons_of_mem _ (List.mem_append_left _ h)
theorem gwoX5_run : ∀ w ∈ oX5_run, goodWord w = true := by decide +kernel
theorem gwX5_run : ∀ w ∈ wpX5_run, goodWord w = true := by
  unfold wpX5_run
  exact List.forall_mem_cons.mpr ⟨rfl, List.forall_mem_append.mpr ⟨gwoX5_run, List.forall_mem_append.mpr ⟨gwX5, List.forall_mem_append.mpr ⟨(sp_gV gwX5_start), List.forall_mem_append.mpr ⟨(sp_gV gwX4_allRestOn), List.forall_mem_append.mpr ⟨(sp_gV gwX6_fill), List.forall_mem_append.mpr ⟨(sp_gV gwX4_verdictOfAll), List.forall_mem_append.mpr ⟨(sp_gV gwX1_firstWide), List.forall_mem_append.mpr ⟨(sp_gV gwX5_end), fun _ h => absurd h List.not_mem_nil⟩⟩⟩⟩⟩⟩⟩⟩⟩
set_option maxRecDepth 100000 in
theorem toX5_run : ∀ w ∈ oX5_run, w ∈ lw_tbl := by
  unfold oX5_run
  exact List.forall_mem_cons.mpr ⟨(List.mem_of_getElem? (i := 195) (by decide +kernel)), List.forall_mem_cons.mpr ⟨(List.mem_of_getElem? (i := 194) (by decide +kernel)), List.forall_mem_cons.mpr ⟨(List.mem_of_getElem? (i := 208) (by decide +kernel)), List.forall_mem_cons.mpr ⟨(List.mem_of_getElem? (i := 196) (by decide +kernel)), List.forall_mem_cons.mpr ⟨(List.mem_of_getElem? (i := 202) (by decide +kernel)), fun _ h => absurd h List.not_mem_nil⟩⟩⟩⟩⟩
set_option maxRecDepth 100000 in
theorem tX5_run : ∀ w ∈ wpX5_run, w ∈ lw_tbl := by
  unfold wpX5_run
  exact List.forall_mem_cons.mpr ⟨(List.mem_of_getElem? (i := 553) (by rfl)), List.forall_mem_append.mpr ⟨toX5_run, List.forall_mem_append.mpr ⟨in_wsX50, List.forall_mem_append.mpr ⟨(sp_tV (List.mem_of_getElem? (i := 554) (by decide +kernel)) (List.mem_of_getElem? (i := 556) (by decide +kernel)) (List.mem_of_getElem? (i := 13) (by decide +kernel)) (List.mem_of_getElem? (i := 44) (by decide +kernel)) tX5_start), List.forall_mem_append.mpr ⟨(sp_tV (List.mem_of_getElem? (i := 559) (by decide +kernel)) (List.mem_of_getElem? (i := 560) (by decide +kernel)) (List.mem_of_getElem? (i := 561) (by decide +kernel)) (List.mem_of_getElem? (i := 40) (by decide +kernel)) tX4_allRestOn), List.forall_mem_append.mpr ⟨(sp_tV (List.mem_of_getElem? (i := 564) (by decide +kernel)) (List.mem_of_getElem? (i := 455) (by decide +kernel)) (List.mem_of_getElem? (i := 456) (by decide +kernel)) (List.mem_of_getElem? (i := 43) (by decide +kernel)) tX6_fill), List.forall_mem_append.mpr ⟨(sp_tV (List.mem_of_getElem? (i := 565) (by decide +kernel)) (List.mem_of_getElem? (i := 566) (by decide +kernel)) (List.mem_of_getElem? (i := 567) (by decide +kernel)) (List.mem_of_getElem? (i := 40) (by decide +kernel)) tX4_verdictOfAll), List.forall_mem_append.mpr ⟨(sp_tV (List.mem_of_getElem? (i := 570) (by decide +kernel)) (List.mem_of_getElem? (i := 571) (by decide +kernel)) (List.mem_of_getElem? (i := 572) (by decide +kernel)) (List.mem_of_getElem? (i := 41) (by decide +kernel)) tX1_firstWide), List.forall_mem_append.mpr ⟨(sp_tV (List.mem_of_getElem? (i := 584) (by decide +kernel)) (List.mem_of_getElem? (i := 586) (by decide +kernel)) (List.mem_of_getElem? (i := 15) (by decide +kernel)) (List.mem_of_getElem? (i := 44) (by decide +kernel)) tX5_end), fun _ h => absurd h List.not_mem_nil⟩⟩⟩⟩⟩⟩⟩⟩⟩
theorem iX5_run_X5 : ∀ w ∈ wsX50, w ∈ wpX5_run := fun w h => List.mem_cons_of_mem _ (List.mem_append_right _ (List.mem_append_left _ h))
theorem gX5_run_X5_start_60 : GoodIn wpX5_run (wsV RX5 60 RX5 yX5_start wpX5_start) := fun w h => ⟨List.mem_cons_of_mem _ (List.mem_append_right _ (List.mem_append_right _ (List.mem_append_left _ h))), good_of_word (sp_gV gwX5_start w h)⟩
theorem gX5_run_X4_allRestOn_63 : GoodIn wpX5_run (wsV RX5 63 RX4 yX4_allRestOn wpX4_allRestOn) := fun w h => ⟨List.mem_cons_of_mem _ (List.mem_append_right _ (List.mem_append_right _ (List.mem_append_right _ (List.mem_append_left _ h)))), good_of_word (sp_gV gwX4_allRestOn w h)⟩
theorem gX5_run_X6_fill_69 : GoodIn wpX5_run (wsV RX5 69 RX6 yX6_fill wpX6_fill) := fun w h => ⟨List.mem_cons_of_mem _ (List.mem_append_right _ (List.mem_append_right _ (List.mem_append_right _ (List.mem_append_right _ (List.mem_append_left _ h))))), good_of_word (sp_gV gwX6_fill w h)⟩
theorem gX5_run_X4_verdictOfAll_75 : GoodIn wpX5_run (wsV RX5 75 RX4 yX4_verdictOfAll wpX4_verdictOfAll) := fun w h => ⟨List.mem_cons_of_mem _ (List.mem_append_right _ (List.mem_append_right _ (List.mem_append_right _ (List.mem_append_right _ (List.mem_append_right _ (List.mem_append_left _ h)))))), good_of_word (sp_gV gwX4_verdictOfAll w h)⟩
theorem gX5_run_X1_firstWide_79 : GoodIn wpX5_run (wsV RX5 79 RX1 yX1_firstWide wpX1_firstWide) := fun w h => ⟨List.mem_cons_of_mem _ (List.mem_append_right _ (List.mem_append_right _ (List.mem_append_right _ (List.mem_append_right _ (List.mem_append_right _ (List.mem_append_right _ (List.mem_append_left _ h))))))), good_of_word (sp_gV gwX1_firstWide w h)⟩
theorem gX5_run_X5_end_87 : GoodIn wpX5_run (wsV RX5 87 RX5 yX5_end wpX5_end) := fun w h => ⟨List.mem_cons_of_mem _ (List.mem_append_right _ (List.mem_append_right _ (List.mem_append_right _ (List.mem_append_right _ (List.mem_append_right _ (List.mem_append_right _ (List.mem_append_right _ (List.mem_append_left _ h)))))))), good_of_word (sp_gV gwX5_end w h)⟩
set_option maxHeartbeats 4000000 in
set_option maxRecDepth 100000 in
theorem c_X5_run (l : Launch) (D : va_G) (cI cJ cZ : ClassId) (sz : Nat) (oQ oP q0 q1 q2 s0 s1 s2 s3 oN : Nat) (n0 n1 n2 n3 n4 n5 : Nat) (oR r0 r1 r2 : Nat) (oX x0 x1 : Nat) (fx gx : Nat → Int32) (kfx : ∀ j : Nat, j < 4 → fx j = -2139095041) (kgx : ∀ j : Nat, j < 4 → gx j = 2139095040) (oB b0 b1 : Nat) (fb gb : Nat → Int32) (kfb : ∀ j : Nat, j < 4 → fb j = -2139095041) (kgb : ∀ j : Nat, j < 4 → gb j = 2139095040) (h2 a2 b2 : Nat) (f2 g2 : Nat → Int32) (kf2 : ∀ j : Nat, j < 4 → f2 j = -2139095041) (kg2 : ∀ j : Nat, j < 4 → g2 j = 2139095040) (w : Int32) (hw : 1 ≤ w.toInt) : Met l yX5_run wpX5_run ({ frames := 3, cells := 0, slots := 0, locals := 73 }) (va_Pc [.ref oQ, .int w] (sp_pre D vwCl (sp_ty cI cJ cZ) [(oQ, .inr (3, [.ref oN, .ref oR, .ref oP, .ref oB, .ref q0, .ref q1, .ref q2, .int 0, .ref oX, .int 0, .int 0, .int 0, .int 0])), (oX, .inr (0, [.ref x0, .ref x1])), (x0, .inl (cI, 4, .inl fx)), (x1, .inl (cI, 4, .inl gx)), (oB, .inr (0, [.ref b0, .ref b1])), (b0, .inl (cI, 4, .inl fb)), (b1, .inl (cI, 4, .inl gb)), (oP, .inr (4, [.ref s0, .ref s1, .ref s2, .ref s3, .ref oN, .ref h2, .long 0])), (h2, .inr (0, [.ref a2, .ref b2])), (a2, .inl (cI, 4, .inl f2)), (b2, .inl (cI, 4, .inl g2)), (oN, .inr (1, [.ref n0, .ref n1, .ref n2, .ref n3, .ref n4, .ref n5, .int 0])), (oR, .inr (2, [.ref r0, .ref r1, .ref r2, .int 0]))] sz)) (va_Qi (fun (r : Int32) (_ : Unit) => r = 1) (sp_B D vwCl (va_A [(oQ, .inr (3, [.ref oN, .ref oR, .ref oP, .ref oB, .ref q0, .ref q1, .ref q2, .int 0, .ref oX, .int 0, .int 0, .int 0, .int 0])), (oX, .inr (0, [.ref x0, .ref x1])), (x0, .inl (cI, 4, .inl fx)), (x1, .inl (cI, 4, .inl gx)), (oB, .inr (0, [.ref b0, .ref b1])), (b0, .inl (cI, 4, .inl fb)), (b1, .inl (cI, 4, .inl gb)), (oP, .inr (4, [.ref s0, .ref s1, .ref s2, .ref s3, .ref oN, .ref h2, .long 0])), (h2, .inr (0, [.ref a2, .ref b2])), (a2, .inl (cI, 4, .inl f2)), (b2, .inl (cI, 4, .inl g2)), (oN, .inr (1, [.ref n0, .ref n1, .ref n2, .ref n3, .ref n4, .ref n5, .int 0])), (oR, .inr (2, [.ref r0, .ref r1, .ref r2, .int 0]))] sz) (fun (_ : Unit) => [])) (va_A [(oQ, .inr (3, [.ref oN, .ref oR, .ref oP, .ref oB, .ref q0, .ref q1, .ref q2, .int 0, .ref oX, .int 0, .int 0, .int 0, .int 0])), (oX, .inr (0, [.ref x0, .ref x1])), (x0, .inl (cI, 4, .inl fx)), (x1, .inl (cI, 4, .inl gx)), (oB, .inr (0, [.ref b0, .ref b1])), (b0, .inl (cI, 4, .inl fb)), (b1, .inl (cI, 4, .inl gb)), (oP, .inr (4, [.ref s0, .ref s1, .ref s2, .ref s3, .ref oN, .ref h2, .long 0])), (h2, .inr (0, [.ref a2, .ref b2])), (a2, .inl (cI, 4, .inl f2)), (b2, .inl (cI, 4, .inl g2)), (oN, .inr (1, [.ref n0, .ref n1, .ref n2, .ref n3, .ref n4, .ref n5, .int 0])), (oR, .inr (2, [.ref r0, .ref r1, .ref r2, .int 0]))] sz)) 0 0 (va_A [(oQ, .inr (3, [.ref oN, .ref oR, .ref oP, .ref oB, .ref q0, .ref q1, .ref q2, .int 0, .ref oX, .int 0, .int 0, .int 0, .int 0])), (oX, .inr (0, [.ref x0, .ref x1])), (x0, .inl (cI, 4, .inl fx)), (x1, .inl (cI, 4, .inl gx)), (oB, .inr (0, [.ref b0, .ref b1])), (b0, .inl (cI, 4, .inl fb)), (b1, .inl (cI, 4, .inl gb)), (oP, .inr (4, [.ref s0, .ref s1, .ref s2, .ref s3, .ref oN, .ref h2, .long 0])), (h2, .inr (0, [.ref a2, .ref b2])), (a2, .inl (cI, 4, .inl f2)), (b2, .inl (cI, 4, .inl g2)), (oN, .inr (1, [.ref n0, .ref n1, .ref n2, .ref n3, .ref n4, .ref n5, .int 0])), (oR, .inr (2, [.ref r0, .ref r1, .ref r2, .int 0]))] sz) := by
  refine sp_ofW (Qc := fun A => va_Qi (fun (r : Int32) (_ : Unit) => r = 1) (sp_B D vwCl A (fun (_ : Unit) => [])) A) (by decide) rfl (Nat.le_of_ble_eq_true rfl) (fun p e s m below meth c A ls H locs C0 hA hS hP hK hD hl => ?_)
  obtain ⟨hx, hb, hr, hts, hown, hlocks, hml, hin⟩ := C0
  have hown : s.vm.findClass RX5 = some m.cls := hown
  have hl : lv_has ls 7 [(0, .ref oQ), (1, .int w)] := hl
  have hK : va_K D vwCl [(cI, .int), (cJ, .long), (cZ, .boolean)] s := hK
  refine lv_aload_n hx hb dX5_run_0 rfl (lv_at hl 0 rfl) ?_
  refine sp_callv (wr := [(oP, .inr (4, [.ref s0, .ref s1, .ref s2, .ref s3, .ref oN, .ref h2, .long 0])), (h2, .inr (0, [.ref a2, .ref b2])), (a2, .inl (cI, 4, .inl f2)), (b2, .inl (cI, 4, .inl g2)), (oN, .inr (1, [.ref n0, .ref n1, .ref n2, .ref n3, .ref n4, .ref n5, .int 0])), (oR, .inr (2, [.ref r0, .ref r1, .ref r2, .int 0]))]) (wc := [(oQ, .inr (3, [.ref oN, .ref oR, .ref oP, .ref oB, .ref q0, .ref q1, .ref q2, .int 0, .ref oX, .int 0, .int 0, .int 0, .int 0])), (oX, .inr (0, [.ref x0, .ref x1])), (x0, .inl (cI, 4, .inl fx)), (x1, .inl (cI, 4, .inl gx)), (oB, .inr (0, [.ref b0, .ref b1])), (b0, .inl (cI, 4, .inl fb)), (b1, .inl (cI, 4, .inl gb))]) hP hD hS hA [0, 1, 2, 3, 4, 5, 6] [7, 8, 9, 10, 11, 12] rfl rfl (by decide) (by decide) (va_runV (As := []) (rest := []) ⟨hx, hb, hml, hown, hts⟩ (c_X5_start l D cI cJ cZ H.size oQ oN oR oP q0 q1 q2 oX x0 x1 fx gx kfx kgx oB b0 b1 fb gb kfb kgb) (cwV 0 hts gX5_run_X5_start_60 rfl rfl rfl (by decide +kernel) ⟨Nat.le_of_ble_eq_true rfl, Nat.le_of_ble_eq_true rfl⟩) (sp_preV (ci := 3) (q0 := 0) [] hK (hP.sub (ws' := [(oQ, .inr (3, [.ref oN, .ref oR, .ref oP, .ref oB, .ref q0, .ref q1, .ref q2, .int 0, .ref oX, .int 0, .int 0, .int 0, .int 0])), (oX, .inr (0, [.ref x0, .ref x1])), (x0, .inl (cI, 4, .inl fx)), (x1, .inl (cI, 4, .inl gx)), (oB, .inr (0, [.ref b0, .ref b1])), (b0, .inl (cI, 4, .inl fb)), (b1, .inl (cI, 4, .inl gb))]) [0, 1, 2, 3, 4, 5, 6] rfl) (hD.sub (ws' := [(oQ, .inr (3, [.ref oN, .ref oR, .ref oP, .ref oB, .ref q0, .ref q1, .ref q2, .int 0, .ref oX, .int 0, .int 0, .int 0, .int 0])), (oX, .inr (0, [.ref x0, .ref x1])), (x0, .inl (cI, 4, .inl fx)), (x1, .inl (cI, 4, .inl gx)), (oB, .inr (0, [.ref b0, .ref b1])), (b0, .inl (cI, 4, .inl fb)), (b1, .inl (cI, 4, .inl gb))]) [0, 1, 2, 3, 4, 5, 6] (by decide) rfl) rfl rfl) rfl rfl hl.1 rfl (lv_room (Nat.le_of_ble_eq_true rfl)) dX5_run_1 ⟨Nat.le_of_ble_eq_true rfl, Nat.le_of_ble_eq_true rfl⟩) (fun u2 H locs hw3 hP hD hS => ?_)
  have hP : va_P D vwCl [(oP, .inr (4, [.ref s0, .ref s1, .ref s2, .ref s3, .ref oN, .ref h2, .long 0])), (h2, .inr (0, [.ref a2, .ref b2])), (a2, .inl (cI, 4, .inl f2)), (b2, .inl (cI, 4, .inl g2)), (oN, .inr (1, [.ref n0, .ref n1, .ref n2, .ref n3, .ref n4, .ref n5, .int 0])), (oR, .inr (2, [.ref r0, .ref r1, .ref r2, .int 0])), (oQ, .inr (3, [.ref oN, .ref oR, .ref oP, .ref oB, .ref q0, .ref q1, .ref q2, .int 0, .ref oX, .int 0, .int 0, .int 0, .int 0])), (oX, .inr (0, [.ref x0, .ref x1])), (x0, .inl (cI, 4, .inl fx)), (x1, .inl (cI, 4, .inl gx)), (oB, .inr (0, [.ref b0, .ref b1])), (b0, .inl (cI, 4, .inl fb)), (b1, .inl (cI, 4, .inl gb))] H := hP
  have hD : va_D A [(oP, .inr (4, [.ref s0, .ref s1, .ref s2, .ref s3, .ref oN, .ref h2, .long 0])), (h2, .inr (0, [.ref a2, .ref b2])), (a2, .inl (cI, 4, .inl f2)), (b2, .inl (cI, 4, .inl g2)), (oN, .inr (1, [.ref n0, .ref n1, .ref n2, .ref n3, .ref n4, .ref n5, .int 0])), (oR, .inr (2, [.ref r0, .ref r1, .ref r2, .int 0])), (oQ, .inr (3, [.ref oN, .ref oR, .ref oP, .ref oB, .ref q0, .ref q1, .ref q2, .int 0, .ref oX, .int 0, .int 0, .int 0, .int 0])), (oX, .inr (0, [.ref x0, .ref x1])), (x0, .inl (cI, 4, .inl fx)), (x1, .inl (cI, 4, .inl gx)), (oB, .inr (0, [.ref b0, .ref b1])), (b0, .inl (cI, 4, .inl fb)), (b1, .inl (cI, 4, .inl gb))] := hD
  refine lv_aload_n hx hb dX5_run_4 rfl (lv_at hl 0 rfl) ?_
  refine va_get (D := D) (ci := 3) (v := .ref oR) (C := RX5) (T := TX5) (N := 13) hx hb hts iX5_run_X5 hown hK hP 6 rfl rfl 1 (by decide) (hts (.fieldLink RX5 49 "FloatSolver$Search" "rules" "LFloatSolver$Rules;") (oX5_run_in _ (List.mem_of_getElem? (i := 0) rfl))) (fun _ h9 => h9) rfl dX5_run_5 ?_
  refine lv_aload_n hx hb dX5_run_8 rfl (lv_at hl 0 rfl) ?_
  refine va_get (D := D) (ci := 3) (v := .ref oN) (C := RX5) (T := TX5) (N := 13) hx hb hts iX5_run_X5 hown hK hP 6 rfl rfl 0 (by decide) (hts (.fieldLink RX5 45 "FloatSolver$Search" "nodes" "LFloatSolver$Nodes;") (oX5_run_in _ (List.mem_of_getElem? (i := 1) rfl))) (fun _ h9 => h9) rfl dX5_run_9 ?_
  refine sp_callj (wr := [(oP, .inr (4, [.ref s0, .ref s1, .ref s2, .ref s3, .ref oN, .ref h2, .long 0])), (h2, .inr (0, [.ref a2, .ref b2])), (a2, .inl (cI, 4, .inl f2)), (b2, .inl (cI, 4, .inl g2)), (oN, .inr (1, [.ref n0, .ref n1, .ref n2, .ref n3, .ref n4, .ref n5, .int 0])), (oQ, .inr (3, [.ref oN, .ref oR, .ref oP, .ref oB, .ref q0, .ref q1, .ref q2, .int 0, .ref oX, .int 0, .int 0, .int 0, .int 0])), (oX, .inr (0, [.ref x0, .ref x1])), (x0, .inl (cI, 4, .inl fx)), (x1, .inl (cI, 4, .inl gx)), (oB, .inr (0, [.ref b0, .ref b1])), (b0, .inl (cI, 4, .inl fb)), (b1, .inl (cI, 4, .inl gb))]) (wc := [(oR, .inr (2, [.ref r0, .ref r1, .ref r2, .int 0]))]) hP hD hS hA [5] [0, 1, 2, 3, 4, 6, 7, 8, 9, 10, 11, 12] rfl rfl (by decide) (by decide) (va_runV (As := [.ref oN]) (rest := []) ⟨hx, hb, hml, hown, hts⟩ (c_X4_allRestOn l D cI cJ cZ H.size oR r0 r1 r2 oN) (cwV 1 hts gX5_run_X4_allRestOn_63 rfl rfl rfl (by decide +kernel) ⟨Nat.le_of_ble_eq_true rfl, Nat.le_of_ble_eq_true rfl⟩) (sp_preV (ci := 2) (q0 := 0) [.ref oN] hK (hP.sub (ws' := [(oR, .inr (2, [.ref r0, .ref r1, .ref r2, .int 0]))]) [5] rfl) (hD.sub (ws' := [(oR, .inr (2, [.ref r0, .ref r1, .ref r2, .int 0]))]) [5] (by decide) rfl) rfl rfl) rfl rfl hl.1 rfl (lv_room (Nat.le_of_ble_eq_true rfl)) dX5_run_12 ⟨Nat.le_of_ble_eq_true rfl, Nat.le_of_ble_eq_true rfl⟩) (fun r4 u5 H locs hw6 hP hD hS => ?_)
  obtain rfl := hw6
  have hP : va_P D vwCl [(oP, .inr (4, [.ref s0, .ref s1, .ref s2, .ref s3, .ref oN, .ref h2, .long 0])), (h2, .inr (0, [.ref a2, .ref b2])), (a2, .inl (cI, 4, .inl f2)), (b2, .inl (cI, 4, .inl g2)), (oN, .inr (1, [.ref n0, .ref n1, .ref n2, .ref n3, .ref n4, .ref n5, .int 0])), (oQ, .inr (3, [.ref oN, .ref oR, .ref oP, .ref oB, .ref q0, .ref q1, .ref q2, .int 0, .ref oX, .int 0, .int 0, .int 0, .int 0])), (oX, .inr (0, [.ref x0, .ref x1])), (x0, .inl (cI, 4, .inl fx)), (x1, .inl (cI, 4, .inl gx)), (oB, .inr (0, [.ref b0, .ref b1])), (b0, .inl (cI, 4, .inl fb)), (b1, .inl (cI, 4, .inl gb)), (oR, .inr (2, [.ref r0, .ref r1, .ref r2, .int 0]))] H := hP
  have hD : va_D A [(oP, .inr (4, [.ref s0, .ref s1, .ref s2, .ref s3, .ref oN, .ref h2, .long 0])), (h2, .inr (0, [.ref a2, .ref b2])), (a2, .inl (cI, 4, .inl f2)), (b2, .inl (cI, 4, .inl g2)), (oN, .inr (1, [.ref n0, .ref n1, .ref n2, .ref n3, .ref n4, .ref n5, .int 0])), (oQ, .inr (3, [.ref oN, .ref oR, .ref oP, .ref oB, .ref q0, .ref q1, .ref q2, .int 0, .ref oX, .int 0, .int 0, .int 0, .int 0])), (oX, .inr (0, [.ref x0, .ref x1])), (x0, .inl (cI, 4, .inl fx)), (x1, .inl (cI, 4, .inl gx)), (oB, .inr (0, [.ref b0, .ref b1])), (b0, .inl (cI, 4, .inl fb)), (b1, .inl (cI, 4, .inl gb)), (oR, .inr (2, [.ref r0, .ref r1, .ref r2, .int 0]))] := hD
  refine lv_lstore_n (lv' := [(2, .long 0), (0, .ref oQ), (1, .int w)]) hx hb dX5_run_15 rfl hl (by decide) rfl (fun ls hl => ?_)
  refine lv_iconst (v := 0) hx hb dX5_run_16 (by decide) ?_
  refine lv_istore (lv' := [(4, .int 0), (2, .long 0), (0, .ref oQ), (1, .int w)]) hx hb dX5_run_17 hl (by decide) rfl (fun ls hl => ?_)
  refine lv_iload hx hb dX5_run_19 (lv_at hl 0 rfl) ?_
  refine lv_iload_n hx hb dX5_run_21 rfl (lv_at hl 3 rfl) ?_
  refine lv_icmp_ge (tgt := 145) hx hb dX5_run_22 (by decide) (fun c7 => ?_) (fun c7 => ?_)
  · skip
    have c7i : (w : Int32).toInt ≤ 0 := Int32.le_iff_toInt_le.mp c7
    exact (by omega : False).elim
  · skip
    have c7i : ¬ (w : Int32).toInt ≤ 0 := fun h => c7 (Int32.le_iff_toInt_le.mpr h)
    refine lv_aload_n hx hb dX5_run_25 rfl (lv_at hl 2 rfl) ?_
    refine lv_dup hx hb dX5_run_26 rfl ?_
    refine va_get (D := D) (ci := 3) (v := .int 0) (C := RX5) (T := TX5) (N := 13) hx hb hts iX5_run_X5 hown hK hP 5 rfl rfl 11 (by decide) (hts (.fieldLink RX5 39 "FloatSolver$Search" "looked" "I") (oX5_run_in _ (List.mem_of_getElem? (i := 2) rfl))) (fun _ h9 => h9) rfl dX5_run_27 ?_
    refine lv_iconst (v := 1) hx hb dX5_run_30 (by decide) ?_
    refine lv_iadd hx hb dX5_run_31 ?_
    refine lv_topi (fun y8 e9 => ?_)
    obtain rfl : y8 = 1 := e9.trans (by decide)
    refine va_put (D := D) (ci := 3) (v := .int 1) (ty := .int) (C := RX5) (T := TX5) (N := 13) hx hb hts iX5_run_X5 tyX5 tyX5_ok nmX5 hown hK hP hD hS 5 rfl rfl 11 (by decide) (hts (.fieldLink RX5 39 "FloatSolver$Search" "looked" "I") (oX5_run_in _ (List.mem_of_getElem? (i := 2) rfl))) (fun _ h9 => h9) rfl (by decide +kernel) rfl rfl (Nat.le_of_ble_eq_true rfl) dX5_run_32 (fun H locs hP hD hS => ?_)
    have hP : va_P D vwCl [(oP, .inr (4, [.ref s0, .ref s1, .ref s2, .ref s3, .ref oN, .ref h2, .long 0])), (h2, .inr (0, [.ref a2, .ref b2])), (a2, .inl (cI, 4, .inl f2)), (b2, .inl (cI, 4, .inl g2)), (oN, .inr (1, [.ref n0, .ref n1, .ref n2, .ref n3, .ref n4, .ref n5, .int 0])), (oQ, .inr (3, [.ref oN, .ref oR, .ref oP, .ref oB, .ref q0, .ref q1, .ref q2, .int 0, .ref oX, .int 0, .int 0, .int 1, .int 0])), (oX, .inr (0, [.ref x0, .ref x1])), (x0, .inl (cI, 4, .inl fx)), (x1, .inl (cI, 4, .inl gx)), (oB, .inr (0, [.ref b0, .ref b1])), (b0, .inl (cI, 4, .inl fb)), (b1, .inl (cI, 4, .inl gb)), (oR, .inr (2, [.ref r0, .ref r1, .ref r2, .int 0]))] H := hP
    have hD : va_D A [(oP, .inr (4, [.ref s0, .ref s1, .ref s2, .ref s3, .ref oN, .ref h2, .long 0])), (h2, .inr (0, [.ref a2, .ref b2])), (a2, .inl (cI, 4, .inl f2)), (b2, .inl (cI, 4, .inl g2)), (oN, .inr (1, [.ref n0, .ref n1, .ref n2, .ref n3, .ref n4, .ref n5, .int 0])), (oQ, .inr (3, [.ref oN, .ref oR, .ref oP, .ref oB, .ref q0, .ref q1, .ref q2, .int 0, .ref oX, .int 0, .int 0, .int 1, .int 0])), (oX, .inr (0, [.ref x0, .ref x1])), (x0, .inl (cI, 4, .inl fx)), (x1, .inl (cI, 4, .inl gx)), (oB, .inr (0, [.ref b0, .ref b1])), (b0, .inl (cI, 4, .inl fb)), (b1, .inl (cI, 4, .inl gb)), (oR, .inr (2, [.ref r0, .ref r1, .ref r2, .int 0]))] := hD
    refine lv_aload_n hx hb dX5_run_35 rfl (lv_at hl 2 rfl) ?_
    refine va_get (D := D) (ci := 3) (v := .ref oP) (C := RX5) (T := TX5) (N := 13) hx hb hts iX5_run_X5 hown hK hP 5 rfl rfl 2 (by decide) (hts (.fieldLink RX5 53 "FloatSolver$Search" "spans" "LFloatSolver$Spans;") (oX5_run_in _ (List.mem_of_getElem? (i := 3) rfl))) (fun _ h9 => h9) rfl dX5_run_36 ?_
    refine lv_aload_n hx hb dX5_run_39 rfl (lv_at hl 2 rfl) ?_
    refine va_get (D := D) (ci := 3) (v := .ref oX) (C := RX5) (T := TX5) (N := 13) hx hb hts iX5_run_X5 hown hK hP 5 rfl rfl 8 (by decide) (hts (.fieldLink RX5 28 "FloatSolver$Search" "box" "LFloatSolver$Box;") (oX5_run_in _ (List.mem_of_getElem? (i := 4) rfl))) (fun _ h9 => h9) rfl dX5_run_40 ?_
    refine lv_lload_n hx hb dX5_run_43 rfl (lv_at hl 1 rfl) ?_
    refine sp_callv (wr := [(oQ, .inr (3, [.ref oN, .ref oR, .ref oP, .ref oB, .ref q0, .ref q1, .ref q2, .int 0, .ref oX, .int 0, .int 0, .int 1, .int 0])), (oB, .inr (0, [.ref b0, .ref b1])), (b0, .inl (cI, 4, .inl fb)), (b1, .inl (cI, 4, .inl gb)), (oR, .inr (2, [.ref r0, .ref r1, .ref r2, .int 0]))]) (wc := [(oP, .inr (4, [.ref s0, .ref s1, .ref s2, .ref s3, .ref oN, .ref h2, .long 0])), (oN, .inr (1, [.ref n0, .ref n1, .ref n2, .ref n3, .ref n4, .ref n5, .int 0])), (h2, .inr (0, [.ref a2, .ref b2])), (a2, .inl (cI, 4, .inl f2)), (b2, .inl (cI, 4, .inl g2)), (oX, .inr (0, [.ref x0, .ref x1])), (x0, .inl (cI, 4, .inl fx)), (x1, .inl (cI, 4, .inl gx))]) hP hD hS hA [0, 4, 1, 2, 3, 6, 7, 8] [5, 9, 10, 11, 12] rfl rfl (by decide) (by decide) (va_runV (As := [.ref oX, .long 0]) (rest := []) ⟨hx, hb, hml, hown, hts⟩ (c_X6_fill l D cI cJ cZ H.size oP s0 s1 s2 s3 (0) oN n0 n1 n2 n3 n4 n5 h2 a2 b2 f2 g2 kf2 kg2 oX x0 x1 fx gx kfx kgx (0)) (cwV 2 hts gX5_run_X6_fill_69 rfl rfl rfl (by decide +kernel) ⟨Nat.le_of_ble_eq_true rfl, Nat.le_of_ble_eq_true rfl⟩) (sp_preV (ci := 4) (q0 := 0) [.ref oX, .long 0] hK (hP.sub (ws' := [(oP, .inr (4, [.ref s0, .ref s1, .ref s2, .ref s3, .ref oN, .ref h2, .long 0])), (oN, .inr (1, [.ref n0, .ref n1, .ref n2, .ref n3, .ref n4, .ref n5, .int 0])), (h2, .inr (0, [.ref a2, .ref b2])), (a2, .inl (cI, 4, .inl f2)), (b2, .inl (cI, 4, .inl g2)), (oX, .inr (0, [.ref x0, .ref x1])), (x0, .inl (cI, 4, .inl fx)), (x1, .inl (cI, 4, .inl gx))]) [0, 4, 1, 2, 3, 6, 7, 8] rfl) (hD.sub (ws' := [(oP, .inr (4, [.ref s0, .ref s1, .ref s2, .ref s3, .ref oN, .ref h2, .long 0])), (oN, .inr (1, [.ref n0, .ref n1, .ref n2, .ref n3, .ref n4, .ref n5, .int 0])), (h2, .inr (0, [.ref a2, .ref b2])), (a2, .inl (cI, 4, .inl f2)), (b2, .inl (cI, 4, .inl g2)), (oX, .inr (0, [.ref x0, .ref x1])), (x0, .inl (cI, 4, .inl fx)), (x1, .inl (cI, 4, .inl gx))]) [0, 4, 1, 2, 3, 6, 7, 8] (by decide) rfl) rfl rfl) rfl rfl hl.1 rfl (lv_room (Nat.le_of_ble_eq_true rfl)) dX5_run_44 ⟨Nat.le_of_ble_eq_true rfl, Nat.le_of_ble_eq_true rfl⟩) (fun u11 H locs hw12 hP hD hS => ?_)
    have hP : va_P D vwCl [(oQ, .inr (3, [.ref oN, .ref oR, .ref oP, .ref oB, .ref q0, .ref q1, .ref q2, .int 0, .ref oX, .int 0, .int 0, .int 1, .int 0])), (oB, .inr (0, [.ref b0, .ref b1])), (b0, .inl (cI, 4, .inl fb)), (b1, .inl (cI, 4, .inl gb)), (oR, .inr (2, [.ref r0, .ref r1, .ref r2, .int 0])), (oX, .inr (0, [.ref x0, .ref x1])), (x0, .inl (cI, 4, .inl fx)), (x1, .inl (cI, 4, .inl gx))] H := hP
    have hD : va_D A [(oQ, .inr (3, [.ref oN, .ref oR, .ref oP, .ref oB, .ref q0, .ref q1, .ref q2, .int 0, .ref oX, .int 0, .int 0, .int 1, .int 0])), (oB, .inr (0, [.ref b0, .ref b1])), (b0, .inl (cI, 4, .inl fb)), (b1, .inl (cI, 4, .inl gb)), (oR, .inr (2, [.ref r0, .ref r1, .ref r2, .int 0])), (oX, .inr (0, [.ref x0, .ref x1])), (x0, .inl (cI, 4, .inl fx)), (x1, .inl (cI, 4, .inl gx))] := hD
    refine lv_aload_n hx hb dX5_run_47 rfl (lv_at hl 2 rfl) ?_
    refine va_get (D := D) (ci := 3) (v := .ref oR) (C := RX5) (T := TX5) (N := 13) hx hb hts iX5_run_X5 hown hK hP 0 rfl rfl 1 (by decide) (hts (.fieldLink RX5 49 "FloatSolver$Search" "rules" "LFloatSolver$Rules;") (oX5_run_in _ (List.mem_of_getElem? (i := 0) rfl))) (fun _ h9 => h9) rfl dX5_run_48 ?_
    refine lv_aload_n hx hb dX5_run_51 rfl (lv_at hl 2 rfl) ?_
    refine va_get (D := D) (ci := 3) (v := .ref oP) (C := RX5) (T := TX5) (N := 13) hx hb hts iX5_run_X5 hown hK hP 0 rfl rfl 2 (by decide) (hts (.fieldLink RX5 53 "FloatSolver$Search" "spans" "LFloatSolver$Spans;") (oX5_run_in _ (List.mem_of_getElem? (i := 3) rfl))) (fun _ h9 => h9) rfl dX5_run_52 ?_
    refine sp_calli (wr := [(oQ, .inr (3, [.ref oN, .ref oR, .ref oP, .ref oB, .ref q0, .ref q1, .ref q2, .int 0, .ref oX, .int 0, .int 0, .int 1, .int 0])), (oB, .inr (0, [.ref b0, .ref b1])), (b0, .inl (cI, 4, .inl fb)), (b1, .inl (cI, 4, .inl gb)), (oX, .inr (0, [.ref x0, .ref x1])), (x0, .inl (cI, 4, .inl fx)), (x1, .inl (cI, 4, .inl gx))]) (wc := [(oR, .inr (2, [.ref r0, .ref r1, .ref r2, .int 0]))]) hP hD hS hA [4] [0, 1, 2, 3, 5, 6, 7] rfl rfl (by decide) (by decide) (va_runV (As := [.ref oP]) (rest := []) ⟨hx, hb, hml, hown, hts⟩ (c_X4_verdictOfAll l D cI cJ cZ H.size oR r0 r1 r2 oP) (cwV 1 hts gX5_run_X4_verdictOfAll_75 rfl rfl rfl (by decide +kernel) ⟨Nat.le_of_ble_eq_true rfl, Nat.le_of_ble_eq_true rfl⟩) (sp_preV (ci := 2) (q0 := 0) [.ref oP] hK (hP.sub (ws' := [(oR, .inr (2, [.ref r0, .ref r1, .ref r2, .int 0]))]) [4] rfl) (hD.sub (ws' := [(oR, .inr (2, [.ref r0, .ref r1, .ref r2, .int 0]))]) [4] (by decide) rfl) rfl rfl) rfl rfl hl.1 rfl (lv_room (Nat.le_of_ble_eq_true rfl)) dX5_run_55 ⟨Nat.le_of_ble_eq_true rfl, Nat.le_of_ble_eq_true rfl⟩) (fun r13 u14 H locs hw15 hP hD hS => ?_)
    obtain rfl := hw15
    have hP : va_P D vwCl [(oQ, .inr (3, [.ref oN, .ref oR, .ref oP, .ref oB, .ref q0, .ref q1, .ref q2, .int 0, .ref oX, .int 0, .int 0, .int 1, .int 0])), (oB, .inr (0, [.ref b0, .ref b1])), (b0, .inl (cI, 4, .inl fb)), (b1, .inl (cI, 4, .inl gb)), (oX, .inr (0, [.ref x0, .ref x1])), (x0, .inl (cI, 4, .inl fx)), (x1, .inl (cI, 4, .inl gx)), (oR, .inr (2, [.ref r0, .ref r1, .ref r2, .int 0]))] H := hP
    have hD : va_D A [(oQ, .inr (3, [.ref oN, .ref oR, .ref oP, .ref oB, .ref q0, .ref q1, .ref q2, .int 0, .ref oX, .int 0, .int 0, .int 1, .int 0])), (oB, .inr (0, [.ref b0, .ref b1])), (b0, .inl (cI, 4, .inl fb)), (b1, .inl (cI, 4, .inl gb)), (oX, .inr (0, [.ref x0, .ref x1])), (x0, .inl (cI, 4, .inl fx)), (x1, .inl (cI, 4, .inl gx)), (oR, .inr (2, [.ref r0, .ref r1, .ref r2, .int 0]))] := hD
    refine lv_istore (lv' := [(5, .int 1), (4, .int 0), (2, .long 0), (0, .ref oQ), (1, .int w)]) hx hb dX5_run_58 hl (by decide) rfl (fun ls hl => ?_)
    refine lv_aload_n hx hb dX5_run_60 rfl (lv_at hl 3 rfl) ?_
    refine va_get (D := D) (ci := 3) (v := .ref oX) (C := RX5) (T := TX5) (N := 13) hx hb hts iX5_run_X5 hown hK hP 0 rfl rfl 8 (by decide) (hts (.fieldLink RX5 28 "FloatSolver$Search" "box" "LFloatSolver$Box;") (oX5_run_in _ (List.mem_of_getElem? (i := 4) rfl))) (fun _ h9 => h9) rfl dX5_run_61 ?_
    refine sp_calli (wr := [(oQ, .inr (3, [.ref oN, .ref oR, .ref oP, .ref oB, .ref q0, .ref q1, .ref q2, .int 0, .ref oX, .int 0, .int 0, .int 1, .int 0])), (oB, .inr (0, [.ref b0, .ref b1])), (b0, .inl (cI, 4, .inl fb)), (b1, .inl (cI, 4, .inl gb)), (oR, .inr (2, [.ref r0, .ref r1, .ref r2, .int 0]))]) (wc := [(oX, .inr (0, [.ref x0, .ref x1])), (x0, .inl (cI, 4, .inl fx)), (x1, .inl (cI, 4, .inl gx))]) hP hD hS hA [4, 5, 6] [0, 1, 2, 3, 7] rfl rfl (by decide) (by decide) (va_runV (As := []) (rest := []) ⟨hx, hb, hml, hown, hts⟩ (c_X1_firstWide l D cI cJ cZ H.size oX x0 x1 fx gx kfx kgx) (cwV 0 hts gX5_run_X1_firstWide_79 rfl rfl rfl (by decide +kernel) ⟨Nat.le_of_ble_eq_true rfl, Nat.le_of_ble_eq_true rfl⟩) (sp_preV (ci := 0) (q0 := 0) [] hK (hP.sub (ws' := [(oX, .inr (0, [.ref x0, .ref x1])), (x0, .inl (cI, 4, .inl fx)), (x1, .inl (cI, 4, .inl gx))]) [4, 5, 6] rfl) (hD.sub (ws' := [(oX, .inr (0, [.ref x0, .ref x1])), (x0, .inl (cI, 4, .inl fx)), (x1, .inl (cI, 4, .inl gx))]) [4, 5, 6] (by decide) rfl) rfl rfl) rfl rfl hl.1 rfl (lv_room (Nat.le_of_ble_eq_true rfl)) dX5_run_64 ⟨Nat.le_of_ble_eq_true rfl, Nat.le_of_ble_eq_true rfl⟩) (fun r16 u17 H locs hw18 hP hD hS => ?_)
    obtain rfl := hw18
    have hP : va_P D vwCl [(oQ, .inr (3, [.ref oN, .ref oR, .ref oP, .ref oB, .ref q0, .ref q1, .ref q2, .int 0, .ref oX, .int 0, .int 0, .int 1, .int 0])), (oB, .inr (0, [.ref b0, .ref b1])), (b0, .inl (cI, 4, .inl fb)), (b1, .inl (cI, 4, .inl gb)), (oR, .inr (2, [.ref r0, .ref r1, .ref r2, .int 0]))] H := hP
    have hD : va_D A [(oQ, .inr (3, [.ref oN, .ref oR, .ref oP, .ref oB, .ref q0, .ref q1, .ref q2, .int 0, .ref oX, .int 0, .int 0, .int 1, .int 0])), (oB, .inr (0, [.ref b0, .ref b1])), (b0, .inl (cI, 4, .inl fb)), (b1, .inl (cI, 4, .inl gb)), (oR, .inr (2, [.ref r0, .ref r1, .ref r2, .int 0]))] := hD
    refine lv_istore (lv' := [(6, .int 0), (5, .int 1), (4, .int 0), (2, .long 0), (0, .ref oQ), (1, .int w)]) hx hb dX5_run_67 hl (by decide) rfl (fun ls hl => ?_)
    refine lv_iload hx hb dX5_run_69 (lv_at hl 1 rfl) ?_
    refine lv_iconst (v := 2) hx hb dX5_run_71 (by decide) ?_
    refine lv_icmp_ne (tgt := 95) hx hb dX5_run_72 (by decide) (fun _ => ?_) (fun c19 => absurd c19 (by decide))
    refine lv_iload hx hb dX5_run_95 (lv_at hl 1 rfl) ?_
    refine lv_iconst (v := 1) hx hb dX5_run_97 (by decide) ?_
    refine lv_icmp_ne (tgt := 107) hx hb dX5_run_98 (by decide) (fun c20 => absurd (by decide) c20) (fun _ => ?_)
    refine lv_aload_n hx hb dX5_run_101 rfl (lv_at hl 4 rfl) ?_
    refine lv_iconst (v := 1) hx hb dX5_run_102 (by decide) ?_
    refine sp_calli (wr := [(oB, .inr (0, [.ref b0, .ref b1])), (b0, .inl (cI, 4, .inl fb)), (b1, .inl (cI, 4, .inl gb)), (oR, .inr (2, [.ref r0, .ref r1, .ref r2, .int 0]))]) (wc := [(oQ, .inr (3, [.ref oN, .ref oR, .ref oP, .ref oB, .ref q0, .ref q1, .ref q2, .int 0, .ref oX, .int 0, .int 0, .int 1, .int 0]))]) hP hD hS hA [0] [1, 2, 3, 4] rfl rfl (by decide) (by decide) (va_runV (As := [.int 1]) (rest := []) ⟨hx, hb, hml, hown, hts⟩ (c_X5_end l D cI cJ cZ H.size oQ oN oR oP oB q0 q1 q2 oX 1 (1)) (cwV 1 hts gX5_run_X5_end_87 rfl rfl rfl (by decide +kernel) ⟨Nat.le_of_ble_eq_true rfl, Nat.le_of_ble_eq_true rfl⟩) (sp_preV (ci := 3) (q0 := 0) [.int 1] hK (hP.sub (ws' := [(oQ, .inr (3, [.ref oN, .ref oR, .ref oP, .ref oB, .ref q0, .ref q1, .ref q2, .int 0, .ref oX, .int 0, .int 0, .int 1, .int 0]))]) [0] rfl) (hD.sub (ws' := [(oQ, .inr (3, [.ref oN, .ref oR, .ref oP, .ref oB, .ref q0, .ref q1, .ref q2, .int 0, .ref oX, .int 0, .int 0, .int 1, .int 0]))]) [0] (by decide) rfl) rfl rfl) rfl rfl hl.1 rfl (lv_room (Nat.le_of_ble_eq_true rfl)) dX5_run_103 ⟨Nat.le_of_ble_eq_true rfl, Nat.le_of_ble_eq_true rfl⟩) (fun r21 u22 H locs hw23 hP hD hS => ?_)
    obtain rfl := hw23
    have hP : va_P D vwCl [(oB, .inr (0, [.ref b0, .ref b1])), (b0, .inl (cI, 4, .inl fb)), (b1, .inl (cI, 4, .inl gb)), (oR, .inr (2, [.ref r0, .ref r1, .ref r2, .int 0]))] H := hP
    have hD : va_D A [(oB, .inr (0, [.ref b0, .ref b1])), (b0, .inl (cI, 4, .inl fb)), (b1, .inl (cI, 4, .inl gb)), (oR, .inr (2, [.ref r0, .ref r1, .ref r2, .int 0]))] := hD
    refine W.widen (k := 0) (n := 0) (by decide) (by decide) ?_
    exact sp_iret (u := ()) hx hb hr hlocks hS rfl (hP.sub [] rfl) (hD.sub [] (by decide) rfl) dX5_run_106
def oX7_solve : List Cond := [.fieldLink RX7 52 "FloatSolver" "search" "LFloatSolver$Search;"]
def wpX7_solve : List Cond := .code yX7_solve cX7_solve 2 (some .int) :: (oX7_solve ++ (wsX70 ++ ((wsV RX7 145 RX5 yX5_run wpX5_run) ++ ([] : List Cond))))
theorem oX7_solve_in : ∀ w ∈ oX7_solve, w ∈ wpX7_solve := fun w h => List.mem_cons_of_mem _ (List.mem_append_left _ h)
theorem gwoX7_solve : ∀ w ∈ oX7_solve, goodWord w = true := by decide +kernel
theorem gwX7_solve : ∀ w ∈ wpX7_solve, goodWord w = true := by
  unfold wpX7_solve
  exact List.forall_mem_cons.mpr ⟨rfl, List.forall_mem_append.mpr ⟨gwoX7_solve, List.forall_mem_append.mpr ⟨gwX7, List.forall_mem_append.mpr ⟨(sp_gV gwX5_run), fun _ h => absurd h List.not_mem_nil⟩⟩⟩⟩
set_option maxRecDepth 100000 in
theorem toX7_solve : ∀ w ∈ oX7_solve, w ∈ lw_tbl := by
  unfold oX7_solve
  exact List.forall_mem_cons.mpr ⟨(List.mem_of_getElem? (i := 244) (by decide +kernel)), fun _ h => absurd h List.not_mem_nil⟩
set_option maxRecDepth 100000 in
theorem tX7_solve : ∀ w ∈ wpX7_solve, w ∈ lw_tbl := by
  unfold wpX7_solve
  exact List.forall_mem_cons.mpr ⟨(List.mem_of_getElem? (i := 549) (by rfl)), List.forall_mem_append.mpr ⟨toX7_solve, List.forall_mem_append.mpr ⟨in_wsX70, List.forall_mem_append.mpr ⟨(sp_tV (List.mem_of_getElem? (i := 550) (by decide +kernel)) (List.mem_of_getElem? (i := 551) (by decide +kernel)) (List.mem_of_getElem? (i := 552) (by decide +kernel)) (List.mem_of_getElem? (i := 44) (by decide +kernel)) tX5_run), fun _ h => absurd h List.not_mem_nil⟩⟩⟩⟩
theorem iX7_solve_X7 : ∀ w ∈ wsX70, w ∈ wpX7_solve := fun w h => List.mem_cons_of_mem _ (List.mem_append_right _ (List.mem_append_left _ h))
theorem gX7_solve_X5_run_145 : GoodIn wpX7_solve (wsV RX7 145 RX5 yX5_run wpX5_run) := fun w h => ⟨List.mem_cons_of_mem _ (List.mem_append_right _ (List.mem_append_right _ (List.mem_append_left _ h))), good_of_word (sp_gV gwX5_run w h)⟩
set_option maxHeartbeats 4000000 in
set_option maxRecDepth 100000 in
theorem c_X7_solve (l : Launch) (D : va_G) (cI cJ cZ : ClassId) (sz : Nat) (h oS : Nat) (oQ oP q0 q1 q2 s0 s1 s2 s3 oN : Nat) (n0 n1 n2 n3 n4 n5 : Nat) (oR r0 r1 r2 : Nat) (oX x0 x1 : Nat) (fx gx : Nat → Int32) (kfx : ∀ j : Nat, j < 4 → fx j = -2139095041) (kgx : ∀ j : Nat, j < 4 → gx j = 2139095040) (oB b0 b1 : Nat) (fb gb : Nat → Int32) (kfb : ∀ j : Nat, j < 4 → fb j = -2139095041) (kgb : ∀ j : Nat, j < 4 → gb j = 2139095040) (h2 a2 b2 : Nat) (f2 g2 : Nat → Int32) (kf2 : ∀ j : Nat, j < 4 → f2 j = -2139095041) (kg2 : ∀ j : Nat, j < 4 → g2 j = 2139095040) (w : Int32) : Met l yX7_solve wpX7_solve ({ frames := 4, cells := 0, slots := 0, locals := 99 }) (va_Pc [.ref h, .int w] (sp_pre D vwCl (sp_ty cI cJ cZ) [(h, .inr (5, [.ref oN, .ref oR, .ref oB, .ref oS, .ref oP, .ref oQ])), (oQ, .inr (3, [.ref oN, .ref oR, .ref oP, .ref oB, .ref q0, .ref q1, .ref q2, .int 0, .ref oX, .int 0, .int 0, .int 0, .int 0])), (oX, .inr (0, [.ref x0, .ref x1])), (x0, .inl (cI, 4, .inl fx)), (x1, .inl (cI, 4, .inl gx)), (oB, .inr (0, [.ref b0, .ref b1])), (b0, .inl (cI, 4, .inl fb)), (b1, .inl (cI, 4, .inl gb)), (oP, .inr (4, [.ref s0, .ref s1, .ref s2, .ref s3, .ref oN, .ref h2, .long 0])), (h2, .inr (0, [.ref a2, .ref b2])), (a2, .inl (cI, 4, .inl f2)), (b2, .inl (cI, 4, .inl g2)), (oN, .inr (1, [.ref n0, .ref n1, .ref n2, .ref n3, .ref n4, .ref n5, .int 0])), (oR, .inr (2, [.ref r0, .ref r1, .ref r2, .int 0]))] sz)) (va_Qi (fun (r : Int32) (_ : Unit) => r = sp_solve w) (sp_B D vwCl (va_A [(h, .inr (5, [.ref oN, .ref oR, .ref oB, .ref oS, .ref oP, .ref oQ])), (oQ, .inr (3, [.ref oN, .ref oR, .ref oP, .ref oB, .ref q0, .ref q1, .ref q2, .int 0, .ref oX, .int 0, .int 0, .int 0, .int 0])), (oX, .inr (0, [.ref x0, .ref x1])), (x0, .inl (cI, 4, .inl fx)), (x1, .inl (cI, 4, .inl gx)), (oB, .inr (0, [.ref b0, .ref b1])), (b0, .inl (cI, 4, .inl fb)), (b1, .inl (cI, 4, .inl gb)), (oP, .inr (4, [.ref s0, .ref s1, .ref s2, .ref s3, .ref oN, .ref h2, .long 0])), (h2, .inr (0, [.ref a2, .ref b2])), (a2, .inl (cI, 4, .inl f2)), (b2, .inl (cI, 4, .inl g2)), (oN, .inr (1, [.ref n0, .ref n1, .ref n2, .ref n3, .ref n4, .ref n5, .int 0])), (oR, .inr (2, [.ref r0, .ref r1, .ref r2, .int 0]))] sz) (fun (_ : Unit) => [])) (va_A [(h, .inr (5, [.ref oN, .ref oR, .ref oB, .ref oS, .ref oP, .ref oQ])), (oQ, .inr (3, [.ref oN, .ref oR, .ref oP, .ref oB, .ref q0, .ref q1, .ref q2, .int 0, .ref oX, .int 0, .int 0, .int 0, .int 0])), (oX, .inr (0, [.ref x0, .ref x1])), (x0, .inl (cI, 4, .inl fx)), (x1, .inl (cI, 4, .inl gx)), (oB, .inr (0, [.ref b0, .ref b1])), (b0, .inl (cI, 4, .inl fb)), (b1, .inl (cI, 4, .inl gb)), (oP, .inr (4, [.ref s0, .ref s1, .ref s2, .ref s3, .ref oN, .ref h2, .long 0])), (h2, .inr (0, [.ref a2, .ref b2])), (a2, .inl (cI, 4, .inl f2)), (b2, .inl (cI, 4, .inl g2)), (oN, .inr (1, [.ref n0, .ref n1, .ref n2, .ref n3, .ref n4, .ref n5, .int 0])), (oR, .inr (2, [.ref r0, .ref r1, .ref r2, .int 0]))] sz)) 0 0 (va_A [(h, .inr (5, [.ref oN, .ref oR, .ref oB, .ref oS, .ref oP, .ref oQ])), (oQ, .inr (3, [.ref oN, .ref oR, .ref oP, .ref oB, .ref q0, .ref q1, .ref q2, .int 0, .ref oX, .int 0, .int 0, .int 0, .int 0])), (oX, .inr (0, [.ref x0, .ref x1])), (x0, .inl (cI, 4, .inl fx)), (x1, .inl (cI, 4, .inl gx)), (oB, .inr (0, [.ref b0, .ref b1])), (b0, .inl (cI, 4, .inl fb)), (b1, .inl (cI, 4, .inl gb)), (oP, .inr (4, [.ref s0, .ref s1, .ref s2, .ref s3, .ref oN, .ref h2, .long 0])), (h2, .inr (0, [.ref a2, .ref b2])), (a2, .inl (cI, 4, .inl f2)), (b2, .inl (cI, 4, .inl g2)), (oN, .inr (1, [.ref n0, .ref n1, .ref n2, .ref n3, .ref n4, .ref n5, .int 0])), (oR, .inr (2, [.ref r0, .ref r1, .ref r2, .int 0]))] sz) := by
  refine sp_ofW (Qc := fun A => va_Qi (fun (r : Int32) (_ : Unit) => r = sp_solve w) (sp_B D vwCl A (fun (_ : Unit) => [])) A) (by decide) rfl (Nat.le_of_ble_eq_true rfl) (fun p e s m below meth c A ls H locs C0 hA hS hP hK hD hl => ?_)
  obtain ⟨hx, hb, hr, hts, hown, hlocks, hml, hin⟩ := C0
  have hown : s.vm.findClass RX7 = some m.cls := hown
  have hl : lv_has ls 2 [(0, .ref h), (1, .int w)] := hl
  have hK : va_K D vwCl [(cI, .int), (cJ, .long), (cZ, .boolean)] s := hK
  refine lv_iload_n hx hb dX7_solve_0 rfl (lv_at hl 1 rfl) ?_
  refine lv_iconst (v := 1) hx hb dX7_solve_1 (by decide) ?_
  refine lv_icmp_lt (tgt := 12) hx hb dX7_solve_2 (by decide) (fun c1 => ?_) (fun c1 => ?_)
  · skip
    have c1i : (w : Int32).toInt < 1 := Int32.lt_iff_toInt_lt.mp c1
    refine lv_bipush (v := (-2)) hx hb dX7_solve_12 (by decide) ?_
    refine W.widen (k := 0) (n := 0) (by decide) (by decide) ?_
    exact sp_iret (u := ()) hx hb hr hlocks hS (by unfold sp_solve; (repeat' split) <;> first | (exfalso; omega) | rfl) (hP.sub [] rfl) (hD.sub [] (by decide) rfl) dX7_solve_14
  · skip
    have c1i : ¬ (w : Int32).toInt < 1 := fun h => c1 (Int32.lt_iff_toInt_lt.mpr h)
    refine lv_iload_n hx hb dX7_solve_5 rfl (lv_at hl 1 rfl) ?_
    refine lv_sipush (v := 5000) hx hb dX7_solve_6 (by decide) ?_
    refine lv_icmp_le (tgt := 15) hx hb dX7_solve_9 (by decide) (fun c2 => ?_) (fun c2 => ?_)
    · skip
      have c2i : (w : Int32).toInt ≤ 5000 := Int32.le_iff_toInt_le.mp c2
      refine lv_aload_n hx hb dX7_solve_15 rfl (lv_at hl 0 rfl) ?_
      refine va_get (D := D) (ci := 5) (v := .ref oQ) (C := RX7) (T := TX7) (N := 6) hx hb hts iX7_solve_X7 hown hK hP 0 rfl rfl 5 (by decide) (hts (.fieldLink RX7 52 "FloatSolver" "search" "LFloatSolver$Search;") (oX7_solve_in _ (List.mem_of_getElem? (i := 0) rfl))) (fun _ h9 => h9) rfl dX7_solve_16 ?_
      refine lv_iload_n hx hb dX7_solve_19 rfl (lv_at hl 1 rfl) ?_
      refine sp_calli (wr := [(h, .inr (5, [.ref oN, .ref oR, .ref oB, .ref oS, .ref oP, .ref oQ]))]) (wc := [(oQ, .inr (3, [.ref oN, .ref oR, .ref oP, .ref oB, .ref q0, .ref q1, .ref q2, .int 0, .ref oX, .int 0, .int 0, .int 0, .int 0])), (oX, .inr (0, [.ref x0, .ref x1])), (x0, .inl (cI, 4, .inl fx)), (x1, .inl (cI, 4, .inl gx)), (oB, .inr (0, [.ref b0, .ref b1])), (b0, .inl (cI, 4, .inl fb)), (b1, .inl (cI, 4, .inl gb)), (oP, .inr (4, [.ref s0, .ref s1, .ref s2, .ref s3, .ref oN, .ref h2, .long 0])), (h2, .inr (0, [.ref a2, .ref b2])), (a2, .inl (cI, 4, .inl f2)), (b2, .inl (cI, 4, .inl g2)), (oN, .inr (1, [.ref n0, .ref n1, .ref n2, .ref n3, .ref n4, .ref n5, .int 0])), (oR, .inr (2, [.ref r0, .ref r1, .ref r2, .int 0]))]) hP hD hS hA [1, 2, 3, 4, 5, 6, 7, 8, 9, 10, 11, 12, 13] [0] rfl rfl (by decide) (by decide) (va_runV (As := [.int w]) (rest := []) ⟨hx, hb, hml, hown, hts⟩ (c_X5_run l D cI cJ cZ H.size oQ oP q0 q1 q2 s0 s1 s2 s3 oN n0 n1 n2 n3 n4 n5 oR r0 r1 r2 oX x0 x1 fx gx kfx kgx oB b0 b1 fb gb kfb kgb h2 a2 b2 f2 g2 kf2 kg2 (w) (by omega)) (cwV 1 hts gX7_solve_X5_run_145 rfl rfl rfl (by decide +kernel) ⟨Nat.le_of_ble_eq_true rfl, Nat.le_of_ble_eq_true rfl⟩) (sp_preV (ci := 3) (q0 := 0) [.int w] hK (hP.sub (ws' := [(oQ, .inr (3, [.ref oN, .ref oR, .ref oP, .ref oB, .ref q0, .ref q1, .ref q2, .int 0, .ref oX, .int 0, .int 0, .int 0, .int 0])), (oX, .inr (0, [.ref x0, .ref x1])), (x0, .inl (cI, 4, .inl fx)), (x1, .inl (cI, 4, .inl gx)), (oB, .inr (0, [.ref b0, .ref b1])), (b0, .inl (cI, 4, .inl fb)), (b1, .inl (cI, 4, .inl gb)), (oP, .inr (4, [.ref s0, .ref s1, .ref s2, .ref s3, .ref oN, .ref h2, .long 0])), (h2, .inr (0, [.ref a2, .ref b2])), (a2, .inl (cI, 4, .inl f2)), (b2, .inl (cI, 4, .inl g2)), (oN, .inr (1, [.ref n0, .ref n1, .ref n2, .ref n3, .ref n4, .ref n5, .int 0])), (oR, .inr (2, [.ref r0, .ref r1, .ref r2, .int 0]))]) [1, 2, 3, 4, 5, 6, 7, 8, 9, 10, 11, 12, 13] rfl) (hD.sub (ws' := [(oQ, .inr (3, [.ref oN, .ref oR, .ref oP, .ref oB, .ref q0, .ref q1, .ref q2, .int 0, .ref oX, .int 0, .int 0, .int 0, .int 0])), (oX, .inr (0, [.ref x0, .ref x1])), (x0, .inl (cI, 4, .inl fx)), (x1, .inl (cI, 4, .inl gx)), (oB, .inr (0, [.ref b0, .ref b1])), (b0, .inl (cI, 4, .inl fb)), (b1, .inl (cI, 4, .inl gb)), (oP, .inr (4, [.ref s0, .ref s1, .ref s2, .ref s3, .ref oN, .ref h2, .long 0])), (h2, .inr (0, [.ref a2, .ref b2])), (a2, .inl (cI, 4, .inl f2)), (b2, .inl (cI, 4, .inl g2)), (oN, .inr (1, [.ref n0, .ref n1, .ref n2, .ref n3, .ref n4, .ref n5, .int 0])), (oR, .inr (2, [.ref r0, .ref r1, .ref r2, .int 0]))]) [1, 2, 3, 4, 5, 6, 7, 8, 9, 10, 11, 12, 13] (by decide) rfl) rfl rfl) rfl rfl hl.1 rfl (lv_room (Nat.le_of_ble_eq_true rfl)) dX7_solve_20 ⟨Nat.le_of_ble_eq_true rfl, Nat.le_of_ble_eq_true rfl⟩) (fun r3 u4 H locs hw5 hP hD hS => ?_)
      obtain rfl := hw5
      have hP : va_P D vwCl [(h, .inr (5, [.ref oN, .ref oR, .ref oB, .ref oS, .ref oP, .ref oQ]))] H := hP
      have hD : va_D A [(h, .inr (5, [.ref oN, .ref oR, .ref oB, .ref oS, .ref oP, .ref oQ]))] := hD
      refine W.widen (k := 0) (n := 0) (by decide) (by decide) ?_
      exact sp_iret (u := ()) hx hb hr hlocks hS (by unfold sp_solve; (repeat' split) <;> first | (exfalso; omega) | rfl) (hP.sub [] rfl) (hD.sub [] (by decide) rfl) dX7_solve_23
    · skip
      have c2i : ¬ (w : Int32).toInt ≤ 5000 := fun h => c2 (Int32.le_iff_toInt_le.mpr h)
      refine lv_bipush (v := (-2)) hx hb dX7_solve_12 (by decide) ?_
      refine W.widen (k := 0) (n := 0) (by decide) (by decide) ?_
      exact sp_iret (u := ()) hx hb hr hlocks hS (by unfold sp_solve; (repeat' split) <;> first | (exfalso; omega) | rfl) (hP.sub [] rfl) (hD.sub [] (by decide) rfl) dX7_solve_14
