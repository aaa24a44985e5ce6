/-! width: the throw, and its catching in the law's own width -/
def kx (A : Nat → Prop) (sa : Nat) (H : Heap) (U : State) : Prop := vk_R RX7 167 "a width is asked for by 0" sa U ∧ vx_Zq Bundle.tN "UNASSIGNED_STACK" Bundle.steD A U H ∧ vx_Zq Bundle.tN "SUPPRESSED_SENTINEL" Bundle.listD A U H ∧ va_Nw (.castable "java/lang/ArithmeticException" "java/lang/ArithmeticException") U ∧ va_Nw (.declares (Bundle.initS "java/lang/RuntimeException")) U ∧ va_Nw (.declares (Bundle.initS "java/lang/Exception")) U ∧ va_Nw (.declares (Bundle.initS Bundle.tN)) U
theorem kx_blind {A : Nat → Prop} {sa : Nat} (U : State) (g : JFrame) (mk : MethodId) (a : Array Value) (h : kx A sa U.heap U) : kx A sa (U.calling g mk a).heap (U.calling g mk a) := by
  obtain ⟨h1, h2, h3, h4, h5, h6, h7⟩ := h
  exact ⟨vk_R.same (u := U) (U := U.calling g mk a) rfl h1, vx_Zq.moved (u := U) (U := U.calling g mk a) (Vm.Alike.refl U.vm) h2, vx_Zq.moved (u := U) (U := U.calling g mk a) (Vm.Alike.refl U.vm) h3, va_Nw.same rfl (u := U) (U := U.calling g mk a) rfl h4, va_Nw.same rfl (u := U) (U := U.calling g mk a) rfl h5, va_Nw.same rfl (u := U) (U := U.calling g mk a) rfl h6, va_Nw.same rfl (u := U) (U := U.calling g mk a) rfl h7⟩
theorem kx_go {A A' : Nat → Prop} {sa : Nat} {s : State} {H : Heap} {locs : List Loc} (h : kx A sa s.heap s) (hS : va_S A s.heap H locs) (hAA : ∀ q, A' q → A q) {U : State} (hU : U.heap = H) (hW : s.WarmedH U.vm) : kx A' sa U.heap U := by
  obtain ⟨h1, h2, h3, h4, h5, h6, h7⟩ := h
  rw [hU]
  exact ⟨vk_R.warm hW h1, vx_Zq.moved hW.alike (vx_Zq.narrow (vx_Zq.kept h2 (fun a ha hn => hS.2.1 a ha hn)) hAA), vx_Zq.moved hW.alike (vx_Zq.narrow (vx_Zq.kept h3 (fun a ha hn => hS.2.1 a ha hn)) hAA), va_Nw.warmC hW h4, va_Nw.warmD hW h5, va_Nw.warmD hW h6, va_Nw.warmD hW h7⟩
theorem sx_ofWK {l : Launch} {y : MethodName} {ws ws' : List Cond} {rm : Room} {D : va_G} {cl : List vw_C} {tys : List (ClassId × FieldType)} {av : List Value} {WS : va_W} {sz sa : Nat} {Qc : (Nat → Prop) → Array Value → State → Outcome → State → Prop} {XC : (Nat → Prop) → String → State → State → Prop} {mc ms : Nat} {cc : ByteArray} {maxL : Nat} {ret : Option FieldType}
    (hy : plainName y.cls = true) (hw : ws = Cond.code y cc maxL ret :: ws') (hlen : (lg_sl av).length ≤ maxL)
    (body : ∀ (p : Program) (e : Env) (s : State) (m : MethodId) (below : List Frame) (meth : Method) (c : Code) (A : Nat → Prop) (ls : Array Slot) (H : Heap) (locs : List Loc), sp_C cc ret maxL ws y.cls y.name p s m av.toArray meth c → (∀ x ∈ c.exceptionTable.toList, False) → kx A sa s.heap s → (∀ q : Nat, s.heap.size ≤ q → A q) → va_S A s.heap H locs → va_P D cl WS H → va_K D cl tys s → va_D A WS → lv_has ls maxL (lv_args 0 av) →
      W p l e rm s m av.toArray below meth c H locs 0 0 (vx_MQ below (Qc A) (XC A) av.toArray s mc ms A) (F0 m 0 ls [])) :
    vx_Met l y ws rm (va_Pc av (fun U => sp_pre D cl tys WS sz U ∧ kx (va_A WS sz) sa U.heap U)) (Qc (va_A WS sz)) (XC (va_A WS sz)) mc ms (va_A WS sz) := by
  refine vx_ofW (cc := cc) (maxL := maxL) (ret := ret) hy hw ?_
  intro p e s m args below meth c s₁ B hml hout hv
  obtain ⟨rfl, ⟨hsz, hP, hK, hD0⟩, hk⟩ := hv
  subst hsz
  rw [lg_entry_eq]
  exact body p e s m below meth c (va_A WS s.heap.size) _ s.heap [] ⟨B.exec, B.bytes, B.returns, atoms_spec (ws := ws) B.pre, findClass_of_methodNamed B.named, B.notSynchronized, hml, (name_of_methodNamed B.named B.method).1⟩ hout hk (fun q h => Or.inr h) va_S.rf hP hK hD0.self (lv_entry av hlen)
theorem sx_ofWT {l : Launch} {y : MethodName} {ws ws' : List Cond} {rm : Room} {D : va_G} {cl : List vw_C} {tys : List (ClassId × FieldType)} {av : List Value} {WS : va_W} {sz sa : Nat} {Qc : (Nat → Prop) → Array Value → State → Outcome → State → Prop} {mc ms : Nat} {cc : ByteArray} {maxL : Nat} {ret : Option FieldType} {hh : List (Nat × Nat × Nat × Nat)}
    (hy : plainName y.cls = true) (hw : ws = Cond.codeWith y cc maxL ret hh :: ws') (hlen : (lg_sl av).length ≤ maxL)
    (body : ∀ (p : Program) (e : Env) (s : State) (m : MethodId) (below : List Frame) (meth : Method) (c : Code) (A : Nat → Prop) (ls : Array Slot) (H : Heap) (locs : List Loc), sp_C cc ret maxL ws y.cls y.name p s m av.toArray meth c → c.exceptionTable.toList = tableOf hh → kx A sa s.heap s → (∀ q : Nat, s.heap.size ≤ q → A q) → va_S A s.heap H locs → va_P D cl WS H → va_K D cl tys s → va_D A WS → lv_has ls maxL (lv_args 0 av) →
      W p l e rm s m av.toArray below meth c H locs 0 0 (MQ below (Qc A) av.toArray s mc ms A) (F0 m 0 ls [])) :
    Met l y ws rm (va_Pc av (fun U => sp_pre D cl tys WS sz U ∧ kx (va_A WS sz) sa U.heap U)) (Qc (va_A WS sz)) mc ms (va_A WS sz) := by
  refine va_MetW (cc := cc) (maxL := maxL) (ret := ret) (hh := hh) hy hw ?_
  intro p e s m args below meth c s₁ B hml hv
  obtain ⟨rfl, ⟨hsz, hP, hK, hD0⟩, hk⟩ := hv
  subst hsz
  have hts := atoms_spec (ws := ws) B.pre
  have htab : c.exceptionTable.toList = tableOf hh := vx_table (x := y) B (hts (Cond.codeWith y cc maxL ret hh) (by rw [hw]; exact List.mem_cons_self))
  rw [lg_entry_eq]
  exact body p e s m below meth c (va_A WS s.heap.size) _ s.heap [] ⟨B.exec, B.bytes, B.returns, hts, findClass_of_methodNamed B.named, B.notSynchronized, hml, (name_of_methodNamed B.named B.method).1⟩ htab hk (fun q h => Or.inr h) va_S.rf hP hK hD0.self (lv_entry av hlen)
theorem sp_arrI {args : Array Value} {s : State} (h : (Cond.arrayClass .int).before args s = true) : ∃ cA : ClassId, ArrOfT s cA .int ∧ va_RA s cA .int := by
  obtain ⟨c, k, comp, h1, h2, h3⟩ := Cond.arrayClass_spec h
  exact ⟨c, fun n z => ⟨fun k h => (by cases h), k, h2, comp, h3⟩, h1⟩
theorem sp_arrJ {args : Array Value} {s : State} (h : (Cond.arrayClass .long).before args s = true) : ∃ cA : ClassId, ArrOfT s cA .long ∧ va_RA s cA .long := by
  obtain ⟨c, k, comp, h1, h2, h3⟩ := Cond.arrayClass_spec h
  exact ⟨c, fun n z => ⟨fun k h => (by cases h), k, h2, comp, h3⟩, h1⟩
theorem sp_arrZ {args : Array Value} {s : State} (h : (Cond.arrayClass .boolean).before args s = true) : ∃ cA : ClassId, ArrOfT s cA .boolean ∧ va_RA s cA .boolean := by
  obtain ⟨c, k, comp, h1, h2, h3⟩ := Cond.arrayClass_spec h
  exact ⟨c, fun n z => ⟨fun k h => (by cases h), k, h2, comp, h3⟩, h1⟩
theorem tvx : ∀ w ∈ (vx_atS RX7 169 "java/lang/ArithmeticException" ["java/lang/RuntimeException", "java/lang/Exception"]).filter goodWord, w ∈ lw_tbl := by decide +kernel
def oX7_width : List Cond := [.fieldLink RX7 30 "FloatSolver" "ranges" "LFloatSolver$Box;", .fieldLink RX7 172 "FloatSolver$Box" "high" "[I", .fieldLink RX7 164 "FloatSolver$Box" "low" "[I", .classLink RX7 165 "java/lang/ArithmeticException", .initialized "java/lang/ArithmeticException", .constantLong RX7 95 (-9223372036854775808)]
def wpX7_width : List Cond := .code yX7_width cX7_width 3 (some .long) :: (oX7_width ++ (wsX70 ++ (wsX10 ++ ((va_wsS RX7 56 yX7_isVariable wpX7_isVariable) ++ (((vx_atS RX7 169 "java/lang/ArithmeticException" ["java/lang/RuntimeException", "java/lang/Exception"]).filter goodWord) ++ ([] : List Cond))))))
theorem oX7_width_in : ∀ w ∈ oX7_width, w ∈ wpX7_width := fun w h => List.mem_cons_of_mem _ (List.mem_append_left _ h)
theorem gwoX7_width : ∀ w ∈ oX7_width, goodWord w = true := by decide +kernel
theorem gwX7_width : ∀ w ∈ wpX7_width, goodWord w = true := by
  unfold wpX7_width
  exact List.forall_mem_cons.mpr ⟨rfl, List.forall_mem_append.mpr ⟨gwoX7_width, List.forall_mem_append.mpr ⟨gwX7, List.forall_mem_append.mpr ⟨gwX1, List.forall_mem_append.mpr ⟨(sp_gS gwX7_isVariable), List.forall_mem_append.mpr ⟨(fun w h => (List.mem_filter.mp h).2), fun _ h => absurd h List.not_mem_nil⟩⟩⟩⟩⟩⟩
set_option maxRecDepth 100000 in
theorem toX7_width : ∀ w ∈ oX7_width, w ∈ lw_tbl := by
  unfold oX7_width
  exact List.forall_mem_cons.mpr ⟨(List.mem_of_getElem? (i := 241) (by decide +kernel)), List.forall_mem_cons.mpr ⟨(List.mem_of_getElem? (i := 141) (by decide +kernel)), List.forall_mem_cons.mpr ⟨(List.mem_of_getElem? (i := 137) (by decide +kernel)), List.forall_mem_cons.mpr ⟨(List.mem_of_getElem? (i := 609) (by decide +kernel)), List.forall_mem_cons.mpr ⟨(List.mem_of_getElem? (i := 54) (by decide +kernel)), List.forall_mem_cons.mpr ⟨(List.mem_of_getElem? (i := 329) (by decide +kernel)), fun _ h => absurd h List.not_mem_nil⟩⟩⟩⟩⟩⟩
set_option maxRecDepth 100000 in
theorem tX7_width : ∀ w ∈ wpX7_width, w ∈ lw_tbl := by
  unfold wpX7_width
  exact List.forall_mem_cons.mpr ⟨(List.mem_of_getElem? (i := 608) (by rfl)), List.forall_mem_append.mpr ⟨toX7_width, List.forall_mem_append.mpr ⟨in_wsX70, List.forall_mem_append.mpr ⟨in_wsX10, List.forall_mem_append.mpr ⟨(sp_tS (List.mem_of_getElem? (i := 262) (by decide +kernel)) (List.mem_of_getElem? (i := 263) (by decide +kernel)) (List.mem_of_getElem? (i := 38) (by decide +kernel)) tX7_isVariable), List.forall_mem_append.mpr ⟨tvx, fun _ h => absurd h List.not_mem_nil⟩⟩⟩⟩⟩⟩
theorem iX7_width_X7 : ∀ w ∈ wsX70, w ∈ wpX7_width := fun w h => List.mem_cons_of_mem _ (List.mem_append_right _ (List.mem_append_left _ h))
theorem iX7_width_X1 : ∀ w ∈ wsX10, w ∈ wpX7_width := fun w h => List.mem_cons_of_mem _ (List.mem_append_right _ (List.mem_append_right _ (List.mem_append_left _ h)))
theorem gX7_width_X7_isVariable_56 : GoodIn wpX7_width (va_wsS RX7 56 yX7_isVariable wpX7_isVariable) := fun w h => ⟨List.mem_cons_of_mem _ (List.mem_append_right _ (List.mem_append_right _ (List.mem_append_right _ (List.mem_append_left _ h)))), good_of_word (sp_gS gwX7_isVariable w h)⟩
theorem xX7_width_in : ∀ w ∈ ((vx_atS RX7 169 "java/lang/ArithmeticException" ["java/lang/RuntimeException", "java/lang/Exception"]).filter goodWord), w ∈ wpX7_width := fun w h => List.mem_cons_of_mem _ (List.mem_append_right _ (List.mem_append_right _ (List.mem_append_right _ (List.mem_append_right _ (List.mem_append_left _ h)))))
set_option maxHeartbeats 4000000 in
set_option maxRecDepth 100000 in
theorem c_X7_width (l : Launch) (hst : l.stackTraces = false) (D : va_G) (cI cJ cZ : ClassId) (sz : Nat) (h oN oR oB oS oP oQ : Nat) (b0 b1 : Nat) (fb gb : Nat → Int32) (sa : Nat) (v n : Int32) : vx_Met l yX7_width wpX7_width ({ frames := 6, cells := 1, slots := 6, locals := 90 }) (va_Pc [.ref h, .int v, .int n] ((fun U => sp_pre D vwCl (sp_ty cI cJ cZ) [(h, .inr (5, [.ref oN, .ref oR, .ref oB, .ref oS, .ref oP, .ref oQ])), (oB, .inr (0, [.ref b0, .ref b1])), (b0, .inl (cI, 4, .inl fb)), (b1, .inl (cI, 4, .inl gb))] sz U ∧ kx (va_A [(h, .inr (5, [.ref oN, .ref oR, .ref oB, .ref oS, .ref oP, .ref oQ])), (oB, .inr (0, [.ref b0, .ref b1])), (b0, .inl (cI, 4, .inl fb)), (b1, .inl (cI, 4, .inl gb))] sz) sa U.heap U))) (va_Ql (fun (r : Int64) (_ : Unit) => (¬ (0 ≤ v.toInt ∧ v.toInt < 4) ∧ r = -9223372036854775808) ∨ ((0 ≤ v.toInt ∧ v.toInt < 4) ∧ ¬ n.toInt = 0 ∧ r = ((((gb (v : Int32).toNatClampNeg) : Int32).toInt64 - ((fb (v : Int32).toNatClampNeg) : Int32).toInt64) + 1) / (n : Int32).toInt64)) (sp_B D vwCl (va_A [(h, .inr (5, [.ref oN, .ref oR, .ref oB, .ref oS, .ref oP, .ref oQ])), (oB, .inr (0, [.ref b0, .ref b1])), (b0, .inl (cI, 4, .inl fb)), (b1, .inl (cI, 4, .inl gb))] sz) (fun (_ : Unit) => [(h, .inr (5, [.ref oN, .ref oR, .ref oB, .ref oS, .ref oP, .ref oQ])), (oB, .inr (0, [.ref b0, .ref b1])), (b0, .inl (cI, 4, .inl fb)), (b1, .inl (cI, 4, .inl gb))])) (va_A [(h, .inr (5, [.ref oN, .ref oR, .ref oB, .ref oS, .ref oP, .ref oQ])), (oB, .inr (0, [.ref b0, .ref b1])), (b0, .inl (cI, 4, .inl fb)), (b1, .inl (cI, 4, .inl gb))] sz)) ((fun A => vx_X (S := Unit) (fun _ => (0 ≤ v.toInt ∧ v.toInt < 4) ∧ n.toInt = 0) (fun E _ t => E = "java/lang/ArithmeticException" ∧ va_P D vwCl [(h, .inr (5, [.ref oN, .ref oR, .ref oB, .ref oS, .ref oP, .ref oQ])), (oB, .inr (0, [.ref b0, .ref b1])), (b0, .inl (cI, 4, .inl fb)), (b1, .inl (cI, 4, .inl gb))] t.heap ∧ va_D A [(h, .inr (5, [.ref oN, .ref oR, .ref oB, .ref oS, .ref oP, .ref oQ])), (oB, .inr (0, [.ref b0, .ref b1])), (b0, .inl (cI, 4, .inl fb)), (b1, .inl (cI, 4, .inl gb))]) A) (va_A [(h, .inr (5, [.ref oN, .ref oR, .ref oB, .ref oS, .ref oP, .ref oQ])), (oB, .inr (0, [.ref b0, .ref b1])), (b0, .inl (cI, 4, .inl fb)), (b1, .inl (cI, 4, .inl gb))] sz)) 1 6 (va_A [(h, .inr (5, [.ref oN, .ref oR, .ref oB, .ref oS, .ref oP, .ref oQ])), (oB, .inr (0, [.ref b0, .ref b1])), (b0, .inl (cI, 4, .inl fb)), (b1, .inl (cI, 4, .inl gb))] sz) := by
  refine sx_ofWK (XC := (fun A => vx_X (S := Unit) (fun _ => (0 ≤ v.toInt ∧ v.toInt < 4) ∧ n.toInt = 0) (fun E _ t => E = "java/lang/ArithmeticException" ∧ va_P D vwCl [(h, .inr (5, [.ref oN, .ref oR, .ref oB, .ref oS, .ref oP, .ref oQ])), (oB, .inr (0, [.ref b0, .ref b1])), (b0, .inl (cI, 4, .inl fb)), (b1, .inl (cI, 4, .inl gb))] t.heap ∧ va_D A [(h, .inr (5, [.ref oN, .ref oR, .ref oB, .ref oS, .ref oP, .ref oQ])), (oB, .inr (0, [.ref b0, .ref b1])), (b0, .inl (cI, 4, .inl fb)), (b1, .inl (cI, 4, .inl gb))]) A)) (Qc := fun A => va_Ql (fun (r : Int64) (_ : Unit) => (¬ (0 ≤ v.toInt ∧ v.toInt < 4) ∧ r = -9223372036854775808) ∨ ((0 ≤ v.toInt ∧ v.toInt < 4) ∧ ¬ n.toInt = 0 ∧ r = ((((gb (v : Int32).toNatClampNeg) : Int32).toInt64 - ((fb (v : Int32).toNatClampNeg) : Int32).toInt64) + 1) / (n : Int32).toInt64)) (sp_B D vwCl A (fun (_ : Unit) => [(h, .inr (5, [.ref oN, .ref oR, .ref oB, .ref oS, .ref oP, .ref oQ])), (oB, .inr (0, [.ref b0, .ref b1])), (b0, .inl (cI, 4, .inl fb)), (b1, .inl (cI, 4, .inl gb))])) A) (by decide) rfl (Nat.le_of_ble_eq_true rfl) (fun p e s m below meth c A ls H locs C0 hout hk hA hS hP hK hD hl => ?_)
  obtain ⟨hx, hb, hr, hts, hown, hlocks, hml, hin⟩ := C0
  have hown : s.vm.findClass RX7 = some m.cls := hown
  have hl : lv_has ls 3 [(0, .ref h), (1, .int v), (2, .int n)] := hl
  have hK : va_K D vwCl [(cI, .int), (cJ, .long), (cZ, .boolean)] s := hK
  refine lv_iload_n hx hb dX7_width_0 rfl (lv_at hl 1 rfl) ?_
  refine sp_calli (wr := [(h, .inr (5, [.ref oN, .ref oR, .ref oB, .ref oS, .ref oP, .ref oQ])), (oB, .inr (0, [.ref b0, .ref b1])), (b0, .inl (cI, 4, .inl fb)), (b1, .inl (cI, 4, .inl gb))]) (wc := []) hP hD hS hA [] [0, 1, 2, 3] rfl rfl (by decide) (by decide) (va_runS (As := [.int v]) (rest := []) ⟨hx, hb, hml, hown, hts⟩ (c_X7_isVariable l D cI cJ cZ H.size v) (va_cwS 1 hts gX7_width_X7_isVariable_56 rfl rfl rfl (by decide +kernel) ⟨Nat.le_of_ble_eq_true rfl, Nat.le_of_ble_eq_true rfl⟩) (sp_preS [.int v] hK (hP.sub (ws' := []) [] rfl) (hD.sub (ws' := []) [] (by decide) rfl)) rfl rfl hl.1 rfl (lv_room (Nat.le_of_ble_eq_true rfl)) dX7_width_1 ⟨Nat.le_of_ble_eq_true rfl, Nat.le_of_ble_eq_true rfl⟩) (fun r1 u2 H locs hw3 hP hD hS => ?_)
  obtain ⟨hq_3_0, hm_1_⟩ : r1 = (kX7_isVariable v) ∧ _ := hw3
  subst r1
  have hm_1_i : (((kX7_isVariable v) : Int32).toInt = 1 ∧ (0 ≤ (v : Int32).toInt ∧ (v : Int32).toInt < 4)) ∨ (((kX7_isVariable v) : Int32).toInt = 0 ∧ ¬ (0 ≤ (v : Int32).toInt ∧ (v : Int32).toInt < 4)) := sp_bool hm_1_
  have hP : va_P D vwCl [(h, .inr (5, [.ref oN, .ref oR, .ref oB, .ref oS, .ref oP, .ref oQ])), (oB, .inr (0, [.ref b0, .ref b1])), (b0, .inl (cI, 4, .inl fb)), (b1, .inl (cI, 4, .inl gb))] H := hP
  have hD : va_D A [(h, .inr (5, [.ref oN, .ref oR, .ref oB, .ref oS, .ref oP, .ref oQ])), (oB, .inr (0, [.ref b0, .ref b1])), (b0, .inl (cI, 4, .inl fb)), (b1, .inl (cI, 4, .inl gb))] := hD
  refine lv_if_ne (tgt := 11) hx hb dX7_width_4 (by decide) (fun c4 => ?_) (fun c4 => ?_)
  · skip
    have c4i : ¬ ((kX7_isVariable v) : Int32).toInt = 0 := fun h => c4 (Int32.toInt_inj.mp h)
    refine lv_iload_n hx hb dX7_width_11 rfl (lv_at hl 2 rfl) ?_
    refine lv_if_ne (tgt := 25) hx hb dX7_width_12 (by decide) (fun c5 => ?_) (fun c5 => ?_)
    · skip
      have c5i : ¬ (n : Int32).toInt = 0 := fun h => c5 (Int32.toInt_inj.mp h)
      refine lv_aload_n hx hb dX7_width_25 rfl (lv_at hl 0 rfl) ?_
      refine va_get (D := D) (ci := 5) (v := .ref oB) (C := RX7) (T := TX7) (N := 6) hx hb hts iX7_width_X7 hown hK hP 0 rfl rfl 2 (by decide) (hts (.fieldLink RX7 30 "FloatSolver" "ranges" "LFloatSolver$Box;") (oX7_width_in _ (List.mem_of_getElem? (i := 0) rfl))) (fun _ h9 => h9) rfl dX7_width_26 ?_
      refine va_get (D := D) (ci := 0) (v := .ref b1) (C := RX1) (T := TX1) (N := 2) hx hb hts iX7_width_X1 hown hK hP 1 rfl rfl 1 (by decide) (hts (.fieldLink RX7 172 "FloatSolver$Box" "high" "[I") (oX7_width_in _ (List.mem_of_getElem? (i := 1) rfl))) (fun _ h9 => h9) rfl dX7_width_29 ?_
      refine lv_iload_n hx hb dX7_width_32 rfl (lv_at hl 1 rfl) ?_
      refine va_iald hx hb hK hP 3 0 rfl rfl (vp_in_iff.mpr ⟨by omega, by omega⟩) dX7_width_33 ?_
      refine lv_i2l (v := _) hx hb dX7_width_34 rfl ?_
      refine lv_aload_n hx hb dX7_width_35 rfl (lv_at hl 0 rfl) ?_
      refine va_get (D := D) (ci := 5) (v := .ref oB) (C := RX7) (T := TX7) (N := 6) hx hb hts iX7_width_X7 hown hK hP 0 rfl rfl 2 (by decide) (hts (.fieldLink RX7 30 "FloatSolver" "ranges" "LFloatSolver$Box;") (oX7_width_in _ (List.mem_of_getElem? (i := 0) rfl))) (fun _ h9 => h9) rfl dX7_width_36 ?_
      refine va_get (D := D) (ci := 0) (v := .ref b0) (C := RX1) (T := TX1) (N := 2) hx hb hts iX7_width_X1 hown hK hP 1 rfl rfl 0 (by decide) (hts (.fieldLink RX7 164 "FloatSolver$Box" "low" "[I") (oX7_width_in _ (List.mem_of_getElem? (i := 2) rfl))) (fun _ h9 => h9) rfl dX7_width_39 ?_
      refine lv_iload_n hx hb dX7_width_42 rfl (lv_at hl 1 rfl) ?_
      refine va_iald hx hb hK hP 2 0 rfl rfl (vp_in_iff.mpr ⟨by omega, by omega⟩) dX7_width_43 ?_
      refine lv_i2l (v := _) hx hb dX7_width_44 rfl ?_
      refine lv_lsub hx hb dX7_width_45 ?_
      refine lv_lconst (v := 1) hx hb dX7_width_46 (by decide) ?_
      refine lv_ladd hx hb dX7_width_47 ?_
      refine lv_iload_n hx hb dX7_width_48 rfl (lv_at hl 2 rfl) ?_
      refine lv_i2l (v := _) hx hb dX7_width_49 rfl ?_
      refine lv_ldiv hx hb dX7_width_50 (px_ne0 (by omega)) ?_
      refine W.widen (k := 1) (n := 6) (by decide) (by decide) ?_
      refine vx_ret ?_
      exact sp_lret (u := ()) hx hb hr hlocks hS (Or.inr ⟨by omega, by omega, rfl⟩) (hP.sub [0, 1, 2, 3] rfl) (hD.sub [0, 1, 2, 3] (by decide) rfl) dX7_width_51
    · skip
      have c5i : (n : Int32).toInt = 0 := congrArg Int32.toInt c5
      have hPx : va_P D vwCl [(h, .inr (5, [.ref oN, .ref oR, .ref oB, .ref oS, .ref oP, .ref oQ])), (oB, .inr (0, [.ref b0, .ref b1])), (b0, .inl (cI, 4, .inl fb)), (b1, .inl (cI, 4, .inl gb))] H := hP.sub [0, 1, 2, 3] rfl
      have hDx : va_D A [(h, .inr (5, [.ref oN, .ref oR, .ref oB, .ref oS, .ref oP, .ref oQ])), (oB, .inr (0, [.ref b0, .ref b1])), (b0, .inl (cI, 4, .inl fb)), (b1, .inl (cI, 4, .inl gb))] := hD.sub [0, 1, 2, 3] (by decide) rfl
      exact vx_throwS (cls := "java/lang/ArithmeticException") (names := ["java/lang/RuntimeException", "java/lang/Exception"]) (ik := 165) (is := 167) (ic := 169) (text := "a width is asked for by 0") (sa := sa) (A := A) hx hb hst hown (by decide +kernel) (by decide +kernel) (hts (.classLink RX7 165 "java/lang/ArithmeticException") (oX7_width_in _ (List.mem_of_getElem? (i := 3) rfl))) (hts (.initialized "java/lang/ArithmeticException") (oX7_width_in _ (List.mem_of_getElem? (i := 4) rfl))) hk.1 (vx_hat (B := [.castable "java/lang/ArithmeticException" "java/lang/ArithmeticException", .declares (Bundle.initS "java/lang/RuntimeException"), .declares (Bundle.initS "java/lang/Exception"), .declares (Bundle.initS Bundle.tN)]) (fun w h => hts w (xX7_width_in w h)) (by decide +kernel) (vx_c (va_Nw.use rfl hk.2.2.2.1) (vx_c (va_Nw.use rfl hk.2.2.2.2.1) (vx_c (va_Nw.use rfl hk.2.2.2.2.2.1) (vx_c (va_Nw.use rfl hk.2.2.2.2.2.2) vx_n))))) (by decide +kernel) hk.2.1 hk.2.2.1 hS (by rw [hml]; exact hl.1) dX7_width_15 dX7_width_18 dX7_width_19 dX7_width_21 dX7_width_24 (fun x h9 => (hout x h9).elim) (by decide) (by decide) (by decide) (by decide) hlocks (fun t _ hsz hq => ⟨(), by omega, ⟨rfl, hPx.kept (fun k q h => hq q.1 (hPx k q h).lt), hDx⟩, Nat.le_trans hS.1 hsz, fun q h1 h2 => (hq q (Nat.lt_of_lt_of_le h1 hS.1)).trans (hS.2.1 q h1 h2)⟩) hS.2.2 (by decide) (by decide)
  · skip
    have c4i : ((kX7_isVariable v) : Int32).toInt = 0 := congrArg Int32.toInt c4
    refine lv_ldc2 (v := (-9223372036854775808)) hx hb hown (hts (.constantLong RX7 95 (-9223372036854775808)) (oX7_width_in _ (List.mem_of_getElem? (i := 5) rfl))) dX7_width_7 ?_
    refine W.widen (k := 1) (n := 6) (by decide) (by decide) ?_
    refine vx_ret ?_
    exact sp_lret (u := ()) hx hb hr hlocks hS (Or.inl ⟨by omega, rfl⟩) (hP.sub [0, 1, 2, 3] rfl) (hD.sub [0, 1, 2, 3] (by decide) rfl) dX7_width_10
def oL_width : List Cond := [.classLink RL 13 "java/lang/ArithmeticException"]
def wpL_width : List Cond := .codeWith yL_width cL_width 5 (some .int) [(0, 9, 12, 13)] :: (oL_width ++ ((wsV RL 7 RX7 yX7_width wpX7_width) ++ ([] : List Cond)))
theorem oL_width_in : ∀ w ∈ oL_width, w ∈ wpL_width := fun w h => List.mem_cons_of_mem _ (List.mem_append_left _ h)
theorem gwoL_width : ∀ w ∈ oL_width, goodWord w = true := by decide +kernel
theorem gwL_width : ∀ w ∈ wpL_width, goodWord w = true := by
  unfold wpL_width
  exact List.forall_mem_cons.mpr ⟨rfl, List.forall_mem_append.mpr ⟨gwoL_width, List.forall_mem_append.mpr ⟨(sp_gV gwX7_width), fun _ h => absurd h List.not_mem_nil⟩⟩⟩
set_option maxRecDepth 100000 in
theorem toL_width : ∀ w ∈ oL_width, w ∈ lw_tbl := by
  unfold oL_width
  exact List.forall_mem_cons.mpr ⟨(List.mem_of_getElem? (i := 604) (by decide +kernel)), fun _ h => absurd h List.not_mem_nil⟩
set_option maxRecDepth 100000 in
theorem tL_width : ∀ w ∈ wpL_width, w ∈ lw_tbl := by
  unfold wpL_width
  exact List.forall_mem_cons.mpr ⟨(List.mem_of_getElem? (i := 603) (by rfl)), List.forall_mem_append.mpr ⟨toL_width, List.forall_mem_append.mpr ⟨(sp_tV (List.mem_of_getElem? (i := 605) (by decide +kernel)) (List.mem_of_getElem? (i := 606) (by decide +kernel)) (List.mem_of_getElem? (i := 607) (by decide +kernel)) (List.mem_of_getElem? (i := 38) (by decide +kernel)) tX7_width), fun _ h => absurd h List.not_mem_nil⟩⟩⟩
theorem gL_width_X7_width_7 : GoodIn wpL_width (wsV RL 7 RX7 yX7_width wpX7_width) := fun w h => ⟨List.mem_cons_of_mem _ (List.mem_append_right _ (List.mem_append_left _ h)), good_of_word (sp_gV gwX7_width w h)⟩
set_option maxHeartbeats 4000000 in
set_option maxRecDepth 100000 in
theorem c_L_width (l : Launch) (hst : l.stackTraces = false) (D : va_G) (cI cJ cZ : ClassId) (sz : Nat) (h oN oR0 oB0 oS oP oQ o : Nat) (b0 b1 : Nat) (fb gb : Nat → Int32) (sa : Nat) (fo : Nat → Int64) (v n : Int32) : Met l yL_width wpL_width ({ frames := 7, cells := 1, slots := 6, locals := 130 }) (va_Pc [.ref h, .int v, .int n, .ref o] ((fun U => sp_pre D vwCl (sp_ty cI cJ cZ) [(h, .inr (5, [.ref oN, .ref oR0, .ref oB0, .ref oS, .ref oP, .ref oQ])), (oB0, .inr (0, [.ref b0, .ref b1])), (b0, .inl (cI, 4, .inl fb)), (b1, .inl (cI, 4, .inl gb)), (o, .inl (cJ, 1, .inr (.inl fo)))] sz U ∧ kx (va_A [(h, .inr (5, [.ref oN, .ref oR0, .ref oB0, .ref oS, .ref oP, .ref oQ])), (oB0, .inr (0, [.ref b0, .ref b1])), (b0, .inl (cI, 4, .inl fb)), (b1, .inl (cI, 4, .inl gb)), (o, .inl (cJ, 1, .inr (.inl fo)))] sz) sa U.heap U))) (va_Qi (fun (r : Int32) (u : Nat → Int64) => (¬ (0 ≤ v.toInt ∧ v.toInt < 4) ∧ r = 0 ∧ u 0 = -9223372036854775808) ∨ ((0 ≤ v.toInt ∧ v.toInt < 4) ∧ n.toInt = 0 ∧ r = 1) ∨ ((0 ≤ v.toInt ∧ v.toInt < 4) ∧ ¬ n.toInt = 0 ∧ r = 0 ∧ u 0 = ((((gb (v : Int32).toNatClampNeg) : Int32).toInt64 - ((fb (v : Int32).toNatClampNeg) : Int32).toInt64) + 1) / (n : Int32).toInt64)) (sp_B D vwCl (va_A [(h, .inr (5, [.ref oN, .ref oR0, .ref oB0, .ref oS, .ref oP, .ref oQ])), (oB0, .inr (0, [.ref b0, .ref b1])), (b0, .inl (cI, 4, .inl fb)), (b1, .inl (cI, 4, .inl gb)), (o, .inl (cJ, 1, .inr (.inl fo)))] sz) (fun (u : Nat → Int64) => [(h, .inr (5, [.ref oN, .ref oR0, .ref oB0, .ref oS, .ref oP, .ref oQ])), (oB0, .inr (0, [.ref b0, .ref b1])), (b0, .inl (cI, 4, .inl fb)), (b1, .inl (cI, 4, .inl gb)), (o, .inl (cJ, 1, .inr (.inl u)))])) (va_A [(h, .inr (5, [.ref oN, .ref oR0, .ref oB0, .ref oS, .ref oP, .ref oQ])), (oB0, .inr (0, [.ref b0, .ref b1])), (b0, .inl (cI, 4, .inl fb)), (b1, .inl (cI, 4, .inl gb)), (o, .inl (cJ, 1, .inr (.inl fo)))] sz)) 1 6 (va_A [(h, .inr (5, [.ref oN, .ref oR0, .ref oB0, .ref oS, .ref oP, .ref oQ])), (oB0, .inr (0, [.ref b0, .ref b1])), (b0, .inl (cI, 4, .inl fb)), (b1, .inl (cI, 4, .inl gb)), (o, .inl (cJ, 1, .inr (.inl fo)))] sz) := by
  refine sx_ofWT (Qc := fun A => va_Qi (fun (r : Int32) (u : Nat → Int64) => (¬ (0 ≤ v.toInt ∧ v.toInt < 4) ∧ r = 0 ∧ u 0 = -9223372036854775808) ∨ ((0 ≤ v.toInt ∧ v.toInt < 4) ∧ n.toInt = 0 ∧ r = 1) ∨ ((0 ≤ v.toInt ∧ v.toInt < 4) ∧ ¬ n.toInt = 0 ∧ r = 0 ∧ u 0 = ((((gb (v : Int32).toNatClampNeg) : Int32).toInt64 - ((fb (v : Int32).toNatClampNeg) : Int32).toInt64) + 1) / (n : Int32).toInt64)) (sp_B D vwCl A (fun (u : Nat → Int64) => [(h, .inr (5, [.ref oN, .ref oR0, .ref oB0, .ref oS, .ref oP, .ref oQ])), (oB0, .inr (0, [.ref b0, .ref b1])), (b0, .inl (cI, 4, .inl fb)), (b1, .inl (cI, 4, .inl gb)), (o, .inl (cJ, 1, .inr (.inl u)))])) A) (by decide) rfl (Nat.le_of_ble_eq_true rfl) (fun p e s m below meth c A ls H locs C0 htab hk hA hS hP hK hD hl => ?_)
  obtain ⟨hx, hb, hr, hts, hown, hlocks, hml, hin⟩ := C0
  have hown : s.vm.findClass RL = some m.cls := hown
  have hl : lv_has ls 5 [(0, .ref h), (1, .int v), (2, .int n), (3, .ref o)] := hl
  have hK : va_K D vwCl [(cI, .int), (cJ, .long), (cZ, .boolean)] s := hK
  refine lv_aload_n hx hb dL_width_0 rfl (lv_at hl 3 rfl) ?_
  refine lv_iconst (v := 0) hx hb dL_width_1 (by decide) ?_
  refine lv_aload_n hx hb dL_width_2 rfl (lv_at hl 0 rfl) ?_
  refine lv_iload_n hx hb dL_width_3 rfl (lv_at hl 1 rfl) ?_
  refine lv_iload_n hx hb dL_width_4 rfl (lv_at hl 2 rfl) ?_
  have hPc := hP.sub (ws' := [(h, .inr (5, [.ref oN, .ref oR0, .ref oB0, .ref oS, .ref oP, .ref oQ])), (oB0, .inr (0, [.ref b0, .ref b1])), (b0, .inl (cI, 4, .inl fb)), (b1, .inl (cI, 4, .inl gb))]) [0, 1, 2, 3] rfl
  have hDc := hD.sub (ws' := [(h, .inr (5, [.ref oN, .ref oR0, .ref oB0, .ref oS, .ref oP, .ref oQ])), (oB0, .inr (0, [.ref b0, .ref b1])), (b0, .inl (cI, 4, .inl fb)), (b1, .inl (cI, 4, .inl gb))]) [0, 1, 2, 3] (by decide) rfl
  have hFc := va_free (wc := [(h, .inr (5, [.ref oN, .ref oR0, .ref oB0, .ref oS, .ref oP, .ref oQ])), (oB0, .inr (0, [.ref b0, .ref b1])), (b0, .inl (cI, 4, .inl fb)), (b1, .inl (cI, 4, .inl gb))]) hD hS hA [0, 1, 2, 3] rfl
  have hpre := sp_preSK (K := fun U => kx (va_A [(h, .inr (5, [.ref oN, .ref oR0, .ref oB0, .ref oS, .ref oP, .ref oQ])), (oB0, .inr (0, [.ref b0, .ref b1])), (b0, .inl (cI, 4, .inl fb)), (b1, .inl (cI, 4, .inl gb))] H.size) sa U.heap U) [.ref h, .int v, .int n] hK hPc hDc (fun U g mk a => kx_blind U g mk a) (fun U hU hW => kx_go hk hS hFc hU hW)
  refine vx_calll (vx_runV (As := [.int v, .int n]) (rest := [.int 0, .ref o]) ⟨hx, hb, hml, hown, hts⟩ (c_X7_width l hst D cI cJ cZ H.size h oN oR0 oB0 oS oP oQ b0 b1 fb gb sa v n) (cwV 2 hts gL_width_X7_width_7 rfl rfl rfl (by decide +kernel) ⟨Nat.le_of_ble_eq_true rfl, Nat.le_of_ble_eq_true rfl⟩) ⟨hpre.1, va_recv hK hPc (ci := 5) (q0 := 0) rfl rfl, hpre.2⟩ rfl rfl hl.1 rfl (lv_room (Nat.le_of_ble_eq_true rfl)) dL_width_5 ⟨Nat.le_of_ble_eq_true rfl, Nat.le_of_ble_eq_true rfl⟩) hS (fun q _ h => hFc q h) hFc (fun q _ h => hFc q h) (fun E ce q9 u t H1 locs1 ht hvm hpx hBX hz hk1 hS1 hce hcv hcl => ?_) (fun r1 u t H1 locs1 ht hvm hw hB hz hk1 hS1 => ?_)
  · skip
    obtain ⟨hE9, hP1, hD1⟩ : E = "java/lang/ArithmeticException" ∧ va_P D vwCl [(h, .inr (5, [.ref oN, .ref oR0, .ref oB0, .ref oS, .ref oP, .ref oQ])), (oB0, .inr (0, [.ref b0, .ref b1])), (b0, .inl (cI, 4, .inl fb)), (b1, .inl (cI, 4, .inl gb))] t.heap ∧ va_D (va_A [(h, .inr (5, [.ref oN, .ref oR0, .ref oB0, .ref oS, .ref oP, .ref oQ])), (oB0, .inr (0, [.ref b0, .ref b1])), (b0, .inl (cI, 4, .inl fb)), (b1, .inl (cI, 4, .inl gb))] H.size) [(h, .inr (5, [.ref oN, .ref oR0, .ref oB0, .ref oS, .ref oP, .ref oQ])), (oB0, .inr (0, [.ref b0, .ref b1])), (b0, .inl (cI, 4, .inl fb)), (b1, .inl (cI, 4, .inl gb))] := hBX
    subst hE9
    have hpx : (0 ≤ v.toInt ∧ v.toInt < 4) ∧ n.toInt = 0 := hpx
    rw [ht] at hP1
    obtain ⟨hP, hD⟩ := va_join (wr := [(o, .inl (cJ, 1, .inr (.inl fo)))]) (w1 := [(h, .inr (5, [.ref oN, .ref oR0, .ref oB0, .ref oS, .ref oP, .ref oQ])), (oB0, .inr (0, [.ref b0, .ref b1])), (b0, .inl (cI, 4, .inl fb)), (b1, .inl (cI, 4, .inl gb))]) hP hD [0, 1, 2, 3] [4] rfl rfl (by decide) (by decide) hk1 hFc hP1 hD1
    clear ht hP1
    generalize H1 = H at hP hS1 hce ⊢
    have hS := hS1
    have hP : va_P D vwCl [(o, .inl (cJ, 1, .inr (.inl fo))), (h, .inr (5, [.ref oN, .ref oR0, .ref oB0, .ref oS, .ref oP, .ref oQ])), (oB0, .inr (0, [.ref b0, .ref b1])), (b0, .inl (cI, 4, .inl fb)), (b1, .inl (cI, 4, .inl gb))] H := hP
    have hD : va_D A [(o, .inl (cJ, 1, .inr (.inl fo))), (h, .inr (5, [.ref oN, .ref oR0, .ref oB0, .ref oS, .ref oP, .ref oQ])), (oB0, .inr (0, [.ref b0, .ref b1])), (b0, .inl (cI, 4, .inl fb)), (b1, .inl (cI, 4, .inl gb))] := hD
    refine vx_widen (k := 1) (n := 6) (by decide) (by decide) ?_
    refine sx_catch (own := RL) (name := "java/lang/ArithmeticException") hown { startPc := 0, endPc := 9, handlerPc := 12, catchType := 13 } [] htab (by decide) (by decide) (hts (.classLink RL 13 "java/lang/ArithmeticException") (oL_width_in _ (List.mem_of_getElem? (i := 0) rfl))) (va_Nw.use rfl hk.2.2.2.1) hce hcv hcl ?_
    refine lv_astore (lv' := [(4, .ref q9), (0, .ref h), (1, .int v), (2, .int n), (3, .ref o)]) hx hb dL_width_12 hl (by decide) rfl (fun ls hl => ?_)
    refine lv_iconst (v := 1) hx hb dL_width_14 (by decide) ?_
    refine W.widen (k := 1) (n := 6) (by decide) (by decide) ?_
    exact sp_iret (u := fo) hx hb hr hlocks hS (Or.inr (Or.inl ⟨hpx.1, hpx.2, rfl⟩)) (hP.sub [1, 2, 3, 4, 0] rfl) (hD.sub [1, 2, 3, 4, 0] (by decide) rfl) dL_width_15
  · skip
    obtain ⟨hP1, hD1⟩ : va_P D vwCl [(h, .inr (5, [.ref oN, .ref oR0, .ref oB0, .ref oS, .ref oP, .ref oQ])), (oB0, .inr (0, [.ref b0, .ref b1])), (b0, .inl (cI, 4, .inl fb)), (b1, .inl (cI, 4, .inl gb))] t.heap ∧ va_D (va_A [(h, .inr (5, [.ref oN, .ref oR0, .ref oB0, .ref oS, .ref oP, .ref oQ])), (oB0, .inr (0, [.ref b0, .ref b1])), (b0, .inl (cI, 4, .inl fb)), (b1, .inl (cI, 4, .inl gb))] H.size) [(h, .inr (5, [.ref oN, .ref oR0, .ref oB0, .ref oS, .ref oP, .ref oQ])), (oB0, .inr (0, [.ref b0, .ref b1])), (b0, .inl (cI, 4, .inl fb)), (b1, .inl (cI, 4, .inl gb))] := hB
    rw [ht] at hP1
    obtain ⟨hP, hD⟩ := va_join (wr := [(o, .inl (cJ, 1, .inr (.inl fo)))]) (w1 := [(h, .inr (5, [.ref oN, .ref oR0, .ref oB0, .ref oS, .ref oP, .ref oQ])), (oB0, .inr (0, [.ref b0, .ref b1])), (b0, .inl (cI, 4, .inl fb)), (b1, .inl (cI, 4, .inl gb))]) hP hD [0, 1, 2, 3] [4] rfl rfl (by decide) (by decide) hk1 hFc hP1 hD1
    clear ht hP1
    generalize H1 = H at hP hS1 ⊢
    have hS := hS1
    have hP : va_P D vwCl [(o, .inl (cJ, 1, .inr (.inl fo))), (h, .inr (5, [.ref oN, .ref oR0, .ref oB0, .ref oS, .ref oP, .ref oQ])), (oB0, .inr (0, [.ref b0, .ref b1])), (b0, .inl (cI, 4, .inl fb)), (b1, .inl (cI, 4, .inl gb))] H := hP
    have hD : va_D A [(o, .inl (cJ, 1, .inr (.inl fo))), (h, .inr (5, [.ref oN, .ref oR0, .ref oB0, .ref oS, .ref oP, .ref oQ])), (oB0, .inr (0, [.ref b0, .ref b1])), (b0, .inl (cI, 4, .inl fb)), (b1, .inl (cI, 4, .inl gb))] := hD
    refine W.widen (k := 1) (n := 6) (by decide) (by decide) ?_
    refine va_last hx hb hK hP hD hS 0 1 rfl rfl (by unfold vp_in; decide) dL_width_8 (fun H locs hP hD hS => ?_)
    obtain ⟨f1, ef2⟩ : ∃ z9 : Nat → Int64, z9 = vp_updL fo (0 : Int32).toNatClampNeg r1 := ⟨_, rfl⟩
    rw [← ef2] at hP hD
    have hP : va_P D vwCl [(o, .inl (cJ, 1, .inr (.inl f1))), (h, .inr (5, [.ref oN, .ref oR0, .ref oB0, .ref oS, .ref oP, .ref oQ])), (oB0, .inr (0, [.ref b0, .ref b1])), (b0, .inl (cI, 4, .inl fb)), (b1, .inl (cI, 4, .inl gb))] H := hP
    have hD : va_D A [(o, .inl (cJ, 1, .inr (.inl f1))), (h, .inr (5, [.ref oN, .ref oR0, .ref oB0, .ref oS, .ref oP, .ref oQ])), (oB0, .inr (0, [.ref b0, .ref b1])), (b0, .inl (cI, 4, .inl fb)), (b1, .inl (cI, 4, .inl gb))] := hD
    refine lv_goto (tgt := 16) hx hb dL_width_9 (by decide) ?_
    refine lv_iconst (v := 0) hx hb dL_width_16 (by decide) ?_
    refine W.widen (k := 1) (n := 6) (by decide) (by decide) ?_
    exact sp_iret (u := f1) hx hb hr hlocks hS (hw.elim (fun h => Or.inl ⟨h.1, rfl, by rw [ef2]; exact h.2⟩) (fun h => Or.inr (Or.inr ⟨h.1, h.2.1, rfl, by rw [ef2]; exact h.2.2⟩))) (hP.sub [1, 2, 3, 4, 0] rfl) (hD.sub [1, 2, 3, 4, 0] (by decide) rfl) dL_width_17
