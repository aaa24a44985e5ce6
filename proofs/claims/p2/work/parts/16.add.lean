def oX3_link : List Cond := [.fieldLink RX3 28 "FloatSolver$Nodes" "users" "[J", .fieldLink RX3 24 "FloatSolver$Nodes" "rests" "[J", .fieldLink RX3 9 "FloatSolver$Nodes" "kind" "[I", .fieldLink RX3 15 "FloatSolver$Nodes" "x" "[I", .fieldLink RX3 18 "FloatSolver$Nodes" "y" "[I"]
def wpX3_link : List Cond := .code yX3_link cX3_link 5 none :: (oX3_link ++ (wsX30 ++ ((va_wsS RX3 49 yX3_looksAtX wpX3_looksAtX) ++ ([] : List Cond))))
theorem oX3_link_in : ∀ w ∈ oX3_link, w ∈ wpX3_link := fun w h => List.mem_cons_of_mem _ (List.mem_append_left _ h)
theorem gwoX3_link : ∀ w ∈ oX3_link, goodWord w = true := by decide +kernel
theorem gwX3_link : ∀ w ∈ wpX3_link, goodWord w = true := by
  unfold wpX3_link
  exact List.forall_mem_cons.mpr ⟨rfl, List.forall_mem_append.mpr ⟨gwoX3_link, List.forall_mem_append.mpr ⟨gwX3, List.forall_mem_append.mpr ⟨(sp_gS gwX3_looksAtX), fun _ h => absurd h List.not_mem_nil⟩⟩⟩⟩
set_option maxRecDepth 100000 in
theorem toX3_link : ∀ w ∈ oX3_link, w ∈ lw_tbl := by
  unfold oX3_link
  exact List.forall_mem_cons.mpr ⟨(List.mem_of_getElem? (i := 81) (by decide +kernel)), List.forall_mem_cons.mpr ⟨(List.mem_of_getElem? (i := 78) (by decide +kernel)), List.forall_mem_cons.mpr ⟨(List.mem_of_getElem? (i := 69) (by decide +kernel)), List.forall_mem_cons.mpr ⟨(List.mem_of_getElem? (i := 71) (by decide +kernel)), List.forall_mem_cons.mpr ⟨(List.mem_of_getElem? (i := 73) (by decide +kernel)), fun _ h => absurd h List.not_mem_nil⟩⟩⟩⟩⟩
set_option maxRecDepth 100000 in
theorem tX3_link : ∀ w ∈ wpX3_link, w ∈ lw_tbl := by
  unfold wpX3_link
  exact List.forall_mem_cons.mpr ⟨(List.mem_of_getElem? (i := 289) (by rfl)), List.forall_mem_append.mpr ⟨toX3_link, List.forall_mem_append.mpr ⟨in_wsX30, List.forall_mem_append.mpr ⟨(sp_tS (List.mem_of_getElem? (i := 290) (by decide +kernel)) (List.mem_of_getElem? (i := 266) (by decide +kernel)) (List.mem_of_getElem? (i := 39) (by decide +kernel)) tX3_looksAtX), fun _ h => absurd h List.not_mem_nil⟩⟩⟩⟩
theorem iX3_link_X3 : ∀ w ∈ wsX30, w ∈ wpX3_link := fun w h => List.mem_cons_of_mem _ (List.mem_append_right _ (List.mem_append_left _ h))
theorem gX3_link_X3_looksAtX_49 : GoodIn wpX3_link (va_wsS RX3 49 yX3_looksAtX wpX3_looksAtX) := fun w h => ⟨List.mem_cons_of_mem _ (List.mem_append_right _ (List.mem_append_right _ (List.mem_append_left _ h))), good_of_word (sp_gS gwX3_looksAtX w h)⟩
set_option maxHeartbeats 4000000 in
set_option maxRecDepth 100000 in
theorem lp_X3_link_79 {p : Program} {e : Env} {s : State} {m : MethodId} {below : List Frame} {meth : Method} {c : Code} {A : Nat → Prop} (l : Launch) (D : va_G) (cI cJ cZ : ClassId) (oN n0 n1 n2 n3 n4 n5 : Nat) (k0 : Nat → Int32) (k1 : Nat → Int32) (k2 : Nat → Int32) (k3 : Nat → Int32) (k4 : Nat → Int64) (k5 : Nat → Int64) (i : Int32) (cn : Int32) (ri_i : 0 ≤ (i : Int32).toInt ∧ (i : Int32).toInt < 40) (hlk : (((k0 (i : Int32).toNatClampNeg) : Int32).toInt = 1 → 0 ≤ ((k1 (i : Int32).toNatClampNeg) : Int32).toInt ∧ ((k1 (i : Int32).toNatClampNeg) : Int32).toInt < 4) ∧ (2 ≤ ((k0 (i : Int32).toNatClampNeg) : Int32).toInt → (0 ≤ ((k1 (i : Int32).toNatClampNeg) : Int32).toInt ∧ ((k1 (i : Int32).toNatClampNeg) : Int32).toInt < 40) ∧ (0 ≤ ((k2 (i : Int32).toNatClampNeg) : Int32).toInt ∧ ((k2 (i : Int32).toNatClampNeg) : Int32).toInt < 40))) (C0 : sp_C cX3_link none 5 wpX3_link yX3_link.cls yX3_link.name p s m ([.ref oN, .int i] : List Value).toArray meth c) (hA : ∀ q : Nat, s.heap.size ≤ q → A q) (hK : va_K D vwCl [(cI, .int), (cJ, .long), (cZ, .boolean)] s) :
    ∀ (fuel : Nat) (bt : Int64) (v : Int32) (g4 : Nat → Int64) (g5 : Nat → Int64) (H : Heap) (locs : List Loc) (ls : Array Slot), (0 ≤ (v : Int32).toInt) → ((v : Int32).toInt ≤ 4) → (4 - (v : Int32).toInt < (fuel : Int)) → va_P D vwCl [(oN, .inr (1, [.ref n0, .ref n1, .ref n2, .ref n3, .ref n4, .ref n5, .int cn])), (n0, .inl (cI, 40, .inl k0)), (n1, .inl (cI, 40, .inl k1)), (n2, .inl (cI, 40, .inl k2)), (n3, .inl (cI, 40, .inl k3)), (n4, .inl (cJ, 40, .inr (.inl g4))), (n5, .inl (cJ, 4, .inr (.inl g5)))] H → va_D A [(oN, .inr (1, [.ref n0, .ref n1, .ref n2, .ref n3, .ref n4, .ref n5, .int cn])), (n0, .inl (cI, 40, .inl k0)), (n1, .inl (cI, 40, .inl k1)), (n2, .inl (cI, 40, .inl k2)), (n3, .inl (cI, 40, .inl k3)), (n4, .inl (cJ, 40, .inr (.inl g4))), (n5, .inl (cJ, 4, .inr (.inl g5)))] → va_S A s.heap H locs → lv_has ls 5 [(0, .ref oN), (1, .int i), (2, .long bt), (4, .int v)] → W p l e ({ frames := 1, cells := 0, slots := 0, locals := 20 }) s m (([.ref oN, .int i] : List Value).toArray) below meth c H locs 0 0 (MQ below (va_Qv (fun (u : (Nat → Int64) × (Nat → Int64)) => match u with | (g4, g5) => True) (sp_B D vwCl A (fun (u : (Nat → Int64) × (Nat → Int64)) => match u with | (g4, g5) => [(oN, .inr (1, [.ref n0, .ref n1, .ref n2, .ref n3, .ref n4, .ref n5, .int cn])), (n0, .inl (cI, 40, .inl k0)), (n1, .inl (cI, 40, .inl k1)), (n2, .inl (cI, 40, .inl k2)), (n3, .inl (cI, 40, .inl k3)), (n4, .inl (cJ, 40, .inr (.inl g4))), (n5, .inl (cJ, 4, .inr (.inl g5)))])) A) ([.ref oN, .int i] : List Value).toArray s 0 0 A) (F0 m 79 ls []) := by
  obtain ⟨hx, hb, hr, hts, hown, hlocks, hml, hin⟩ := id C0
  have hown : s.vm.findClass RX3 = some m.cls := hown
  intro fuel
  induction fuel with
  | zero =>
    intro bt v g4 g5 H locs ls h0 h1 hm
    exact absurd hm (by omega)
  | succ fuel ih =>
    intro bt v g4 g5 H locs ls h0 h1 hm hP hD hS hl
    refine lv_iload hx hb dX3_link_79 (lv_at hl 3 rfl) ?_
    refine lv_iconst (v := 4) hx hb dX3_link_81 (by decide) ?_
    refine lv_icmp_ge (tgt := 121) hx hb dX3_link_82 (by decide) (fun c1 => ?_) (fun c1 => ?_)
    · skip
      have c1i : 4 ≤ (v : Int32).toInt := Int32.le_iff_toInt_le.mp c1
      refine W.widen (k := 0) (n := 0) (by decide) (by decide) ?_
      exact sp_vret (u := (g4, g5)) hx hb hr hlocks hS trivial (hP.sub [0, 1, 2, 3, 4, 5, 6] rfl) (hD.sub [0, 1, 2, 3, 4, 5, 6] (by decide) rfl) dX3_link_121
    · skip
      have c1i : ¬ 4 ≤ (v : Int32).toInt := fun h => c1 (Int32.le_iff_toInt_le.mpr h)
      refine lv_aload_n hx hb dX3_link_85 rfl (lv_at hl 0 rfl) ?_
      refine va_get (D := D) (ci := 1) (v := .ref n5) (C := RX3) (T := TX3) (N := 7) hx hb hts iX3_link_X3 hown hK hP 0 rfl rfl 5 (by decide) (hts (.fieldLink RX3 28 "FloatSolver$Nodes" "users" "[J") (oX3_link_in _ (List.mem_of_getElem? (i := 0) rfl))) (fun _ h9 => h9) rfl dX3_link_86 ?_
      refine lv_iload hx hb dX3_link_89 (lv_at hl 3 rfl) ?_
      refine va_lald hx hb hK hP 6 1 rfl rfl (vp_in_iff.mpr ⟨by omega, by omega⟩) dX3_link_91 ?_
      refine lv_aload_n hx hb dX3_link_92 rfl (lv_at hl 0 rfl) ?_
      refine va_get (D := D) (ci := 1) (v := .ref n4) (C := RX3) (T := TX3) (N := 7) hx hb hts iX3_link_X3 hown hK hP 0 rfl rfl 4 (by decide) (hts (.fieldLink RX3 24 "FloatSolver$Nodes" "rests" "[J") (oX3_link_in _ (List.mem_of_getElem? (i := 1) rfl))) (fun _ h9 => h9) rfl dX3_link_93 ?_
      refine lv_iload_n hx hb dX3_link_96 rfl (lv_at hl 1 rfl) ?_
      refine va_lald hx hb hK hP 5 1 rfl rfl (vp_in_iff.mpr ⟨by omega, by omega⟩) dX3_link_97 ?_
      refine lv_land hx hb dX3_link_98 ?_
      refine lv_lconst (v := 0) hx hb dX3_link_99 (by decide) ?_
      refine W.lcmp hx hb dX3_link_100 ?_
      have hj9 : ∀ (f8 : Nat → Int64) (H : Heap) (locs : List Loc) (ls : Array Slot), va_P D vwCl [(oN, .inr (1, [.ref n0, .ref n1, .ref n2, .ref n3, .ref n4, .ref n5, .int cn])), (n0, .inl (cI, 40, .inl k0)), (n1, .inl (cI, 40, .inl k1)), (n2, .inl (cI, 40, .inl k2)), (n3, .inl (cI, 40, .inl k3)), (n4, .inl (cJ, 40, .inr (.inl g4))), (n5, .inl (cJ, 4, .inr (.inl f8)))] H → va_D A [(oN, .inr (1, [.ref n0, .ref n1, .ref n2, .ref n3, .ref n4, .ref n5, .int cn])), (n0, .inl (cI, 40, .inl k0)), (n1, .inl (cI, 40, .inl k1)), (n2, .inl (cI, 40, .inl k2)), (n3, .inl (cI, 40, .inl k3)), (n4, .inl (cJ, 40, .inr (.inl g4))), (n5, .inl (cJ, 4, .inr (.inl f8)))] → va_S A s.heap H locs → lv_has ls 5 [(0, .ref oN), (1, .int i), (2, .long bt), (4, .int v)] → W p l e ({ frames := 1, cells := 0, slots := 0, locals := 20 }) s m (([.ref oN, .int i] : List Value).toArray) below meth c H locs 0 0 (MQ below (va_Qv (fun (u : (Nat → Int64) × (Nat → Int64)) => match u with | (g4, g5) => True) (sp_B D vwCl A (fun (u : (Nat → Int64) × (Nat → Int64)) => match u with | (g4, g5) => [(oN, .inr (1, [.ref n0, .ref n1, .ref n2, .ref n3, .ref n4, .ref n5, .int cn])), (n0, .inl (cI, 40, .inl k0)), (n1, .inl (cI, 40, .inl k1)), (n2, .inl (cI, 40, .inl k2)), (n3, .inl (cI, 40, .inl k3)), (n4, .inl (cJ, 40, .inr (.inl g4))), (n5, .inl (cJ, 4, .inr (.inl g5)))])) A) ([.ref oN, .int i] : List Value).toArray s 0 0 A) (F0 m 115 ls []) := by
        intro f8 H locs ls  hP hD hS hl
        obtain ⟨y10, e11⟩ : ∃ y : Int32, y = v + 1 := ⟨_, rfl⟩
        refine lv_iinc (v := y10) (lv' := [(4, .int y10), (0, .ref oN), (1, .int i), (2, .long bt)]) hx hb dX3_link_115 hl (k := 3) rfl (by rw [e11]; rfl) (by decide) rfl (fun ls hl => ?_)
        have iy10 : (y10 : Int32).toInt = (v : Int32).toInt + 1 := by rw [e11]; exact px_iadd (show -2147483648 ≤ (v : Int32).toInt + 1 by omega) (show (v : Int32).toInt + 1 < 2147483648 by omega)
        refine lv_goto (tgt := 79) hx hb dX3_link_118 (by decide) ?_
        exact ih (bt) (y10) (g4) (f8) _ _ _ (by first | assumption | omega) (by first | assumption | omega) (by omega) (hP.sub [0, 1, 2, 3, 4, 5, 6] rfl) (hD.sub [0, 1, 2, 3, 4, 5, 6] (by decide) rfl) hS (lv_sub hl [1, 2, 3, 0] rfl)
      refine lv_if_eq (tgt := 115) hx hb dX3_link_101 (by decide) (fun c3 => ?_) (fun c3 => ?_)
      · skip
        have c3 := (lg_cmp_eq _ _).mp c3
        have c3i : (((g5 (v : Int32).toNatClampNeg) &&& (g4 (i : Int32).toNatClampNeg)) : Int64).toInt = 0 := congrArg Int64.toInt c3
        exact hj9 (g5) _ _ _ (hP.sub [0, 1, 2, 3, 4, 5, 6] rfl) (hD.sub [0, 1, 2, 3, 4, 5, 6] (by decide) rfl) hS (lv_sub hl [0, 1, 2, 3] rfl)
      · skip
        have c3 := fun h => c3 ((lg_cmp_eq _ _).mpr h)
        have c3i : ¬ (((g5 (v : Int32).toNatClampNeg) &&& (g4 (i : Int32).toNatClampNeg)) : Int64).toInt = 0 := fun h => c3 (Int64.toInt_inj.mp h)
        refine lv_aload_n hx hb dX3_link_104 rfl (lv_at hl 0 rfl) ?_
        refine va_get (D := D) (ci := 1) (v := .ref n5) (C := RX3) (T := TX3) (N := 7) hx hb hts iX3_link_X3 hown hK hP 0 rfl rfl 5 (by decide) (hts (.fieldLink RX3 28 "FloatSolver$Nodes" "users" "[J") (oX3_link_in _ (List.mem_of_getElem? (i := 0) rfl))) (fun _ h9 => h9) rfl dX3_link_105 ?_
        refine lv_iload hx hb dX3_link_108 (lv_at hl 3 rfl) ?_
        refine lv_dup2_11 hx hb dX3_link_110 rfl rfl ?_
        refine va_lald hx hb hK hP 6 1 rfl rfl (vp_in_iff.mpr ⟨by omega, by omega⟩) dX3_link_111 ?_
        refine lv_lload_n hx hb dX3_link_112 rfl (lv_at hl 2 rfl) ?_
        refine lv_lor hx hb dX3_link_113 ?_
        refine va_last hx hb hK hP hD hS 6 1 rfl rfl (vp_in_iff.mpr ⟨by omega, by omega⟩) dX3_link_114 (fun H locs hP hD hS => ?_)
        obtain ⟨f5, ef6⟩ : ∃ z9 : Nat → Int64, z9 = vp_updL g5 (v : Int32).toNatClampNeg ((g5 (v : Int32).toNatClampNeg) ||| bt) := ⟨_, rfl⟩
        rw [← ef6] at hP hD
        have hP : va_P D vwCl [(oN, .inr (1, [.ref n0, .ref n1, .ref n2, .ref n3, .ref n4, .ref n5, .int cn])), (n0, .inl (cI, 40, .inl k0)), (n1, .inl (cI, 40, .inl k1)), (n2, .inl (cI, 40, .inl k2)), (n3, .inl (cI, 40, .inl k3)), (n4, .inl (cJ, 40, .inr (.inl g4))), (n5, .inl (cJ, 4, .inr (.inl f5)))] H := hP
        have hD : va_D A [(oN, .inr (1, [.ref n0, .ref n1, .ref n2, .ref n3, .ref n4, .ref n5, .int cn])), (n0, .inl (cI, 40, .inl k0)), (n1, .inl (cI, 40, .inl k1)), (n2, .inl (cI, 40, .inl k2)), (n3, .inl (cI, 40, .inl k3)), (n4, .inl (cJ, 40, .inr (.inl g4))), (n5, .inl (cJ, 4, .inr (.inl f5)))] := hD
        exact hj9 (f5) _ _ _ (hP.sub [0, 1, 2, 3, 4, 5, 6] rfl) (hD.sub [0, 1, 2, 3, 4, 5, 6] (by decide) rfl) hS (lv_sub hl [0, 1, 2, 3] rfl)
set_option maxHeartbeats 4000000 in
set_option maxRecDepth 100000 in
theorem c_X3_link (l : Launch) (D : va_G) (cI cJ cZ : ClassId) (sz : Nat) (oN n0 n1 n2 n3 n4 n5 : Nat) (k0 : Nat → Int32) (k1 : Nat → Int32) (k2 : Nat → Int32) (k3 : Nat → Int32) (k4 : Nat → Int64) (k5 : Nat → Int64) (i : Int32) (cn : Int32) (ri_i : 0 ≤ (i : Int32).toInt ∧ (i : Int32).toInt < 40) (hlk : (((k0 (i : Int32).toNatClampNeg) : Int32).toInt = 1 → 0 ≤ ((k1 (i : Int32).toNatClampNeg) : Int32).toInt ∧ ((k1 (i : Int32).toNatClampNeg) : Int32).toInt < 4) ∧ (2 ≤ ((k0 (i : Int32).toNatClampNeg) : Int32).toInt → (0 ≤ ((k1 (i : Int32).toNatClampNeg) : Int32).toInt ∧ ((k1 (i : Int32).toNatClampNeg) : Int32).toInt < 40) ∧ (0 ≤ ((k2 (i : Int32).toNatClampNeg) : Int32).toInt ∧ ((k2 (i : Int32).toNatClampNeg) : Int32).toInt < 40))) : Met l yX3_link wpX3_link ({ frames := 1, cells := 0, slots := 0, locals := 20 }) (va_Pc ([.ref oN, .int i] : List Value) (sp_pre D vwCl (sp_ty cI cJ cZ) [(oN, .inr (1, [.ref n0, .ref n1, .ref n2, .ref n3, .ref n4, .ref n5, .int cn])), (n0, .inl (cI, 40, .inl k0)), (n1, .inl (cI, 40, .inl k1)), (n2, .inl (cI, 40, .inl k2)), (n3, .inl (cI, 40, .inl k3)), (n4, .inl (cJ, 40, .inr (.inl k4))), (n5, .inl (cJ, 4, .inr (.inl k5)))] sz)) (va_Qv (fun (u : (Nat → Int64) × (Nat → Int64)) => match u with | (g4, g5) => True) (sp_B D vwCl (va_A [(oN, .inr (1, [.ref n0, .ref n1, .ref n2, .ref n3, .ref n4, .ref n5, .int cn])), (n0, .inl (cI, 40, .inl k0)), (n1, .inl (cI, 40, .inl k1)), (n2, .inl (cI, 40, .inl k2)), (n3, .inl (cI, 40, .inl k3)), (n4, .inl (cJ, 40, .inr (.inl k4))), (n5, .inl (cJ, 4, .inr (.inl k5)))] sz) (fun (u : (Nat → Int64) × (Nat → Int64)) => match u with | (g4, g5) => [(oN, .inr (1, [.ref n0, .ref n1, .ref n2, .ref n3, .ref n4, .ref n5, .int cn])), (n0, .inl (cI, 40, .inl k0)), (n1, .inl (cI, 40, .inl k1)), (n2, .inl (cI, 40, .inl k2)), (n3, .inl (cI, 40, .inl k3)), (n4, .inl (cJ, 40, .inr (.inl g4))), (n5, .inl (cJ, 4, .inr (.inl g5)))])) (va_A [(oN, .inr (1, [.ref n0, .ref n1, .ref n2, .ref n3, .ref n4, .ref n5, .int cn])), (n0, .inl (cI, 40, .inl k0)), (n1, .inl (cI, 40, .inl k1)), (n2, .inl (cI, 40, .inl k2)), (n3, .inl (cI, 40, .inl k3)), (n4, .inl (cJ, 40, .inr (.inl k4))), (n5, .inl (cJ, 4, .inr (.inl k5)))] sz)) 0 0 (va_A [(oN, .inr (1, [.ref n0, .ref n1, .ref n2, .ref n3, .ref n4, .ref n5, .int cn])), (n0, .inl (cI, 40, .inl k0)), (n1, .inl (cI, 40, .inl k1)), (n2, .inl (cI, 40, .inl k2)), (n3, .inl (cI, 40, .inl k3)), (n4, .inl (cJ, 40, .inr (.inl k4))), (n5, .inl (cJ, 4, .inr (.inl k5)))] sz) := by
  refine sp_ofW (Qc := fun A => va_Qv (fun (u : (Nat → Int64) × (Nat → Int64)) => match u with | (g4, g5) => True) (sp_B D vwCl A (fun (u : (Nat → Int64) × (Nat → Int64)) => match u with | (g4, g5) => [(oN, .inr (1, [.ref n0, .ref n1, .ref n2, .ref n3, .ref n4, .ref n5, .int cn])), (n0, .inl (cI, 40, .inl k0)), (n1, .inl (cI, 40, .inl k1)), (n2, .inl (cI, 40, .inl k2)), (n3, .inl (cI, 40, .inl k3)), (n4, .inl (cJ, 40, .inr (.inl g4))), (n5, .inl (cJ, 4, .inr (.inl g5)))])) A) (by decide) rfl (Nat.le_of_ble_eq_true rfl) (fun p e s m below meth c A ls H locs C0 hA hS hP hK hD hl => ?_)
  obtain ⟨hx, hb, hr, hts, hown, hlocks, hml, hin⟩ := id C0
  have hown : s.vm.findClass RX3 = some m.cls := hown
  have hl : lv_has ls 5 [(0, .ref oN), (1, .int i)] := hl
  have hK : va_K D vwCl [(cI, .int), (cJ, .long), (cZ, .boolean)] s := hK
  obtain ⟨hl1, hl2⟩ := id hlk
  refine lv_lconst (v := 1) hx hb dX3_link_0 (by decide) ?_
  refine lv_iload_n hx hb dX3_link_1 rfl (lv_at hl 1 rfl) ?_
  refine lv_lshl (v := _) hx hb dX3_link_2 rfl ?_
  refine lv_lstore_n (lv' := [(2, .long (1 <<< ((i : Int32).toInt64 &&& 63))), (0, .ref oN), (1, .int i)]) hx hb dX3_link_3 rfl hl (by decide) rfl (fun ls hl => ?_)
  refine lv_aload_n hx hb dX3_link_4 rfl (lv_at hl 1 rfl) ?_
  refine va_get (D := D) (ci := 1) (v := .ref n4) (C := RX3) (T := TX3) (N := 7) hx hb hts iX3_link_X3 hown hK hP 0 rfl rfl 4 (by decide) (hts (.fieldLink RX3 24 "FloatSolver$Nodes" "rests" "[J") (oX3_link_in _ (List.mem_of_getElem? (i := 1) rfl))) (fun _ h9 => h9) rfl dX3_link_5 ?_
  refine lv_iload_n hx hb dX3_link_8 rfl (lv_at hl 2 rfl) ?_
  refine lv_aload_n hx hb dX3_link_9 rfl (lv_at hl 1 rfl) ?_
  refine va_get (D := D) (ci := 1) (v := .ref n0) (C := RX3) (T := TX3) (N := 7) hx hb hts iX3_link_X3 hown hK hP 0 rfl rfl 0 (by decide) (hts (.fieldLink RX3 9 "FloatSolver$Nodes" "kind" "[I") (oX3_link_in _ (List.mem_of_getElem? (i := 2) rfl))) (fun _ h9 => h9) rfl dX3_link_10 ?_
  refine lv_iload_n hx hb dX3_link_13 rfl (lv_at hl 2 rfl) ?_
  refine va_iald hx hb hK hP 1 0 rfl rfl (vp_in_iff.mpr ⟨by omega, by omega⟩) dX3_link_14 ?_
  refine sp_calli (wr := [(oN, .inr (1, [.ref n0, .ref n1, .ref n2, .ref n3, .ref n4, .ref n5, .int cn])), (n0, .inl (cI, 40, .inl k0)), (n1, .inl (cI, 40, .inl k1)), (n2, .inl (cI, 40, .inl k2)), (n3, .inl (cI, 40, .inl k3)), (n4, .inl (cJ, 40, .inr (.inl k4))), (n5, .inl (cJ, 4, .inr (.inl k5)))]) (wc := []) hP hD hS hA [] [0, 1, 2, 3, 4, 5, 6] rfl rfl (by decide) (by decide) (va_runS (As := [.int (k0 (i : Int32).toNatClampNeg)]) (rest := [.int i, .ref n4]) ⟨hx, hb, hml, hown, hts⟩ (c_X3_looksAtX l D cI cJ cZ H.size ((k0 (i : Int32).toNatClampNeg))) (va_cwS 1 hts gX3_link_X3_looksAtX_49 rfl rfl rfl (by decide +kernel) ⟨Nat.le_of_ble_eq_true rfl, Nat.le_of_ble_eq_true rfl⟩) (sp_preS [.int (k0 (i : Int32).toNatClampNeg)] hK (hP.sub (ws' := []) [] rfl) (hD.sub (ws' := []) [] (by decide) rfl)) rfl rfl hl.1 rfl (lv_room (Nat.le_of_ble_eq_true rfl)) dX3_link_15 ⟨Nat.le_of_ble_eq_true rfl, Nat.le_of_ble_eq_true rfl⟩) (fun r1 u2 H locs hw3 hP hD hS => ?_)
  have h4 : ((r1 : Int32).toInt = 1 ∧ (2 ≤ ((k0 (i : Int32).toNatClampNeg) : Int32).toInt ∧ ((k0 (i : Int32).toNatClampNeg) : Int32).toInt ≤ 15)) ∨ ((r1 : Int32).toInt = 0 ∧ ¬ (2 ≤ ((k0 (i : Int32).toNatClampNeg) : Int32).toInt ∧ ((k0 (i : Int32).toNatClampNeg) : Int32).toInt ≤ 15)) := sp_bool hw3
  have hP : va_P D vwCl [(oN, .inr (1, [.ref n0, .ref n1, .ref n2, .ref n3, .ref n4, .ref n5, .int cn])), (n0, .inl (cI, 40, .inl k0)), (n1, .inl (cI, 40, .inl k1)), (n2, .inl (cI, 40, .inl k2)), (n3, .inl (cI, 40, .inl k3)), (n4, .inl (cJ, 40, .inr (.inl k4))), (n5, .inl (cJ, 4, .inr (.inl k5)))] H := hP
  have hD : va_D A [(oN, .inr (1, [.ref n0, .ref n1, .ref n2, .ref n3, .ref n4, .ref n5, .int cn])), (n0, .inl (cI, 40, .inl k0)), (n1, .inl (cI, 40, .inl k1)), (n2, .inl (cI, 40, .inl k2)), (n3, .inl (cI, 40, .inl k3)), (n4, .inl (cJ, 40, .inr (.inl k4))), (n5, .inl (cJ, 4, .inr (.inl k5)))] := hD
  have hj9 : ∀ (z8 : Int64) (H : Heap) (locs : List Loc) (ls : Array Slot), va_P D vwCl [(oN, .inr (1, [.ref n0, .ref n1, .ref n2, .ref n3, .ref n4, .ref n5, .int cn])), (n0, .inl (cI, 40, .inl k0)), (n1, .inl (cI, 40, .inl k1)), (n2, .inl (cI, 40, .inl k2)), (n3, .inl (cI, 40, .inl k3)), (n4, .inl (cJ, 40, .inr (.inl k4))), (n5, .inl (cJ, 4, .inr (.inl k5)))] H → va_D A [(oN, .inr (1, [.ref n0, .ref n1, .ref n2, .ref n3, .ref n4, .ref n5, .int cn])), (n0, .inl (cI, 40, .inl k0)), (n1, .inl (cI, 40, .inl k1)), (n2, .inl (cI, 40, .inl k2)), (n3, .inl (cI, 40, .inl k3)), (n4, .inl (cJ, 40, .inr (.inl k4))), (n5, .inl (cJ, 4, .inr (.inl k5)))] → va_S A s.heap H locs → lv_has ls 5 [(2, .long (1 <<< ((i : Int32).toInt64 &&& 63))), (0, .ref oN), (1, .int i)] → W p l e ({ frames := 1, cells := 0, slots := 0, locals := 20 }) s m (([.ref oN, .int i] : List Value).toArray) below meth c H locs 0 0 (MQ below (va_Qv (fun (u : (Nat → Int64) × (Nat → Int64)) => match u with | (g4, g5) => True) (sp_B D vwCl A (fun (u : (Nat → Int64) × (Nat → Int64)) => match u with | (g4, g5) => [(oN, .inr (1, [.ref n0, .ref n1, .ref n2, .ref n3, .ref n4, .ref n5, .int cn])), (n0, .inl (cI, 40, .inl k0)), (n1, .inl (cI, 40, .inl k1)), (n2, .inl (cI, 40, .inl k2)), (n3, .inl (cI, 40, .inl k3)), (n4, .inl (cJ, 40, .inr (.inl g4))), (n5, .inl (cJ, 4, .inr (.inl g5)))])) A) ([.ref oN, .int i] : List Value).toArray s 0 0 A) (F0 m 50 ls [.long z8, .int i, .ref n4]) := by
    intro z8 H locs ls  hP hD hS hl
    refine va_last hx hb hK hP hD hS 5 1 rfl rfl (vp_in_iff.mpr ⟨by omega, by omega⟩) dX3_link_50 (fun H locs hP hD hS => ?_)
    obtain ⟨f10, ef11⟩ : ∃ z9 : Nat → Int64, z9 = vp_updL k4 (i : Int32).toNatClampNeg z8 := ⟨_, rfl⟩
    rw [← ef11] at hP hD
    have hP : va_P D vwCl [(oN, .inr (1, [.ref n0, .ref n1, .ref n2, .ref n3, .ref n4, .ref n5, .int cn])), (n0, .inl (cI, 40, .inl k0)), (n1, .inl (cI, 40, .inl k1)), (n2, .inl (cI, 40, .inl k2)), (n3, .inl (cI, 40, .inl k3)), (n4, .inl (cJ, 40, .inr (.inl f10))), (n5, .inl (cJ, 4, .inr (.inl k5)))] H := hP
    have hD : va_D A [(oN, .inr (1, [.ref n0, .ref n1, .ref n2, .ref n3, .ref n4, .ref n5, .int cn])), (n0, .inl (cI, 40, .inl k0)), (n1, .inl (cI, 40, .inl k1)), (n2, .inl (cI, 40, .inl k2)), (n3, .inl (cI, 40, .inl k3)), (n4, .inl (cJ, 40, .inr (.inl f10))), (n5, .inl (cJ, 4, .inr (.inl k5)))] := hD
    refine lv_aload_n hx hb dX3_link_51 rfl (lv_at hl 1 rfl) ?_
    refine va_get (D := D) (ci := 1) (v := .ref n0) (C := RX3) (T := TX3) (N := 7) hx hb hts iX3_link_X3 hown hK hP 0 rfl rfl 0 (by decide) (hts (.fieldLink RX3 9 "FloatSolver$Nodes" "kind" "[I") (oX3_link_in _ (List.mem_of_getElem? (i := 2) rfl))) (fun _ h9 => h9) rfl dX3_link_52 ?_
    refine lv_iload_n hx hb dX3_link_55 rfl (lv_at hl 2 rfl) ?_
    refine va_iald hx hb hK hP 1 0 rfl rfl (vp_in_iff.mpr ⟨by omega, by omega⟩) dX3_link_56 ?_
    refine lv_iconst (v := 1) hx hb dX3_link_57 (by decide) ?_
    have hj18 : ∀ (f17 : Nat → Int64) (H : Heap) (locs : List Loc) (ls : Array Slot), va_P D vwCl [(oN, .inr (1, [.ref n0, .ref n1, .ref n2, .ref n3, .ref n4, .ref n5, .int cn])), (n0, .inl (cI, 40, .inl k0)), (n1, .inl (cI, 40, .inl k1)), (n2, .inl (cI, 40, .inl k2)), (n3, .inl (cI, 40, .inl k3)), (n4, .inl (cJ, 40, .inr (.inl f10))), (n5, .inl (cJ, 4, .inr (.inl f17)))] H → va_D A [(oN, .inr (1, [.ref n0, .ref n1, .ref n2, .ref n3, .ref n4, .ref n5, .int cn])), (n0, .inl (cI, 40, .inl k0)), (n1, .inl (cI, 40, .inl k1)), (n2, .inl (cI, 40, .inl k2)), (n3, .inl (cI, 40, .inl k3)), (n4, .inl (cJ, 40, .inr (.inl f10))), (n5, .inl (cJ, 4, .inr (.inl f17)))] → va_S A s.heap H locs → lv_has ls 5 [(2, .long (1 <<< ((i : Int32).toInt64 &&& 63))), (0, .ref oN), (1, .int i)] → W p l e ({ frames := 1, cells := 0, slots := 0, locals := 20 }) s m (([.ref oN, .int i] : List Value).toArray) below meth c H locs 0 0 (MQ below (va_Qv (fun (u : (Nat → Int64) × (Nat → Int64)) => match u with | (g4, g5) => True) (sp_B D vwCl A (fun (u : (Nat → Int64) × (Nat → Int64)) => match u with | (g4, g5) => [(oN, .inr (1, [.ref n0, .ref n1, .ref n2, .ref n3, .ref n4, .ref n5, .int cn])), (n0, .inl (cI, 40, .inl k0)), (n1, .inl (cI, 40, .inl k1)), (n2, .inl (cI, 40, .inl k2)), (n3, .inl (cI, 40, .inl k3)), (n4, .inl (cJ, 40, .inr (.inl g4))), (n5, .inl (cJ, 4, .inr (.inl g5)))])) A) ([.ref oN, .int i] : List Value).toArray s 0 0 A) (F0 m 76 ls []) := by
      intro f17 H locs ls  hP hD hS hl
      refine lv_iconst (v := 0) hx hb dX3_link_76 (by decide) ?_
      refine lv_istore (lv' := [(4, .int 0), (2, .long (1 <<< ((i : Int32).toInt64 &&& 63))), (0, .ref oN), (1, .int i)]) hx hb dX3_link_77 hl (by decide) rfl (fun ls hl => ?_)
      have kk19 : ((0) : Int32).toInt = (0) := by decide
      exact lp_X3_link_79 l D cI cJ cZ oN n0 n1 n2 n3 n4 n5 k0 k1 k2 k3 k4 k5 i cn ri_i hlk C0 hA hK 6 ((1 <<< ((i : Int32).toInt64 &&& 63))) (0) (f10) (f17) _ _ _ (by first | assumption | omega) (by first | assumption | omega) (by omega) (hP.sub [0, 1, 2, 3, 4, 5, 6] rfl) (hD.sub [0, 1, 2, 3, 4, 5, 6] (by decide) rfl) hS (lv_sub hl [2, 3, 1, 0] rfl)
    refine lv_icmp_ne (tgt := 76) hx hb dX3_link_58 (by decide) (fun c12 => ?_) (fun c12 => ?_)
    · skip
      have c12i : ¬ ((k0 (i : Int32).toNatClampNeg) : Int32).toInt = 1 := fun h => c12 (Int32.toInt_inj.mp h)
      exact hj18 (k5) _ _ _ (hP.sub [0, 1, 2, 3, 4, 5, 6] rfl) (hD.sub [0, 1, 2, 3, 4, 5, 6] (by decide) rfl) hS (lv_sub hl [0, 1, 2] rfl)
    · skip
      have c12i : ((k0 (i : Int32).toNatClampNeg) : Int32).toInt = 1 := congrArg Int32.toInt c12
      refine lv_aload_n hx hb dX3_link_61 rfl (lv_at hl 1 rfl) ?_
      refine va_get (D := D) (ci := 1) (v := .ref n5) (C := RX3) (T := TX3) (N := 7) hx hb hts iX3_link_X3 hown hK hP 0 rfl rfl 5 (by decide) (hts (.fieldLink RX3 28 "FloatSolver$Nodes" "users" "[J") (oX3_link_in _ (List.mem_of_getElem? (i := 0) rfl))) (fun _ h9 => h9) rfl dX3_link_62 ?_
      refine lv_aload_n hx hb dX3_link_65 rfl (lv_at hl 1 rfl) ?_
      refine va_get (D := D) (ci := 1) (v := .ref n1) (C := RX3) (T := TX3) (N := 7) hx hb hts iX3_link_X3 hown hK hP 0 rfl rfl 1 (by decide) (hts (.fieldLink RX3 15 "FloatSolver$Nodes" "x" "[I") (oX3_link_in _ (List.mem_of_getElem? (i := 3) rfl))) (fun _ h9 => h9) rfl dX3_link_66 ?_
      refine lv_iload_n hx hb dX3_link_69 rfl (lv_at hl 2 rfl) ?_
      refine va_iald hx hb hK hP 2 0 rfl rfl (vp_in_iff.mpr ⟨by omega, by omega⟩) dX3_link_70 ?_
      refine lv_dup2_11 hx hb dX3_link_71 rfl rfl ?_
      refine va_lald hx hb hK hP 6 1 rfl rfl (vp_in_iff.mpr ⟨by omega, by omega⟩) dX3_link_72 ?_
      refine lv_lload_n hx hb dX3_link_73 rfl (lv_at hl 0 rfl) ?_
      refine lv_lor hx hb dX3_link_74 ?_
      refine va_last hx hb hK hP hD hS 6 1 rfl rfl (vp_in_iff.mpr ⟨by omega, by omega⟩) dX3_link_75 (fun H locs hP hD hS => ?_)
      obtain ⟨f14, ef15⟩ : ∃ z9 : Nat → Int64, z9 = vp_updL k5 ((k1 (i : Int32).toNatClampNeg) : Int32).toNatClampNeg ((k5 ((k1 (i : Int32).toNatClampNeg) : Int32).toNatClampNeg) ||| (1 <<< ((i : Int32).toInt64 &&& 63))) := ⟨_, rfl⟩
      rw [← ef15] at hP hD
      have hP : va_P D vwCl [(oN, .inr (1, [.ref n0, .ref n1, .ref n2, .ref n3, .ref n4, .ref n5, .int cn])), (n0, .inl (cI, 40, .inl k0)), (n1, .inl (cI, 40, .inl k1)), (n2, .inl (cI, 40, .inl k2)), (n3, .inl (cI, 40, .inl k3)), (n4, .inl (cJ, 40, .inr (.inl f10))), (n5, .inl (cJ, 4, .inr (.inl f14)))] H := hP
      have hD : va_D A [(oN, .inr (1, [.ref n0, .ref n1, .ref n2, .ref n3, .ref n4, .ref n5, .int cn])), (n0, .inl (cI, 40, .inl k0)), (n1, .inl (cI, 40, .inl k1)), (n2, .inl (cI, 40, .inl k2)), (n3, .inl (cI, 40, .inl k3)), (n4, .inl (cJ, 40, .inr (.inl f10))), (n5, .inl (cJ, 4, .inr (.inl f14)))] := hD
      exact hj18 (f14) _ _ _ (hP.sub [0, 1, 2, 3, 4, 5, 6] rfl) (hD.sub [0, 1, 2, 3, 4, 5, 6] (by decide) rfl) hS (lv_sub hl [0, 1, 2] rfl)
  refine lv_if_eq (tgt := 49) hx hb dX3_link_18 (by decide) (fun c5 => ?_) (fun c5 => ?_)
  · skip
    have c5i : (r1 : Int32).toInt = 0 := congrArg Int32.toInt c5
    refine lv_lload_n hx hb dX3_link_49 rfl (lv_at hl 0 rfl) ?_
    exact hj9 ((1 <<< ((i : Int32).toInt64 &&& 63))) _ _ _ (hP.sub [0, 1, 2, 3, 4, 5, 6] rfl) (hD.sub [0, 1, 2, 3, 4, 5, 6] (by decide) rfl) hS (lv_sub hl [0, 1, 2] rfl)
  · skip
    have c5i : ¬ (r1 : Int32).toInt = 0 := fun h => c5 (Int32.toInt_inj.mp h)
    refine lv_lload_n hx hb dX3_link_21 rfl (lv_at hl 0 rfl) ?_
    refine lv_aload_n hx hb dX3_link_22 rfl (lv_at hl 1 rfl) ?_
    refine va_get (D := D) (ci := 1) (v := .ref n4) (C := RX3) (T := TX3) (N := 7) hx hb hts iX3_link_X3 hown hK hP 0 rfl rfl 4 (by decide) (hts (.fieldLink RX3 24 "FloatSolver$Nodes" "rests" "[J") (oX3_link_in _ (List.mem_of_getElem? (i := 1) rfl))) (fun _ h9 => h9) rfl dX3_link_23 ?_
    refine lv_aload_n hx hb dX3_link_26 rfl (lv_at hl 1 rfl) ?_
    refine va_get (D := D) (ci := 1) (v := .ref n1) (C := RX3) (T := TX3) (N := 7) hx hb hts iX3_link_X3 hown hK hP 0 rfl rfl 1 (by decide) (hts (.fieldLink RX3 15 "FloatSolver$Nodes" "x" "[I") (oX3_link_in _ (List.mem_of_getElem? (i := 3) rfl))) (fun _ h9 => h9) rfl dX3_link_27 ?_
    refine lv_iload_n hx hb dX3_link_30 rfl (lv_at hl 2 rfl) ?_
    refine va_iald hx hb hK hP 2 0 rfl rfl (vp_in_iff.mpr ⟨by omega, by omega⟩) dX3_link_31 ?_
    refine va_lald hx hb hK hP 5 1 rfl rfl (vp_in_iff.mpr ⟨by omega, by omega⟩) dX3_link_32 ?_
    refine lv_lor hx hb dX3_link_33 ?_
    refine lv_aload_n hx hb dX3_link_34 rfl (lv_at hl 1 rfl) ?_
    refine va_get (D := D) (ci := 1) (v := .ref n4) (C := RX3) (T := TX3) (N := 7) hx hb hts iX3_link_X3 hown hK hP 0 rfl rfl 4 (by decide) (hts (.fieldLink RX3 24 "FloatSolver$Nodes" "rests" "[J") (oX3_link_in _ (List.mem_of_getElem? (i := 1) rfl))) (fun _ h9 => h9) rfl dX3_link_35 ?_
    refine lv_aload_n hx hb dX3_link_38 rfl (lv_at hl 1 rfl) ?_
    refine va_get (D := D) (ci := 1) (v := .ref n2) (C := RX3) (T := TX3) (N := 7) hx hb hts iX3_link_X3 hown hK hP 0 rfl rfl 2 (by decide) (hts (.fieldLink RX3 18 "FloatSolver$Nodes" "y" "[I") (oX3_link_in _ (List.mem_of_getElem? (i := 4) rfl))) (fun _ h9 => h9) rfl dX3_link_39 ?_
    refine lv_iload_n hx hb dX3_link_42 rfl (lv_at hl 2 rfl) ?_
    refine va_iald hx hb hK hP 3 0 rfl rfl (vp_in_iff.mpr ⟨by omega, by omega⟩) dX3_link_43 ?_
    refine va_lald hx hb hK hP 5 1 rfl rfl (vp_in_iff.mpr ⟨by omega, by omega⟩) dX3_link_44 ?_
    refine lv_lor hx hb dX3_link_45 ?_
    refine lv_goto (tgt := 50) hx hb dX3_link_46 (by decide) ?_
    exact hj9 ((((1 <<< ((i : Int32).toInt64 &&& 63)) ||| (k4 ((k1 (i : Int32).toNatClampNeg) : Int32).toNatClampNeg)) ||| (k4 ((k2 (i : Int32).toNatClampNeg) : Int32).toNatClampNeg))) _ _ _ (hP.sub [0, 1, 2, 3, 4, 5, 6] rfl) (hD.sub [0, 1, 2, 3, 4, 5, 6] (by decide) rfl) hS (lv_sub hl [0, 1, 2] rfl)
theorem NI.add {c : Int32} {k x y : Nat → Int32} (h : NI c k x y) (hc : c.toInt < 40) {kk xx yy : Int32} (h0 : 0 ≤ kk.toInt ∧ kk.toInt ≤ 15) (h1 : kk.toInt = 1 → 0 ≤ xx.toInt ∧ xx.toInt < 4) (h2 : 2 ≤ kk.toInt → (0 ≤ xx.toInt ∧ xx.toInt < c.toInt) ∧ (0 ≤ yy.toInt ∧ yy.toInt < c.toInt)) : NI (c + 1) (upd k c.toNatClampNeg kk) (upd x c.toNatClampNeg xx) (upd y c.toNatClampNeg yy) := by
  obtain ⟨q0, q1, q2⟩ := h
  have e := px_cl q0
  have e1 : (c + 1).toInt = c.toInt + 1 := sp_inc (by omega)
  refine ⟨by omega, by omega, fun i hi => ?_⟩
  by_cases hj : i = c.toNatClampNeg
  · subst hj
    rw [px_updS, px_updS, px_updS]
    exact ⟨h0.1, h0.2, h1, fun hk => by have := h2 hk; omega⟩
  · rw [px_updO _ _ hj, px_updO _ _ hj, px_updO _ _ hj]
    exact q2 i (by omega)
def oX3_add : List Cond := [.fieldLink RX3 9 "FloatSolver$Nodes" "kind" "[I", .fieldLink RX3 31 "FloatSolver$Nodes" "count" "I", .fieldLink RX3 15 "FloatSolver$Nodes" "x" "[I", .fieldLink RX3 18 "FloatSolver$Nodes" "y" "[I", .constant RX3 41 (2143289344)]
def wpX3_add : List Cond := .code yX3_add cX3_add 4 (some .int) :: (oX3_add ++ (wsX30 ++ ((va_wsS RX3 42 yX3_looksAtY wpX3_looksAtY) ++ ((wsV RX3 45 RX3 yX3_link wpX3_link) ++ ((va_wsS RX3 35 yX2_isNone wpX2_isNone) ++ ([] : List Cond))))))
theorem oX3_add_in : ∀ w ∈ oX3_add, w ∈ wpX3_add := fun w h => List.mem_cons_of_mem _ (List.mem_append_left _ h)
theorem gwoX3_add : ∀ w ∈ oX3_add, goodWord w = true := by decide +kernel
theorem gwX3_add : ∀ w ∈ wpX3_add, goodWord w = true := by
  unfold wpX3_add
  exact List.forall_mem_cons.mpr ⟨rfl, List.forall_mem_append.mpr ⟨gwoX3_add, List.forall_mem_append.mpr ⟨gwX3, List.forall_mem_append.mpr ⟨(sp_gS gwX3_looksAtY), List.forall_mem_append.mpr ⟨(sp_gV gwX3_link), List.forall_mem_append.mpr ⟨(sp_gS gwX2_isNone), fun _ h => absurd h List.not_mem_nil⟩⟩⟩⟩⟩⟩
set_option maxRecDepth 100000 in
theorem toX3_add : ∀ w ∈ oX3_add, w ∈ lw_tbl := by
  unfold oX3_add
  exact List.forall_mem_cons.mpr ⟨(List.mem_of_getElem? (i := 69) (by decide +kernel)), List.forall_mem_cons.mpr ⟨(List.mem_of_getElem? (i := 83) (by decide +kernel)), List.forall_mem_cons.mpr ⟨(List.mem_of_getElem? (i := 71) (by decide +kernel)), List.forall_mem_cons.mpr ⟨(List.mem_of_getElem? (i := 73) (by decide +kernel)), List.forall_mem_cons.mpr ⟨(List.mem_of_getElem? (i := 284) (by decide +kernel)), fun _ h => absurd h List.not_mem_nil⟩⟩⟩⟩⟩
set_option maxRecDepth 100000 in
theorem tX3_add : ∀ w ∈ wpX3_add, w ∈ lw_tbl := by
  unfold wpX3_add
  exact List.forall_mem_cons.mpr ⟨(List.mem_of_getElem? (i := 278) (by rfl)), List.forall_mem_append.mpr ⟨toX3_add, List.forall_mem_append.mpr ⟨in_wsX30, List.forall_mem_append.mpr ⟨(sp_tS (List.mem_of_getElem? (i := 285) (by decide +kernel)) (List.mem_of_getElem? (i := 273) (by decide +kernel)) (List.mem_of_getElem? (i := 39) (by decide +kernel)) tX3_looksAtY), List.forall_mem_append.mpr ⟨(sp_tV (List.mem_of_getElem? (i := 286) (by decide +kernel)) (List.mem_of_getElem? (i := 288) (by decide +kernel)) (List.mem_of_getElem? (i := 0) (by decide +kernel)) (List.mem_of_getElem? (i := 39) (by decide +kernel)) tX3_link), List.forall_mem_append.mpr ⟨(sp_tS (List.mem_of_getElem? (i := 279) (by decide +kernel)) (List.mem_of_getElem? (i := 280) (by decide +kernel)) (List.mem_of_getElem? (i := 46) (by decide +kernel)) tX2_isNone), fun _ h => absurd h List.not_mem_nil⟩⟩⟩⟩⟩⟩
theorem iX3_add_X3 : ∀ w ∈ wsX30, w ∈ wpX3_add := fun w h => List.mem_cons_of_mem _ (List.mem_append_right _ (List.mem_append_left _ h))
theorem gX3_add_X3_looksAtY_42 : GoodIn wpX3_add (va_wsS RX3 42 yX3_looksAtY wpX3_looksAtY) := fun w h => ⟨List.mem_cons_of_mem _ (List.mem_append_right _ (List.mem_append_right _ (List.mem_append_left _ h))), good_of_word (sp_gS gwX3_looksAtY w h)⟩
theorem gX3_add_X3_link_45 : GoodIn wpX3_add (wsV RX3 45 RX3 yX3_link wpX3_link) := fun w h => ⟨List.mem_cons_of_mem _ (List.mem_append_right _ (List.mem_append_right _ (List.mem_append_right _ (List.mem_append_left _ h)))), good_of_word (sp_gV gwX3_link w h)⟩
theorem gX3_add_X2_isNone_35 : GoodIn wpX3_add (va_wsS RX3 35 yX2_isNone wpX2_isNone) := fun w h => ⟨List.mem_cons_of_mem _ (List.mem_append_right _ (List.mem_append_right _ (List.mem_append_right _ (List.mem_append_right _ (List.mem_append_left _ h))))), good_of_word (sp_gS gwX2_isNone w h)⟩
set_option maxHeartbeats 4000000 in
set_option maxRecDepth 100000 in
theorem c_X3_add (l : Launch) (D : va_G) (cI cJ cZ : ClassId) (sz : Nat) (oN n0 n1 n2 n3 n4 n5 : Nat) (k0 : Nat → Int32) (k1 : Nat → Int32) (k2 : Nat → Int32) (k3 : Nat → Int32) (k4 : Nat → Int64) (k5 : Nat → Int64) (k : Int32) (x : Int32) (y : Int32) (cn : Int32) (hni : NI cn k0 k1 k2) (hc40 : (cn : Int32).toInt < 40) (hk : 0 ≤ (k : Int32).toInt ∧ (k : Int32).toInt ≤ 15) (hk1 : (k : Int32).toInt = 1 → 0 ≤ (x : Int32).toInt ∧ (x : Int32).toInt < 4) (hk2 : 2 ≤ (k : Int32).toInt → 0 ≤ (x : Int32).toInt ∧ (x : Int32).toInt < (cn : Int32).toInt) (hk3 : ((2 ≤ (k : Int32).toInt ∧ (k : Int32).toInt ≤ 5) ∨ (k : Int32).toInt = 8 ∨ (k : Int32).toInt = 9 ∨ (k : Int32).toInt = 14) → 0 ≤ (y : Int32).toInt ∧ (y : Int32).toInt < (cn : Int32).toInt) : Met l yX3_add wpX3_add ({ frames := 2, cells := 0, slots := 0, locals := 44 }) (va_Pc ([.ref oN, .int k, .int x, .int y] : List Value) (sp_pre D vwCl (sp_ty cI cJ cZ) [(oN, .inr (1, [.ref n0, .ref n1, .ref n2, .ref n3, .ref n4, .ref n5, .int cn])), (n0, .inl (cI, 40, .inl k0)), (n1, .inl (cI, 40, .inl k1)), (n2, .inl (cI, 40, .inl k2)), (n3, .inl (cI, 40, .inl k3)), (n4, .inl (cJ, 40, .inr (.inl k4))), (n5, .inl (cJ, 4, .inr (.inl k5)))] sz)) (va_Qi (fun (r : Int32) (u : (Nat → Int32) × (Nat → Int32) × (Nat → Int32) × (Nat → Int64) × (Nat → Int64)) => match u with | (v0, v1, v2, g4, g5) => r = cn ∧ NI (cn + 1) v0 v1 v2) (sp_B D vwCl (va_A [(oN, .inr (1, [.ref n0, .ref n1, .ref n2, .ref n3, .ref n4, .ref n5, .int cn])), (n0, .inl (cI, 40, .inl k0)), (n1, .inl (cI, 40, .inl k1)), (n2, .inl (cI, 40, .inl k2)), (n3, .inl (cI, 40, .inl k3)), (n4, .inl (cJ, 40, .inr (.inl k4))), (n5, .inl (cJ, 4, .inr (.inl k5)))] sz) (fun (u : (Nat → Int32) × (Nat → Int32) × (Nat → Int32) × (Nat → Int64) × (Nat → Int64)) => match u with | (v0, v1, v2, g4, g5) => [(oN, .inr (1, [.ref n0, .ref n1, .ref n2, .ref n3, .ref n4, .ref n5, .int (cn + 1)])), (n0, .inl (cI, 40, .inl v0)), (n1, .inl (cI, 40, .inl v1)), (n2, .inl (cI, 40, .inl v2)), (n3, .inl (cI, 40, .inl k3)), (n4, .inl (cJ, 40, .inr (.inl g4))), (n5, .inl (cJ, 4, .inr (.inl g5)))])) (va_A [(oN, .inr (1, [.ref n0, .ref n1, .ref n2, .ref n3, .ref n4, .ref n5, .int cn])), (n0, .inl (cI, 40, .inl k0)), (n1, .inl (cI, 40, .inl k1)), (n2, .inl (cI, 40, .inl k2)), (n3, .inl (cI, 40, .inl k3)), (n4, .inl (cJ, 40, .inr (.inl k4))), (n5, .inl (cJ, 4, .inr (.inl k5)))] sz)) 0 0 (va_A [(oN, .inr (1, [.ref n0, .ref n1, .ref n2, .ref n3, .ref n4, .ref n5, .int cn])), (n0, .inl (cI, 40, .inl k0)), (n1, .inl (cI, 40, .inl k1)), (n2, .inl (cI, 40, .inl k2)), (n3, .inl (cI, 40, .inl k3)), (n4, .inl (cJ, 40, .inr (.inl k4))), (n5, .inl (cJ, 4, .inr (.inl k5)))] sz) := by
  refine sp_ofW (Qc := fun A => va_Qi (fun (r : Int32) (u : (Nat → Int32) × (Nat → Int32) × (Nat → Int32) × (Nat → Int64) × (Nat → Int64)) => match u with | (v0, v1, v2, g4, g5) => r = cn ∧ NI (cn + 1) v0 v1 v2) (sp_B D vwCl A (fun (u : (Nat → Int32) × (Nat → Int32) × (Nat → Int32) × (Nat → Int64) × (Nat → Int64)) => match u with | (v0, v1, v2, g4, g5) => [(oN, .inr (1, [.ref n0, .ref n1, .ref n2, .ref n3, .ref n4, .ref n5, .int (cn + 1)])), (n0, .inl (cI, 40, .inl v0)), (n1, .inl (cI, 40, .inl v1)), (n2, .inl (cI, 40, .inl v2)), (n3, .inl (cI, 40, .inl k3)), (n4, .inl (cJ, 40, .inr (.inl g4))), (n5, .inl (cJ, 4, .inr (.inl g5)))])) A) (by decide) rfl (Nat.le_of_ble_eq_true rfl) (fun p e s m below meth c A ls H locs C0 hA hS hP hK hD hl => ?_)
  obtain ⟨hx, hb, hr, hts, hown, hlocks, hml, hin⟩ := id C0
  have hown : s.vm.findClass RX3 = some m.cls := hown
  have hl : lv_has ls 4 [(0, .ref oN), (1, .int k), (2, .int x), (3, .int y)] := hl
  have hK : va_K D vwCl [(cI, .int), (cJ, .long), (cZ, .boolean)] s := hK
  obtain ⟨hc0, hc1, hci⟩ := id hni
  refine lv_aload_n hx hb dX3_add_0 rfl (lv_at hl 0 rfl) ?_
  refine va_get (D := D) (ci := 1) (v := .ref n0) (C := RX3) (T := TX3) (N := 7) hx hb hts iX3_add_X3 hown hK hP 0 rfl rfl 0 (by decide) (hts (.fieldLink RX3 9 "FloatSolver$Nodes" "kind" "[I") (oX3_add_in _ (List.mem_of_getElem? (i := 0) rfl))) (fun _ h9 => h9) rfl dX3_add_1 ?_
  refine lv_aload_n hx hb dX3_add_4 rfl (lv_at hl 0 rfl) ?_
  refine va_get (D := D) (ci := 1) (v := .int cn) (C := RX3) (T := TX3) (N := 7) hx hb hts iX3_add_X3 hown hK hP 0 rfl rfl 6 (by decide) (hts (.fieldLink RX3 31 "FloatSolver$Nodes" "count" "I") (oX3_add_in _ (List.mem_of_getElem? (i := 1) rfl))) (fun _ h9 => h9) rfl dX3_add_5 ?_
  refine lv_iload_n hx hb dX3_add_8 rfl (lv_at hl 1 rfl) ?_
  refine va_iast hx hb hK hP hD hS 1 0 rfl rfl (vp_in_iff.mpr ⟨by omega, by omega⟩) dX3_add_9 (fun H locs hP hD hS => ?_)
  obtain ⟨f1, ef2⟩ : ∃ z9 : Nat → Int32, z9 = upd k0 (cn : Int32).toNatClampNeg k := ⟨_, rfl⟩
  rw [← ef2] at hP hD
  have hP : va_P D vwCl [(oN, .inr (1, [.ref n0, .ref n1, .ref n2, .ref n3, .ref n4, .ref n5, .int cn])), (n0, .inl (cI, 40, .inl f1)), (n1, .inl (cI, 40, .inl k1)), (n2, .inl (cI, 40, .inl k2)), (n3, .inl (cI, 40, .inl k3)), (n4, .inl (cJ, 40, .inr (.inl k4))), (n5, .inl (cJ, 4, .inr (.inl k5)))] H := hP
  have hD : va_D A [(oN, .inr (1, [.ref n0, .ref n1, .ref n2, .ref n3, .ref n4, .ref n5, .int cn])), (n0, .inl (cI, 40, .inl f1)), (n1, .inl (cI, 40, .inl k1)), (n2, .inl (cI, 40, .inl k2)), (n3, .inl (cI, 40, .inl k3)), (n4, .inl (cJ, 40, .inr (.inl k4))), (n5, .inl (cJ, 4, .inr (.inl k5)))] := hD
  refine lv_aload_n hx hb dX3_add_10 rfl (lv_at hl 0 rfl) ?_
  refine va_get (D := D) (ci := 1) (v := .ref n1) (C := RX3) (T := TX3) (N := 7) hx hb hts iX3_add_X3 hown hK hP 0 rfl rfl 1 (by decide) (hts (.fieldLink RX3 15 "FloatSolver$Nodes" "x" "[I") (oX3_add_in _ (List.mem_of_getElem? (i := 2) rfl))) (fun _ h9 => h9) rfl dX3_add_11 ?_
  refine lv_aload_n hx hb dX3_add_14 rfl (lv_at hl 0 rfl) ?_
  refine va_get (D := D) (ci := 1) (v := .int cn) (C := RX3) (T := TX3) (N := 7) hx hb hts iX3_add_X3 hown hK hP 0 rfl rfl 6 (by decide) (hts (.fieldLink RX3 31 "FloatSolver$Nodes" "count" "I") (oX3_add_in _ (List.mem_of_getElem? (i := 1) rfl))) (fun _ h9 => h9) rfl dX3_add_15 ?_
  refine lv_iload_n hx hb dX3_add_18 rfl (lv_at hl 1 rfl) ?_
  refine lv_if_ne (tgt := 34) hx hb dX3_add_19 (by decide) (fun c3 => ?_) (fun c3 => ?_)
  · skip
    have c3i : ¬ (k : Int32).toInt = 0 := fun h => c3 (Int32.toInt_inj.mp h)
    refine lv_iload_n hx hb dX3_add_34 rfl (lv_at hl 2 rfl) ?_
    refine va_iast hx hb hK hP hD hS 2 0 rfl rfl (vp_in_iff.mpr ⟨by omega, by omega⟩) dX3_add_35 (fun H locs hP hD hS => ?_)
    obtain ⟨f4, ef5⟩ : ∃ z9 : Nat → Int32, z9 = upd k1 (cn : Int32).toNatClampNeg x := ⟨_, rfl⟩
    rw [← ef5] at hP hD
    have hP : va_P D vwCl [(oN, .inr (1, [.ref n0, .ref n1, .ref n2, .ref n3, .ref n4, .ref n5, .int cn])), (n0, .inl (cI, 40, .inl f1)), (n1, .inl (cI, 40, .inl f4)), (n2, .inl (cI, 40, .inl k2)), (n3, .inl (cI, 40, .inl k3)), (n4, .inl (cJ, 40, .inr (.inl k4))), (n5, .inl (cJ, 4, .inr (.inl k5)))] H := hP
    have hD : va_D A [(oN, .inr (1, [.ref n0, .ref n1, .ref n2, .ref n3, .ref n4, .ref n5, .int cn])), (n0, .inl (cI, 40, .inl f1)), (n1, .inl (cI, 40, .inl f4)), (n2, .inl (cI, 40, .inl k2)), (n3, .inl (cI, 40, .inl k3)), (n4, .inl (cJ, 40, .inr (.inl k4))), (n5, .inl (cJ, 4, .inr (.inl k5)))] := hD
    refine lv_aload_n hx hb dX3_add_36 rfl (lv_at hl 0 rfl) ?_
    refine va_get (D := D) (ci := 1) (v := .ref n2) (C := RX3) (T := TX3) (N := 7) hx hb hts iX3_add_X3 hown hK hP 0 rfl rfl 2 (by decide) (hts (.fieldLink RX3 18 "FloatSolver$Nodes" "y" "[I") (oX3_add_in _ (List.mem_of_getElem? (i := 3) rfl))) (fun _ h9 => h9) rfl dX3_add_37 ?_
    refine lv_aload_n hx hb dX3_add_40 rfl (lv_at hl 0 rfl) ?_
    refine va_get (D := D) (ci := 1) (v := .int cn) (C := RX3) (T := TX3) (N := 7) hx hb hts iX3_add_X3 hown hK hP 0 rfl rfl 6 (by decide) (hts (.fieldLink RX3 31 "FloatSolver$Nodes" "count" "I") (oX3_add_in _ (List.mem_of_getElem? (i := 1) rfl))) (fun _ h9 => h9) rfl dX3_add_41 ?_
    refine lv_iload_n hx hb dX3_add_44 rfl (lv_at hl 1 rfl) ?_
    refine sp_calli (wr := [(oN, .inr (1, [.ref n0, .ref n1, .ref n2, .ref n3, .ref n4, .ref n5, .int cn])), (n0, .inl (cI, 40, .inl f1)), (n1, .inl (cI, 40, .inl f4)), (n2, .inl (cI, 40, .inl k2)), (n3, .inl (cI, 40, .inl k3)), (n4, .inl (cJ, 40, .inr (.inl k4))), (n5, .inl (cJ, 4, .inr (.inl k5)))]) (wc := []) hP hD hS hA [] [0, 1, 2, 3, 4, 5, 6] rfl rfl (by decide) (by decide) (va_runS (As := [.int k]) (rest := [.int cn, .ref n2]) ⟨hx, hb, hml, hown, hts⟩ (c_X3_looksAtY l D cI cJ cZ H.size (k)) (va_cwS 1 hts gX3_add_X3_looksAtY_42 rfl rfl rfl (by decide +kernel) ⟨Nat.le_of_ble_eq_true rfl, Nat.le_of_ble_eq_true rfl⟩) (sp_preS [.int k] hK (hP.sub (ws' := []) [] rfl) (hD.sub (ws' := []) [] (by decide) rfl)) rfl rfl hl.1 rfl (lv_room (Nat.le_of_ble_eq_true rfl)) dX3_add_45 ⟨Nat.le_of_ble_eq_true rfl, Nat.le_of_ble_eq_true rfl⟩) (fun r6 u7 H locs hw8 hP hD hS => ?_)
    have h9 : ((r6 : Int32).toInt = 1 ∧ ((2 ≤ (k : Int32).toInt ∧ (k : Int32).toInt ≤ 5) ∨ (k : Int32).toInt = 8 ∨ (k : Int32).toInt = 9 ∨ (k : Int32).toInt = 14)) ∨ ((r6 : Int32).toInt = 0 ∧ ¬ ((2 ≤ (k : Int32).toInt ∧ (k : Int32).toInt ≤ 5) ∨ (k : Int32).toInt = 8 ∨ (k : Int32).toInt = 9 ∨ (k : Int32).toInt = 14)) := sp_bool hw8
    have hP : va_P D vwCl [(oN, .inr (1, [.ref n0, .ref n1, .ref n2, .ref n3, .ref n4, .ref n5, .int cn])), (n0, .inl (cI, 40, .inl f1)), (n1, .inl (cI, 40, .inl f4)), (n2, .inl (cI, 40, .inl k2)), (n3, .inl (cI, 40, .inl k3)), (n4, .inl (cJ, 40, .inr (.inl k4))), (n5, .inl (cJ, 4, .inr (.inl k5)))] H := hP
    have hD : va_D A [(oN, .inr (1, [.ref n0, .ref n1, .ref n2, .ref n3, .ref n4, .ref n5, .int cn])), (n0, .inl (cI, 40, .inl f1)), (n1, .inl (cI, 40, .inl f4)), (n2, .inl (cI, 40, .inl k2)), (n3, .inl (cI, 40, .inl k3)), (n4, .inl (cJ, 40, .inr (.inl k4))), (n5, .inl (cJ, 4, .inr (.inl k5)))] := hD
    refine lv_if_eq (tgt := 55) hx hb dX3_add_48 (by decide) (fun c10 => ?_) (fun c10 => ?_)
    · skip
      have c10i : (r6 : Int32).toInt = 0 := congrArg Int32.toInt c10
      refine lv_iload_n hx hb dX3_add_55 rfl (lv_at hl 2 rfl) ?_
      refine va_iast hx hb hK hP hD hS 3 0 rfl rfl (vp_in_iff.mpr ⟨by omega, by omega⟩) dX3_add_56 (fun H locs hP hD hS => ?_)
      obtain ⟨f11, ef12⟩ : ∃ z9 : Nat → Int32, z9 = upd k2 (cn : Int32).toNatClampNeg x := ⟨_, rfl⟩
      rw [← ef12] at hP hD
      have hP : va_P D vwCl [(oN, .inr (1, [.ref n0, .ref n1, .ref n2, .ref n3, .ref n4, .ref n5, .int cn])), (n0, .inl (cI, 40, .inl f1)), (n1, .inl (cI, 40, .inl f4)), (n2, .inl (cI, 40, .inl f11)), (n3, .inl (cI, 40, .inl k3)), (n4, .inl (cJ, 40, .inr (.inl k4))), (n5, .inl (cJ, 4, .inr (.inl k5)))] H := hP
      have hD : va_D A [(oN, .inr (1, [.ref n0, .ref n1, .ref n2, .ref n3, .ref n4, .ref n5, .int cn])), (n0, .inl (cI, 40, .inl f1)), (n1, .inl (cI, 40, .inl f4)), (n2, .inl (cI, 40, .inl f11)), (n3, .inl (cI, 40, .inl k3)), (n4, .inl (cJ, 40, .inr (.inl k4))), (n5, .inl (cJ, 4, .inr (.inl k5)))] := hD
      have hq0 : f1 (cn : Int32).toNatClampNeg = k := by rw [ef2]; exact px_updS _ _ _
      have hq1 : f4 (cn : Int32).toNatClampNeg = x := by rw [ef5]; exact px_updS _ _ _
      have hq2 : f11 (cn : Int32).toNatClampNeg = x := by rw [ef12]; exact px_updS _ _ _
      have hlk : (((f1 (cn : Int32).toNatClampNeg) : Int32).toInt = 1 → 0 ≤ ((f4 (cn : Int32).toNatClampNeg) : Int32).toInt ∧ ((f4 (cn : Int32).toNatClampNeg) : Int32).toInt < 4) ∧ (2 ≤ ((f1 (cn : Int32).toNatClampNeg) : Int32).toInt → (0 ≤ ((f4 (cn : Int32).toNatClampNeg) : Int32).toInt ∧ ((f4 (cn : Int32).toNatClampNeg) : Int32).toInt < 40) ∧ (0 ≤ ((f11 (cn : Int32).toNatClampNeg) : Int32).toInt ∧ ((f11 (cn : Int32).toNatClampNeg) : Int32).toInt < 40)) := by rw [hq0, hq1, hq2]; refine ⟨fun h => ?_, fun h => ?_⟩ <;> omega
      refine lv_aload_n hx hb dX3_add_57 rfl (lv_at hl 0 rfl) ?_
      refine lv_aload_n hx hb dX3_add_58 rfl (lv_at hl 0 rfl) ?_
      refine va_get (D := D) (ci := 1) (v := .int cn) (C := RX3) (T := TX3) (N := 7) hx hb hts iX3_add_X3 hown hK hP 0 rfl rfl 6 (by decide) (hts (.fieldLink RX3 31 "FloatSolver$Nodes" "count" "I") (oX3_add_in _ (List.mem_of_getElem? (i := 1) rfl))) (fun _ h9 => h9) rfl dX3_add_59 ?_
      refine sp_callv (wr := []) (wc := [(oN, .inr (1, [.ref n0, .ref n1, .ref n2, .ref n3, .ref n4, .ref n5, .int cn])), (n0, .inl (cI, 40, .inl f1)), (n1, .inl (cI, 40, .inl f4)), (n2, .inl (cI, 40, .inl f11)), (n3, .inl (cI, 40, .inl k3)), (n4, .inl (cJ, 40, .inr (.inl k4))), (n5, .inl (cJ, 4, .inr (.inl k5)))]) hP hD hS hA [0, 1, 2, 3, 4, 5, 6] [] rfl rfl (by decide) (by decide) (va_runV (As := [.int cn]) (rest := []) ⟨hx, hb, hml, hown, hts⟩ (c_X3_link l D cI cJ cZ H.size oN n0 n1 n2 n3 n4 n5 (f1) (f4) (f11) (k3) (k4) (k5) cn cn (by first | assumption | omega) (by first | assumption | omega)) (cwV 1 hts gX3_add_X3_link_45 rfl rfl rfl (by decide +kernel) ⟨Nat.le_of_ble_eq_true rfl, Nat.le_of_ble_eq_true rfl⟩) (sp_preV (ci := 1) (q0 := 0) [.int cn] hK (hP.sub (ws' := [(oN, .inr (1, [.ref n0, .ref n1, .ref n2, .ref n3, .ref n4, .ref n5, .int cn])), (n0, .inl (cI, 40, .inl f1)), (n1, .inl (cI, 40, .inl f4)), (n2, .inl (cI, 40, .inl f11)), (n3, .inl (cI, 40, .inl k3)), (n4, .inl (cJ, 40, .inr (.inl k4))), (n5, .inl (cJ, 4, .inr (.inl k5)))]) [0, 1, 2, 3, 4, 5, 6] rfl) (hD.sub (ws' := [(oN, .inr (1, [.ref n0, .ref n1, .ref n2, .ref n3, .ref n4, .ref n5, .int cn])), (n0, .inl (cI, 40, .inl f1)), (n1, .inl (cI, 40, .inl f4)), (n2, .inl (cI, 40, .inl f11)), (n3, .inl (cI, 40, .inl k3)), (n4, .inl (cJ, 40, .inr (.inl k4))), (n5, .inl (cJ, 4, .inr (.inl k5)))]) [0, 1, 2, 3, 4, 5, 6] (by decide) rfl) rfl rfl) rfl rfl hl.1 rfl (lv_room (Nat.le_of_ble_eq_true rfl)) dX3_add_62 ⟨Nat.le_of_ble_eq_true rfl, Nat.le_of_ble_eq_true rfl⟩) (fun u14 H locs hw15 hP hD hS => ?_)
      obtain ⟨u16, u17⟩ := u14
      have hP : va_P D vwCl [(oN, .inr (1, [.ref n0, .ref n1, .ref n2, .ref n3, .ref n4, .ref n5, .int cn])), (n0, .inl (cI, 40, .inl f1)), (n1, .inl (cI, 40, .inl f4)), (n2, .inl (cI, 40, .inl f11)), (n3, .inl (cI, 40, .inl k3)), (n4, .inl (cJ, 40, .inr (.inl u16))), (n5, .inl (cJ, 4, .inr (.inl u17)))] H := hP
      have hD : va_D A [(oN, .inr (1, [.ref n0, .ref n1, .ref n2, .ref n3, .ref n4, .ref n5, .int cn])), (n0, .inl (cI, 40, .inl f1)), (n1, .inl (cI, 40, .inl f4)), (n2, .inl (cI, 40, .inl f11)), (n3, .inl (cI, 40, .inl k3)), (n4, .inl (cJ, 40, .inr (.inl u16))), (n5, .inl (cJ, 4, .inr (.inl u17)))] := hD
      refine lv_aload_n hx hb dX3_add_65 rfl (lv_at hl 0 rfl) ?_
      refine lv_dup hx hb dX3_add_66 rfl ?_
      refine va_get (D := D) (ci := 1) (v := .int cn) (C := RX3) (T := TX3) (N := 7) hx hb hts iX3_add_X3 hown hK hP 0 rfl rfl 6 (by decide) (hts (.fieldLink RX3 31 "FloatSolver$Nodes" "count" "I") (oX3_add_in _ (List.mem_of_getElem? (i := 1) rfl))) (fun _ h9 => h9) rfl dX3_add_67 ?_
      refine lv_iconst (v := 1) hx hb dX3_add_70 (by decide) ?_
      refine lv_iadd hx hb dX3_add_71 ?_
      refine va_put (D := D) (ci := 1) (v := .int (cn + 1)) (ty := .int) (C := RX3) (T := TX3) (N := 7) hx hb hts iX3_add_X3 tyX3 tyX3_ok nmX3 hown hK hP hD hS 0 rfl rfl 6 (by decide) (hts (.fieldLink RX3 31 "FloatSolver$Nodes" "count" "I") (oX3_add_in _ (List.mem_of_getElem? (i := 1) rfl))) (fun _ h9 => h9) rfl (by decide +kernel) rfl rfl (Nat.le_of_ble_eq_true rfl) dX3_add_72 (fun H locs hP hD hS => ?_)
      have hP : va_P D vwCl [(oN, .inr (1, [.ref n0, .ref n1, .ref n2, .ref n3, .ref n4, .ref n5, .int (cn + 1)])), (n0, .inl (cI, 40, .inl f1)), (n1, .inl (cI, 40, .inl f4)), (n2, .inl (cI, 40, .inl f11)), (n3, .inl (cI, 40, .inl k3)), (n4, .inl (cJ, 40, .inr (.inl u16))), (n5, .inl (cJ, 4, .inr (.inl u17)))] H := hP
      have hD : va_D A [(oN, .inr (1, [.ref n0, .ref n1, .ref n2, .ref n3, .ref n4, .ref n5, .int (cn + 1)])), (n0, .inl (cI, 40, .inl f1)), (n1, .inl (cI, 40, .inl f4)), (n2, .inl (cI, 40, .inl f11)), (n3, .inl (cI, 40, .inl k3)), (n4, .inl (cJ, 40, .inr (.inl u16))), (n5, .inl (cJ, 4, .inr (.inl u17)))] := hD
      refine lv_aload_n hx hb dX3_add_75 rfl (lv_at hl 0 rfl) ?_
      refine va_get (D := D) (ci := 1) (v := .int (cn + 1)) (C := RX3) (T := TX3) (N := 7) hx hb hts iX3_add_X3 hown hK hP 0 rfl rfl 6 (by decide) (hts (.fieldLink RX3 31 "FloatSolver$Nodes" "count" "I") (oX3_add_in _ (List.mem_of_getElem? (i := 1) rfl))) (fun _ h9 => h9) rfl dX3_add_76 ?_
      refine lv_iconst (v := 1) hx hb dX3_add_79 (by decide) ?_
      refine lv_isub hx hb dX3_add_80 ?_
      refine W.widen (k := 0) (n := 0) (by decide) (by decide) ?_
      exact sp_iret (u := (f1, f4, f11, u16, u17)) hx hb hr hlocks hS ⟨px_addsub cn, by rw [ef2, ef5, ef12]; exact NI.add hni hc40 hk (by omega) (by omega)⟩ (hP.sub [0, 1, 2, 3, 4, 5, 6] rfl) (hD.sub [0, 1, 2, 3, 4, 5, 6] (by decide) rfl) dX3_add_81
    · skip
      have c10i : ¬ (r6 : Int32).toInt = 0 := fun h => c10 (Int32.toInt_inj.mp h)
      refine lv_iload_n hx hb dX3_add_51 rfl (lv_at hl 3 rfl) ?_
      refine lv_goto (tgt := 56) hx hb dX3_add_52 (by decide) ?_
      refine va_iast hx hb hK hP hD hS 3 0 rfl rfl (vp_in_iff.mpr ⟨by omega, by omega⟩) dX3_add_56 (fun H locs hP hD hS => ?_)
      obtain ⟨f18, ef19⟩ : ∃ z9 : Nat → Int32, z9 = upd k2 (cn : Int32).toNatClampNeg y := ⟨_, rfl⟩
      rw [← ef19] at hP hD
      have hP : va_P D vwCl [(oN, .inr (1, [.ref n0, .ref n1, .ref n2, .ref n3, .ref n4, .ref n5, .int cn])), (n0, .inl (cI, 40, .inl f1)), (n1, .inl (cI, 40, .inl f4)), (n2, .inl (cI, 40, .inl f18)), (n3, .inl (cI, 40, .inl k3)), (n4, .inl (cJ, 40, .inr (.inl k4))), (n5, .inl (cJ, 4, .inr (.inl k5)))] H := hP
      have hD : va_D A [(oN, .inr (1, [.ref n0, .ref n1, .ref n2, .ref n3, .ref n4, .ref n5, .int cn])), (n0, .inl (cI, 40, .inl f1)), (n1, .inl (cI, 40, .inl f4)), (n2, .inl (cI, 40, .inl f18)), (n3, .inl (cI, 40, .inl k3)), (n4, .inl (cJ, 40, .inr (.inl k4))), (n5, .inl (cJ, 4, .inr (.inl k5)))] := hD
      have hq0 : f1 (cn : Int32).toNatClampNeg = k := by rw [ef2]; exact px_updS _ _ _
      have hq1 : f4 (cn : Int32).toNatClampNeg = x := by rw [ef5]; exact px_updS _ _ _
      have hq2 : f18 (cn : Int32).toNatClampNeg = y := by rw [ef19]; exact px_updS _ _ _
      have hlk : (((f1 (cn : Int32).toNatClampNeg) : Int32).toInt = 1 → 0 ≤ ((f4 (cn : Int32).toNatClampNeg) : Int32).toInt ∧ ((f4 (cn : Int32).toNatClampNeg) : Int32).toInt < 4) ∧ (2 ≤ ((f1 (cn : Int32).toNatClampNeg) : Int32).toInt → (0 ≤ ((f4 (cn : Int32).toNatClampNeg) : Int32).toInt ∧ ((f4 (cn : Int32).toNatClampNeg) : Int32).toInt < 40) ∧ (0 ≤ ((f18 (cn : Int32).toNatClampNeg) : Int32).toInt ∧ ((f18 (cn : Int32).toNatClampNeg) : Int32).toInt < 40)) := by rw [hq0, hq1, hq2]; refine ⟨fun h => ?_, fun h => ?_⟩ <;> omega
      refine lv_aload_n hx hb dX3_add_57 rfl (lv_at hl 0 rfl) ?_
      refine lv_aload_n hx hb dX3_add_58 rfl (lv_at hl 0 rfl) ?_
      refine va_get (D := D) (ci := 1) (v := .int cn) (C := RX3) (T := TX3) (N := 7) hx hb hts iX3_add_X3 hown hK hP 0 rfl rfl 6 (by decide) (hts (.fieldLink RX3 31 "FloatSolver$Nodes" "count" "I") (oX3_add_in _ (List.mem_of_getElem? (i := 1) rfl))) (fun _ h9 => h9) rfl dX3_add_59 ?_
      refine sp_callv (wr := []) (wc := [(oN, .inr (1, [.ref n0, .ref n1, .ref n2, .ref n3, .ref n4, .ref n5, .int cn])), (n0, .inl (cI, 40, .inl f1)), (n1, .inl (cI, 40, .inl f4)), (n2, .inl (cI, 40, .inl f18)), (n3, .inl (cI, 40, .inl k3)), (n4, .inl (cJ, 40, .inr (.inl k4))), (n5, .inl (cJ, 4, .inr (.inl k5)))]) hP hD hS hA [0, 1, 2, 3, 4, 5, 6] [] rfl rfl (by decide) (by decide) (va_runV (As := [.int cn]) (rest := []) ⟨hx, hb, hml, hown, hts⟩ (c_X3_link l D cI cJ cZ H.size oN n0 n1 n2 n3 n4 n5 (f1) (f4) (f18) (k3) (k4) (k5) cn cn (by first | assumption | omega) (by first | assumption | omega)) (cwV 1 hts gX3_add_X3_link_45 rfl rfl rfl (by decide +kernel) ⟨Nat.le_of_ble_eq_true rfl, Nat.le_of_ble_eq_true rfl⟩) (sp_preV (ci := 1) (q0 := 0) [.int cn] hK (hP.sub (ws' := [(oN, .inr (1, [.ref n0, .ref n1, .ref n2, .ref n3, .ref n4, .ref n5, .int cn])), (n0, .inl (cI, 40, .inl f1)), (n1, .inl (cI, 40, .inl f4)), (n2, .inl (cI, 40, .inl f18)), (n3, .inl (cI, 40, .inl k3)), (n4, .inl (cJ, 40, .inr (.inl k4))), (n5, .inl (cJ, 4, .inr (.inl k5)))]) [0, 1, 2, 3, 4, 5, 6] rfl) (hD.sub (ws' := [(oN, .inr (1, [.ref n0, .ref n1, .ref n2, .ref n3, .ref n4, .ref n5, .int cn])), (n0, .inl (cI, 40, .inl f1)), (n1, .inl (cI, 40, .inl f4)), (n2, .inl (cI, 40, .inl f18)), (n3, .inl (cI, 40, .inl k3)), (n4, .inl (cJ, 40, .inr (.inl k4))), (n5, .inl (cJ, 4, .inr (.inl k5)))]) [0, 1, 2, 3, 4, 5, 6] (by decide) rfl) rfl rfl) rfl rfl hl.1 rfl (lv_room (Nat.le_of_ble_eq_true rfl)) dX3_add_62 ⟨Nat.le_of_ble_eq_true rfl, Nat.le_of_ble_eq_true rfl⟩) (fun u21 H locs hw22 hP hD hS => ?_)
      obtain ⟨u23, u24⟩ := u21
      have hP : va_P D vwCl [(oN, .inr (1, [.ref n0, .ref n1, .ref n2, .ref n3, .ref n4, .ref n5, .int cn])), (n0, .inl (cI, 40, .inl f1)), (n1, .inl (cI, 40, .inl f4)), (n2, .inl (cI, 40, .inl f18)), (n3, .inl (cI, 40, .inl k3)), (n4, .inl (cJ, 40, .inr (.inl u23))), (n5, .inl (cJ, 4, .inr (.inl u24)))] H := hP
      have hD : va_D A [(oN, .inr (1, [.ref n0, .ref n1, .ref n2, .ref n3, .ref n4, .ref n5, .int cn])), (n0, .inl (cI, 40, .inl f1)), (n1, .inl (cI, 40, .inl f4)), (n2, .inl (cI, 40, .inl f18)), (n3, .inl (cI, 40, .inl k3)), (n4, .inl (cJ, 40, .inr (.inl u23))), (n5, .inl (cJ, 4, .inr (.inl u24)))] := hD
      refine lv_aload_n hx hb dX3_add_65 rfl (lv_at hl 0 rfl) ?_
      refine lv_dup hx hb dX3_add_66 rfl ?_
      refine va_get (D := D) (ci := 1) (v := .int cn) (C := RX3) (T := TX3) (N := 7) hx hb hts iX3_add_X3 hown hK hP 0 rfl rfl 6 (by decide) (hts (.fieldLink RX3 31 "FloatSolver$Nodes" "count" "I") (oX3_add_in _ (List.mem_of_getElem? (i := 1) rfl))) (fun _ h9 => h9) rfl dX3_add_67 ?_
      refine lv_iconst (v := 1) hx hb dX3_add_70 (by decide) ?_
      refine lv_iadd hx hb dX3_add_71 ?_
      refine va_put (D := D) (ci := 1) (v := .int (cn + 1)) (ty := .int) (C := RX3) (T := TX3) (N := 7) hx hb hts iX3_add_X3 tyX3 tyX3_ok nmX3 hown hK hP hD hS 0 rfl rfl 6 (by decide) (hts (.fieldLink RX3 31 "FloatSolver$Nodes" "count" "I") (oX3_add_in _ (List.mem_of_getElem? (i := 1) rfl))) (fun _ h9 => h9) rfl (by decide +kernel) rfl rfl (Nat.le_of_ble_eq_true rfl) dX3_add_72 (fun H locs hP hD hS => ?_)
      have hP : va_P D vwCl [(oN, .inr (1, [.ref n0, .ref n1, .ref n2, .ref n3, .ref n4, .ref n5, .int (cn + 1)])), (n0, .inl (cI, 40, .inl f1)), (n1, .inl (cI, 40, .inl f4)), (n2, .inl (cI, 40, .inl f18)), (n3, .inl (cI, 40, .inl k3)), (n4, .inl (cJ, 40, .inr (.inl u23))), (n5, .inl (cJ, 4, .inr (.inl u24)))] H := hP
      have hD : va_D A [(oN, .inr (1, [.ref n0, .ref n1, .ref n2, .ref n3, .ref n4, .ref n5, .int (cn + 1)])), (n0, .inl (cI, 40, .inl f1)), (n1, .inl (cI, 40, .inl f4)), (n2, .inl (cI, 40, .inl f18)), (n3, .inl (cI, 40, .inl k3)), (n4, .inl (cJ, 40, .inr (.inl u23))), (n5, .inl (cJ, 4, .inr (.inl u24)))] := hD
      refine lv_aload_n hx hb dX3_add_75 rfl (lv_at hl 0 rfl) ?_
      refine va_get (D := D) (ci := 1) (v := .int (cn + 1)) (C := RX3) (T := TX3) (N := 7) hx hb hts iX3_add_X3 hown hK hP 0 rfl rfl 6 (by decide) (hts (.fieldLink RX3 31 "FloatSolver$Nodes" "count" "I") (oX3_add_in _ (List.mem_of_getElem? (i := 1) rfl))) (fun _ h9 => h9) rfl dX3_add_76 ?_
      refine lv_iconst (v := 1) hx hb dX3_add_79 (by decide) ?_
      refine lv_isub hx hb dX3_add_80 ?_
      refine W.widen (k := 0) (n := 0) (by decide) (by decide) ?_
      exact sp_iret (u := (f1, f4, f18, u23, u24)) hx hb hr hlocks hS ⟨px_addsub cn, by rw [ef2, ef5, ef19]; exact NI.add hni hc40 hk (by omega) (by omega)⟩ (hP.sub [0, 1, 2, 3, 4, 5, 6] rfl) (hD.sub [0, 1, 2, 3, 4, 5, 6] (by decide) rfl) dX3_add_81
  · skip
    have c3i : (k : Int32).toInt = 0 := congrArg Int32.toInt c3
    refine lv_iload_n hx hb dX3_add_22 rfl (lv_at hl 2 rfl) ?_
    refine sp_calli (wr := [(oN, .inr (1, [.ref n0, .ref n1, .ref n2, .ref n3, .ref n4, .ref n5, .int cn])), (n0, .inl (cI, 40, .inl f1)), (n1, .inl (cI, 40, .inl k1)), (n2, .inl (cI, 40, .inl k2)), (n3, .inl (cI, 40, .inl k3)), (n4, .inl (cJ, 40, .inr (.inl k4))), (n5, .inl (cJ, 4, .inr (.inl k5)))]) (wc := []) hP hD hS hA [] [0, 1, 2, 3, 4, 5, 6] rfl rfl (by decide) (by decide) (va_runS (As := [.int x]) (rest := [.int cn, .ref n1]) ⟨hx, hb, hml, hown, hts⟩ (c_X2_isNone l D cI cJ cZ H.size (x)) (va_cwS 1 hts gX3_add_X2_isNone_35 rfl rfl rfl (by decide +kernel) ⟨Nat.le_of_ble_eq_true rfl, Nat.le_of_ble_eq_true rfl⟩) (sp_preS [.int x] hK (hP.sub (ws' := []) [] rfl) (hD.sub (ws' := []) [] (by decide) rfl)) rfl rfl hl.1 rfl (lv_room (Nat.le_of_ble_eq_true rfl)) dX3_add_23 ⟨Nat.le_of_ble_eq_true rfl, Nat.le_of_ble_eq_true rfl⟩) (fun r25 u26 H locs hw27 hP hD hS => ?_)
    have h28 : ((r25 : Int32).toInt = 1 ∧ (2139095040 < (x &&& 2147483647 : Int32).toInt)) ∨ ((r25 : Int32).toInt = 0 ∧ ¬ (2139095040 < (x &&& 2147483647 : Int32).toInt)) := sp_bool hw27
    have hP : va_P D vwCl [(oN, .inr (1, [.ref n0, .ref n1, .ref n2, .ref n3, .ref n4, .ref n5, .int cn])), (n0, .inl (cI, 40, .inl f1)), (n1, .inl (cI, 40, .inl k1)), (n2, .inl (cI, 40, .inl k2)), (n3, .inl (cI, 40, .inl k3)), (n4, .inl (cJ, 40, .inr (.inl k4))), (n5, .inl (cJ, 4, .inr (.inl k5)))] H := hP
    have hD : va_D A [(oN, .inr (1, [.ref n0, .ref n1, .ref n2, .ref n3, .ref n4, .ref n5, .int cn])), (n0, .inl (cI, 40, .inl f1)), (n1, .inl (cI, 40, .inl k1)), (n2, .inl (cI, 40, .inl k2)), (n3, .inl (cI, 40, .inl k3)), (n4, .inl (cJ, 40, .inr (.inl k4))), (n5, .inl (cJ, 4, .inr (.inl k5)))] := hD
    refine lv_if_eq (tgt := 34) hx hb dX3_add_26 (by decide) (fun c29 => ?_) (fun c29 => ?_)
    · skip
      have c29i : (r25 : Int32).toInt = 0 := congrArg Int32.toInt c29
      refine lv_iload_n hx hb dX3_add_34 rfl (lv_at hl 2 rfl) ?_
      refine va_iast hx hb hK hP hD hS 2 0 rfl rfl (vp_in_iff.mpr ⟨by omega, by omega⟩) dX3_add_35 (fun H locs hP hD hS => ?_)
      obtain ⟨f30, ef31⟩ : ∃ z9 : Nat → Int32, z9 = upd k1 (cn : Int32).toNatClampNeg x := ⟨_, rfl⟩
      rw [← ef31] at hP hD
      have hP : va_P D vwCl [(oN, .inr (1, [.ref n0, .ref n1, .ref n2, .ref n3, .ref n4, .ref n5, .int cn])), (n0, .inl (cI, 40, .inl f1)), (n1, .inl (cI, 40, .inl f30)), (n2, .inl (cI, 40, .inl k2)), (n3, .inl (cI, 40, .inl k3)), (n4, .inl (cJ, 40, .inr (.inl k4))), (n5, .inl (cJ, 4, .inr (.inl k5)))] H := hP
      have hD : va_D A [(oN, .inr (1, [.ref n0, .ref n1, .ref n2, .ref n3, .ref n4, .ref n5, .int cn])), (n0, .inl (cI, 40, .inl f1)), (n1, .inl (cI, 40, .inl f30)), (n2, .inl (cI, 40, .inl k2)), (n3, .inl (cI, 40, .inl k3)), (n4, .inl (cJ, 40, .inr (.inl k4))), (n5, .inl (cJ, 4, .inr (.inl k5)))] := hD
      refine lv_aload_n hx hb dX3_add_36 rfl (lv_at hl 0 rfl) ?_
      refine va_get (D := D) (ci := 1) (v := .ref n2) (C := RX3) (T := TX3) (N := 7) hx hb hts iX3_add_X3 hown hK hP 0 rfl rfl 2 (by decide) (hts (.fieldLink RX3 18 "FloatSolver$Nodes" "y" "[I") (oX3_add_in _ (List.mem_of_getElem? (i := 3) rfl))) (fun _ h9 => h9) rfl dX3_add_37 ?_
      refine lv_aload_n hx hb dX3_add_40 rfl (lv_at hl 0 rfl) ?_
      refine va_get (D := D) (ci := 1) (v := .int cn) (C := RX3) (T := TX3) (N := 7) hx hb hts iX3_add_X3 hown hK hP 0 rfl rfl 6 (by decide) (hts (.fieldLink RX3 31 "FloatSolver$Nodes" "count" "I") (oX3_add_in _ (List.mem_of_getElem? (i := 1) rfl))) (fun _ h9 => h9) rfl dX3_add_41 ?_
      refine lv_iload_n hx hb dX3_add_44 rfl (lv_at hl 1 rfl) ?_
      refine sp_calli (wr := [(oN, .inr (1, [.ref n0, .ref n1, .ref n2, .ref n3, .ref n4, .ref n5, .int cn])), (n0, .inl (cI, 40, .inl f1)), (n1, .inl (cI, 40, .inl f30)), (n2, .inl (cI, 40, .inl k2)), (n3, .inl (cI, 40, .inl k3)), (n4, .inl (cJ, 40, .inr (.inl k4))), (n5, .inl (cJ, 4, .inr (.inl k5)))]) (wc := []) hP hD hS hA [] [0, 1, 2, 3, 4, 5, 6] rfl rfl (by decide) (by decide) (va_runS (As := [.int k]) (rest := [.int cn, .ref n2]) ⟨hx, hb, hml, hown, hts⟩ (c_X3_looksAtY l D cI cJ cZ H.size (k)) (va_cwS 1 hts gX3_add_X3_looksAtY_42 rfl rfl rfl (by decide +kernel) ⟨Nat.le_of_ble_eq_true rfl, Nat.le_of_ble_eq_true rfl⟩) (sp_preS [.int k] hK (hP.sub (ws' := []) [] rfl) (hD.sub (ws' := []) [] (by decide) rfl)) rfl rfl hl.1 rfl (lv_room (Nat.le_of_ble_eq_true rfl)) dX3_add_45 ⟨Nat.le_of_ble_eq_true rfl, Nat.le_of_ble_eq_true rfl⟩) (fun r32 u33 H locs hw34 hP hD hS => ?_)
      have h35 : ((r32 : Int32).toInt = 1 ∧ ((2 ≤ (k : Int32).toInt ∧ (k : Int32).toInt ≤ 5) ∨ (k : Int32).toInt = 8 ∨ (k : Int32).toInt = 9 ∨ (k : Int32).toInt = 14)) ∨ ((r32 : Int32).toInt = 0 ∧ ¬ ((2 ≤ (k : Int32).toInt ∧ (k : Int32).toInt ≤ 5) ∨ (k : Int32).toInt = 8 ∨ (k : Int32).toInt = 9 ∨ (k : Int32).toInt = 14)) := sp_bool hw34
      have hP : va_P D vwCl [(oN, .inr (1, [.ref n0, .ref n1, .ref n2, .ref n3, .ref n4, .ref n5, .int cn])), (n0, .inl (cI, 40, .inl f1)), (n1, .inl (cI, 40, .inl f30)), (n2, .inl (cI, 40, .inl k2)), (n3, .inl (cI, 40, .inl k3)), (n4, .inl (cJ, 40, .inr (.inl k4))), (n5, .inl (cJ, 4, .inr (.inl k5)))] H := hP
      have hD : va_D A [(oN, .inr (1, [.ref n0, .ref n1, .ref n2, .ref n3, .ref n4, .ref n5, .int cn])), (n0, .inl (cI, 40, .inl f1)), (n1, .inl (cI, 40, .inl f30)), (n2, .inl (cI, 40, .inl k2)), (n3, .inl (cI, 40, .inl k3)), (n4, .inl (cJ, 40, .inr (.inl k4))), (n5, .inl (cJ, 4, .inr (.inl k5)))] := hD
      refine lv_if_eq (tgt := 55) hx hb dX3_add_48 (by decide) (fun c36 => ?_) (fun c36 => ?_)
      · skip
        have c36i : (r32 : Int32).toInt = 0 := congrArg Int32.toInt c36
        refine lv_iload_n hx hb dX3_add_55 rfl (lv_at hl 2 rfl) ?_
        refine va_iast hx hb hK hP hD hS 3 0 rfl rfl (vp_in_iff.mpr ⟨by omega, by omega⟩) dX3_add_56 (fun H locs hP hD hS => ?_)
        obtain ⟨f37, ef38⟩ : ∃ z9 : Nat → Int32, z9 = upd k2 (cn : Int32).toNatClampNeg x := ⟨_, rfl⟩
        rw [← ef38] at hP hD
        have hP : va_P D vwCl [(oN, .inr (1, [.ref n0, .ref n1, .ref n2, .ref n3, .ref n4, .ref n5, .int cn])), (n0, .inl (cI, 40, .inl f1)), (n1, .inl (cI, 40, .inl f30)), (n2, .inl (cI, 40, .inl f37)), (n3, .inl (cI, 40, .inl k3)), (n4, .inl (cJ, 40, .inr (.inl k4))), (n5, .inl (cJ, 4, .inr (.inl k5)))] H := hP
        have hD : va_D A [(oN, .inr (1, [.ref n0, .ref n1, .ref n2, .ref n3, .ref n4, .ref n5, .int cn])), (n0, .inl (cI, 40, .inl f1)), (n1, .inl (cI, 40, .inl f30)), (n2, .inl (cI, 40, .inl f37)), (n3, .inl (cI, 40, .inl k3)), (n4, .inl (cJ, 40, .inr (.inl k4))), (n5, .inl (cJ, 4, .inr (.inl k5)))] := hD
        have hq0 : f1 (cn : Int32).toNatClampNeg = k := by rw [ef2]; exact px_updS _ _ _
        have hq1 : f30 (cn : Int32).toNatClampNeg = x := by rw [ef31]; exact px_updS _ _ _
        have hq2 : f37 (cn : Int32).toNatClampNeg = x := by rw [ef38]; exact px_updS _ _ _
        have hlk : (((f1 (cn : Int32).toNatClampNeg) : Int32).toInt = 1 → 0 ≤ ((f30 (cn : Int32).toNatClampNeg) : Int32).toInt ∧ ((f30 (cn : Int32).toNatClampNeg) : Int32).toInt < 4) ∧ (2 ≤ ((f1 (cn : Int32).toNatClampNeg) : Int32).toInt → (0 ≤ ((f30 (cn : Int32).toNatClampNeg) : Int32).toInt ∧ ((f30 (cn : Int32).toNatClampNeg) : Int32).toInt < 40) ∧ (0 ≤ ((f37 (cn : Int32).toNatClampNeg) : Int32).toInt ∧ ((f37 (cn : Int32).toNatClampNeg) : Int32).toInt < 40)) := by rw [hq0, hq1, hq2]; refine ⟨fun h => ?_, fun h => ?_⟩ <;> omega
        refine lv_aload_n hx hb dX3_add_57 rfl (lv_at hl 0 rfl) ?_
        refine lv_aload_n hx hb dX3_add_58 rfl (lv_at hl 0 rfl) ?_
        refine va_get (D := D) (ci := 1) (v := .int cn) (C := RX3) (T := TX3) (N := 7) hx hb hts iX3_add_X3 hown hK hP 0 rfl rfl 6 (by decide) (hts (.fieldLink RX3 31 "FloatSolver$Nodes" "count" "I") (oX3_add_in _ (List.mem_of_getElem? (i := 1) rfl))) (fun _ h9 => h9) rfl dX3_add_59 ?_
        refine sp_callv (wr := []) (wc := [(oN, .inr (1, [.ref n0, .ref n1, .ref n2, .ref n3, .ref n4, .ref n5, .int cn])), (n0, .inl (cI, 40, .inl f1)), (n1, .inl (cI, 40, .inl f30)), (n2, .inl (cI, 40, .inl f37)), (n3, .inl (cI, 40, .inl k3)), (n4, .inl (cJ, 40, .inr (.inl k4))), (n5, .inl (cJ, 4, .inr (.inl k5)))]) hP hD hS hA [0, 1, 2, 3, 4, 5, 6] [] rfl rfl (by decide) (by decide) (va_runV (As := [.int cn]) (rest := []) ⟨hx, hb, hml, hown, hts⟩ (c_X3_link l D cI cJ cZ H.size oN n0 n1 n2 n3 n4 n5 (f1) (f30) (f37) (k3) (k4) (k5) cn cn (by first | assumption | omega) (by first | assumption | omega)) (cwV 1 hts gX3_add_X3_link_45 rfl rfl rfl (by decide +kernel) ⟨Nat.le_of_ble_eq_true rfl, Nat.le_of_ble_eq_true rfl⟩) (sp_preV (ci := 1) (q0 := 0) [.int cn] hK (hP.sub (ws' := [(oN, .inr (1, [.ref n0, .ref n1, .ref n2, .ref n3, .ref n4, .ref n5, .int cn])), (n0, .inl (cI, 40, .inl f1)), (n1, .inl (cI, 40, .inl f30)), (n2, .inl (cI, 40, .inl f37)), (n3, .inl (cI, 40, .inl k3)), (n4, .inl (cJ, 40, .inr (.inl k4))), (n5, .inl (cJ, 4, .inr (.inl k5)))]) [0, 1, 2, 3, 4, 5, 6] rfl) (hD.sub (ws' := [(oN, .inr (1, [.ref n0, .ref n1, .ref n2, .ref n3, .ref n4, .ref n5, .int cn])), (n0, .inl (cI, 40, .inl f1)), (n1, .inl (cI, 40, .inl f30)), (n2, .inl (cI, 40, .inl f37)), (n3, .inl (cI, 40, .inl k3)), (n4, .inl (cJ, 40, .inr (.inl k4))), (n5, .inl (cJ, 4, .inr (.inl k5)))]) [0, 1, 2, 3, 4, 5, 6] (by decide) rfl) rfl rfl) rfl rfl hl.1 rfl (lv_room (Nat.le_of_ble_eq_true rfl)) dX3_add_62 ⟨Nat.le_of_ble_eq_true rfl, Nat.le_of_ble_eq_true rfl⟩) (fun u40 H locs hw41 hP hD hS => ?_)
        obtain ⟨u42, u43⟩ := u40
        have hP : va_P D vwCl [(oN, .inr (1, [.ref n0, .ref n1, .ref n2, .ref n3, .ref n4, .ref n5, .int cn])), (n0, .inl (cI, 40, .inl f1)), (n1, .inl (cI, 40, .inl f30)), (n2, .inl (cI, 40, .inl f37)), (n3, .inl (cI, 40, .inl k3)), (n4, .inl (cJ, 40, .inr (.inl u42))), (n5, .inl (cJ, 4, .inr (.inl u43)))] H := hP
        have hD : va_D A [(oN, .inr (1, [.ref n0, .ref n1, .ref n2, .ref n3, .ref n4, .ref n5, .int cn])), (n0, .inl (cI, 40, .inl f1)), (n1, .inl (cI, 40, .inl f30)), (n2, .inl (cI, 40, .inl f37)), (n3, .inl (cI, 40, .inl k3)), (n4, .inl (cJ, 40, .inr (.inl u42))), (n5, .inl (cJ, 4, .inr (.inl u43)))] := hD
        refine lv_aload_n hx hb dX3_add_65 rfl (lv_at hl 0 rfl) ?_
        refine lv_dup hx hb dX3_add_66 rfl ?_
        refine va_get (D := D) (ci := 1) (v := .int cn) (C := RX3) (T := TX3) (N := 7) hx hb hts iX3_add_X3 hown hK hP 0 rfl rfl 6 (by decide) (hts (.fieldLink RX3 31 "FloatSolver$Nodes" "count" "I") (oX3_add_in _ (List.mem_of_getElem? (i := 1) rfl))) (fun _ h9 => h9) rfl dX3_add_67 ?_
        refine lv_iconst (v := 1) hx hb dX3_add_70 (by decide) ?_
        refine lv_iadd hx hb dX3_add_71 ?_
        refine va_put (D := D) (ci := 1) (v := .int (cn + 1)) (ty := .int) (C := RX3) (T := TX3) (N := 7) hx hb hts iX3_add_X3 tyX3 tyX3_ok nmX3 hown hK hP hD hS 0 rfl rfl 6 (by decide) (hts (.fieldLink RX3 31 "FloatSolver$Nodes" "count" "I") (oX3_add_in _ (List.mem_of_getElem? (i := 1) rfl))) (fun _ h9 => h9) rfl (by decide +kernel) rfl rfl (Nat.le_of_ble_eq_true rfl) dX3_add_72 (fun H locs hP hD hS => ?_)
        have hP : va_P D vwCl [(oN, .inr (1, [.ref n0, .ref n1, .ref n2, .ref n3, .ref n4, .ref n5, .int (cn + 1)])), (n0, .inl (cI, 40, .inl f1)), (n1, .inl (cI, 40, .inl f30)), (n2, .inl (cI, 40, .inl f37)), (n3, .inl (cI, 40, .inl k3)), (n4, .inl (cJ, 40, .inr (.inl u42))), (n5, .inl (cJ, 4, .inr (.inl u43)))] H := hP
        have hD : va_D A [(oN, .inr (1, [.ref n0, .ref n1, .ref n2, .ref n3, .ref n4, .ref n5, .int (cn + 1)])), (n0, .inl (cI, 40, .inl f1)), (n1, .inl (cI, 40, .inl f30)), (n2, .inl (cI, 40, .inl f37)), (n3, .inl (cI, 40, .inl k3)), (n4, .inl (cJ, 40, .inr (.inl u42))), (n5, .inl (cJ, 4, .inr (.inl u43)))] := hD
        refine lv_aload_n hx hb dX3_add_75 rfl (lv_at hl 0 rfl) ?_
        refine va_get (D := D) (ci := 1) (v := .int (cn + 1)) (C := RX3) (T := TX3) (N := 7) hx hb hts iX3_add_X3 hown hK hP 0 rfl rfl 6 (by decide) (hts (.fieldLink RX3 31 "FloatSolver$Nodes" "count" "I") (oX3_add_in _ (List.mem_of_getElem? (i := 1) rfl))) (fun _ h9 => h9) rfl dX3_add_76 ?_
        refine lv_iconst (v := 1) hx hb dX3_add_79 (by decide) ?_
        refine lv_isub hx hb dX3_add_80 ?_
        refine W.widen (k := 0) (n := 0) (by decide) (by decide) ?_
        exact sp_iret (u := (f1, f30, f37, u42, u43)) hx hb hr hlocks hS ⟨px_addsub cn, by rw [ef2, ef31, ef38]; exact NI.add hni hc40 hk (by omega) (by omega)⟩ (hP.sub [0, 1, 2, 3, 4, 5, 6] rfl) (hD.sub [0, 1, 2, 3, 4, 5, 6] (by decide) rfl) dX3_add_81
      · skip
        have c36i : ¬ (r32 : Int32).toInt = 0 := fun h => c36 (Int32.toInt_inj.mp h)
        refine lv_iload_n hx hb dX3_add_51 rfl (lv_at hl 3 rfl) ?_
        refine lv_goto (tgt := 56) hx hb dX3_add_52 (by decide) ?_
        refine va_iast hx hb hK hP hD hS 3 0 rfl rfl (vp_in_iff.mpr ⟨by omega, by omega⟩) dX3_add_56 (fun H locs hP hD hS => ?_)
        obtain ⟨f44, ef45⟩ : ∃ z9 : Nat → Int32, z9 = upd k2 (cn : Int32).toNatClampNeg y := ⟨_, rfl⟩
        rw [← ef45] at hP hD
        have hP : va_P D vwCl [(oN, .inr (1, [.ref n0, .ref n1, .ref n2, .ref n3, .ref n4, .ref n5, .int cn])), (n0, .inl (cI, 40, .inl f1)), (n1, .inl (cI, 40, .inl f30)), (n2, .inl (cI, 40, .inl f44)), (n3, .inl (cI, 40, .inl k3)), (n4, .inl (cJ, 40, .inr (.inl k4))), (n5, .inl (cJ, 4, .inr (.inl k5)))] H := hP
        have hD : va_D A [(oN, .inr (1, [.ref n0, .ref n1, .ref n2, .ref n3, .ref n4, .ref n5, .int cn])), (n0, .inl (cI, 40, .inl f1)), (n1, .inl (cI, 40, .inl f30)), (n2, .inl (cI, 40, .inl f44)), (n3, .inl (cI, 40, .inl k3)), (n4, .inl (cJ, 40, .inr (.inl k4))), (n5, .inl (cJ, 4, .inr (.inl k5)))] := hD
        have hq0 : f1 (cn : Int32).toNatClampNeg = k := by rw [ef2]; exact px_updS _ _ _
        have hq1 : f30 (cn : Int32).toNatClampNeg = x := by rw [ef31]; exact px_updS _ _ _
        have hq2 : f44 (cn : Int32).toNatClampNeg = y := by rw [ef45]; exact px_updS _ _ _
        have hlk : (((f1 (cn : Int32).toNatClampNeg) : Int32).toInt = 1 → 0 ≤ ((f30 (cn : Int32).toNatClampNeg) : Int32).toInt ∧ ((f30 (cn : Int32).toNatClampNeg) : Int32).toInt < 4) ∧ (2 ≤ ((f1 (cn : Int32).toNatClampNeg) : Int32).toInt → (0 ≤ ((f30 (cn : Int32).toNatClampNeg) : Int32).toInt ∧ ((f30 (cn : Int32).toNatClampNeg) : Int32).toInt < 40) ∧ (0 ≤ ((f44 (cn : Int32).toNatClampNeg) : Int32).toInt ∧ ((f44 (cn : Int32).toNatClampNeg) : Int32).toInt < 40)) := by rw [hq0, hq1, hq2]; refine ⟨fun h => ?_, fun h => ?_⟩ <;> omega
        refine lv_aload_n hx hb dX3_add_57 rfl (lv_at hl 0 rfl) ?_
        refine lv_aload_n hx hb dX3_add_58 rfl (lv_at hl 0 rfl) ?_
        refine va_get (D := D) (ci := 1) (v := .int cn) (C := RX3) (T := TX3) (N := 7) hx hb hts iX3_add_X3 hown hK hP 0 rfl rfl 6 (by decide) (hts (.fieldLink RX3 31 "FloatSolver$Nodes" "count" "I") (oX3_add_in _ (List.mem_of_getElem? (i := 1) rfl))) (fun _ h9 => h9) rfl dX3_add_59 ?_
        refine sp_callv (wr := []) (wc := [(oN, .inr (1, [.ref n0, .ref n1, .ref n2, .ref n3, .ref n4, .ref n5, .int cn])), (n0, .inl (cI, 40, .inl f1)), (n1, .inl (cI, 40, .inl f30)), (n2, .inl (cI, 40, .inl f44)), (n3, .inl (cI, 40, .inl k3)), (n4, .inl (cJ, 40, .inr (.inl k4))), (n5, .inl (cJ, 4, .inr (.inl k5)))]) hP hD hS hA [0, 1, 2, 3, 4, 5, 6] [] rfl rfl (by decide) (by decide) (va_runV (As := [.int cn]) (rest := []) ⟨hx, hb, hml, hown, hts⟩ (c_X3_link l D cI cJ cZ H.size oN n0 n1 n2 n3 n4 n5 (f1) (f30) (f44) (k3) (k4) (k5) cn cn (by first | assumption | omega) (by first | assumption | omega)) (cwV 1 hts gX3_add_X3_link_45 rfl rfl rfl (by decide +kernel) ⟨Nat.le_of_ble_eq_true rfl, Nat.le_of_ble_eq_true rfl⟩) (sp_preV (ci := 1) (q0 := 0) [.int cn] hK (hP.sub (ws' := [(oN, .inr (1, [.ref n0, .ref n1, .ref n2, .ref n3, .ref n4, .ref n5, .int cn])), (n0, .inl (cI, 40, .inl f1)), (n1, .inl (cI, 40, .inl f30)), (n2, .inl (cI, 40, .inl f44)), (n3, .inl (cI, 40, .inl k3)), (n4, .inl (cJ, 40, .inr (.inl k4))), (n5, .inl (cJ, 4, .inr (.inl k5)))]) [0, 1, 2, 3, 4, 5, 6] rfl) (hD.sub (ws' := [(oN, .inr (1, [.ref n0, .ref n1, .ref n2, .ref n3, .ref n4, .ref n5, .int cn])), (n0, .inl (cI, 40, .inl f1)), (n1, .inl (cI, 40, .inl f30)), (n2, .inl (cI, 40, .inl f44)), (n3, .inl (cI, 40, .inl k3)), (n4, .inl (cJ, 40, .inr (.inl k4))), (n5, .inl (cJ, 4, .inr (.inl k5)))]) [0, 1, 2, 3, 4, 5, 6] (by decide) rfl) rfl rfl) rfl rfl hl.1 rfl (lv_room (Nat.le_of_ble_eq_true rfl)) dX3_add_62 ⟨Nat.le_of_ble_eq_true rfl, Nat.le_of_ble_eq_true rfl⟩) (fun u47 H locs hw48 hP hD hS => ?_)
        obtain ⟨u49, u50⟩ := u47
        have hP : va_P D vwCl [(oN, .inr (1, [.ref n0, .ref n1, .ref n2, .ref n3, .ref n4, .ref n5, .int cn])), (n0, .inl (cI, 40, .inl f1)), (n1, .inl (cI, 40, .inl f30)), (n2, .inl (cI, 40, .inl f44)), (n3, .inl (cI, 40, .inl k3)), (n4, .inl (cJ, 40, .inr (.inl u49))), (n5, .inl (cJ, 4, .inr (.inl u50)))] H := hP
        have hD : va_D A [(oN, .inr (1, [.ref n0, .ref n1, .ref n2, .ref n3, .ref n4, .ref n5, .int cn])), (n0, .inl (cI, 40, .inl f1)), (n1, .inl (cI, 40, .inl f30)), (n2, .inl (cI, 40, .inl f44)), (n3, .inl (cI, 40, .inl k3)), (n4, .inl (cJ, 40, .inr (.inl u49))), (n5, .inl (cJ, 4, .inr (.inl u50)))] := hD
        refine lv_aload_n hx hb dX3_add_65 rfl (lv_at hl 0 rfl) ?_
        refine lv_dup hx hb dX3_add_66 rfl ?_
        refine va_get (D := D) (ci := 1) (v := .int cn) (C := RX3) (T := TX3) (N := 7) hx hb hts iX3_add_X3 hown hK hP 0 rfl rfl 6 (by decide) (hts (.fieldLink RX3 31 "FloatSolver$Nodes" "count" "I") (oX3_add_in _ (List.mem_of_getElem? (i := 1) rfl))) (fun _ h9 => h9) rfl dX3_add_67 ?_
        refine lv_iconst (v := 1) hx hb dX3_add_70 (by decide) ?_
        refine lv_iadd hx hb dX3_add_71 ?_
        refine va_put (D := D) (ci := 1) (v := .int (cn + 1)) (ty := .int) (C := RX3) (T := TX3) (N := 7) hx hb hts iX3_add_X3 tyX3 tyX3_ok nmX3 hown hK hP hD hS 0 rfl rfl 6 (by decide) (hts (.fieldLink RX3 31 "FloatSolver$Nodes" "count" "I") (oX3_add_in _ (List.mem_of_getElem? (i := 1) rfl))) (fun _ h9 => h9) rfl (by decide +kernel) rfl rfl (Nat.le_of_ble_eq_true rfl) dX3_add_72 (fun H locs hP hD hS => ?_)
        have hP : va_P D vwCl [(oN, .inr (1, [.ref n0, .ref n1, .ref n2, .ref n3, .ref n4, .ref n5, .int (cn + 1)])), (n0, .inl (cI, 40, .inl f1)), (n1, .inl (cI, 40, .inl f30)), (n2, .inl (cI, 40, .inl f44)), (n3, .inl (cI, 40, .inl k3)), (n4, .inl (cJ, 40, .inr (.inl u49))), (n5, .inl (cJ, 4, .inr (.inl u50)))] H := hP
        have hD : va_D A [(oN, .inr (1, [.ref n0, .ref n1, .ref n2, .ref n3, .ref n4, .ref n5, .int (cn + 1)])), (n0, .inl (cI, 40, .inl f1)), (n1, .inl (cI, 40, .inl f30)), (n2, .inl (cI, 40, .inl f44)), (n3, .inl (cI, 40, .inl k3)), (n4, .inl (cJ, 40, .inr (.inl u49))), (n5, .inl (cJ, 4, .inr (.inl u50)))] := hD
        refine lv_aload_n hx hb dX3_add_75 rfl (lv_at hl 0 rfl) ?_
        refine va_get (D := D) (ci := 1) (v := .int (cn + 1)) (C := RX3) (T := TX3) (N := 7) hx hb hts iX3_add_X3 hown hK hP 0 rfl rfl 6 (by decide) (hts (.fieldLink RX3 31 "FloatSolver$Nodes" "count" "I") (oX3_add_in _ (List.mem_of_getElem? (i := 1) rfl))) (fun _ h9 => h9) rfl dX3_add_76 ?_
        refine lv_iconst (v := 1) hx hb dX3_add_79 (by decide) ?_
        refine lv_isub hx hb dX3_add_80 ?_
        refine W.widen (k := 0) (n := 0) (by decide) (by decide) ?_
        exact sp_iret (u := (f1, f30, f44, u49, u50)) hx hb hr hlocks hS ⟨px_addsub cn, by rw [ef2, ef31, ef45]; exact NI.add hni hc40 hk (by omega) (by omega)⟩ (hP.sub [0, 1, 2, 3, 4, 5, 6] rfl) (hD.sub [0, 1, 2, 3, 4, 5, 6] (by decide) rfl) dX3_add_81
    · skip
      have c29i : ¬ (r25 : Int32).toInt = 0 := fun h => c29 (Int32.toInt_inj.mp h)
      refine lv_ldc (v := 2143289344) hx hb hown (hts (.constant RX3 41 (2143289344)) (oX3_add_in _ (List.mem_of_getElem? (i := 4) rfl))) dX3_add_29 ?_
      refine lv_goto (tgt := 35) hx hb dX3_add_31 (by decide) ?_
      refine va_iast hx hb hK hP hD hS 2 0 rfl rfl (vp_in_iff.mpr ⟨by omega, by omega⟩) dX3_add_35 (fun H locs hP hD hS => ?_)
      obtain ⟨f51, ef52⟩ : ∃ z9 : Nat → Int32, z9 = upd k1 (cn : Int32).toNatClampNeg 2143289344 := ⟨_, rfl⟩
      rw [← ef52] at hP hD
      have hP : va_P D vwCl [(oN, .inr (1, [.ref n0, .ref n1, .ref n2, .ref n3, .ref n4, .ref n5, .int cn])), (n0, .inl (cI, 40, .inl f1)), (n1, .inl (cI, 40, .inl f51)), (n2, .inl (cI, 40, .inl k2)), (n3, .inl (cI, 40, .inl k3)), (n4, .inl (cJ, 40, .inr (.inl k4))), (n5, .inl (cJ, 4, .inr (.inl k5)))] H := hP
      have hD : va_D A [(oN, .inr (1, [.ref n0, .ref n1, .ref n2, .ref n3, .ref n4, .ref n5, .int cn])), (n0, .inl (cI, 40, .inl f1)), (n1, .inl (cI, 40, .inl f51)), (n2, .inl (cI, 40, .inl k2)), (n3, .inl (cI, 40, .inl k3)), (n4, .inl (cJ, 40, .inr (.inl k4))), (n5, .inl (cJ, 4, .inr (.inl k5)))] := hD
      refine lv_aload_n hx hb dX3_add_36 rfl (lv_at hl 0 rfl) ?_
      refine va_get (D := D) (ci := 1) (v := .ref n2) (C := RX3) (T := TX3) (N := 7) hx hb hts iX3_add_X3 hown hK hP 0 rfl rfl 2 (by decide) (hts (.fieldLink RX3 18 "FloatSolver$Nodes" "y" "[I") (oX3_add_in _ (List.mem_of_getElem? (i := 3) rfl))) (fun _ h9 => h9) rfl dX3_add_37 ?_
      refine lv_aload_n hx hb dX3_add_40 rfl (lv_at hl 0 rfl) ?_
      refine va_get (D := D) (ci := 1) (v := .int cn) (C := RX3) (T := TX3) (N := 7) hx hb hts iX3_add_X3 hown hK hP 0 rfl rfl 6 (by decide) (hts (.fieldLink RX3 31 "FloatSolver$Nodes" "count" "I") (oX3_add_in _ (List.mem_of_getElem? (i := 1) rfl))) (fun _ h9 => h9) rfl dX3_add_41 ?_
      refine lv_iload_n hx hb dX3_add_44 rfl (lv_at hl 1 rfl) ?_
      refine sp_calli (wr := [(oN, .inr (1, [.ref n0, .ref n1, .ref n2, .ref n3, .ref n4, .ref n5, .int cn])), (n0, .inl (cI, 40, .inl f1)), (n1, .inl (cI, 40, .inl f51)), (n2, .inl (cI, 40, .inl k2)), (n3, .inl (cI, 40, .inl k3)), (n4, .inl (cJ, 40, .inr (.inl k4))), (n5, .inl (cJ, 4, .inr (.inl k5)))]) (wc := []) hP hD hS hA [] [0, 1, 2, 3, 4, 5, 6] rfl rfl (by decide) (by decide) (va_runS (As := [.int k]) (rest := [.int cn, .ref n2]) ⟨hx, hb, hml, hown, hts⟩ (c_X3_looksAtY l D cI cJ cZ H.size (k)) (va_cwS 1 hts gX3_add_X3_looksAtY_42 rfl rfl rfl (by decide +kernel) ⟨Nat.le_of_ble_eq_true rfl, Nat.le_of_ble_eq_true rfl⟩) (sp_preS [.int k] hK (hP.sub (ws' := []) [] rfl) (hD.sub (ws' := []) [] (by decide) rfl)) rfl rfl hl.1 rfl (lv_room (Nat.le_of_ble_eq_true rfl)) dX3_add_45 ⟨Nat.le_of_ble_eq_true rfl, Nat.le_of_ble_eq_true rfl⟩) (fun r53 u54 H locs hw55 hP hD hS => ?_)
      have h56 : ((r53 : Int32).toInt = 1 ∧ ((2 ≤ (k : Int32).toInt ∧ (k : Int32).toInt ≤ 5) ∨ (k : Int32).toInt = 8 ∨ (k : Int32).toInt = 9 ∨ (k : Int32).toInt = 14)) ∨ ((r53 : Int32).toInt = 0 ∧ ¬ ((2 ≤ (k : Int32).toInt ∧ (k : Int32).toInt ≤ 5) ∨ (k : Int32).toInt = 8 ∨ (k : Int32).toInt = 9 ∨ (k : Int32).toInt = 14)) := sp_bool hw55
      have hP : va_P D vwCl [(oN, .inr (1, [.ref n0, .ref n1, .ref n2, .ref n3, .ref n4, .ref n5, .int cn])), (n0, .inl (cI, 40, .inl f1)), (n1, .inl (cI, 40, .inl f51)), (n2, .inl (cI, 40, .inl k2)), (n3, .inl (cI, 40, .inl k3)), (n4, .inl (cJ, 40, .inr (.inl k4))), (n5, .inl (cJ, 4, .inr (.inl k5)))] H := hP
      have hD : va_D A [(oN, .inr (1, [.ref n0, .ref n1, .ref n2, .ref n3, .ref n4, .ref n5, .int cn])), (n0, .inl (cI, 40, .inl f1)), (n1, .inl (cI, 40, .inl f51)), (n2, .inl (cI, 40, .inl k2)), (n3, .inl (cI, 40, .inl k3)), (n4, .inl (cJ, 40, .inr (.inl k4))), (n5, .inl (cJ, 4, .inr (.inl k5)))] := hD
      refine lv_if_eq (tgt := 55) hx hb dX3_add_48 (by decide) (fun c57 => ?_) (fun c57 => ?_)
      · skip
        have c57i : (r53 : Int32).toInt = 0 := congrArg Int32.toInt c57
        refine lv_iload_n hx hb dX3_add_55 rfl (lv_at hl 2 rfl) ?_
        refine va_iast hx hb hK hP hD hS 3 0 rfl rfl (vp_in_iff.mpr ⟨by omega, by omega⟩) dX3_add_56 (fun H locs hP hD hS => ?_)
        obtain ⟨f58, ef59⟩ : ∃ z9 : Nat → Int32, z9 = upd k2 (cn : Int32).toNatClampNeg x := ⟨_, rfl⟩
        rw [← ef59] at hP hD
        have hP : va_P D vwCl [(oN, .inr (1, [.ref n0, .ref n1, .ref n2, .ref n3, .ref n4, .ref n5, .int cn])), (n0, .inl (cI, 40, .inl f1)), (n1, .inl (cI, 40, .inl f51)), (n2, .inl (cI, 40, .inl f58)), (n3, .inl (cI, 40, .inl k3)), (n4, .inl (cJ, 40, .inr (.inl k4))), (n5, .inl (cJ, 4, .inr (.inl k5)))] H := hP
        have hD : va_D A [(oN, .inr (1, [.ref n0, .ref n1, .ref n2, .ref n3, .ref n4, .ref n5, .int cn])), (n0, .inl (cI, 40, .inl f1)), (n1, .inl (cI, 40, .inl f51)), (n2, .inl (cI, 40, .inl f58)), (n3, .inl (cI, 40, .inl k3)), (n4, .inl (cJ, 40, .inr (.inl k4))), (n5, .inl (cJ, 4, .inr (.inl k5)))] := hD
        have hq0 : f1 (cn : Int32).toNatClampNeg = k := by rw [ef2]; exact px_updS _ _ _
        have hq1 : f51 (cn : Int32).toNatClampNeg = 2143289344 := by rw [ef52]; exact px_updS _ _ _
        have hq2 : f58 (cn : Int32).toNatClampNeg = x := by rw [ef59]; exact px_updS _ _ _
        have hlk : (((f1 (cn : Int32).toNatClampNeg) : Int32).toInt = 1 → 0 ≤ ((f51 (cn : Int32).toNatClampNeg) : Int32).toInt ∧ ((f51 (cn : Int32).toNatClampNeg) : Int32).toInt < 4) ∧ (2 ≤ ((f1 (cn : Int32).toNatClampNeg) : Int32).toInt → (0 ≤ ((f51 (cn : Int32).toNatClampNeg) : Int32).toInt ∧ ((f51 (cn : Int32).toNatClampNeg) : Int32).toInt < 40) ∧ (0 ≤ ((f58 (cn : Int32).toNatClampNeg) : Int32).toInt ∧ ((f58 (cn : Int32).toNatClampNeg) : Int32).toInt < 40)) := by rw [hq0, hq1, hq2]; refine ⟨fun h => ?_, fun h => ?_⟩ <;> omega
        refine lv_aload_n hx hb dX3_add_57 rfl (lv_at hl 0 rfl) ?_
        refine lv_aload_n hx hb dX3_add_58 rfl (lv_at hl 0 rfl) ?_
        refine va_get (D := D) (ci := 1) (v := .int cn) (C := RX3) (T := TX3) (N := 7) hx hb hts iX3_add_X3 hown hK hP 0 rfl rfl 6 (by decide) (hts (.fieldLink RX3 31 "FloatSolver$Nodes" "count" "I") (oX3_add_in _ (List.mem_of_getElem? (i := 1) rfl))) (fun _ h9 => h9) rfl dX3_add_59 ?_
        refine sp_callv (wr := []) (wc := [(oN, .inr (1, [.ref n0, .ref n1, .ref n2, .ref n3, .ref n4, .ref n5, .int cn])), (n0, .inl (cI, 40, .inl f1)), (n1, .inl (cI, 40, .inl f51)), (n2, .inl (cI, 40, .inl f58)), (n3, .inl (cI, 40, .inl k3)), (n4, .inl (cJ, 40, .inr (.inl k4))), (n5, .inl (cJ, 4, .inr (.inl k5)))]) hP hD hS hA [0, 1, 2, 3, 4, 5, 6] [] rfl rfl (by decide) (by decide) (va_runV (As := [.int cn]) (rest := []) ⟨hx, hb, hml, hown, hts⟩ (c_X3_link l D cI cJ cZ H.size oN n0 n1 n2 n3 n4 n5 (f1) (f51) (f58) (k3) (k4) (k5) cn cn (by first | assumption | omega) (by first | assumption | omega)) (cwV 1 hts gX3_add_X3_link_45 rfl rfl rfl (by decide +kernel) ⟨Nat.le_of_ble_eq_true rfl, Nat.le_of_ble_eq_true rfl⟩) (sp_preV (ci := 1) (q0 := 0) [.int cn] hK (hP.sub (ws' := [(oN, .inr (1, [.ref n0, .ref n1, .ref n2, .ref n3, .ref n4, .ref n5, .int cn])), (n0, .inl (cI, 40, .inl f1)), (n1, .inl (cI, 40, .inl f51)), (n2, .inl (cI, 40, .inl f58)), (n3, .inl (cI, 40, .inl k3)), (n4, .inl (cJ, 40, .inr (.inl k4))), (n5, .inl (cJ, 4, .inr (.inl k5)))]) [0, 1, 2, 3, 4, 5, 6] rfl) (hD.sub (ws' := [(oN, .inr (1, [.ref n0, .ref n1, .ref n2, .ref n3, .ref n4, .ref n5, .int cn])), (n0, .inl (cI, 40, .inl f1)), (n1, .inl (cI, 40, .inl f51)), (n2, .inl (cI, 40, .inl f58)), (n3, .inl (cI, 40, .inl k3)), (n4, .inl (cJ, 40, .inr (.inl k4))), (n5, .inl (cJ, 4, .inr (.inl k5)))]) [0, 1, 2, 3, 4, 5, 6] (by decide) rfl) rfl rfl) rfl rfl hl.1 rfl (lv_room (Nat.le_of_ble_eq_true rfl)) dX3_add_62 ⟨Nat.le_of_ble_eq_true rfl, Nat.le_of_ble_eq_true rfl⟩) (fun u61 H locs hw62 hP hD hS => ?_)
        obtain ⟨u63, u64⟩ := u61
        have hP : va_P D vwCl [(oN, .inr (1, [.ref n0, .ref n1, .ref n2, .ref n3, .ref n4, .ref n5, .int cn])), (n0, .inl (cI, 40, .inl f1)), (n1, .inl (cI, 40, .inl f51)), (n2, .inl (cI, 40, .inl f58)), (n3, .inl (cI, 40, .inl k3)), (n4, .inl (cJ, 40, .inr (.inl u63))), (n5, .inl (cJ, 4, .inr (.inl u64)))] H := hP
        have hD : va_D A [(oN, .inr (1, [.ref n0, .ref n1, .ref n2, .ref n3, .ref n4, .ref n5, .int cn])), (n0, .inl (cI, 40, .inl f1)), (n1, .inl (cI, 40, .inl f51)), (n2, .inl (cI, 40, .inl f58)), (n3, .inl (cI, 40, .inl k3)), (n4, .inl (cJ, 40, .inr (.inl u63))), (n5, .inl (cJ, 4, .inr (.inl u64)))] := hD
        refine lv_aload_n hx hb dX3_add_65 rfl (lv_at hl 0 rfl) ?_
        refine lv_dup hx hb dX3_add_66 rfl ?_
        refine va_get (D := D) (ci := 1) (v := .int cn) (C := RX3) (T := TX3) (N := 7) hx hb hts iX3_add_X3 hown hK hP 0 rfl rfl 6 (by decide) (hts (.fieldLink RX3 31 "FloatSolver$Nodes" "count" "I") (oX3_add_in _ (List.mem_of_getElem? (i := 1) rfl))) (fun _ h9 => h9) rfl dX3_add_67 ?_
        refine lv_iconst (v := 1) hx hb dX3_add_70 (by decide) ?_
        refine lv_iadd hx hb dX3_add_71 ?_
        refine va_put (D := D) (ci := 1) (v := .int (cn + 1)) (ty := .int) (C := RX3) (T := TX3) (N := 7) hx hb hts iX3_add_X3 tyX3 tyX3_ok nmX3 hown hK hP hD hS 0 rfl rfl 6 (by decide) (hts (.fieldLink RX3 31 "FloatSolver$Nodes" "count" "I") (oX3_add_in _ (List.mem_of_getElem? (i := 1) rfl))) (fun _ h9 => h9) rfl (by decide +kernel) rfl rfl (Nat.le_of_ble_eq_true rfl) dX3_add_72 (fun H locs hP hD hS => ?_)
        have hP : va_P D vwCl [(oN, .inr (1, [.ref n0, .ref n1, .ref n2, .ref n3, .ref n4, .ref n5, .int (cn + 1)])), (n0, .inl (cI, 40, .inl f1)), (n1, .inl (cI, 40, .inl f51)), (n2, .inl (cI, 40, .inl f58)), (n3, .inl (cI, 40, .inl k3)), (n4, .inl (cJ, 40, .inr (.inl u63))), (n5, .inl (cJ, 4, .inr (.inl u64)))] H := hP
        have hD : va_D A [(oN, .inr (1, [.ref n0, .ref n1, .ref n2, .ref n3, .ref n4, .ref n5, .int (cn + 1)])), (n0, .inl (cI, 40, .inl f1)), (n1, .inl (cI, 40, .inl f51)), (n2, .inl (cI, 40, .inl f58)), (n3, .inl (cI, 40, .inl k3)), (n4, .inl (cJ, 40, .inr (.inl u63))), (n5, .inl (cJ, 4, .inr (.inl u64)))] := hD
        refine lv_aload_n hx hb dX3_add_75 rfl (lv_at hl 0 rfl) ?_
        refine va_get (D := D) (ci := 1) (v := .int (cn + 1)) (C := RX3) (T := TX3) (N := 7) hx hb hts iX3_add_X3 hown hK hP 0 rfl rfl 6 (by decide) (hts (.fieldLink RX3 31 "FloatSolver$Nodes" "count" "I") (oX3_add_in _ (List.mem_of_getElem? (i := 1) rfl))) (fun _ h9 => h9) rfl dX3_add_76 ?_
        refine lv_iconst (v := 1) hx hb dX3_add_79 (by decide) ?_
        refine lv_isub hx hb dX3_add_80 ?_
        refine W.widen (k := 0) (n := 0) (by decide) (by decide) ?_
        exact sp_iret (u := (f1, f51, f58, u63, u64)) hx hb hr hlocks hS ⟨px_addsub cn, by rw [ef2, ef52, ef59]; exact NI.add hni hc40 hk (by omega) (by omega)⟩ (hP.sub [0, 1, 2, 3, 4, 5, 6] rfl) (hD.sub [0, 1, 2, 3, 4, 5, 6] (by decide) rfl) dX3_add_81
      · skip
        have c57i : ¬ (r53 : Int32).toInt = 0 := fun h => c57 (Int32.toInt_inj.mp h)
        refine lv_iload_n hx hb dX3_add_51 rfl (lv_at hl 3 rfl) ?_
        refine lv_goto (tgt := 56) hx hb dX3_add_52 (by decide) ?_
        refine va_iast hx hb hK hP hD hS 3 0 rfl rfl (vp_in_iff.mpr ⟨by omega, by omega⟩) dX3_add_56 (fun H locs hP hD hS => ?_)
        obtain ⟨f65, ef66⟩ : ∃ z9 : Nat → Int32, z9 = upd k2 (cn : Int32).toNatClampNeg y := ⟨_, rfl⟩
        rw [← ef66] at hP hD
        have hP : va_P D vwCl [(oN, .inr (1, [.ref n0, .ref n1, .ref n2, .ref n3, .ref n4, .ref n5, .int cn])), (n0, .inl (cI, 40, .inl f1)), (n1, .inl (cI, 40, .inl f51)), (n2, .inl (cI, 40, .inl f65)), (n3, .inl (cI, 40, .inl k3)), (n4, .inl (cJ, 40, .inr (.inl k4))), (n5, .inl (cJ, 4, .inr (.inl k5)))] H := hP
        have hD : va_D A [(oN, .inr (1, [.ref n0, .ref n1, .ref n2, .ref n3, .ref n4, .ref n5, .int cn])), (n0, .inl (cI, 40, .inl f1)), (n1, .inl (cI, 40, .inl f51)), (n2, .inl (cI, 40, .inl f65)), (n3, .inl (cI, 40, .inl k3)), (n4, .inl (cJ, 40, .inr (.inl k4))), (n5, .inl (cJ, 4, .inr (.inl k5)))] := hD
        have hq0 : f1 (cn : Int32).toNatClampNeg = k := by rw [ef2]; exact px_updS _ _ _
        have hq1 : f51 (cn : Int32).toNatClampNeg = 2143289344 := by rw [ef52]; exact px_updS _ _ _
        have hq2 : f65 (cn : Int32).toNatClampNeg = y := by rw [ef66]; exact px_updS _ _ _
        have hlk : (((f1 (cn : Int32).toNatClampNeg) : Int32).toInt = 1 → 0 ≤ ((f51 (cn : Int32).toNatClampNeg) : Int32).toInt ∧ ((f51 (cn : Int32).toNatClampNeg) : Int32).toInt < 4) ∧ (2 ≤ ((f1 (cn : Int32).toNatClampNeg) : Int32).toInt → (0 ≤ ((f51 (cn : Int32).toNatClampNeg) : Int32).toInt ∧ ((f51 (cn : Int32).toNatClampNeg) : Int32).toInt < 40) ∧ (0 ≤ ((f65 (cn : Int32).toNatClampNeg) : Int32).toInt ∧ ((f65 (cn : Int32).toNatClampNeg) : Int32).toInt < 40)) := by rw [hq0, hq1, hq2]; refine ⟨fun h => ?_, fun h => ?_⟩ <;> omega
        refine lv_aload_n hx hb dX3_add_57 rfl (lv_at hl 0 rfl) ?_
        refine lv_aload_n hx hb dX3_add_58 rfl (lv_at hl 0 rfl) ?_
        refine va_get (D := D) (ci := 1) (v := .int cn) (C := RX3) (T := TX3) (N := 7) hx hb hts iX3_add_X3 hown hK hP 0 rfl rfl 6 (by decide) (hts (.fieldLink RX3 31 "FloatSolver$Nodes" "count" "I") (oX3_add_in _ (List.mem_of_getElem? (i := 1) rfl))) (fun _ h9 => h9) rfl dX3_add_59 ?_
        refine sp_callv (wr := []) (wc := [(oN, .inr (1, [.ref n0, .ref n1, .ref n2, .ref n3, .ref n4, .ref n5, .int cn])), (n0, .inl (cI, 40, .inl f1)), (n1, .inl (cI, 40, .inl f51)), (n2, .inl (cI, 40, .inl f65)), (n3, .inl (cI, 40, .inl k3)), (n4, .inl (cJ, 40, .inr (.inl k4))), (n5, .inl (cJ, 4, .inr (.inl k5)))]) hP hD hS hA [0, 1, 2, 3, 4, 5, 6] [] rfl rfl (by decide) (by decide) (va_runV (As := [.int cn]) (rest := []) ⟨hx, hb, hml, hown, hts⟩ (c_X3_link l D cI cJ cZ H.size oN n0 n1 n2 n3 n4 n5 (f1) (f51) (f65) (k3) (k4) (k5) cn cn (by first | assumption | omega) (by first | assumption | omega)) (cwV 1 hts gX3_add_X3_link_45 rfl rfl rfl (by decide +kernel) ⟨Nat.le_of_ble_eq_true rfl, Nat.le_of_ble_eq_true rfl⟩) (sp_preV (ci := 1) (q0 := 0) [.int cn] hK (hP.sub (ws' := [(oN, .inr (1, [.ref n0, .ref n1, .ref n2, .ref n3, .ref n4, .ref n5, .int cn])), (n0, .inl (cI, 40, .inl f1)), (n1, .inl (cI, 40, .inl f51)), (n2, .inl (cI, 40, .inl f65)), (n3, .inl (cI, 40, .inl k3)), (n4, .inl (cJ, 40, .inr (.inl k4))), (n5, .inl (cJ, 4, .inr (.inl k5)))]) [0, 1, 2, 3, 4, 5, 6] rfl) (hD.sub (ws' := [(oN, .inr (1, [.ref n0, .ref n1, .ref n2, .ref n3, .ref n4, .ref n5, .int cn])), (n0, .inl (cI, 40, .inl f1)), (n1, .inl (cI, 40, .inl f51)), (n2, .inl (cI, 40, .inl f65)), (n3, .inl (cI, 40, .inl k3)), (n4, .inl (cJ, 40, .inr (.inl k4))), (n5, .inl (cJ, 4, .inr (.inl k5)))]) [0, 1, 2, 3, 4, 5, 6] (by decide) rfl) rfl rfl) rfl rfl hl.1 rfl (lv_room (Nat.le_of_ble_eq_true rfl)) dX3_add_62 ⟨Nat.le_of_ble_eq_true rfl, Nat.le_of_ble_eq_true rfl⟩) (fun u68 H locs hw69 hP hD hS => ?_)
        obtain ⟨u70, u71⟩ := u68
        have hP : va_P D vwCl [(oN, .inr (1, [.ref n0, .ref n1, .ref n2, .ref n3, .ref n4, .ref n5, .int cn])), (n0, .inl (cI, 40, .inl f1)), (n1, .inl (cI, 40, .inl f51)), (n2, .inl (cI, 40, .inl f65)), (n3, .inl (cI, 40, .inl k3)), (n4, .inl (cJ, 40, .inr (.inl u70))), (n5, .inl (cJ, 4, .inr (.inl u71)))] H := hP
        have hD : va_D A [(oN, .inr (1, [.ref n0, .ref n1, .ref n2, .ref n3, .ref n4, .ref n5, .int cn])), (n0, .inl (cI, 40, .inl f1)), (n1, .inl (cI, 40, .inl f51)), (n2, .inl (cI, 40, .inl f65)), (n3, .inl (cI, 40, .inl k3)), (n4, .inl (cJ, 40, .inr (.inl u70))), (n5, .inl (cJ, 4, .inr (.inl u71)))] := hD
        refine lv_aload_n hx hb dX3_add_65 rfl (lv_at hl 0 rfl) ?_
        refine lv_dup hx hb dX3_add_66 rfl ?_
        refine va_get (D := D) (ci := 1) (v := .int cn) (C := RX3) (T := TX3) (N := 7) hx hb hts iX3_add_X3 hown hK hP 0 rfl rfl 6 (by decide) (hts (.fieldLink RX3 31 "FloatSolver$Nodes" "count" "I") (oX3_add_in _ (List.mem_of_getElem? (i := 1) rfl))) (fun _ h9 => h9) rfl dX3_add_67 ?_
        refine lv_iconst (v := 1) hx hb dX3_add_70 (by decide) ?_
        refine lv_iadd hx hb dX3_add_71 ?_
        refine va_put (D := D) (ci := 1) (v := .int (cn + 1)) (ty := .int) (C := RX3) (T := TX3) (N := 7) hx hb hts iX3_add_X3 tyX3 tyX3_ok nmX3 hown hK hP hD hS 0 rfl rfl 6 (by decide) (hts (.fieldLink RX3 31 "FloatSolver$Nodes" "count" "I") (oX3_add_in _ (List.mem_of_getElem? (i := 1) rfl))) (fun _ h9 => h9) rfl (by decide +kernel) rfl rfl (Nat.le_of_ble_eq_true rfl) dX3_add_72 (fun H locs hP hD hS => ?_)
        have hP : va_P D vwCl [(oN, .inr (1, [.ref n0, .ref n1, .ref n2, .ref n3, .ref n4, .ref n5, .int (cn + 1)])), (n0, .inl (cI, 40, .inl f1)), (n1, .inl (cI, 40, .inl f51)), (n2, .inl (cI, 40, .inl f65)), (n3, .inl (cI, 40, .inl k3)), (n4, .inl (cJ, 40, .inr (.inl u70))), (n5, .inl (cJ, 4, .inr (.inl u71)))] H := hP
        have hD : va_D A [(oN, .inr (1, [.ref n0, .ref n1, .ref n2, .ref n3, .ref n4, .ref n5, .int (cn + 1)])), (n0, .inl (cI, 40, .inl f1)), (n1, .inl (cI, 40, .inl f51)), (n2, .inl (cI, 40, .inl f65)), (n3, .inl (cI, 40, .inl k3)), (n4, .inl (cJ, 40, .inr (.inl u70))), (n5, .inl (cJ, 4, .inr (.inl u71)))] := hD
        refine lv_aload_n hx hb dX3_add_75 rfl (lv_at hl 0 rfl) ?_
        refine va_get (D := D) (ci := 1) (v := .int (cn + 1)) (C := RX3) (T := TX3) (N := 7) hx hb hts iX3_add_X3 hown hK hP 0 rfl rfl 6 (by decide) (hts (.fieldLink RX3 31 "FloatSolver$Nodes" "count" "I") (oX3_add_in _ (List.mem_of_getElem? (i := 1) rfl))) (fun _ h9 => h9) rfl dX3_add_76 ?_
        refine lv_iconst (v := 1) hx hb dX3_add_79 (by decide) ?_
        refine lv_isub hx hb dX3_add_80 ?_
        refine W.widen (k := 0) (n := 0) (by decide) (by decide) ?_
        exact sp_iret (u := (f1, f51, f65, u70, u71)) hx hb hr hlocks hS ⟨px_addsub cn, by rw [ef2, ef52, ef66]; exact NI.add hni hc40 hk (by omega) (by omega)⟩ (hP.sub [0, 1, 2, 3, 4, 5, 6] rfl) (hD.sub [0, 1, 2, 3, 4, 5, 6] (by decide) rfl) dX3_add_81
