def oX3_link : List Cond := [.fieldLink RX3 24 "FloatSolver$Nodes" "rests" "[J", .fieldLink RX3 9 "FloatSolver$Nodes" "kind" "[I", .fieldLink RX3 28 "FloatSolver$Nodes" "users" "[J", .fieldLink RX3 15 "FloatSolver$Nodes" "x" "[I"]
def wpX3_link : List Cond := .code yX3_link cX3_link 5 none :: (oX3_link ++ (wsX30 ++ ((va_wsS RX3 49 yX3_looksAtX wpX3_looksAtX) ++ ([] : List Cond))))
theorem oX3_link_in : ∀ w ∈ oX3_link, w ∈ wpX3_link := fun w h => List.mem_cons_of_mem _ (List.mem_append_left _ h)
theorem gwoX3_link : ∀ w ∈ oX3_link, goodWord w = true := by decide +kernel
theorem gwX3_link : ∀ w ∈ wpX3_link, goodWord w = true := by
  unfold wpX3_link
  exact List.forall_mem_cons.mpr ⟨rfl, List.forall_mem_append.mpr ⟨gwoX3_link, List.forall_mem_append.mpr ⟨gwX3, List.forall_mem_append.mpr ⟨(sp_gS gwX3_looksAtX), fun _ h => absurd h List.not_mem_nil⟩⟩⟩⟩
set_option maxRecDepth 100000 in
theorem toX3_link : ∀ w ∈ oX3_link, w ∈ lw_tbl := by
  unfold oX3_link
  exact List.forall_mem_cons.mpr ⟨(List.mem_of_getElem? (i := 78) (by decide +kernel)), List.forall_mem_cons.mpr ⟨(List.mem_of_getElem? (i := 69) (by decide +kernel)), List.forall_mem_cons.mpr ⟨(List.mem_of_getElem? (i := 81) (by decide +kernel)), List.forall_mem_cons.mpr ⟨(List.mem_of_getElem? (i := 71) (by decide +kernel)), fun _ h => absurd h List.not_mem_nil⟩⟩⟩⟩
set_option maxRecDepth 100000 in
theorem tX3_link : ∀ w ∈ wpX3_link, w ∈ lw_tbl := by
  unfold wpX3_link
  exact List.forall_mem_cons.mpr ⟨(List.mem_of_getElem? (i := 289) (by rfl)), List.forall_mem_append.mpr ⟨toX3_link, List.forall_mem_append.mpr ⟨in_wsX30, List.forall_mem_append.mpr ⟨(sp_tS (List.mem_of_getElem? (i := 290) (by decide +kernel)) (List.mem_of_getElem? (i := 266) (by decide +kernel)) (List.mem_of_getElem? (i := 39) (by decide +kernel)) tX3_looksAtX), fun _ h => absurd h List.not_mem_nil⟩⟩⟩⟩
theorem iX3_link_X3 : ∀ w ∈ wsX30, w ∈ wpX3_link := fun w h => List.mem_cons_of_mem _ (List.mem_append_right _ (List.mem_append_left _ h))
theorem gX3_link_X3_looksAtX_49 : GoodIn wpX3_link (va_wsS RX3 49 yX3_looksAtX wpX3_looksAtX) := fun w h => ⟨List.mem_cons_of_mem _ (List.mem_append_right _ (List.mem_append_right _ (List.mem_append_left _ h))), good_of_word (sp_gS gwX3_looksAtX w h)⟩
set_option maxHeartbeats 4000000 in
set_option maxRecDepth 100000 in
theorem c_X3_link (l : Launch) (D : va_G) (cI cJ cZ : ClassId) (sz : Nat) (oN : Nat) (n0 n1 n2 n3 n4 n5 : Nat) (k0 k1 k2 k3 : Nat → Int32) (k4 k5 : Nat → Int64) (h1 : (k0 0).toInt < 2) (h2 : (k0 0).toInt = 1 → 0 ≤ (k1 0).toInt ∧ (k1 0).toInt < 4) : Met l yX3_link wpX3_link ({ frames := 1, cells := 0, slots := 0, locals := 20 }) (va_Pc [.ref oN, .int 0] (sp_pre D vwCl (sp_ty cI cJ cZ) [(oN, .inr (1, [.ref n0, .ref n1, .ref n2, .ref n3, .ref n4, .ref n5, .int 0])), (n0, .inl (cI, 40, .inl k0)), (n1, .inl (cI, 40, .inl k1)), (n2, .inl (cI, 40, .inl k2)), (n3, .inl (cI, 40, .inl k3)), (n4, .inl (cJ, 40, .inr (.inl k4))), (n5, .inl (cJ, 4, .inr (.inl k5)))] sz)) (va_Qv (fun (u : (Nat → Int64) × (Nat → Int64)) => match u with | (f, g) => True) (sp_B D vwCl (va_A [(oN, .inr (1, [.ref n0, .ref n1, .ref n2, .ref n3, .ref n4, .ref n5, .int 0])), (n0, .inl (cI, 40, .inl k0)), (n1, .inl (cI, 40, .inl k1)), (n2, .inl (cI, 40, .inl k2)), (n3, .inl (cI, 40, .inl k3)), (n4, .inl (cJ, 40, .inr (.inl k4))), (n5, .inl (cJ, 4, .inr (.inl k5)))] sz) (fun (u : (Nat → Int64) × (Nat → Int64)) => match u with | (f, g) => [(oN, .inr (1, [.ref n0, .ref n1, .ref n2, .ref n3, .ref n4, .ref n5, .int 0])), (n0, .inl (cI, 40, .inl k0)), (n1, .inl (cI, 40, .inl k1)), (n2, .inl (cI, 40, .inl k2)), (n3, .inl (cI, 40, .inl k3)), (n4, .inl (cJ, 40, .inr (.inl f))), (n5, .inl (cJ, 4, .inr (.inl g)))])) (va_A [(oN, .inr (1, [.ref n0, .ref n1, .ref n2, .ref n3, .ref n4, .ref n5, .int 0])), (n0, .inl (cI, 40, .inl k0)), (n1, .inl (cI, 40, .inl k1)), (n2, .inl (cI, 40, .inl k2)), (n3, .inl (cI, 40, .inl k3)), (n4, .inl (cJ, 40, .inr (.inl k4))), (n5, .inl (cJ, 4, .inr (.inl k5)))] sz)) 0 0 (va_A [(oN, .inr (1, [.ref n0, .ref n1, .ref n2, .ref n3, .ref n4, .ref n5, .int 0])), (n0, .inl (cI, 40, .inl k0)), (n1, .inl (cI, 40, .inl k1)), (n2, .inl (cI, 40, .inl k2)), (n3, .inl (cI, 40, .inl k3)), (n4, .inl (cJ, 40, .inr (.inl k4))), (n5, .inl (cJ, 4, .inr (.inl k5)))] sz) := by
  refine sp_ofW (Qc := fun A => va_Qv (fun (u : (Nat → Int64) × (Nat → Int64)) => match u with | (f, g) => True) (sp_B D vwCl A (fun (u : (Nat → Int64) × (Nat → Int64)) => match u with | (f, g) => [(oN, .inr (1, [.ref n0, .ref n1, .ref n2, .ref n3, .ref n4, .ref n5, .int 0])), (n0, .inl (cI, 40, .inl k0)), (n1, .inl (cI, 40, .inl k1)), (n2, .inl (cI, 40, .inl k2)), (n3, .inl (cI, 40, .inl k3)), (n4, .inl (cJ, 40, .inr (.inl f))), (n5, .inl (cJ, 4, .inr (.inl g)))])) A) (by decide) rfl (Nat.le_of_ble_eq_true rfl) (fun p e s m below meth c A ls H locs C0 hA hS hP hK hD hl => ?_)
  obtain ⟨hx, hb, hr, hts, hown, hlocks, hml, hin⟩ := C0
  have hown : s.vm.findClass RX3 = some m.cls := hown
  have hl : lv_has ls 5 [(0, .ref oN), (1, .int 0)] := hl
  have hK : va_K D vwCl [(cI, .int), (cJ, .long), (cZ, .boolean)] s := hK
  refine lv_lconst (v := 1) hx hb dX3_link_0 (by decide) ?_
  refine lv_iload_n hx hb dX3_link_1 rfl (lv_at hl 1 rfl) ?_
  refine lv_lshl (v := _) hx hb dX3_link_2 rfl ?_
  refine lv_topl (fun y1 e2 => ?_)
  refine lv_lstore_n (lv' := [(2, .long y1), (0, .ref oN), (1, .int 0)]) hx hb dX3_link_3 rfl hl (by decide) rfl (fun ls hl => ?_)
  refine lv_aload_n hx hb dX3_link_4 rfl (lv_at hl 1 rfl) ?_
  refine va_get (D := D) (ci := 1) (v := .ref n4) (C := RX3) (T := TX3) (N := 7) hx hb hts iX3_link_X3 hown hK hP 0 rfl rfl 4 (by decide) (hts (.fieldLink RX3 24 "FloatSolver$Nodes" "rests" "[J") (oX3_link_in _ (List.mem_of_getElem? (i := 0) rfl))) (fun _ h9 => h9) rfl dX3_link_5 ?_
  refine lv_iload_n hx hb dX3_link_8 rfl (lv_at hl 2 rfl) ?_
  refine lv_aload_n hx hb dX3_link_9 rfl (lv_at hl 1 rfl) ?_
  refine va_get (D := D) (ci := 1) (v := .ref n0) (C := RX3) (T := TX3) (N := 7) hx hb hts iX3_link_X3 hown hK hP 0 rfl rfl 0 (by decide) (hts (.fieldLink RX3 9 "FloatSolver$Nodes" "kind" "[I") (oX3_link_in _ (List.mem_of_getElem? (i := 1) rfl))) (fun _ h9 => h9) rfl dX3_link_10 ?_
  refine lv_iload_n hx hb dX3_link_13 rfl (lv_at hl 2 rfl) ?_
  refine va_iald hx hb hK hP 1 0 rfl rfl (by unfold vp_in; decide) dX3_link_14 ?_
  refine lv_topi (fun y3 e4 => ?_)
  obtain rfl : y3 = k0 0 := e4
  refine sp_calli (wr := [(oN, .inr (1, [.ref n0, .ref n1, .ref n2, .ref n3, .ref n4, .ref n5, .int 0])), (n0, .inl (cI, 40, .inl k0)), (n1, .inl (cI, 40, .inl k1)), (n2, .inl (cI, 40, .inl k2)), (n3, .inl (cI, 40, .inl k3)), (n4, .inl (cJ, 40, .inr (.inl k4))), (n5, .inl (cJ, 4, .inr (.inl k5)))]) (wc := []) hP hD hS hA [] [0, 1, 2, 3, 4, 5, 6] rfl rfl (by decide) (by decide) (va_runS (As := [.int (k0 0)]) (rest := [.int 0, .ref n4]) ⟨hx, hb, hml, hown, hts⟩ (c_X3_looksAtX l D cI cJ cZ H.size ((k0 0))) (va_cwS 1 hts gX3_link_X3_looksAtX_49 rfl rfl rfl (by decide +kernel) ⟨Nat.le_of_ble_eq_true rfl, Nat.le_of_ble_eq_true rfl⟩) (sp_preS [.int (k0 0)] hK (hP.sub (ws' := []) [] rfl) (hD.sub (ws' := []) [] (by decide) rfl)) rfl rfl hl.1 rfl (lv_room (Nat.le_of_ble_eq_true rfl)) dX3_link_15 ⟨Nat.le_of_ble_eq_true rfl, Nat.le_of_ble_eq_true rfl⟩) (fun r5 u6 H locs hw7 hP hD hS => ?_)
  rcases hw7 with ⟨rfl, h8⟩ | ⟨rfl, h8⟩
  · skip
    have h8 : 2 ≤ ((k0 0) : Int32).toInt ∧ ((k0 0) : Int32).toInt ≤ 15 := h8
    exact absurd h8 (by omega)
  · skip
    have h8 : ¬ (2 ≤ ((k0 0) : Int32).toInt ∧ ((k0 0) : Int32).toInt ≤ 15) := h8
    have hP : va_P D vwCl [(oN, .inr (1, [.ref n0, .ref n1, .ref n2, .ref n3, .ref n4, .ref n5, .int 0])), (n0, .inl (cI, 40, .inl k0)), (n1, .inl (cI, 40, .inl k1)), (n2, .inl (cI, 40, .inl k2)), (n3, .inl (cI, 40, .inl k3)), (n4, .inl (cJ, 40, .inr (.inl k4))), (n5, .inl (cJ, 4, .inr (.inl k5)))] H := hP
    have hD : va_D A [(oN, .inr (1, [.ref n0, .ref n1, .ref n2, .ref n3, .ref n4, .ref n5, .int 0])), (n0, .inl (cI, 40, .inl k0)), (n1, .inl (cI, 40, .inl k1)), (n2, .inl (cI, 40, .inl k2)), (n3, .inl (cI, 40, .inl k3)), (n4, .inl (cJ, 40, .inr (.inl k4))), (n5, .inl (cJ, 4, .inr (.inl k5)))] := hD
    refine lv_if_eq (tgt := 49) hx hb dX3_link_18 (by decide) (fun _ => ?_) (fun c9 => absurd (by decide) c9)
    refine lv_lload_n hx hb dX3_link_49 rfl (lv_at hl 0 rfl) ?_
    refine va_last hx hb hK hP hD hS 5 1 rfl rfl (by unfold vp_in; decide) dX3_link_50 (fun H locs hP hD hS => ?_)
    obtain ⟨f10, ef11⟩ : ∃ z9 : Nat → Int64, z9 = vp_updL k4 (0 : Int32).toNatClampNeg y1 := ⟨_, rfl⟩
    rw [← ef11] at hP hD
    have hP : va_P D vwCl [(oN, .inr (1, [.ref n0, .ref n1, .ref n2, .ref n3, .ref n4, .ref n5, .int 0])), (n0, .inl (cI, 40, .inl k0)), (n1, .inl (cI, 40, .inl k1)), (n2, .inl (cI, 40, .inl k2)), (n3, .inl (cI, 40, .inl k3)), (n4, .inl (cJ, 40, .inr (.inl f10))), (n5, .inl (cJ, 4, .inr (.inl k5)))] H := hP
    have hD : va_D A [(oN, .inr (1, [.ref n0, .ref n1, .ref n2, .ref n3, .ref n4, .ref n5, .int 0])), (n0, .inl (cI, 40, .inl k0)), (n1, .inl (cI, 40, .inl k1)), (n2, .inl (cI, 40, .inl k2)), (n3, .inl (cI, 40, .inl k3)), (n4, .inl (cJ, 40, .inr (.inl f10))), (n5, .inl (cJ, 4, .inr (.inl k5)))] := hD
    refine lv_aload_n hx hb dX3_link_51 rfl (lv_at hl 1 rfl) ?_
    refine va_get (D := D) (ci := 1) (v := .ref n0) (C := RX3) (T := TX3) (N := 7) hx hb hts iX3_link_X3 hown hK hP 0 rfl rfl 0 (by decide) (hts (.fieldLink RX3 9 "FloatSolver$Nodes" "kind" "[I") (oX3_link_in _ (List.mem_of_getElem? (i := 1) rfl))) (fun _ h9 => h9) rfl dX3_link_52 ?_
    refine lv_iload_n hx hb dX3_link_55 rfl (lv_at hl 2 rfl) ?_
    refine va_iald hx hb hK hP 1 0 rfl rfl (by unfold vp_in; decide) dX3_link_56 ?_
    refine lv_topi (fun y12 e13 => ?_)
    obtain rfl : y12 = k0 0 := e13
    refine lv_iconst (v := 1) hx hb dX3_link_57 (by decide) ?_
    refine lv_icmp_ne (tgt := 76) hx hb dX3_link_58 (by decide) (fun c14 => ?_) (fun c14 => ?_)
    · skip
      have c14i : ¬ ((k0 0) : Int32).toInt = 1 := fun h => c14 (Int32.toInt_inj.mp h)
      refine lv_iconst (v := 0) hx hb dX3_link_76 (by decide) ?_
      refine lv_istore (lv' := [(4, .int 0), (2, .long y1), (0, .ref oN), (1, .int 0)]) hx hb dX3_link_77 hl (by decide) rfl (fun ls hl => ?_)
      refine lv_iload hx hb dX3_link_79 (lv_at hl 0 rfl) ?_
      refine lv_iconst (v := 4) hx hb dX3_link_81 (by decide) ?_
      refine lv_icmp_ge (tgt := 121) hx hb dX3_link_82 (by decide) (fun c15 => absurd c15 (by decide)) (fun _ => ?_)
      refine lv_aload_n hx hb dX3_link_85 rfl (lv_at hl 2 rfl) ?_
      refine va_get (D := D) (ci := 1) (v := .ref n5) (C := RX3) (T := TX3) (N := 7) hx hb hts iX3_link_X3 hown hK hP 0 rfl rfl 5 (by decide) (hts (.fieldLink RX3 28 "FloatSolver$Nodes" "users" "[J") (oX3_link_in _ (List.mem_of_getElem? (i := 2) rfl))) (fun _ h9 => h9) rfl dX3_link_86 ?_
      refine lv_iload hx hb dX3_link_89 (lv_at hl 0 rfl) ?_
      refine va_lald hx hb hK hP 6 1 rfl rfl (by unfold vp_in; decide) dX3_link_91 ?_
      refine lv_topl (fun y16 e17 => ?_)
      obtain rfl : y16 = k5 0 := e17
      refine lv_aload_n hx hb dX3_link_92 rfl (lv_at hl 2 rfl) ?_
      refine va_get (D := D) (ci := 1) (v := .ref n4) (C := RX3) (T := TX3) (N := 7) hx hb hts iX3_link_X3 hown hK hP 0 rfl rfl 4 (by decide) (hts (.fieldLink RX3 24 "FloatSolver$Nodes" "rests" "[J") (oX3_link_in _ (List.mem_of_getElem? (i := 0) rfl))) (fun _ h9 => h9) rfl dX3_link_93 ?_
      refine lv_iload_n hx hb dX3_link_96 rfl (lv_at hl 3 rfl) ?_
      refine va_lald hx hb hK hP 5 1 rfl rfl (by unfold vp_in; decide) dX3_link_97 ?_
      refine lv_topl (fun y18 e19 => ?_)
      obtain rfl : y18 = f10 0 := e19
      refine lv_land hx hb dX3_link_98 ?_
      refine lv_topl (fun y20 e21 => ?_)
      refine lv_lconst (v := 0) hx hb dX3_link_99 (by decide) ?_
      refine W.lcmp hx hb dX3_link_100 ?_
      refine lv_if_eq (tgt := 115) hx hb dX3_link_101 (by decide) (fun c22 => ?_) (fun c22 => ?_)
      · skip
        have c22 := (lg_cmp_eq _ _).mp c22
        have c22i : (y20 : Int64).toInt = 0 := congrArg Int64.toInt c22
        refine lv_iinc (v := 1) (lv' := [(4, .int 1), (2, .long y1), (0, .ref oN), (1, .int 0)]) hx hb dX3_link_115 hl (k := 0) rfl (by decide) (by decide) rfl (fun ls hl => ?_)
        refine lv_goto (tgt := 79) hx hb dX3_link_118 (by decide) ?_
        refine lv_iload hx hb dX3_link_79 (lv_at hl 0 rfl) ?_
        refine lv_iconst (v := 4) hx hb dX3_link_81 (by decide) ?_
        refine lv_icmp_ge (tgt := 121) hx hb dX3_link_82 (by decide) (fun c23 => absurd c23 (by decide)) (fun _ => ?_)
        refine lv_aload_n hx hb dX3_link_85 rfl (lv_at hl 2 rfl) ?_
        refine va_get (D := D) (ci := 1) (v := .ref n5) (C := RX3) (T := TX3) (N := 7) hx hb hts iX3_link_X3 hown hK hP 0 rfl rfl 5 (by decide) (hts (.fieldLink RX3 28 "FloatSolver$Nodes" "users" "[J") (oX3_link_in _ (List.mem_of_getElem? (i := 2) rfl))) (fun _ h9 => h9) rfl dX3_link_86 ?_
        refine lv_iload hx hb dX3_link_89 (lv_at hl 0 rfl) ?_
        refine va_lald hx hb hK hP 6 1 rfl rfl (by unfold vp_in; decide) dX3_link_91 ?_
        refine lv_topl (fun y24 e25 => ?_)
        obtain rfl : y24 = k5 1 := e25
        refine lv_aload_n hx hb dX3_link_92 rfl (lv_at hl 2 rfl) ?_
        refine va_get (D := D) (ci := 1) (v := .ref n4) (C := RX3) (T := TX3) (N := 7) hx hb hts iX3_link_X3 hown hK hP 0 rfl rfl 4 (by decide) (hts (.fieldLink RX3 24 "FloatSolver$Nodes" "rests" "[J") (oX3_link_in _ (List.mem_of_getElem? (i := 0) rfl))) (fun _ h9 => h9) rfl dX3_link_93 ?_
        refine lv_iload_n hx hb dX3_link_96 rfl (lv_at hl 3 rfl) ?_
        refine va_lald hx hb hK hP 5 1 rfl rfl (by unfold vp_in; decide) dX3_link_97 ?_
        refine lv_topl (fun y26 e27 => ?_)
        obtain rfl : y26 = f10 0 := e27
        refine lv_land hx hb dX3_link_98 ?_
        refine lv_topl (fun y28 e29 => ?_)
        refine lv_lconst (v := 0) hx hb dX3_link_99 (by decide) ?_
        refine W.lcmp hx hb dX3_link_100 ?_
        refine lv_if_eq (tgt := 115) hx hb dX3_link_101 (by decide) (fun c30 => ?_) (fun c30 => ?_)
        · skip
          have c30 := (lg_cmp_eq _ _).mp c30
          have c30i : (y28 : Int64).toInt = 0 := congrArg Int64.toInt c30
          refine lv_iinc (v := 2) (lv' := [(4, .int 2), (2, .long y1), (0, .ref oN), (1, .int 0)]) hx hb dX3_link_115 hl (k := 0) rfl (by decide) (by decide) rfl (fun ls hl => ?_)
          refine lv_goto (tgt := 79) hx hb dX3_link_118 (by decide) ?_
          refine lv_iload hx hb dX3_link_79 (lv_at hl 0 rfl) ?_
          refine lv_iconst (v := 4) hx hb dX3_link_81 (by decide) ?_
          refine lv_icmp_ge (tgt := 121) hx hb dX3_link_82 (by decide) (fun c31 => absurd c31 (by decide)) (fun _ => ?_)
          refine lv_aload_n hx hb dX3_link_85 rfl (lv_at hl 2 rfl) ?_
          refine va_get (D := D) (ci := 1) (v := .ref n5) (C := RX3) (T := TX3) (N := 7) hx hb hts iX3_link_X3 hown hK hP 0 rfl rfl 5 (by decide) (hts (.fieldLink RX3 28 "FloatSolver$Nodes" "users" "[J") (oX3_link_in _ (List.mem_of_getElem? (i := 2) rfl))) (fun _ h9 => h9) rfl dX3_link_86 ?_
          refine lv_iload hx hb dX3_link_89 (lv_at hl 0 rfl) ?_
          refine va_lald hx hb hK hP 6 1 rfl rfl (by unfold vp_in; decide) dX3_link_91 ?_
          refine lv_topl (fun y32 e33 => ?_)
          obtain rfl : y32 = k5 2 := e33
          refine lv_aload_n hx hb dX3_link_92 rfl (lv_at hl 2 rfl) ?_
          refine va_get (D := D) (ci := 1) (v := .ref n4) (C := RX3) (T := TX3) (N := 7) hx hb hts iX3_link_X3 hown hK hP 0 rfl rfl 4 (by decide) (hts (.fieldLink RX3 24 "FloatSolver$Nodes" "rests" "[J") (oX3_link_in _ (List.mem_of_getElem? (i := 0) rfl))) (fun _ h9 => h9) rfl dX3_link_93 ?_
          refine lv_iload_n hx hb dX3_link_96 rfl (lv_at hl 3 rfl) ?_
          refine va_lald hx hb hK hP 5 1 rfl rfl (by unfold vp_in; decide) dX3_link_97 ?_
          refine lv_topl (fun y34 e35 => ?_)
          obtain rfl : y34 = f10 0 := e35
          refine lv_land hx hb dX3_link_98 ?_
          refine lv_topl (fun y36 e37 => ?_)
          refine lv_lconst (v := 0) hx hb dX3_link_99 (by decide) ?_
          refine W.lcmp hx hb dX3_link_100 ?_
          refine lv_if_eq (tgt := 115) hx hb dX3_link_101 (by decide) (fun c38 => ?_) (fun c38 => ?_)
          · skip
            have c38 := (lg_cmp_eq _ _).mp c38
            have c38i : (y36 : Int64).toInt = 0 := congrArg Int64.toInt c38
            refine lv_iinc (v := 3) (lv' := [(4, .int 3), (2, .long y1), (0, .ref oN), (1, .int 0)]) hx hb dX3_link_115 hl (k := 0) rfl (by decide) (by decide) rfl (fun ls hl => ?_)
            refine lv_goto (tgt := 79) hx hb dX3_link_118 (by decide) ?_
            refine lv_iload hx hb dX3_link_79 (lv_at hl 0 rfl) ?_
            refine lv_iconst (v := 4) hx hb dX3_link_81 (by decide) ?_
            refine lv_icmp_ge (tgt := 121) hx hb dX3_link_82 (by decide) (fun c39 => absurd c39 (by decide)) (fun _ => ?_)
            refine lv_aload_n hx hb dX3_link_85 rfl (lv_at hl 2 rfl) ?_
            refine va_get (D := D) (ci := 1) (v := .ref n5) (C := RX3) (T := TX3) (N := 7) hx hb hts iX3_link_X3 hown hK hP 0 rfl rfl 5 (by decide) (hts (.fieldLink RX3 28 "FloatSolver$Nodes" "users" "[J") (oX3_link_in _ (List.mem_of_getElem? (i := 2) rfl))) (fun _ h9 => h9) rfl dX3_link_86 ?_
            refine lv_iload hx hb dX3_link_89 (lv_at hl 0 rfl) ?_
            refine va_lald hx hb hK hP 6 1 rfl rfl (by unfold vp_in; decide) dX3_link_91 ?_
            refine lv_topl (fun y40 e41 => ?_)
            obtain rfl : y40 = k5 3 := e41
            refine lv_aload_n hx hb dX3_link_92 rfl (lv_at hl 2 rfl) ?_
            refine va_get (D := D) (ci := 1) (v := .ref n4) (C := RX3) (T := TX3) (N := 7) hx hb hts iX3_link_X3 hown hK hP 0 rfl rfl 4 (by decide) (hts (.fieldLink RX3 24 "FloatSolver$Nodes" "rests" "[J") (oX3_link_in _ (List.mem_of_getElem? (i := 0) rfl))) (fun _ h9 => h9) rfl dX3_link_93 ?_
            refine lv_iload_n hx hb dX3_link_96 rfl (lv_at hl 3 rfl) ?_
            refine va_lald hx hb hK hP 5 1 rfl rfl (by unfold vp_in; decide) dX3_link_97 ?_
            refine lv_topl (fun y42 e43 => ?_)
            obtain rfl : y42 = f10 0 := e43
            refine lv_land hx hb dX3_link_98 ?_
            refine lv_topl (fun y44 e45 => ?_)
            refine lv_lconst (v := 0) hx hb dX3_link_99 (by decide) ?_
            refine W.lcmp hx hb dX3_link_100 ?_
            refine lv_if_eq (tgt := 115) hx hb dX3_link_101 (by decide) (fun c46 => ?_) (fun c46 => ?_)
            · skip
              have c46 := (lg_cmp_eq _ _).mp c46
              have c46i : (y44 : Int64).toInt = 0 := congrArg Int64.toInt c46
              refine lv_iinc (v := 4) (lv' := [(4, .int 4), (2, .long y1), (0, .ref oN), (1, .int 0)]) hx hb dX3_link_115 hl (k := 0) rfl (by decide) (by decide) rfl (fun ls hl => ?_)
              refine lv_goto (tgt := 79) hx hb dX3_link_118 (by decide) ?_
              refine lv_iload hx hb dX3_link_79 (lv_at hl 0 rfl) ?_
              refine lv_iconst (v := 4) hx hb dX3_link_81 (by decide) ?_
              refine lv_icmp_ge (tgt := 121) hx hb dX3_link_82 (by decide) (fun _ => ?_) (fun c47 => absurd (by decide) c47)
              refine W.widen (k := 0) (n := 0) (by decide) (by decide) ?_
              exact sp_vret (u := (f10, k5)) hx hb hr hlocks hS trivial (hP.sub [0, 1, 2, 3, 4, 5, 6] rfl) (hD.sub [0, 1, 2, 3, 4, 5, 6] (by decide) rfl) dX3_link_121
            · skip
              have c46 := fun h => c46 ((lg_cmp_eq _ _).mpr h)
              have c46i : ¬ (y44 : Int64).toInt = 0 := fun h => c46 (Int64.toInt_inj.mp h)
              refine lv_aload_n hx hb dX3_link_104 rfl (lv_at hl 2 rfl) ?_
              refine va_get (D := D) (ci := 1) (v := .ref n5) (C := RX3) (T := TX3) (N := 7) hx hb hts iX3_link_X3 hown hK hP 0 rfl rfl 5 (by decide) (hts (.fieldLink RX3 28 "FloatSolver$Nodes" "users" "[J") (oX3_link_in _ (List.mem_of_getElem? (i := 2) rfl))) (fun _ h9 => h9) rfl dX3_link_105 ?_
              refine lv_iload hx hb dX3_link_108 (lv_at hl 0 rfl) ?_
              refine lv_dup2_11 hx hb dX3_link_110 rfl rfl ?_
              refine va_lald hx hb hK hP 6 1 rfl rfl (by unfold vp_in; decide) dX3_link_111 ?_
              refine lv_topl (fun y48 e49 => ?_)
              obtain rfl : y48 = k5 3 := e49
              refine lv_lload_n hx hb dX3_link_112 rfl (lv_at hl 1 rfl) ?_
              refine lv_lor hx hb dX3_link_113 ?_
              refine lv_topl (fun y50 e51 => ?_)
              refine va_last hx hb hK hP hD hS 6 1 rfl rfl (by unfold vp_in; decide) dX3_link_114 (fun H locs hP hD hS => ?_)
              obtain ⟨f52, ef53⟩ : ∃ z9 : Nat → Int64, z9 = vp_updL k5 (3 : Int32).toNatClampNeg y50 := ⟨_, rfl⟩
              rw [← ef53] at hP hD
              have hP : va_P D vwCl [(oN, .inr (1, [.ref n0, .ref n1, .ref n2, .ref n3, .ref n4, .ref n5, .int 0])), (n0, .inl (cI, 40, .inl k0)), (n1, .inl (cI, 40, .inl k1)), (n2, .inl (cI, 40, .inl k2)), (n3, .inl (cI, 40, .inl k3)), (n4, .inl (cJ, 40, .inr (.inl f10))), (n5, .inl (cJ, 4, .inr (.inl f52)))] H := hP
              have hD : va_D A [(oN, .inr (1, [.ref n0, .ref n1, .ref n2, .ref n3, .ref n4, .ref n5, .int 0])), (n0, .inl (cI, 40, .inl k0)), (n1, .inl (cI, 40, .inl k1)), (n2, .inl (cI, 40, .inl k2)), (n3, .inl (cI, 40, .inl k3)), (n4, .inl (cJ, 40, .inr (.inl f10))), (n5, .inl (cJ, 4, .inr (.inl f52)))] := hD
              refine lv_iinc (v := 4) (lv' := [(4, .int 4), (2, .long y1), (0, .ref oN), (1, .int 0)]) hx hb dX3_link_115 hl (k := 0) rfl (by decide) (by decide) rfl (fun ls hl => ?_)
              refine lv_goto (tgt := 79) hx hb dX3_link_118 (by decide) ?_
              refine lv_iload hx hb dX3_link_79 (lv_at hl 0 rfl) ?_
              refine lv_iconst (v := 4) hx hb dX3_link_81 (by decide) ?_
              refine lv_icmp_ge (tgt := 121) hx hb dX3_link_82 (by decide) (fun _ => ?_) (fun c54 => absurd (by decide) c54)
              refine W.widen (k := 0) (n := 0) (by decide) (by decide) ?_
              exact sp_vret (u := (f10, f52)) hx hb hr hlocks hS trivial (hP.sub [0, 1, 2, 3, 4, 5, 6] rfl) (hD.sub [0, 1, 2, 3, 4, 5, 6] (by decide) rfl) dX3_link_121
          · skip
            have c38 := fun h => c38 ((lg_cmp_eq _ _).mpr h)
            have c38i : ¬ (y36 : Int64).toInt = 0 := fun h => c38 (Int64.toInt_inj.mp h)
            refine lv_aload_n hx hb dX3_link_104 rfl (lv_at hl 2 rfl) ?_
            refine va_get (D := D) (ci := 1) (v := .ref n5) (C := RX3) (T := TX3) (N := 7) hx hb hts iX3_link_X3 hown hK hP 0 rfl rfl 5 (by decide) (hts (.fieldLink RX3 28 "FloatSolver$Nodes" "users" "[J") (oX3_link_in _ (List.mem_of_getElem? (i := 2) rfl))) (fun _ h9 => h9) rfl dX3_link_105 ?_
            refine lv_iload hx hb dX3_link_108 (lv_at hl 0 rfl) ?_
            refine lv_dup2_11 hx hb dX3_link_110 rfl rfl ?_
            refine va_lald hx hb hK hP 6 1 rfl rfl (by unfold vp_in; decide) dX3_link_111 ?_
            refine lv_topl (fun y55 e56 => ?_)
            obtain rfl : y55 = k5 2 := e56
            refine lv_lload_n hx hb dX3_link_112 rfl (lv_at hl 1 rfl) ?_
            refine lv_lor hx hb dX3_link_113 ?_
            refine lv_topl (fun y57 e58 => ?_)
            refine va_last hx hb hK hP hD hS 6 1 rfl rfl (by unfold vp_in; decide) dX3_link_114 (fun H locs hP hD hS => ?_)
            obtain ⟨f59, ef60⟩ : ∃ z9 : Nat → Int64, z9 = vp_updL k5 (2 : Int32).toNatClampNeg y57 := ⟨_, rfl⟩
            rw [← ef60] at hP hD
            have hP : va_P D vwCl [(oN, .inr (1, [.ref n0, .ref n1, .ref n2, .ref n3, .ref n4, .ref n5, .int 0])), (n0, .inl (cI, 40, .inl k0)), (n1, .inl (cI, 40, .inl k1)), (n2, .inl (cI, 40, .inl k2)), (n3, .inl (cI, 40, .inl k3)), (n4, .inl (cJ, 40, .inr (.inl f10))), (n5, .inl (cJ, 4, .inr (.inl f59)))] H := hP
            have hD : va_D A [(oN, .inr (1, [.ref n0, .ref n1, .ref n2, .ref n3, .ref n4, .ref n5, .int 0])), (n0, .inl (cI, 40, .inl k0)), (n1, .inl (cI, 40, .inl k1)), (n2, .inl (cI, 40, .inl k2)), (n3, .inl (cI, 40, .inl k3)), (n4, .inl (cJ, 40, .inr (.inl f10))), (n5, .inl (cJ, 4, .inr (.inl f59)))] := hD
            refine lv_iinc (v := 3) (lv' := [(4, .int 3), (2, .long y1), (0, .ref oN), (1, .int 0)]) hx hb dX3_link_115 hl (k := 0) rfl (by decide) (by decide) rfl (fun ls hl => ?_)
            refine lv_goto (tgt := 79) hx hb dX3_link_118 (by decide) ?_
            refine lv_iload hx hb dX3_link_79 (lv_at hl 0 rfl) ?_
            refine lv_iconst (v := 4) hx hb dX3_link_81 (by decide) ?_
            refine lv_icmp_ge (tgt := 121) hx hb dX3_link_82 (by decide) (fun c61 => absurd c61 (by decide)) (fun _ => ?_)
            refine lv_aload_n hx hb dX3_link_85 rfl (lv_at hl 2 rfl) ?_
            refine va_get (D := D) (ci := 1) (v := .ref n5) (C := RX3) (T := TX3) (N := 7) hx hb hts iX3_link_X3 hown hK hP 0 rfl rfl 5 (by decide) (hts (.fieldLink RX3 28 "FloatSolver$Nodes" "users" "[J") (oX3_link_in _ (List.mem_of_getElem? (i := 2) rfl))) (fun _ h9 => h9) rfl dX3_link_86 ?_
            refine lv_iload hx hb dX3_link_89 (lv_at hl 0 rfl) ?_
            refine va_lald hx hb hK hP 6 1 rfl rfl (by unfold vp_in; decide) dX3_link_91 ?_
            refine lv_topl (fun y62 e63 => ?_)
            obtain rfl : y62 = f59 3 := e63
            refine lv_aload_n hx hb dX3_link_92 rfl (lv_at hl 2 rfl) ?_
            refine va_get (D := D) (ci := 1) (v := .ref n4) (C := RX3) (T := TX3) (N := 7) hx hb hts iX3_link_X3 hown hK hP 0 rfl rfl 4 (by decide) (hts (.fieldLink RX3 24 "FloatSolver$Nodes" "rests" "[J") (oX3_link_in _ (List.mem_of_getElem? (i := 0) rfl))) (fun _ h9 => h9) rfl dX3_link_93 ?_
            refine lv_iload_n hx hb dX3_link_96 rfl (lv_at hl 3 rfl) ?_
            refine va_lald hx hb hK hP 5 1 rfl rfl (by unfold vp_in; decide) dX3_link_97 ?_
            refine lv_topl (fun y64 e65 => ?_)
            obtain rfl : y64 = f10 0 := e65
            refine lv_land hx hb dX3_link_98 ?_
            refine lv_topl (fun y66 e67 => ?_)
            refine lv_lconst (v := 0) hx hb dX3_link_99 (by decide) ?_
            refine W.lcmp hx hb dX3_link_100 ?_
            refine lv_if_eq (tgt := 115) hx hb dX3_link_101 (by decide) (fun c68 => ?_) (fun c68 => ?_)
            · skip
              have c68 := (lg_cmp_eq _ _).mp c68
              have c68i : (y66 : Int64).toInt = 0 := congrArg Int64.toInt c68
              refine lv_iinc (v := 4) (lv' := [(4, .int 4), (2, .long y1), (0, .ref oN), (1, .int 0)]) hx hb dX3_link_115 hl (k := 0) rfl (by decide) (by decide) rfl (fun ls hl => ?_)
              refine lv_goto (tgt := 79) hx hb dX3_link_118 (by decide) ?_
              refine lv_iload hx hb dX3_link_79 (lv_at hl 0 rfl) ?_
              refine lv_iconst (v := 4) hx hb dX3_link_81 (by decide) ?_
              refine lv_icmp_ge (tgt := 121) hx hb dX3_link_82 (by decide) (fun _ => ?_) (fun c69 => absurd (by decide) c69)
              refine W.widen (k := 0) (n := 0) (by decide) (by decide) ?_
              exact sp_vret (u := (f10, f59)) hx hb hr hlocks hS trivial (hP.sub [0, 1, 2, 3, 4, 5, 6] rfl) (hD.sub [0, 1, 2, 3, 4, 5, 6] (by decide) rfl) dX3_link_121
            · skip
              have c68 := fun h => c68 ((lg_cmp_eq _ _).mpr h)
              have c68i : ¬ (y66 : Int64).toInt = 0 := fun h => c68 (Int64.toInt_inj.mp h)
              refine lv_aload_n hx hb dX3_link_104 rfl (lv_at hl 2 rfl) ?_
              refine va_get (D := D) (ci := 1) (v := .ref n5) (C := RX3) (T := TX3) (N := 7) hx hb hts iX3_link_X3 hown hK hP 0 rfl rfl 5 (by decide) (hts (.fieldLink RX3 28 "FloatSolver$Nodes" "users" "[J") (oX3_link_in _ (List.mem_of_getElem? (i := 2) rfl))) (fun _ h9 => h9) rfl dX3_link_105 ?_
              refine lv_iload hx hb dX3_link_108 (lv_at hl 0 rfl) ?_
              refine lv_dup2_11 hx hb dX3_link_110 rfl rfl ?_
              refine va_lald hx hb hK hP 6 1 rfl rfl (by unfold vp_in; decide) dX3_link_111 ?_
              refine lv_topl (fun y70 e71 => ?_)
              obtain rfl : y70 = f59 3 := e71
              refine lv_lload_n hx hb dX3_link_112 rfl (lv_at hl 1 rfl) ?_
              refine lv_lor hx hb dX3_link_113 ?_
              refine lv_topl (fun y72 e73 => ?_)
              refine va_last hx hb hK hP hD hS 6 1 rfl rfl (by unfold vp_in; decide) dX3_link_114 (fun H locs hP hD hS => ?_)
              obtain ⟨f74, ef75⟩ : ∃ z9 : Nat → Int64, z9 = vp_updL f59 (3 : Int32).toNatClampNeg y72 := ⟨_, rfl⟩
              rw [← ef75] at hP hD
              have hP : va_P D vwCl [(oN, .inr (1, [.ref n0, .ref n1, .ref n2, .ref n3, .ref n4, .ref n5, .int 0])), (n0, .inl (cI, 40, .inl k0)), (n1, .inl (cI, 40, .inl k1)), (n2, .inl (cI, 40, .inl k2)), (n3, .inl (cI, 40, .inl k3)), (n4, .inl (cJ, 40, .inr (.inl f10))), (n5, .inl (cJ, 4, .inr (.inl f74)))] H := hP
              have hD : va_D A [(oN, .inr (1, [.ref n0, .ref n1, .ref n2, .ref n3, .ref n4, .ref n5, .int 0])), (n0, .inl (cI, 40, .inl k0)), (n1, .inl (cI, 40, .inl k1)), (n2, .inl (cI, 40, .inl k2)), (n3, .inl (cI, 40, .inl k3)), (n4, .inl (cJ, 40, .inr (.inl f10))), (n5, .inl (cJ, 4, .inr (.inl f74)))] := hD
              refine lv_iinc (v := 4) (lv' := [(4, .int 4), (2, .long y1), (0, .ref oN), (1, .int 0)]) hx hb dX3_link_115 hl (k := 0) rfl (by decide) (by decide) rfl (fun ls hl => ?_)
              refine lv_goto (tgt := 79) hx hb dX3_link_118 (by decide) ?_
              refine lv_iload hx hb dX3_link_79 (lv_at hl 0 rfl) ?_
              refine lv_iconst (v := 4) hx hb dX3_link_81 (by decide) ?_
              refine lv_icmp_ge (tgt := 121) hx hb dX3_link_82 (by decide) (fun _ => ?_) (fun c76 => absurd (by decide) c76)
              refine W.widen (k := 0) (n := 0) (by decide) (by decide) ?_
              exact sp_vret (u := (f10, f74)) hx hb hr hlocks hS trivial (hP.sub [0, 1, 2, 3, 4, 5, 6] rfl) (hD.sub [0, 1, 2, 3, 4, 5, 6] (by decide) rfl) dX3_link_121
        · skip
          have c30 := fun h => c30 ((lg_cmp_eq _ _).mpr h)
          have c30i : ¬ (y28 : Int64).toInt = 0 := fun h => c30 (Int64.toInt_inj.mp h)
          refine lv_aload_n hx hb dX3_link_104 rfl (lv_at hl 2 rfl) ?_
          refine va_get (D := D) (ci := 1) (v := .ref n5) (C := RX3) (T := TX3) (N := 7) hx hb hts iX3_link_X3 hown hK hP 0 rfl rfl 5 (by decide) (hts (.fieldLink RX3 28 "FloatSolver$Nodes" "users" "[J") (oX3_link_in _ (List.mem_of_getElem? (i := 2) rfl))) (fun _ h9 => h9) rfl dX3_link_105 ?_
          refine lv_iload hx hb dX3_link_108 (lv_at hl 0 rfl) ?_
          refine lv_dup2_11 hx hb dX3_link_110 rfl rfl ?_
          refine va_lald hx hb hK hP 6 1 rfl rfl (by unfold vp_in; decide) dX3_link_111 ?_
          refine lv_topl (fun y77 e78 => ?_)
          obtain rfl : y77 = k5 1 := e78
          refine lv_lload_n hx hb dX3_link_112 rfl (lv_at hl 1 rfl) ?_
          refine lv_lor hx hb dX3_link_113 ?_
          refine lv_topl (fun y79 e80 => ?_)
          refine va_last hx hb hK hP hD hS 6 1 rfl rfl (by unfold vp_in; decide) dX3_link_114 (fun H locs hP hD hS => ?_)
          obtain ⟨f81, ef82⟩ : ∃ z9 : Nat → Int64, z9 = vp_updL k5 (1 : Int32).toNatClampNeg y79 := ⟨_, rfl⟩
          rw [← ef82] at hP hD
          have hP : va_P D vwCl [(oN, .inr (1, [.ref n0, .ref n1, .ref n2, .ref n3, .ref n4, .ref n5, .int 0])), (n0, .inl (cI, 40, .inl k0)), (n1, .inl (cI, 40, .inl k1)), (n2, .inl (cI, 40, .inl k2)), (n3, .inl (cI, 40, .inl k3)), (n4, .inl (cJ, 40, .inr (.inl f10))), (n5, .inl (cJ, 4, .inr (.inl f81)))] H := hP
          have hD : va_D A [(oN, .inr (1, [.ref n0, .ref n1, .ref n2, .ref n3, .ref n4, .ref n5, .int 0])), (n0, .inl (cI, 40, .inl k0)), (n1, .inl (cI, 40, .inl k1)), (n2, .inl (cI, 40, .inl k2)), (n3, .inl (cI, 40, .inl k3)), (n4, .inl (cJ, 40, .inr (.inl f10))), (n5, .inl (cJ, 4, .inr (.inl f81)))] := hD
          refine lv_iinc (v := 2) (lv' := [(4, .int 2), (2, .long y1), (0, .ref oN), (1, .int 0)]) hx hb dX3_link_115 hl (k := 0) rfl (by decide) (by decide) rfl (fun ls hl => ?_)
          refine lv_goto (tgt := 79) hx hb dX3_link_118 (by decide) ?_
          refine lv_iload hx hb dX3_link_79 (lv_at hl 0 rfl) ?_
          refine lv_iconst (v := 4) hx hb dX3_link_81 (by decide) ?_
          refine lv_icmp_ge (tgt := 121) hx hb dX3_link_82 (by decide) (fun c83 => absurd c83 (by decide)) (fun _ => ?_)
          refine lv_aload_n hx hb dX3_link_85 rfl (lv_at hl 2 rfl) ?_
          refine va_get (D := D) (ci := 1) (v := .ref n5) (C := RX3) (T := TX3) (N := 7) hx hb hts iX3_link_X3 hown hK hP 0 rfl rfl 5 (by decide) (hts (.fieldLink RX3 28 "FloatSolver$Nodes" "users" "[J") (oX3_link_in _ (List.mem_of_getElem? (i := 2) rfl))) (fun _ h9 => h9) rfl dX3_link_86 ?_
          refine lv_iload hx hb dX3_link_89 (lv_at hl 0 rfl) ?_
          refine va_lald hx hb hK hP 6 1 rfl rfl (by unfold vp_in; decide) dX3_link_91 ?_
          refine lv_topl (fun y84 e85 => ?_)
          obtain rfl : y84 = f81 2 := e85
          refine lv_aload_n hx hb dX3_link_92 rfl (lv_at hl 2 rfl) ?_
          refine va_get (D := D) (ci := 1) (v := .ref n4) (C := RX3) (T := TX3) (N := 7) hx hb hts iX3_link_X3 hown hK hP 0 rfl rfl 4 (by decide) (hts (.fieldLink RX3 24 "FloatSolver$Nodes" "rests" "[J") (oX3_link_in _ (List.mem_of_getElem? (i := 0) rfl))) (fun _ h9 => h9) rfl dX3_link_93 ?_
          refine lv_iload_n hx hb dX3_link_96 rfl (lv_at hl 3 rfl) ?_
          refine va_lald hx hb hK hP 5 1 rfl rfl (by unfold vp_in; decide) dX3_link_97 ?_
          refine lv_topl (fun y86 e87 => ?_)
          obtain rfl : y86 = f10 0 := e87
          refine lv_land hx hb dX3_link_98 ?_
          refine lv_topl (fun y88 e89 => ?_)
          refine lv_lconst (v := 0) hx hb dX3_link_99 (by decide) ?_
          refine W.lcmp hx hb dX3_link_100 ?_
          refine lv_if_eq (tgt := 115) hx hb dX3_link_101 (by decide) (fun c90 => ?_) (fun c90 => ?_)
          · skip
            have c90 := (lg_cmp_eq _ _).mp c90
            have c90i : (y88 : Int64).toInt = 0 := congrArg Int64.toInt c90
            refine lv_iinc (v := 3) (lv' := [(4, .int 3), (2, .long y1), (0, .ref oN), (1, .int 0)]) hx hb dX3_link_115 hl (k := 0) rfl (by decide) (by decide) rfl (fun ls hl => ?_)
            refine lv_goto (tgt := 79) hx hb dX3_link_118 (by decide) ?_
            refine lv_iload hx hb dX3_link_79 (lv_at hl 0 rfl) ?_
            refine lv_iconst (v := 4) hx hb dX3_link_81 (by decide) ?_
            refine lv_icmp_ge (tgt := 121) hx hb dX3_link_82 (by decide) (fun c91 => absurd c91 (by decide)) (fun _ => ?_)
            refine lv_aload_n hx hb dX3_link_85 rfl (lv_at hl 2 rfl) ?_
            refine va_get (D := D) (ci := 1) (v := .ref n5) (C := RX3) (T := TX3) (N := 7) hx hb hts iX3_link_X3 hown hK hP 0 rfl rfl 5 (by decide) (hts (.fieldLink RX3 28 "FloatSolver$Nodes" "users" "[J") (oX3_link_in _ (List.mem_of_getElem? (i := 2) rfl))) (fun _ h9 => h9) rfl dX3_link_86 ?_
            refine lv_iload hx hb dX3_link_89 (lv_at hl 0 rfl) ?_
            refine va_lald hx hb hK hP 6 1 rfl rfl (by unfold vp_in; decide) dX3_link_91 ?_
            refine lv_topl (fun y92 e93 => ?_)
            obtain rfl : y92 = f81 3 := e93
            refine lv_aload_n hx hb dX3_link_92 rfl (lv_at hl 2 rfl) ?_
            refine va_get (D := D) (ci := 1) (v := .ref n4) (C := RX3) (T := TX3) (N := 7) hx hb hts iX3_link_X3 hown hK hP 0 rfl rfl 4 (by decide) (hts (.fieldLink RX3 24 "FloatSolver$Nodes" "rests" "[J") (oX3_link_in _ (List.mem_of_getElem? (i := 0) rfl))) (fun _ h9 => h9) rfl dX3_link_93 ?_
            refine lv_iload_n hx hb dX3_link_96 rfl (lv_at hl 3 rfl) ?_
            refine va_lald hx hb hK hP 5 1 rfl rfl (by unfold vp_in; decide) dX3_link_97 ?_
            refine lv_topl (fun y94 e95 => ?_)
            obtain rfl : y94 = f10 0 := e95
            refine lv_land hx hb dX3_link_98 ?_
            refine lv_topl (fun y96 e97 => ?_)
            refine lv_lconst (v := 0) hx hb dX3_link_99 (by decide) ?_
            refine W.lcmp hx hb dX3_link_100 ?_
            refine lv_if_eq (tgt := 115) hx hb dX3_link_101 (by decide) (fun c98 => ?_) (fun c98 => ?_)
            · skip
              have c98 := (lg_cmp_eq _ _).mp c98
              have c98i : (y96 : Int64).toInt = 0 := congrArg Int64.toInt c98
              refine lv_iinc (v := 4) (lv' := [(4, .int 4), (2, .long y1), (0, .ref oN), (1, .int 0)]) hx hb dX3_link_115 hl (k := 0) rfl (by decide) (by decide) rfl (fun ls hl => ?_)
              refine lv_goto (tgt := 79) hx hb dX3_link_118 (by decide) ?_
              refine lv_iload hx hb dX3_link_79 (lv_at hl 0 rfl) ?_
              refine lv_iconst (v := 4) hx hb dX3_link_81 (by decide) ?_
              refine lv_icmp_ge (tgt := 121) hx hb dX3_link_82 (by decide) (fun _ => ?_) (fun c99 => absurd (by decide) c99)
              refine W.widen (k := 0) (n := 0) (by decide) (by decide) ?_
              exact sp_vret (u := (f10, f81)) hx hb hr hlocks hS trivial (hP.sub [0, 1, 2, 3, 4, 5, 6] rfl) (hD.sub [0, 1, 2, 3, 4, 5, 6] (by decide) rfl) dX3_link_121
            · skip
              have c98 := fun h => c98 ((lg_cmp_eq _ _).mpr h)
              have c98i : ¬ (y96 : Int64).toInt = 0 := fun h => c98 (Int64.toInt_inj.mp h)
              refine lv_aload_n hx hb dX3_link_104 rfl (lv_at hl 2 rfl) ?_
              refine va_get (D := D) (ci := 1) (v := .ref n5) (C := RX3) (T := TX3) (N := 7) hx hb hts iX3_link_X3 hown hK hP 0 rfl rfl 5 (by decide) (hts (.fieldLink RX3 28 "FloatSolver$Nodes" "users" "[J") (oX3_link_in _ (List.mem_of_getElem? (i := 2) rfl))) (fun _ h9 => h9) rfl dX3_link_105 ?_
              refine lv_iload hx hb dX3_link_108 (lv_at hl 0 rfl) ?_
              refine lv_dup2_11 hx hb dX3_link_110 rfl rfl ?_
              refine va_lald hx hb hK hP 6 1 rfl rfl (by unfold vp_in; decide) dX3_link_111 ?_
              refine lv_topl (fun y100 e101 => ?_)
              obtain rfl : y100 = f81 3 := e101
              refine lv_lload_n hx hb dX3_link_112 rfl (lv_at hl 1 rfl) ?_
              refine lv_lor hx hb dX3_link_113 ?_
              refine lv_topl (fun y102 e103 => ?_)
              refine va_last hx hb hK hP hD hS 6 1 rfl rfl (by unfold vp_in; decide) dX3_link_114 (fun H locs hP hD hS => ?_)
              obtain ⟨f104, ef105⟩ : ∃ z9 : Nat → Int64, z9 = vp_updL f81 (3 : Int32).toNatClampNeg y102 := ⟨_, rfl⟩
              rw [← ef105] at hP hD
              have hP : va_P D vwCl [(oN, .inr (1, [.ref n0, .ref n1, .ref n2, .ref n3, .ref n4, .ref n5, .int 0])), (n0, .inl (cI, 40, .inl k0)), (n1, .inl (cI, 40, .inl k1)), (n2, .inl (cI, 40, .inl k2)), (n3, .inl (cI, 40, .inl k3)), (n4, .inl (cJ, 40, .inr (.inl f10))), (n5, .inl (cJ, 4, .inr (.inl f104)))] H := hP
              have hD : va_D A [(oN, .inr (1, [.ref n0, .ref n1, .ref n2, .ref n3, .ref n4, .ref n5, .int 0])), (n0, .inl (cI, 40, .inl k0)), (n1, .inl (cI, 40, .inl k1)), (n2, .inl (cI, 40, .inl k2)), (n3, .inl (cI, 40, .inl k3)), (n4, .inl (cJ, 40, .inr (.inl f10))), (n5, .inl (cJ, 4, .inr (.inl f104)))] := hD
              refine lv_iinc (v := 4) (lv' := [(4, .int 4), (2, .long y1), (0, .ref oN), (1, .int 0)]) hx hb dX3_link_115 hl (k := 0) rfl (by decide) (by decide) rfl (fun ls hl => ?_)
              refine lv_goto (tgt := 79) hx hb dX3_link_118 (by decide) ?_
              refine lv_iload hx hb dX3_link_79 (lv_at hl 0 rfl) ?_
              refine lv_iconst (v := 4) hx hb dX3_link_81 (by decide) ?_
              refine lv_icmp_ge (tgt := 121) hx hb dX3_link_82 (by decide) (fun _ => ?_) (fun c106 => absurd (by decide) c106)
              refine W.widen (k := 0) (n := 0) (by decide) (by decide) ?_
              exact sp_vret (u := (f10, f104)) hx hb hr hlocks hS trivial (hP.sub [0, 1, 2, 3, 4, 5, 6] rfl) (hD.sub [0, 1, 2, 3, 4, 5, 6] (by decide) rfl) dX3_link_121
          · skip
            have c90 := fun h => c90 ((lg_cmp_eq _ _).mpr h)
            have c90i : ¬ (y88 : Int64).toInt = 0 := fun h => c90 (Int64.toInt_inj.mp h)
            refine lv_aload_n hx hb dX3_link_104 rfl (lv_at hl 2 rfl) ?_
            refine va_get (D := D) (ci := 1) (v := .ref n5) (C := RX3) (T := TX3) (N := 7) hx hb hts iX3_link_X3 hown hK hP 0 rfl rfl 5 (by decide) (hts (.fieldLink RX3 28 "FloatSolver$Nodes" "users" "[J") (oX3_link_in _ (List.mem_of_getElem? (i := 2) rfl))) (fun _ h9 => h9) rfl dX3_link_105 ?_
            refine lv_iload hx hb dX3_link_108 (lv_at hl 0 rfl) ?_
            refine lv_dup2_11 hx hb dX3_link_110 rfl rfl ?_
            refine va_lald hx hb hK hP 6 1 rfl rfl (by unfold vp_in; decide) dX3_link_111 ?_
            refine lv_topl (fun y107 e108 => ?_)
            obtain rfl : y107 = f81 2 := e108
            refine lv_lload_n hx hb dX3_link_112 rfl (lv_at hl 1 rfl) ?_
            refine lv_lor hx hb dX3_link_113 ?_
            refine lv_topl (fun y109 e110 => ?_)
            refine va_last hx hb hK hP hD hS 6 1 rfl rfl (by unfold vp_in; decide) dX3_link_114 (fun H locs hP hD hS => ?_)
            obtain ⟨f111, ef112⟩ : ∃ z9 : Nat → Int64, z9 = vp_updL f81 (2 : Int32).toNatClampNeg y109 := ⟨_, rfl⟩
            rw [← ef112] at hP hD
            have hP : va_P D vwCl [(oN, .inr (1, [.ref n0, .ref n1, .ref n2, .ref n3, .ref n4, .ref n5, .int 0])), (n0, .inl (cI, 40, .inl k0)), (n1, .inl (cI, 40, .inl k1)), (n2, .inl (cI, 40, .inl k2)), (n3, .inl (cI, 40, .inl k3)), (n4, .inl (cJ, 40, .inr (.inl f10))), (n5, .inl (cJ, 4, .inr (.inl f111)))] H := hP
            have hD : va_D A [(oN, .inr (1, [.ref n0, .ref n1, .ref n2, .ref n3, .ref n4, .ref n5, .int 0])), (n0, .inl (cI, 40, .inl k0)), (n1, .inl (cI, 40, .inl k1)), (n2, .inl (cI, 40, .inl k2)), (n3, .inl (cI, 40, .inl k3)), (n4, .inl (cJ, 40, .inr (.inl f10))), (n5, .inl (cJ, 4, .inr (.inl f111)))] := hD
            refine lv_iinc (v := 3) (lv' := [(4, .int 3), (2, .long y1), (0, .ref oN), (1, .int 0)]) hx hb dX3_link_115 hl (k := 0) rfl (by decide) (by decide) rfl (fun ls hl => ?_)
            refine lv_goto (tgt := 79) hx hb dX3_link_118 (by decide) ?_
            refine lv_iload hx hb dX3_link_79 (lv_at hl 0 rfl) ?_
            refine lv_iconst (v := 4) hx hb dX3_link_81 (by decide) ?_
            refine lv_icmp_ge (tgt := 121) hx hb dX3_link_82 (by decide) (fun c113 => absurd c113 (by decide)) (fun _ => ?_)
            refine lv_aload_n hx hb dX3_link_85 rfl (lv_at hl 2 rfl) ?_
            refine va_get (D := D) (ci := 1) (v := .ref n5) (C := RX3) (T := TX3) (N := 7) hx hb hts iX3_link_X3 hown hK hP 0 rfl rfl 5 (by decide) (hts (.fieldLink RX3 28 "FloatSolver$Nodes" "users" "[J") (oX3_link_in _ (List.mem_of_getElem? (i := 2) rfl))) (fun _ h9 => h9) rfl dX3_link_86 ?_
            refine lv_iload hx hb dX3_link_89 (lv_at hl 0 rfl) ?_
            refine va_lald hx hb hK hP 6 1 rfl rfl (by unfold vp_in; decide) dX3_link_91 ?_
            refine lv_topl (fun y114 e115 => ?_)
            obtain rfl : y114 = f111 3 := e115
            refine lv_aload_n hx hb dX3_link_92 rfl (lv_at hl 2 rfl) ?_
            refine va_get (D := D) (ci := 1) (v := .ref n4) (C := RX3) (T := TX3) (N := 7) hx hb hts iX3_link_X3 hown hK hP 0 rfl rfl 4 (by decide) (hts (.fieldLink RX3 24 "FloatSolver$Nodes" "rests" "[J") (oX3_link_in _ (List.mem_of_getElem? (i := 0) rfl))) (fun _ h9 => h9) rfl dX3_link_93 ?_
            refine lv_iload_n hx hb dX3_link_96 rfl (lv_at hl 3 rfl) ?_
            refine va_lald hx hb hK hP 5 1 rfl rfl (by unfold vp_in; decide) dX3_link_97 ?_
            refine lv_topl (fun y116 e117 => ?_)
            obtain rfl : y116 = f10 0 := e117
            refine lv_land hx hb dX3_link_98 ?_
            refine lv_topl (fun y118 e119 => ?_)
            refine lv_lconst (v := 0) hx hb dX3_link_99 (by decide) ?_
            refine W.lcmp hx hb dX3_link_100 ?_
            refine lv_if_eq (tgt := 115) hx hb dX3_link_101 (by decide) (fun c120 => ?_) (fun c120 => ?_)
            · skip
              have c120 := (lg_cmp_eq _ _).mp c120
              have c120i : (y118 : Int64).toInt = 0 := congrArg Int64.toInt c120
              refine lv_iinc (v := 4) (lv' := [(4, .int 4), (2, .long y1), (0, .ref oN), (1, .int 0)]) hx hb dX3_link_115 hl (k := 0) rfl (by decide) (by decide) rfl (fun ls hl => ?_)
              refine lv_goto (tgt := 79) hx hb dX3_link_118 (by decide) ?_
              refine lv_iload hx hb dX3_link_79 (lv_at hl 0 rfl) ?_
              refine lv_iconst (v := 4) hx hb dX3_link_81 (by decide) ?_
              refine lv_icmp_ge (tgt := 121) hx hb dX3_link_82 (by decide) (fun _ => ?_) (fun c121 => absurd (by decide) c121)
              refine W.widen (k := 0) (n := 0) (by decide) (by decide) ?_
              exact sp_vret (u := (f10, f111)) hx hb hr hlocks hS trivial (hP.sub [0, 1, 2, 3, 4, 5, 6] rfl) (hD.sub [0, 1, 2, 3, 4, 5, 6] (by decide) rfl) dX3_link_121
            · skip
              have c120 := fun h => c120 ((lg_cmp_eq _ _).mpr h)
              have c120i : ¬ (y118 : Int64).toInt = 0 := fun h => c120 (Int64.toInt_inj.mp h)
              refine lv_aload_n hx hb dX3_link_104 rfl (lv_at hl 2 rfl) ?_
              refine va_get (D := D) (ci := 1) (v := .ref n5) (C := RX3) (T := TX3) (N := 7) hx hb hts iX3_link_X3 hown hK hP 0 rfl rfl 5 (by decide) (hts (.fieldLink RX3 28 "FloatSolver$Nodes" "users" "[J") (oX3_link_in _ (List.mem_of_getElem? (i := 2) rfl))) (fun _ h9 => h9) rfl dX3_link_105 ?_
              refine lv_iload hx hb dX3_link_108 (lv_at hl 0 rfl) ?_
              refine lv_dup2_11 hx hb dX3_link_110 rfl rfl ?_
              refine va_lald hx hb hK hP 6 1 rfl rfl (by unfold vp_in; decide) dX3_link_111 ?_
              refine lv_topl (fun y122 e123 => ?_)
              obtain rfl : y122 = f111 3 := e123
              refine lv_lload_n hx hb dX3_link_112 rfl (lv_at hl 1 rfl) ?_
              refine lv_lor hx hb dX3_link_113 ?_
              refine lv_topl (fun y124 e125 => ?_)
              refine va_last hx hb hK hP hD hS 6 1 rfl rfl (by unfold vp_in; decide) dX3_link_114 (fun H locs hP hD hS => ?_)
              obtain ⟨f126, ef127⟩ : ∃ z9 : Nat → Int64, z9 = vp_updL f111 (3 : Int32).toNatClampNeg y124 := ⟨_, rfl⟩
              rw [← ef127] at hP hD
              have hP : va_P D vwCl [(oN, .inr (1, [.ref n0, .ref n1, .ref n2, .ref n3, .ref n4, .ref n5, .int 0])), (n0, .inl (cI, 40, .inl k0)), (n1, .inl (cI, 40, .inl k1)), (n2, .inl (cI, 40, .inl k2)), (n3, .inl (cI, 40, .inl k3)), (n4, .inl (cJ, 40, .inr (.inl f10))), (n5, .inl (cJ, 4, .inr (.inl f126)))] H := hP
              have hD : va_D A [(oN, .inr (1, [.ref n0, .ref n1, .ref n2, .ref n3, .ref n4, .ref n5, .int 0])), (n0, .inl (cI, 40, .inl k0)), (n1, .inl (cI, 40, .inl k1)), (n2, .inl (cI, 40, .inl k2)), (n3, .inl (cI, 40, .inl k3)), (n4, .inl (cJ, 40, .inr (.inl f10))), (n5, .inl (cJ, 4, .inr (.inl f126)))] := hD
              refine lv_iinc (v := 4) (lv' := [(4, .int 4), (2, .long y1), (0, .ref oN), (1, .int 0)]) hx hb dX3_link_115 hl (k := 0) rfl (by decide) (by decide) rfl (fun ls hl => ?_)
              refine lv_goto (tgt := 79) hx hb dX3_link_118 (by decide) ?_
              refine lv_iload hx hb dX3_link_79 (lv_at hl 0 rfl) ?_
              refine lv_iconst (v := 4) hx hb dX3_link_81 (by decide) ?_
              refine lv_icmp_ge (tgt := 121) hx hb dX3_link_82 (by decide) (fun _ => ?_) (fun c128 => absurd (by decide) c128)
              refine W.widen (k := 0) (n := 0) (by decide) (by decide) ?_
              exact sp_vret (u := (f10, f126)) hx hb hr hlocks hS trivial (hP.sub [0, 1, 2, 3, 4, 5, 6] rfl) (hD.sub [0, 1, 2, 3, 4, 5, 6] (by decide) rfl) dX3_link_121
      · skip
        have c22 := fun h => c22 ((lg_cmp_eq _ _).mpr h)
        have c22i : ¬ (y20 : Int64).toInt = 0 := fun h => c22 (Int64.toInt_inj.mp h)
        refine lv_aload_n hx hb dX3_link_104 rfl (lv_at hl 2 rfl) ?_
        refine va_get (D := D) (ci := 1) (v := .ref n5) (C := RX3) (T := TX3) (N := 7) hx hb hts iX3_link_X3 hown hK hP 0 rfl rfl 5 (by decide) (hts (.fieldLink RX3 28 "FloatSolver$Nodes" "users" "[J") (oX3_link_in _ (List.mem_of_getElem? (i := 2) rfl))) (fun _ h9 => h9) rfl dX3_link_105 ?_
        refine lv_iload hx hb dX3_link_108 (lv_at hl 0 rfl) ?_
        refine lv_dup2_11 hx hb dX3_link_110 rfl rfl ?_
        refine va_lald hx hb hK hP 6 1 rfl rfl (by unfold vp_in; decide) dX3_link_111 ?_
        refine lv_topl (fun y129 e130 => ?_)
        obtain rfl : y129 = k5 0 := e130
        refine lv_lload_n hx hb dX3_link_112 rfl (lv_at hl 1 rfl) ?_
        refine lv_lor hx hb dX3_link_113 ?_
        refine lv_topl (fun y131 e132 => ?_)
        refine va_last hx hb hK hP hD hS 6 1 rfl rfl (by unfold vp_in; decide) dX3_link_114 (fun H locs hP hD hS => ?_)
        obtain ⟨f133, ef134⟩ : ∃ z9 : Nat → Int64, z9 = vp_updL k5 (0 : Int32).toNatClampNeg y131 := ⟨_, rfl⟩
        rw [← ef134] at hP hD
        have hP : va_P D vwCl [(oN, .inr (1, [.ref n0, .ref n1, .ref n2, .ref n3, .ref n4, .ref n5, .int 0])), (n0, .inl (cI, 40, .inl k0)), (n1, .inl (cI, 40, .inl k1)), (n2, .inl (cI, 40, .inl k2)), (n3, .inl (cI, 40, .inl k3)), (n4, .inl (cJ, 40, .inr (.inl f10))), (n5, .inl (cJ, 4, .inr (.inl f133)))] H := hP
        have hD : va_D A [(oN, .inr (1, [.ref n0, .ref n1, .ref n2, .ref n3, .ref n4, .ref n5, .int 0])), (n0, .inl (cI, 40, .inl k0)), (n1, .inl (cI, 40, .inl k1)), (n2, .inl (cI, 40, .inl k2)), (n3, .inl (cI, 40, .inl k3)), (n4, .inl (cJ, 40, .inr (.inl f10))), (n5, .inl (cJ, 4, .inr (.inl f133)))] := hD
        refine lv_iinc (v := 1) (lv' := [(4, .int 1), (2, .long y1), (0, .ref oN), (1, .int 0)]) hx hb dX3_link_115 hl (k := 0) rfl (by decide) (by decide) rfl (fun ls hl => ?_)
        refine lv_goto (tgt := 79) hx hb dX3_link_118 (by decide) ?_
        refine lv_iload hx hb dX3_link_79 (lv_at hl 0 rfl) ?_
        refine lv_iconst (v := 4) hx hb dX3_link_81 (by decide) ?_
        refine lv_icmp_ge (tgt := 121) hx hb dX3_link_82 (by decide) (fun c135 => absurd c135 (by decide)) (fun _ => ?_)
        refine lv_aload_n hx hb dX3_link_85 rfl (lv_at hl 2 rfl) ?_
        refine va_get (D := D) (ci := 1) (v := .ref n5) (C := RX3) (T := TX3) (N := 7) hx hb hts iX3_link_X3 hown hK hP 0 rfl rfl 5 (by decide) (hts (.fieldLink RX3 28 "FloatSolver$Nodes" "users" "[J") (oX3_link_in _ (List.mem_of_getElem? (i := 2) rfl))) (fun _ h9 => h9) rfl dX3_link_86 ?_
        refine lv_iload hx hb dX3_link_89 (lv_at hl 0 rfl) ?_
        refine va_lald hx hb hK hP 6 1 rfl rfl (by unfold vp_in; decide) dX3_link_91 ?_
        refine lv_topl (fun y136 e137 => ?_)
        obtain rfl : y136 = f133 1 := e137
        refine lv_aload_n hx hb dX3_link_92 rfl (lv_at hl 2 rfl) ?_
        refine va_get (D := D) (ci := 1) (v := .ref n4) (C := RX3) (T := TX3) (N := 7) hx hb hts iX3_link_X3 hown hK hP 0 rfl rfl 4 (by decide) (hts (.fieldLink RX3 24 "FloatSolver$Nodes" "rests" "[J") (oX3_link_in _ (List.mem_of_getElem? (i := 0) rfl))) (fun _ h9 => h9) rfl dX3_link_93 ?_
        refine lv_iload_n hx hb dX3_link_96 rfl (lv_at hl 3 rfl) ?_
        refine va_lald hx hb hK hP 5 1 rfl rfl (by unfold vp_in; decide) dX3_link_97 ?_
        refine lv_topl (fun y138 e139 => ?_)
        obtain rfl : y138 = f10 0 := e139
        refine lv_land hx hb dX3_link_98 ?_
        refine lv_topl (fun y140 e141 => ?_)
        refine lv_lconst (v := 0) hx hb dX3_link_99 (by decide) ?_
        refine W.lcmp hx hb dX3_link_100 ?_
        refine lv_if_eq (tgt := 115) hx hb dX3_link_101 (by decide) (fun c142 => ?_) (fun c142 => ?_)
        · skip
          have c142 := (lg_cmp_eq _ _).mp c142
          have c142i : (y140 : Int64).toInt = 0 := congrArg Int64.toInt c142
          refine lv_iinc (v := 2) (lv' := [(4, .int 2), (2, .long y1), (0, .ref oN), (1, .int 0)]) hx hb dX3_link_115 hl (k := 0) rfl (by decide) (by decide) rfl (fun ls hl => ?_)
          refine lv_goto (tgt := 79) hx hb dX3_link_118 (by decide) ?_
          refine lv_iload hx hb dX3_link_79 (lv_at hl 0 rfl) ?_
          refine lv_iconst (v := 4) hx hb dX3_link_81 (by decide) ?_
          refine lv_icmp_ge (tgt := 121) hx hb dX3_link_82 (by decide) (fun c143 => absurd c143 (by decide)) (fun _ => ?_)
          refine lv_aload_n hx hb dX3_link_85 rfl (lv_at hl 2 rfl) ?_
          refine va_get (D := D) (ci := 1) (v := .ref n5) (C := RX3) (T := TX3) (N := 7) hx hb hts iX3_link_X3 hown hK hP 0 rfl rfl 5 (by decide) (hts (.fieldLink RX3 28 "FloatSolver$Nodes" "users" "[J") (oX3_link_in _ (List.mem_of_getElem? (i := 2) rfl))) (fun _ h9 => h9) rfl dX3_link_86 ?_
          refine lv_iload hx hb dX3_link_89 (lv_at hl 0 rfl) ?_
          refine va_lald hx hb hK hP 6 1 rfl rfl (by unfold vp_in; decide) dX3_link_91 ?_
          refine lv_topl (fun y144 e145 => ?_)
          obtain rfl : y144 = f133 2 := e145
          refine lv_aload_n hx hb dX3_link_92 rfl (lv_at hl 2 rfl) ?_
          refine va_get (D := D) (ci := 1) (v := .ref n4) (C := RX3) (T := TX3) (N := 7) hx hb hts iX3_link_X3 hown hK hP 0 rfl rfl 4 (by decide) (hts (.fieldLink RX3 24 "FloatSolver$Nodes" "rests" "[J") (oX3_link_in _ (List.mem_of_getElem? (i := 0) rfl))) (fun _ h9 => h9) rfl dX3_link_93 ?_
          refine lv_iload_n hx hb dX3_link_96 rfl (lv_at hl 3 rfl) ?_
          refine va_lald hx hb hK hP 5 1 rfl rfl (by unfold vp_in; decide) dX3_link_97 ?_
          refine lv_topl (fun y146 e147 => ?_)
          obtain rfl : y146 = f10 0 := e147
          refine lv_land hx hb dX3_link_98 ?_
          refine lv_topl (fun y148 e149 => ?_)
          refine lv_lconst (v := 0) hx hb dX3_link_99 (by decide) ?_
          refine W.lcmp hx hb dX3_link_100 ?_
          refine lv_if_eq (tgt := 115) hx hb dX3_link_101 (by decide) (fun c150 => ?_) (fun c150 => ?_)
          · skip
            have c150 := (lg_cmp_eq _ _).mp c150
            have c150i : (y148 : Int64).toInt = 0 := congrArg Int64.toInt c150
            refine lv_iinc (v := 3) (lv' := [(4, .int 3), (2, .long y1), (0, .ref oN), (1, .int 0)]) hx hb dX3_link_115 hl (k := 0) rfl (by decide) (by decide) rfl (fun ls hl => ?_)
            refine lv_goto (tgt := 79) hx hb dX3_link_118 (by decide) ?_
            refine lv_iload hx hb dX3_link_79 (lv_at hl 0 rfl) ?_
            refine lv_iconst (v := 4) hx hb dX3_link_81 (by decide) ?_
            refine lv_icmp_ge (tgt := 121) hx hb dX3_link_82 (by decide) (fun c151 => absurd c151 (by decide)) (fun _ => ?_)
            refine lv_aload_n hx hb dX3_link_85 rfl (lv_at hl 2 rfl) ?_
            refine va_get (D := D) (ci := 1) (v := .ref n5) (C := RX3) (T := TX3) (N := 7) hx hb hts iX3_link_X3 hown hK hP 0 rfl rfl 5 (by decide) (hts (.fieldLink RX3 28 "FloatSolver$Nodes" "users" "[J") (oX3_link_in _ (List.mem_of_getElem? (i := 2) rfl))) (fun _ h9 => h9) rfl dX3_link_86 ?_
            refine lv_iload hx hb dX3_link_89 (lv_at hl 0 rfl) ?_
            refine va_lald hx hb hK hP 6 1 rfl rfl (by unfold vp_in; decide) dX3_link_91 ?_
            refine lv_topl (fun y152 e153 => ?_)
            obtain rfl : y152 = f133 3 := e153
            refine lv_aload_n hx hb dX3_link_92 rfl (lv_at hl 2 rfl) ?_
            refine va_get (D := D) (ci := 1) (v := .ref n4) (C := RX3) (T := TX3) (N := 7) hx hb hts iX3_link_X3 hown hK hP 0 rfl rfl 4 (by decide) (hts (.fieldLink RX3 24 "FloatSolver$Nodes" "rests" "[J") (oX3_link_in _ (List.mem_of_getElem? (i := 0) rfl))) (fun _ h9 => h9) rfl dX3_link_93 ?_
            refine lv_iload_n hx hb dX3_link_96 rfl (lv_at hl 3 rfl) ?_
            refine va_lald hx hb hK hP 5 1 rfl rfl (by unfold vp_in; decide) dX3_link_97 ?_
            refine lv_topl (fun y154 e155 => ?_)
            obtain rfl : y154 = f10 0 := e155
            refine lv_land hx hb dX3_link_98 ?_
            refine lv_topl (fun y156 e157 => ?_)
            refine lv_lconst (v := 0) hx hb dX3_link_99 (by decide) ?_
            refine W.lcmp hx hb dX3_link_100 ?_
            refine lv_if_eq (tgt := 115) hx hb dX3_link_101 (by decide) (fun c158 => ?_) (fun c158 => ?_)
            · skip
              have c158 := (lg_cmp_eq _ _).mp c158
              have c158i : (y156 : Int64).toInt = 0 := congrArg Int64.toInt c158
              refine lv_iinc (v := 4) (lv' := [(4, .int 4), (2, .long y1), (0, .ref oN), (1, .int 0)]) hx hb dX3_link_115 hl (k := 0) rfl (by decide) (by decide) rfl (fun ls hl => ?_)
              refine lv_goto (tgt := 79) hx hb dX3_link_118 (by decide) ?_
              refine lv_iload hx hb dX3_link_79 (lv_at hl 0 rfl) ?_
              refine lv_iconst (v := 4) hx hb dX3_link_81 (by decide) ?_
              refine lv_icmp_ge (tgt := 121) hx hb dX3_link_82 (by decide) (fun _ => ?_) (fun c159 => absurd (by decide) c159)
              refine W.widen (k := 0) (n := 0) (by decide) (by decide) ?_
              exact sp_vret (u := (f10, f133)) hx hb hr hlocks hS trivial (hP.sub [0, 1, 2, 3, 4, 5, 6] rfl) (hD.sub [0, 1, 2, 3, 4, 5, 6] (by decide) rfl) dX3_link_121
            · skip
              have c158 := fun h => c158 ((lg_cmp_eq _ _).mpr h)
              have c158i : ¬ (y156 : Int64).toInt = 0 := fun h => c158 (Int64.toInt_inj.mp h)
              refine lv_aload_n hx hb dX3_link_104 rfl (lv_at hl 2 rfl) ?_
              refine va_get (D := D) (ci := 1) (v := .ref n5) (C := RX3) (T := TX3) (N := 7) hx hb hts iX3_link_X3 hown hK hP 0 rfl rfl 5 (by decide) (hts (.fieldLink RX3 28 "FloatSolver$Nodes" "users" "[J") (oX3_link_in _ (List.mem_of_getElem? (i := 2) rfl))) (fun _ h9 => h9) rfl dX3_link_105 ?_
              refine lv_iload hx hb dX3_link_108 (lv_at hl 0 rfl) ?_
              refine lv_dup2_11 hx hb dX3_link_110 rfl rfl ?_
              refine va_lald hx hb hK hP 6 1 rfl rfl (by unfold vp_in; decide) dX3_link_111 ?_
              refine lv_topl (fun y160 e161 => ?_)
              obtain rfl : y160 = f133 3 := e161
              refine lv_lload_n hx hb dX3_link_112 rfl (lv_at hl 1 rfl) ?_
              refine lv_lor hx hb dX3_link_113 ?_
              refine lv_topl (fun y162 e163 => ?_)
              refine va_last hx hb hK hP hD hS 6 1 rfl rfl (by unfold vp_in; decide) dX3_link_114 (fun H locs hP hD hS => ?_)
              obtain ⟨f164, ef165⟩ : ∃ z9 : Nat → Int64, z9 = vp_updL f133 (3 : Int32).toNatClampNeg y162 := ⟨_, rfl⟩
              rw [← ef165] at hP hD
              have hP : va_P D vwCl [(oN, .inr (1, [.ref n0, .ref n1, .ref n2, .ref n3, .ref n4, .ref n5, .int 0])), (n0, .inl (cI, 40, .inl k0)), (n1, .inl (cI, 40, .inl k1)), (n2, .inl (cI, 40, .inl k2)), (n3, .inl (cI, 40, .inl k3)), (n4, .inl (cJ, 40, .inr (.inl f10))), (n5, .inl (cJ, 4, .inr (.inl f164)))] H := hP
              have hD : va_D A [(oN, .inr (1, [.ref n0, .ref n1, .ref n2, .ref n3, .ref n4, .ref n5, .int 0])), (n0, .inl (cI, 40, .inl k0)), (n1, .inl (cI, 40, .inl k1)), (n2, .inl (cI, 40, .inl k2)), (n3, .inl (cI, 40, .inl k3)), (n4, .inl (cJ, 40, .inr (.inl f10))), (n5, .inl (cJ, 4, .inr (.inl f164)))] := hD
              refine lv_iinc (v := 4) (lv' := [(4, .int 4), (2, .long y1), (0, .ref oN), (1, .int 0)]) hx hb dX3_link_115 hl (k := 0) rfl (by decide) (by decide) rfl (fun ls hl => ?_)
              refine lv_goto (tgt := 79) hx hb dX3_link_118 (by decide) ?_
              refine lv_iload hx hb dX3_link_79 (lv_at hl 0 rfl) ?_
              refine lv_iconst (v := 4) hx hb dX3_link_81 (by decide) ?_
              refine lv_icmp_ge (tgt := 121) hx hb dX3_link_82 (by decide) (fun _ => ?_) (fun c166 => absurd (by decide) c166)
              refine W.widen (k := 0) (n := 0) (by decide) (by decide) ?_
              exact sp_vret (u := (f10, f164)) hx hb hr hlocks hS trivial (hP.sub [0, 1, 2, 3, 4, 5, 6] rfl) (hD.sub [0, 1, 2, 3, 4, 5, 6] (by decide) rfl) dX3_link_121
          · skip
            have c150 := fun h => c150 ((lg_cmp_eq _ _).mpr h)
            have c150i : ¬ (y148 : Int64).toInt = 0 := fun h => c150 (Int64.toInt_inj.mp h)
            refine lv_aload_n hx hb dX3_link_104 rfl (lv_at hl 2 rfl) ?_
            refine va_get (D := D) (ci := 1) (v := .ref n5) (C := RX3) (T := TX3) (N := 7) hx hb hts iX3_link_X3 hown hK hP 0 rfl rfl 5 (by decide) (hts (.fieldLink RX3 28 "FloatSolver$Nodes" "users" "[J") (oX3_link_in _ (List.mem_of_getElem? (i := 2) rfl))) (fun _ h9 => h9) rfl dX3_link_105 ?_
            refine lv_iload hx hb dX3_link_108 (lv_at hl 0 rfl) ?_
            refine lv_dup2_11 hx hb dX3_link_110 rfl rfl ?_
            refine va_lald hx hb hK hP 6 1 rfl rfl (by unfold vp_in; decide) dX3_link_111 ?_
            refine lv_topl (fun y167 e168 => ?_)
            obtain rfl : y167 = f133 2 := e168
            refine lv_lload_n hx hb dX3_link_112 rfl (lv_at hl 1 rfl) ?_
            refine lv_lor hx hb dX3_link_113 ?_
            refine lv_topl (fun y169 e170 => ?_)
            refine va_last hx hb hK hP hD hS 6 1 rfl rfl (by unfold vp_in; decide) dX3_link_114 (fun H locs hP hD hS => ?_)
            obtain ⟨f171, ef172⟩ : ∃ z9 : Nat → Int64, z9 = vp_updL f133 (2 : Int32).toNatClampNeg y169 := ⟨_, rfl⟩
            rw [← ef172] at hP hD
            have hP : va_P D vwCl [(oN, .inr (1, [.ref n0, .ref n1, .ref n2, .ref n3, .ref n4, .ref n5, .int 0])), (n0, .inl (cI, 40, .inl k0)), (n1, .inl (cI, 40, .inl k1)), (n2, .inl (cI, 40, .inl k2)), (n3, .inl (cI, 40, .inl k3)), (n4, .inl (cJ, 40, .inr (.inl f10))), (n5, .inl (cJ, 4, .inr (.inl f171)))] H := hP
            have hD : va_D A [(oN, .inr (1, [.ref n0, .ref n1, .ref n2, .ref n3, .ref n4, .ref n5, .int 0])), (n0, .inl (cI, 40, .inl k0)), (n1, .inl (cI, 40, .inl k1)), (n2, .inl (cI, 40, .inl k2)), (n3, .inl (cI, 40, .inl k3)), (n4, .inl (cJ, 40, .inr (.inl f10))), (n5, .inl (cJ, 4, .inr (.inl f171)))] := hD
            refine lv_iinc (v := 3) (lv' := [(4, .int 3), (2, .long y1), (0, .ref oN), (1, .int 0)]) hx hb dX3_link_115 hl (k := 0) rfl (by decide) (by decide) rfl (fun ls hl => ?_)
            refine lv_goto (tgt := 79) hx hb dX3_link_118 (by decide) ?_
            refine lv_iload hx hb dX3_link_79 (lv_at hl 0 rfl) ?_
            refine lv_iconst (v := 4) hx hb dX3_link_81 (by decide) ?_
            refine lv_icmp_ge (tgt := 121) hx hb dX3_link_82 (by decide) (fun c173 => absurd c173 (by decide)) (fun _ => ?_)
            refine lv_aload_n hx hb dX3_link_85 rfl (lv_at hl 2 rfl) ?_
            refine va_get (D := D) (ci := 1) (v := .ref n5) (C := RX3) (T := TX3) (N := 7) hx hb hts iX3_link_X3 hown hK hP 0 rfl rfl 5 (by decide) (hts (.fieldLink RX3 28 "FloatSolver$Nodes" "users" "[J") (oX3_link_in _ (List.mem_of_getElem? (i := 2) rfl))) (fun _ h9 => h9) rfl dX3_link_86 ?_
            refine lv_iload hx hb dX3_link_89 (lv_at hl 0 rfl) ?_
            refine va_lald hx hb hK hP 6 1 rfl rfl (by unfold vp_in; decide) dX3_link_91 ?_
            refine lv_topl (fun y174 e175 => ?_)
            obtain rfl : y174 = f171 3 := e175
            refine lv_aload_n hx hb dX3_link_92 rfl (lv_at hl 2 rfl) ?_
            refine va_get (D := D) (ci := 1) (v := .ref n4) (C := RX3) (T := TX3) (N := 7) hx hb hts iX3_link_X3 hown hK hP 0 rfl rfl 4 (by decide) (hts (.fieldLink RX3 24 "FloatSolver$Nodes" "rests" "[J") (oX3_link_in _ (List.mem_of_getElem? (i := 0) rfl))) (fun _ h9 => h9) rfl dX3_link_93 ?_
            refine lv_iload_n hx hb dX3_link_96 rfl (lv_at hl 3 rfl) ?_
            refine va_lald hx hb hK hP 5 1 rfl rfl (by unfold vp_in; decide) dX3_link_97 ?_
            refine lv_topl (fun y176 e177 => ?_)
            obtain rfl : y176 = f10 0 := e177
            refine lv_land hx hb dX3_link_98 ?_
            refine lv_topl (fun y178 e179 => ?_)
            refine lv_lconst (v := 0) hx hb dX3_link_99 (by decide) ?_
            refine W.lcmp hx hb dX3_link_100 ?_
            refine lv_if_eq (tgt := 115) hx hb dX3_link_101 (by decide) (fun c180 => ?_) (fun c180 => ?_)
            · skip
              have c180 := (lg_cmp_eq _ _).mp c180
              have c180i : (y178 : Int64).toInt = 0 := congrArg Int64.toInt c180
              refine lv_iinc (v := 4) (lv' := [(4, .int 4), (2, .long y1), (0, .ref oN), (1, .int 0)]) hx hb dX3_link_115 hl (k := 0) rfl (by decide) (by decide) rfl (fun ls hl => ?_)
              refine lv_goto (tgt := 79) hx hb dX3_link_118 (by decide) ?_
              refine lv_iload hx hb dX3_link_79 (lv_at hl 0 rfl) ?_
              refine lv_iconst (v := 4) hx hb dX3_link_81 (by decide) ?_
              refine lv_icmp_ge (tgt := 121) hx hb dX3_link_82 (by decide) (fun _ => ?_) (fun c181 => absurd (by decide) c181)
              refine W.widen (k := 0) (n := 0) (by decide) (by decide) ?_
              exact sp_vret (u := (f10, f171)) hx hb hr hlocks hS trivial (hP.sub [0, 1, 2, 3, 4, 5, 6] rfl) (hD.sub [0, 1, 2, 3, 4, 5, 6] (by decide) rfl) dX3_link_121
            · skip
              have c180 := fun h => c180 ((lg_cmp_eq _ _).mpr h)
              have c180i : ¬ (y178 : Int64).toInt = 0 := fun h => c180 (Int64.toInt_inj.mp h)
              refine lv_aload_n hx hb dX3_link_104 rfl (lv_at hl 2 rfl) ?_
              refine va_get (D := D) (ci := 1) (v := .ref n5) (C := RX3) (T := TX3) (N := 7) hx hb hts iX3_link_X3 hown hK hP 0 rfl rfl 5 (by decide) (hts (.fieldLink RX3 28 "FloatSolver$Nodes" "users" "[J") (oX3_link_in _ (List.mem_of_getElem? (i := 2) rfl))) (fun _ h9 => h9) rfl dX3_link_105 ?_
              refine lv_iload hx hb dX3_link_108 (lv_at hl 0 rfl) ?_
              refine lv_dup2_11 hx hb dX3_link_110 rfl rfl ?_
              refine va_lald hx hb hK hP 6 1 rfl rfl (by unfold vp_in; decide) dX3_link_111 ?_
              refine lv_topl (fun y182 e183 => ?_)
              obtain rfl : y182 = f171 3 := e183
              refine lv_lload_n hx hb dX3_link_112 rfl (lv_at hl 1 rfl) ?_
              refine lv_lor hx hb dX3_link_113 ?_
              refine lv_topl (fun y184 e185 => ?_)
              refine va_last hx hb hK hP hD hS 6 1 rfl rfl (by unfold vp_in; decide) dX3_link_114 (fun H locs hP hD hS => ?_)
              obtain ⟨f186, ef187⟩ : ∃ z9 : Nat → Int64, z9 = vp_updL f171 (3 : Int32).toNatClampNeg y184 := ⟨_, rfl⟩
              rw [← ef187] at hP hD
              have hP : va_P D vwCl [(oN, .inr (1, [.ref n0, .ref n1, .ref n2, .ref n3, .ref n4, .ref n5, .int 0])), (n0, .inl (cI, 40, .inl k0)), (n1, .inl (cI, 40, .inl k1)), (n2, .inl (cI, 40, .inl k2)), (n3, .inl (cI, 40, .inl k3)), (n4, .inl (cJ, 40, .inr (.inl f10))), (n5, .inl (cJ, 4, .inr (.inl f186)))] H := hP
              have hD : va_D A [(oN, .inr (1, [.ref n0, .ref n1, .ref n2, .ref n3, .ref n4, .ref n5, .int 0])), (n0, .inl (cI, 40, .inl k0)), (n1, .inl (cI, 40, .inl k1)), (n2, .inl (cI, 40, .inl k2)), (n3, .inl (cI, 40, .inl k3)), (n4, .inl (cJ, 40, .inr (.inl f10))), (n5, .inl (cJ, 4, .inr (.inl f186)))] := hD
              refine lv_iinc (v := 4) (lv' := [(4, .int 4), (2, .long y1), (0, .ref oN), (1, .int 0)]) hx hb dX3_link_115 hl (k := 0) rfl (by decide) (by decide) rfl (fun ls hl => ?_)
              refine lv_goto (tgt := 79) hx hb dX3_link_118 (by decide) ?_
              refine lv_iload hx hb dX3_link_79 (lv_at hl 0 rfl) ?_
              refine lv_iconst (v := 4) hx hb dX3_link_81 (by decide) ?_
              refine lv_icmp_ge (tgt := 121) hx hb dX3_link_82 (by decide) (fun _ => ?_) (fun c188 => absurd (by decide) c188)
              refine W.widen (k := 0) (n := 0) (by decide) (by decide) ?_
              exact sp_vret (u := (f10, f186)) hx hb hr hlocks hS trivial (hP.sub [0, 1, 2, 3, 4, 5, 6] rfl) (hD.sub [0, 1, 2, 3, 4, 5, 6] (by decide) rfl) dX3_link_121
        · skip
          have c142 := fun h => c142 ((lg_cmp_eq _ _).mpr h)
          have c142i : ¬ (y140 : Int64).toInt = 0 := fun h => c142 (Int64.toInt_inj.mp h)
          refine lv_aload_n hx hb dX3_link_104 rfl (lv_at hl 2 rfl) ?_
          refine va_get (D := D) (ci := 1) (v := .ref n5) (C := RX3) (T := TX3) (N := 7) hx hb hts iX3_link_X3 hown hK hP 0 rfl rfl 5 (by decide) (hts (.fieldLink RX3 28 "FloatSolver$Nodes" "users" "[J") (oX3_link_in _ (List.mem_of_getElem? (i := 2) rfl))) (fun _ h9 => h9) rfl dX3_link_105 ?_
          refine lv_iload hx hb dX3_link_108 (lv_at hl 0 rfl) ?_
          refine lv_dup2_11 hx hb dX3_link_110 rfl rfl ?_
          refine va_lald hx hb hK hP 6 1 rfl rfl (by unfold vp_in; decide) dX3_link_111 ?_
          refine lv_topl (fun y189 e190 => ?_)
          obtain rfl : y189 = f133 1 := e190
          refine lv_lload_n hx hb dX3_link_112 rfl (lv_at hl 1 rfl) ?_
          refine lv_lor hx hb dX3_link_113 ?_
          refine lv_topl (fun y191 e192 => ?_)
          refine va_last hx hb hK hP hD hS 6 1 rfl rfl (by unfold vp_in; decide) dX3_link_114 (fun H locs hP hD hS => ?_)
          obtain ⟨f193, ef194⟩ : ∃ z9 : Nat → Int64, z9 = vp_updL f133 (1 : Int32).toNatClampNeg y191 := ⟨_, rfl⟩
          rw [← ef194] at hP hD
          have hP : va_P D vwCl [(oN, .inr (1, [.ref n0, .ref n1, .ref n2, .ref n3, .ref n4, .ref n5, .int 0])), (n0, .inl (cI, 40, .inl k0)), (n1, .inl (cI, 40, .inl k1)), (n2, .inl (cI, 40, .inl k2)), (n3, .inl (cI, 40, .inl k3)), (n4, .inl (cJ, 40, .inr (.inl f10))), (n5, .inl (cJ, 4, .inr (.inl f193)))] H := hP
          have hD : va_D A [(oN, .inr (1, [.ref n0, .ref n1, .ref n2, .ref n3, .ref n4, .ref n5, .int 0])), (n0, .inl (cI, 40, .inl k0)), (n1, .inl (cI, 40, .inl k1)), (n2, .inl (cI, 40, .inl k2)), (n3, .inl (cI, 40, .inl k3)), (n4, .inl (cJ, 40, .inr (.inl f10))), (n5, .inl (cJ, 4, .inr (.inl f193)))] := hD
          refine lv_iinc (v := 2) (lv' := [(4, .int 2), (2, .long y1), (0, .ref oN), (1, .int 0)]) hx hb dX3_link_115 hl (k := 0) rfl (by decide) (by decide) rfl (fun ls hl => ?_)
          refine lv_goto (tgt := 79) hx hb dX3_link_118 (by decide) ?_
          refine lv_iload hx hb dX3_link_79 (lv_at hl 0 rfl) ?_
          refine lv_iconst (v := 4) hx hb dX3_link_81 (by decide) ?_
          refine lv_icmp_ge (tgt := 121) hx hb dX3_link_82 (by decide) (fun c195 => absurd c195 (by decide)) (fun _ => ?_)
          refine lv_aload_n hx hb dX3_link_85 rfl (lv_at hl 2 rfl) ?_
          refine va_get (D := D) (ci := 1) (v := .ref n5) (C := RX3) (T := TX3) (N := 7) hx hb hts iX3_link_X3 hown hK hP 0 rfl rfl 5 (by decide) (hts (.fieldLink RX3 28 "FloatSolver$Nodes" "users" "[J") (oX3_link_in _ (List.mem_of_getElem? (i := 2) rfl))) (fun _ h9 => h9) rfl dX3_link_86 ?_
          refine lv_iload hx hb dX3_link_89 (lv_at hl 0 rfl) ?_
          refine va_lald hx hb hK hP 6 1 rfl rfl (by unfold vp_in; decide) dX3_link_91 ?_
          refine lv_topl (fun y196 e197 => ?_)
          obtain rfl : y196 = f193 2 := e197
          refine lv_aload_n hx hb dX3_link_92 rfl (lv_at hl 2 rfl) ?_
          refine va_get (D := D) (ci := 1) (v := .ref n4) (C := RX3) (T := TX3) (N := 7) hx hb hts iX3_link_X3 hown hK hP 0 rfl rfl 4 (by decide) (hts (.fieldLink RX3 24 "FloatSolver$Nodes" "rests" "[J") (oX3_link_in _ (List.mem_of_getElem? (i := 0) rfl))) (fun _ h9 => h9) rfl dX3_link_93 ?_
          refine lv_iload_n hx hb dX3_link_96 rfl (lv_at hl 3 rfl) ?_
          refine va_lald hx hb hK hP 5 1 rfl rfl (by unfold vp_in; decide) dX3_link_97 ?_
          refine lv_topl (fun y198 e199 => ?_)
          obtain rfl : y198 = f10 0 := e199
          refine lv_land hx hb dX3_link_98 ?_
          refine lv_topl (fun y200 e201 => ?_)
          refine lv_lconst (v := 0) hx hb dX3_link_99 (by decide) ?_
          refine W.lcmp hx hb dX3_link_100 ?_
          refine lv_if_eq (tgt := 115) hx hb dX3_link_101 (by decide) (fun c202 => ?_) (fun c202 => ?_)
          · skip
            have c202 := (lg_cmp_eq _ _).mp c202
            have c202i : (y200 : Int64).toInt = 0 := congrArg Int64.toInt c202
            refine lv_iinc (v := 3) (lv' := [(4, .int 3), (2, .long y1), (0, .ref oN), (1, .int 0)]) hx hb dX3_link_115 hl (k := 0) rfl (by decide) (by decide) rfl (fun ls hl => ?_)
            refine lv_goto (tgt := 79) hx hb dX3_link_118 (by decide) ?_
            refine lv_iload hx hb dX3_link_79 (lv_at hl 0 rfl) ?_
            refine lv_iconst (v := 4) hx hb dX3_link_81 (by decide) ?_
            refine lv_icmp_ge (tgt := 121) hx hb dX3_link_82 (by decide) (fun c203 => absurd c203 (by decide)) (fun _ => ?_)
            refine lv_aload_n hx hb dX3_link_85 rfl (lv_at hl 2 rfl) ?_
            refine va_get (D := D) (ci := 1) (v := .ref n5) (C := RX3) (T := TX3) (N := 7) hx hb hts iX3_link_X3 hown hK hP 0 rfl rfl 5 (by decide) (hts (.fieldLink RX3 28 "FloatSolver$Nodes" "users" "[J") (oX3_link_in _ (List.mem_of_getElem? (i := 2) rfl))) (fun _ h9 => h9) rfl dX3_link_86 ?_
            refine lv_iload hx hb dX3_link_89 (lv_at hl 0 rfl) ?_
            refine va_lald hx hb hK hP 6 1 rfl rfl (by unfold vp_in; decide) dX3_link_91 ?_
            refine lv_topl (fun y204 e205 => ?_)
            obtain rfl : y204 = f193 3 := e205
            refine lv_aload_n hx hb dX3_link_92 rfl (lv_at hl 2 rfl) ?_
            refine va_get (D := D) (ci := 1) (v := .ref n4) (C := RX3) (T := TX3) (N := 7) hx hb hts iX3_link_X3 hown hK hP 0 rfl rfl 4 (by decide) (hts (.fieldLink RX3 24 "FloatSolver$Nodes" "rests" "[J") (oX3_link_in _ (List.mem_of_getElem? (i := 0) rfl))) (fun _ h9 => h9) rfl dX3_link_93 ?_
            refine lv_iload_n hx hb dX3_link_96 rfl (lv_at hl 3 rfl) ?_
            refine va_lald hx hb hK hP 5 1 rfl rfl (by unfold vp_in; decide) dX3_link_97 ?_
            refine lv_topl (fun y206 e207 => ?_)
            obtain rfl : y206 = f10 0 := e207
            refine lv_land hx hb dX3_link_98 ?_
            refine lv_topl (fun y208 e209 => ?_)
            refine lv_lconst (v := 0) hx hb dX3_link_99 (by decide) ?_
            refine W.lcmp hx hb dX3_link_100 ?_
            refine lv_if_eq (tgt := 115) hx hb dX3_link_101 (by decide) (fun c210 => ?_) (fun c210 => ?_)
            · skip
              have c210 := (lg_cmp_eq _ _).mp c210
              have c210i : (y208 : Int64).toInt = 0 := congrArg Int64.toInt c210
              refine lv_iinc (v := 4) (lv' := [(4, .int 4), (2, .long y1), (0, .ref oN), (1, .int 0)]) hx hb dX3_link_115 hl (k := 0) rfl (by decide) (by decide) rfl (fun ls hl => ?_)
              refine lv_goto (tgt := 79) hx hb dX3_link_118 (by decide) ?_
              refine lv_iload hx hb dX3_link_79 (lv_at hl 0 rfl) ?_
              refine lv_iconst (v := 4) hx hb dX3_link_81 (by decide) ?_
              refine lv_icmp_ge (tgt := 121) hx hb dX3_link_82 (by decide) (fun _ => ?_) (fun c211 => absurd (by decide) c211)
              refine W.widen (k := 0) (n := 0) (by decide) (by decide) ?_
              exact sp_vret (u := (f10, f193)) hx hb hr hlocks hS trivial (hP.sub [0, 1, 2, 3, 4, 5, 6] rfl) (hD.sub [0, 1, 2, 3, 4, 5, 6] (by decide) rfl) dX3_link_121
            · skip
              have c210 := fun h => c210 ((lg_cmp_eq _ _).mpr h)
              have c210i : ¬ (y208 : Int64).toInt = 0 := fun h => c210 (Int64.toInt_inj.mp h)
              refine lv_aload_n hx hb dX3_link_104 rfl (lv_at hl 2 rfl) ?_
              refine va_get (D := D) (ci := 1) (v := .ref n5) (C := RX3) (T := TX3) (N := 7) hx hb hts iX3_link_X3 hown hK hP 0 rfl rfl 5 (by decide) (hts (.fieldLink RX3 28 "FloatSolver$Nodes" "users" "[J") (oX3_link_in _ (List.mem_of_getElem? (i := 2) rfl))) (fun _ h9 => h9) rfl dX3_link_105 ?_
              refine lv_iload hx hb dX3_link_108 (lv_at hl 0 rfl) ?_
              refine lv_dup2_11 hx hb dX3_link_110 rfl rfl ?_
              refine va_lald hx hb hK hP 6 1 rfl rfl (by unfold vp_in; decide) dX3_link_111 ?_
              refine lv_topl (fun y212 e213 => ?_)
              obtain rfl : y212 = f193 3 := e213
              refine lv_lload_n hx hb dX3_link_112 rfl (lv_at hl 1 rfl) ?_
              refine lv_lor hx hb dX3_link_113 ?_
              refine lv_topl (fun y214 e215 => ?_)
              refine va_last hx hb hK hP hD hS 6 1 rfl rfl (by unfold vp_in; decide) dX3_link_114 (fun H locs hP hD hS => ?_)
              obtain ⟨f216, ef217⟩ : ∃ z9 : Nat → Int64, z9 = vp_updL f193 (3 : Int32).toNatClampNeg y214 := ⟨_, rfl⟩
              rw [← ef217] at hP hD
              have hP : va_P D vwCl [(oN, .inr (1, [.ref n0, .ref n1, .ref n2, .ref n3, .ref n4, .ref n5, .int 0])), (n0, .inl (cI, 40, .inl k0)), (n1, .inl (cI, 40, .inl k1)), (n2, .inl (cI, 40, .inl k2)), (n3, .inl (cI, 40, .inl k3)), (n4, .inl (cJ, 40, .inr (.inl f10))), (n5, .inl (cJ, 4, .inr (.inl f216)))] H := hP
              have hD : va_D A [(oN, .inr (1, [.ref n0, .ref n1, .ref n2, .ref n3, .ref n4, .ref n5, .int 0])), (n0, .inl (cI, 40, .inl k0)), (n1, .inl (cI, 40, .inl k1)), (n2, .inl (cI, 40, .inl k2)), (n3, .inl (cI, 40, .inl k3)), (n4, .inl (cJ, 40, .inr (.inl f10))), (n5, .inl (cJ, 4, .inr (.inl f216)))] := hD
              refine lv_iinc (v := 4) (lv' := [(4, .int 4), (2, .long y1), (0, .ref oN), (1, .int 0)]) hx hb dX3_link_115 hl (k := 0) rfl (by decide) (by decide) rfl (fun ls hl => ?_)
              refine lv_goto (tgt := 79) hx hb dX3_link_118 (by decide) ?_
              refine lv_iload hx hb dX3_link_79 (lv_at hl 0 rfl) ?_
              refine lv_iconst (v := 4) hx hb dX3_link_81 (by decide) ?_
              refine lv_icmp_ge (tgt := 121) hx hb dX3_link_82 (by decide) (fun _ => ?_) (fun c218 => absurd (by decide) c218)
              refine W.widen (k := 0) (n := 0) (by decide) (by decide) ?_
              exact sp_vret (u := (f10, f216)) hx hb hr hlocks hS trivial (hP.sub [0, 1, 2, 3, 4, 5, 6] rfl) (hD.sub [0, 1, 2, 3, 4, 5, 6] (by decide) rfl) dX3_link_121
          · skip
            have c202 := fun h => c202 ((lg_cmp_eq _ _).mpr h)
            have c202i : ¬ (y200 : Int64).toInt = 0 := fun h => c202 (Int64.toInt_inj.mp h)
            refine lv_aload_n hx hb dX3_link_104 rfl (lv_at hl 2 rfl) ?_
            refine va_get (D := D) (ci := 1) (v := .ref n5) (C := RX3) (T := TX3) (N := 7) hx hb hts iX3_link_X3 hown hK hP 0 rfl rfl 5 (by decide) (hts (.fieldLink RX3 28 "FloatSolver$Nodes" "users" "[J") (oX3_link_in _ (List.mem_of_getElem? (i := 2) rfl))) (fun _ h9 => h9) rfl dX3_link_105 ?_
            refine lv_iload hx hb dX3_link_108 (lv_at hl 0 rfl) ?_
            refine lv_dup2_11 hx hb dX3_link_110 rfl rfl ?_
            refine va_lald hx hb hK hP 6 1 rfl rfl (by unfold vp_in; decide) dX3_link_111 ?_
            refine lv_topl (fun y219 e220 => ?_)
            obtain rfl : y219 = f193 2 := e220
            refine lv_lload_n hx hb dX3_link_112 rfl (lv_at hl 1 rfl) ?_
            refine lv_lor hx hb dX3_link_113 ?_
            refine lv_topl (fun y221 e222 => ?_)
            refine va_last hx hb hK hP hD hS 6 1 rfl rfl (by unfold vp_in; decide) dX3_link_114 (fun H locs hP hD hS => ?_)
            obtain ⟨f223, ef224⟩ : ∃ z9 : Nat → Int64, z9 = vp_updL f193 (2 : Int32).toNatClampNeg y221 := ⟨_, rfl⟩
            rw [← ef224] at hP hD
            have hP : va_P D vwCl [(oN, .inr (1, [.ref n0, .ref n1, .ref n2, .ref n3, .ref n4, .ref n5, .int 0])), (n0, .inl (cI, 40, .inl k0)), (n1, .inl (cI, 40, .inl k1)), (n2, .inl (cI, 40, .inl k2)), (n3, .inl (cI, 40, .inl k3)), (n4, .inl (cJ, 40, .inr (.inl f10))), (n5, .inl (cJ, 4, .inr (.inl f223)))] H := hP
            have hD : va_D A [(oN, .inr (1, [.ref n0, .ref n1, .ref n2, .ref n3, .ref n4, .ref n5, .int 0])), (n0, .inl (cI, 40, .inl k0)), (n1, .inl (cI, 40, .inl k1)), (n2, .inl (cI, 40, .inl k2)), (n3, .inl (cI, 40, .inl k3)), (n4, .inl (cJ, 40, .inr (.inl f10))), (n5, .inl (cJ, 4, .inr (.inl f223)))] := hD
            refine lv_iinc (v := 3) (lv' := [(4, .int 3), (2, .long y1), (0, .ref oN), (1, .int 0)]) hx hb dX3_link_115 hl (k := 0) rfl (by decide) (by decide) rfl (fun ls hl => ?_)
            refine lv_goto (tgt := 79) hx hb dX3_link_118 (by decide) ?_
            refine lv_iload hx hb dX3_link_79 (lv_at hl 0 rfl) ?_
            refine lv_iconst (v := 4) hx hb dX3_link_81 (by decide) ?_
            refine lv_icmp_ge (tgt := 121) hx hb dX3_link_82 (by decide) (fun c225 => absurd c225 (by decide)) (fun _ => ?_)
            refine lv_aload_n hx hb dX3_link_85 rfl (lv_at hl 2 rfl) ?_
            refine va_get (D := D) (ci := 1) (v := .ref n5) (C := RX3) (T := TX3) (N := 7) hx hb hts iX3_link_X3 hown hK hP 0 rfl rfl 5 (by decide) (hts (.fieldLink RX3 28 "FloatSolver$Nodes" "users" "[J") (oX3_link_in _ (List.mem_of_getElem? (i := 2) rfl))) (fun _ h9 => h9) rfl dX3_link_86 ?_
            refine lv_iload hx hb dX3_link_89 (lv_at hl 0 rfl) ?_
            refine va_lald hx hb hK hP 6 1 rfl rfl (by unfold vp_in; decide) dX3_link_91 ?_
            refine lv_topl (fun y226 e227 => ?_)
            obtain rfl : y226 = f223 3 := e227
            refine lv_aload_n hx hb dX3_link_92 rfl (lv_at hl 2 rfl) ?_
            refine va_get (D := D) (ci := 1) (v := .ref n4) (C := RX3) (T := TX3) (N := 7) hx hb hts iX3_link_X3 hown hK hP 0 rfl rfl 4 (by decide) (hts (.fieldLink RX3 24 "FloatSolver$Nodes" "rests" "[J") (oX3_link_in _ (List.mem_of_getElem? (i := 0) rfl))) (fun _ h9 => h9) rfl dX3_link_93 ?_
            refine lv_iload_n hx hb dX3_link_96 rfl (lv_at hl 3 rfl) ?_
            refine va_lald hx hb hK hP 5 1 rfl rfl (by unfold vp_in; decide) dX3_link_97 ?_
            refine lv_topl (fun y228 e229 => ?_)
            obtain rfl : y228 = f10 0 := e229
            refine lv_land hx hb dX3_link_98 ?_
            refine lv_topl (fun y230 e231 => ?_)
            refine lv_lconst (v := 0) hx hb dX3_link_99 (by decide) ?_
            refine W.lcmp hx hb dX3_link_100 ?_
            refine lv_if_eq (tgt := 115) hx hb dX3_link_101 (by decide) (fun c232 => ?_) (fun c232 => ?_)
            · skip
              have c232 := (lg_cmp_eq _ _).mp c232
              have c232i : (y230 : Int64).toInt = 0 := congrArg Int64.toInt c232
              refine lv_iinc (v := 4) (lv' := [(4, .int 4), (2, .long y1), (0, .ref oN), (1, .int 0)]) hx hb dX3_link_115 hl (k := 0) rfl (by decide) (by decide) rfl (fun ls hl => ?_)
              refine lv_goto (tgt := 79) hx hb dX3_link_118 (by decide) ?_
              refine lv_iload hx hb dX3_link_79 (lv_at hl 0 rfl) ?_
              refine lv_iconst (v := 4) hx hb dX3_link_81 (by decide) ?_
              refine lv_icmp_ge (tgt := 121) hx hb dX3_link_82 (by decide) (fun _ => ?_) (fun c233 => absurd (by decide) c233)
              refine W.widen (k := 0) (n := 0) (by decide) (by decide) ?_
              exact sp_vret (u := (f10, f223)) hx hb hr hlocks hS trivial (hP.sub [0, 1, 2, 3, 4, 5, 6] rfl) (hD.sub [0, 1, 2, 3, 4, 5, 6] (by decide) rfl) dX3_link_121
            · skip
              have c232 := fun h => c232 ((lg_cmp_eq _ _).mpr h)
              have c232i : ¬ (y230 : Int64).toInt = 0 := fun h => c232 (Int64.toInt_inj.mp h)
              refine lv_aload_n hx hb dX3_link_104 rfl (lv_at hl 2 rfl) ?_
              refine va_get (D := D) (ci := 1) (v := .ref n5) (C := RX3) (T := TX3) (N := 7) hx hb hts iX3_link_X3 hown hK hP 0 rfl rfl 5 (by decide) (hts (.fieldLink RX3 28 "FloatSolver$Nodes" "users" "[J") (oX3_link_in _ (List.mem_of_getElem? (i := 2) rfl))) (fun _ h9 => h9) rfl dX3_link_105 ?_
              refine lv_iload hx hb dX3_link_108 (lv_at hl 0 rfl) ?_
              refine lv_dup2_11 hx hb dX3_link_110 rfl rfl ?_
              refine va_lald hx hb hK hP 6 1 rfl rfl (by unfold vp_in; decide) dX3_link_111 ?_
              refine lv_topl (fun y234 e235 => ?_)
              obtain rfl : y234 = f223 3 := e235
              refine lv_lload_n hx hb dX3_link_112 rfl (lv_at hl 1 rfl) ?_
              refine lv_lor hx hb dX3_link_113 ?_
              refine lv_topl (fun y236 e237 => ?_)
              refine va_last hx hb hK hP hD hS 6 1 rfl rfl (by unfold vp_in; decide) dX3_link_114 (fun H locs hP hD hS => ?_)
              obtain ⟨f238, ef239⟩ : ∃ z9 : Nat → Int64, z9 = vp_updL f223 (3 : Int32).toNatClampNeg y236 := ⟨_, rfl⟩
              rw [← ef239] at hP hD
              have hP : va_P D vwCl [(oN, .inr (1, [.ref n0, .ref n1, .ref n2, .ref n3, .ref n4, .ref n5, .int 0])), (n0, .inl (cI, 40, .inl k0)), (n1, .inl (cI, 40, .inl k1)), (n2, .inl (cI, 40, .inl k2)), (n3, .inl (cI, 40, .inl k3)), (n4, .inl (cJ, 40, .inr (.inl f10))), (n5, .inl (cJ, 4, .inr (.inl f238)))] H := hP
              have hD : va_D A [(oN, .inr (1, [.ref n0, .ref n1, .ref n2, .ref n3, .ref n4, .ref n5, .int 0])), (n0, .inl (cI, 40, .inl k0)), (n1, .inl (cI, 40, .inl k1)), (n2, .inl (cI, 40, .inl k2)), (n3, .inl (cI, 40, .inl k3)), (n4, .inl (cJ, 40, .inr (.inl f10))), (n5, .inl (cJ, 4, .inr (.inl f238)))] := hD
              refine lv_iinc (v := 4) (lv' := [(4, .int 4), (2, .long y1), (0, .ref oN), (1, .int 0)]) hx hb dX3_link_115 hl (k := 0) rfl (by decide) (by decide) rfl (fun ls hl => ?_)
              refine lv_goto (tgt := 79) hx hb dX3_link_118 (by decide) ?_
              refine lv_iload hx hb dX3_link_79 (lv_at hl 0 rfl) ?_
              refine lv_iconst (v := 4) hx hb dX3_link_81 (by decide) ?_
              refine lv_icmp_ge (tgt := 121) hx hb dX3_link_82 (by decide) (fun _ => ?_) (fun c240 => absurd (by decide) c240)
              refine W.widen (k := 0) (n := 0) (by decide) (by decide) ?_
              exact sp_vret (u := (f10, f238)) hx hb hr hlocks hS trivial (hP.sub [0, 1, 2, 3, 4, 5, 6] rfl) (hD.sub [0, 1, 2, 3, 4, 5, 6] (by decide) rfl) dX3_link_121
    · skip
      have c14i : ((k0 0) : Int32).toInt = 1 := congrArg Int32.toInt c14
      refine lv_aload_n hx hb dX3_link_61 rfl (lv_at hl 1 rfl) ?_
      refine va_get (D := D) (ci := 1) (v := .ref n5) (C := RX3) (T := TX3) (N := 7) hx hb hts iX3_link_X3 hown hK hP 0 rfl rfl 5 (by decide) (hts (.fieldLink RX3 28 "FloatSolver$Nodes" "users" "[J") (oX3_link_in _ (List.mem_of_getElem? (i := 2) rfl))) (fun _ h9 => h9) rfl dX3_link_62 ?_
      refine lv_aload_n hx hb dX3_link_65 rfl (lv_at hl 1 rfl) ?_
      refine va_get (D := D) (ci := 1) (v := .ref n1) (C := RX3) (T := TX3) (N := 7) hx hb hts iX3_link_X3 hown hK hP 0 rfl rfl 1 (by decide) (hts (.fieldLink RX3 15 "FloatSolver$Nodes" "x" "[I") (oX3_link_in _ (List.mem_of_getElem? (i := 3) rfl))) (fun _ h9 => h9) rfl dX3_link_66 ?_
      refine lv_iload_n hx hb dX3_link_69 rfl (lv_at hl 2 rfl) ?_
      refine va_iald hx hb hK hP 2 0 rfl rfl (by unfold vp_in; decide) dX3_link_70 ?_
      refine lv_topi (fun y241 e242 => ?_)
      obtain rfl : y241 = k1 0 := e242
      refine lv_dup2_11 hx hb dX3_link_71 rfl rfl ?_
      refine va_lald hx hb hK hP 6 1 rfl rfl (vp_in_iff.mpr ⟨by omega, by omega⟩) dX3_link_72 ?_
      refine lv_topl (fun y243 e244 => ?_)
      refine lv_lload_n hx hb dX3_link_73 rfl (lv_at hl 0 rfl) ?_
      refine lv_lor hx hb dX3_link_74 ?_
      refine lv_topl (fun y245 e246 => ?_)
      refine va_last hx hb hK hP hD hS 6 1 rfl rfl (vp_in_iff.mpr ⟨by omega, by omega⟩) dX3_link_75 (fun H locs hP hD hS => ?_)
      obtain ⟨f247, ef248⟩ : ∃ z9 : Nat → Int64, z9 = vp_updL k5 ((k1 0) : Int32).toNatClampNeg y245 := ⟨_, rfl⟩
      rw [← ef248] at hP hD
      have hP : va_P D vwCl [(oN, .inr (1, [.ref n0, .ref n1, .ref n2, .ref n3, .ref n4, .ref n5, .int 0])), (n0, .inl (cI, 40, .inl k0)), (n1, .inl (cI, 40, .inl k1)), (n2, .inl (cI, 40, .inl k2)), (n3, .inl (cI, 40, .inl k3)), (n4, .inl (cJ, 40, .inr (.inl f10))), (n5, .inl (cJ, 4, .inr (.inl f247)))] H := hP
      have hD : va_D A [(oN, .inr (1, [.ref n0, .ref n1, .ref n2, .ref n3, .ref n4, .ref n5, .int 0])), (n0, .inl (cI, 40, .inl k0)), (n1, .inl (cI, 40, .inl k1)), (n2, .inl (cI, 40, .inl k2)), (n3, .inl (cI, 40, .inl k3)), (n4, .inl (cJ, 40, .inr (.inl f10))), (n5, .inl (cJ, 4, .inr (.inl f247)))] := hD
      refine lv_iconst (v := 0) hx hb dX3_link_76 (by decide) ?_
      refine lv_istore (lv' := [(4, .int 0), (2, .long y1), (0, .ref oN), (1, .int 0)]) hx hb dX3_link_77 hl (by decide) rfl (fun ls hl => ?_)
      refine lv_iload hx hb dX3_link_79 (lv_at hl 0 rfl) ?_
      refine lv_iconst (v := 4) hx hb dX3_link_81 (by decide) ?_
      refine lv_icmp_ge (tgt := 121) hx hb dX3_link_82 (by decide) (fun c249 => absurd c249 (by decide)) (fun _ => ?_)
      refine lv_aload_n hx hb dX3_link_85 rfl (lv_at hl 2 rfl) ?_
      refine va_get (D := D) (ci := 1) (v := .ref n5) (C := RX3) (T := TX3) (N := 7) hx hb hts iX3_link_X3 hown hK hP 0 rfl rfl 5 (by decide) (hts (.fieldLink RX3 28 "FloatSolver$Nodes" "users" "[J") (oX3_link_in _ (List.mem_of_getElem? (i := 2) rfl))) (fun _ h9 => h9) rfl dX3_link_86 ?_
      refine lv_iload hx hb dX3_link_89 (lv_at hl 0 rfl) ?_
      refine va_lald hx hb hK hP 6 1 rfl rfl (by unfold vp_in; decide) dX3_link_91 ?_
      refine lv_topl (fun y250 e251 => ?_)
      obtain rfl : y250 = f247 0 := e251
      refine lv_aload_n hx hb dX3_link_92 rfl (lv_at hl 2 rfl) ?_
      refine va_get (D := D) (ci := 1) (v := .ref n4) (C := RX3) (T := TX3) (N := 7) hx hb hts iX3_link_X3 hown hK hP 0 rfl rfl 4 (by decide) (hts (.fieldLink RX3 24 "FloatSolver$Nodes" "rests" "[J") (oX3_link_in _ (List.mem_of_getElem? (i := 0) rfl))) (fun _ h9 => h9) rfl dX3_link_93 ?_
      refine lv_iload_n hx hb dX3_link_96 rfl (lv_at hl 3 rfl) ?_
      refine va_lald hx hb hK hP 5 1 rfl rfl (by unfold vp_in; decide) dX3_link_97 ?_
      refine lv_topl (fun y252 e253 => ?_)
      obtain rfl : y252 = f10 0 := e253
      refine lv_land hx hb dX3_link_98 ?_
      refine lv_topl (fun y254 e255 => ?_)
      refine lv_lconst (v := 0) hx hb dX3_link_99 (by decide) ?_
      refine W.lcmp hx hb dX3_link_100 ?_
      refine lv_if_eq (tgt := 115) hx hb dX3_link_101 (by decide) (fun c256 => ?_) (fun c256 => ?_)
      · skip
        have c256 := (lg_cmp_eq _ _).mp c256
        have c256i : (y254 : Int64).toInt = 0 := congrArg Int64.toInt c256
        refine lv_iinc (v := 1) (lv' := [(4, .int 1), (2, .long y1), (0, .ref oN), (1, .int 0)]) hx hb dX3_link_115 hl (k := 0) rfl (by decide) (by decide) rfl (fun ls hl => ?_)
        refine lv_goto (tgt := 79) hx hb dX3_link_118 (by decide) ?_
        refine lv_iload hx hb dX3_link_79 (lv_at hl 0 rfl) ?_
        refine lv_iconst (v := 4) hx hb dX3_link_81 (by decide) ?_
        refine lv_icmp_ge (tgt := 121) hx hb dX3_link_82 (by decide) (fun c257 => absurd c257 (by decide)) (fun _ => ?_)
        refine lv_aload_n hx hb dX3_link_85 rfl (lv_at hl 2 rfl) ?_
        refine va_get (D := D) (ci := 1) (v := .ref n5) (C := RX3) (T := TX3) (N := 7) hx hb hts iX3_link_X3 hown hK hP 0 rfl rfl 5 (by decide) (hts (.fieldLink RX3 28 "FloatSolver$Nodes" "users" "[J") (oX3_link_in _ (List.mem_of_getElem? (i := 2) rfl))) (fun _ h9 => h9) rfl dX3_link_86 ?_
        refine lv_iload hx hb dX3_link_89 (lv_at hl 0 rfl) ?_
        refine va_lald hx hb hK hP 6 1 rfl rfl (by unfold vp_in; decide) dX3_link_91 ?_
        refine lv_topl (fun y258 e259 => ?_)
        obtain rfl : y258 = f247 1 := e259
        refine lv_aload_n hx hb dX3_link_92 rfl (lv_at hl 2 rfl) ?_
        refine va_get (D := D) (ci := 1) (v := .ref n4) (C := RX3) (T := TX3) (N := 7) hx hb hts iX3_link_X3 hown hK hP 0 rfl rfl 4 (by decide) (hts (.fieldLink RX3 24 "FloatSolver$Nodes" "rests" "[J") (oX3_link_in _ (List.mem_of_getElem? (i := 0) rfl))) (fun _ h9 => h9) rfl dX3_link_93 ?_
        refine lv_iload_n hx hb dX3_link_96 rfl (lv_at hl 3 rfl) ?_
        refine va_lald hx hb hK hP 5 1 rfl rfl (by unfold vp_in; decide) dX3_link_97 ?_
        refine lv_topl (fun y260 e261 => ?_)
        obtain rfl : y260 = f10 0 := e261
        refine lv_land hx hb dX3_link_98 ?_
        refine lv_topl (fun y262 e263 => ?_)
        refine lv_lconst (v := 0) hx hb dX3_link_99 (by decide) ?_
        refine W.lcmp hx hb dX3_link_100 ?_
        refine lv_if_eq (tgt := 115) hx hb dX3_link_101 (by decide) (fun c264 => ?_) (fun c264 => ?_)
        · skip
          have c264 := (lg_cmp_eq _ _).mp c264
          have c264i : (y262 : Int64).toInt = 0 := congrArg Int64.toInt c264
          refine lv_iinc (v := 2) (lv' := [(4, .int 2), (2, .long y1), (0, .ref oN), (1, .int 0)]) hx hb dX3_link_115 hl (k := 0) rfl (by decide) (by decide) rfl (fun ls hl => ?_)
          refine lv_goto (tgt := 79) hx hb dX3_link_118 (by decide) ?_
          refine lv_iload hx hb dX3_link_79 (lv_at hl 0 rfl) ?_
          refine lv_iconst (v := 4) hx hb dX3_link_81 (by decide) ?_
          refine lv_icmp_ge (tgt := 121) hx hb dX3_link_82 (by decide) (fun c265 => absurd c265 (by decide)) (fun _ => ?_)
          refine lv_aload_n hx hb dX3_link_85 rfl (lv_at hl 2 rfl) ?_
          refine va_get (D := D) (ci := 1) (v := .ref n5) (C := RX3) (T := TX3) (N := 7) hx hb hts iX3_link_X3 hown hK hP 0 rfl rfl 5 (by decide) (hts (.fieldLink RX3 28 "FloatSolver$Nodes" "users" "[J") (oX3_link_in _ (List.mem_of_getElem? (i := 2) rfl))) (fun _ h9 => h9) rfl dX3_link_86 ?_
          refine lv_iload hx hb dX3_link_89 (lv_at hl 0 rfl) ?_
          refine va_lald hx hb hK hP 6 1 rfl rfl (by unfold vp_in; decide) dX3_link_91 ?_
          refine lv_topl (fun y266 e267 => ?_)
          obtain rfl : y266 = f247 2 := e267
          refine lv_aload_n hx hb dX3_link_92 rfl (lv_at hl 2 rfl) ?_
          refine va_get (D := D) (ci := 1) (v := .ref n4) (C := RX3) (T := TX3) (N := 7) hx hb hts iX3_link_X3 hown hK hP 0 rfl rfl 4 (by decide) (hts (.fieldLink RX3 24 "FloatSolver$Nodes" "rests" "[J") (oX3_link_in _ (List.mem_of_getElem? (i := 0) rfl))) (fun _ h9 => h9) rfl dX3_link_93 ?_
          refine lv_iload_n hx hb dX3_link_96 rfl (lv_at hl 3 rfl) ?_
          refine va_lald hx hb hK hP 5 1 rfl rfl (by unfold vp_in; decide) dX3_link_97 ?_
          refine lv_topl (fun y268 e269 => ?_)
          obtain rfl : y268 = f10 0 := e269
          refine lv_land hx hb dX3_link_98 ?_
          refine lv_topl (fun y270 e271 => ?_)
          refine lv_lconst (v := 0) hx hb dX3_link_99 (by decide) ?_
          refine W.lcmp hx hb dX3_link_100 ?_
          refine lv_if_eq (tgt := 115) hx hb dX3_link_101 (by decide) (fun c272 => ?_) (fun c272 => ?_)
          · skip
            have c272 := (lg_cmp_eq _ _).mp c272
            have c272i : (y270 : Int64).toInt = 0 := congrArg Int64.toInt c272
            refine lv_iinc (v := 3) (lv' := [(4, .int 3), (2, .long y1), (0, .ref oN), (1, .int 0)]) hx hb dX3_link_115 hl (k := 0) rfl (by decide) (by decide) rfl (fun ls hl => ?_)
            refine lv_goto (tgt := 79) hx hb dX3_link_118 (by decide) ?_
            refine lv_iload hx hb dX3_link_79 (lv_at hl 0 rfl) ?_
            refine lv_iconst (v := 4) hx hb dX3_link_81 (by decide) ?_
            refine lv_icmp_ge (tgt := 121) hx hb dX3_link_82 (by decide) (fun c273 => absurd c273 (by decide)) (fun _ => ?_)
            refine lv_aload_n hx hb dX3_link_85 rfl (lv_at hl 2 rfl) ?_
            refine va_get (D := D) (ci := 1) (v := .ref n5) (C := RX3) (T := TX3) (N := 7) hx hb hts iX3_link_X3 hown hK hP 0 rfl rfl 5 (by decide) (hts (.fieldLink RX3 28 "FloatSolver$Nodes" "users" "[J") (oX3_link_in _ (List.mem_of_getElem? (i := 2) rfl))) (fun _ h9 => h9) rfl dX3_link_86 ?_
            refine lv_iload hx hb dX3_link_89 (lv_at hl 0 rfl) ?_
            refine va_lald hx hb hK hP 6 1 rfl rfl (by unfold vp_in; decide) dX3_link_91 ?_
            refine lv_topl (fun y274 e275 => ?_)
            obtain rfl : y274 = f247 3 := e275
            refine lv_aload_n hx hb dX3_link_92 rfl (lv_at hl 2 rfl) ?_
            refine va_get (D := D) (ci := 1) (v := .ref n4) (C := RX3) (T := TX3) (N := 7) hx hb hts iX3_link_X3 hown hK hP 0 rfl rfl 4 (by decide) (hts (.fieldLink RX3 24 "FloatSolver$Nodes" "rests" "[J") (oX3_link_in _ (List.mem_of_getElem? (i := 0) rfl))) (fun _ h9 => h9) rfl dX3_link_93 ?_
            refine lv_iload_n hx hb dX3_link_96 rfl (lv_at hl 3 rfl) ?_
            refine va_lald hx hb hK hP 5 1 rfl rfl (by unfold vp_in; decide) dX3_link_97 ?_
            refine lv_topl (fun y276 e277 => ?_)
            obtain rfl : y276 = f10 0 := e277
            refine lv_land hx hb dX3_link_98 ?_
            refine lv_topl (fun y278 e279 => ?_)
            refine lv_lconst (v := 0) hx hb dX3_link_99 (by decide) ?_
            refine W.lcmp hx hb dX3_link_100 ?_
            refine lv_if_eq (tgt := 115) hx hb dX3_link_101 (by decide) (fun c280 => ?_) (fun c280 => ?_)
            · skip
              have c280 := (lg_cmp_eq _ _).mp c280
              have c280i : (y278 : Int64).toInt = 0 := congrArg Int64.toInt c280
              refine lv_iinc (v := 4) (lv' := [(4, .int 4), (2, .long y1), (0, .ref oN), (1, .int 0)]) hx hb dX3_link_115 hl (k := 0) rfl (by decide) (by decide) rfl (fun ls hl => ?_)
              refine lv_goto (tgt := 79) hx hb dX3_link_118 (by decide) ?_
              refine lv_iload hx hb dX3_link_79 (lv_at hl 0 rfl) ?_
              refine lv_iconst (v := 4) hx hb dX3_link_81 (by decide) ?_
              refine lv_icmp_ge (tgt := 121) hx hb dX3_link_82 (by decide) (fun _ => ?_) (fun c281 => absurd (by decide) c281)
              refine W.widen (k := 0) (n := 0) (by decide) (by decide) ?_
              exact sp_vret (u := (f10, f247)) hx hb hr hlocks hS trivial (hP.sub [0, 1, 2, 3, 4, 5, 6] rfl) (hD.sub [0, 1, 2, 3, 4, 5, 6] (by decide) rfl) dX3_link_121
            · skip
              have c280 := fun h => c280 ((lg_cmp_eq _ _).mpr h)
              have c280i : ¬ (y278 : Int64).toInt = 0 := fun h => c280 (Int64.toInt_inj.mp h)
              refine lv_aload_n hx hb dX3_link_104 rfl (lv_at hl 2 rfl) ?_
              refine va_get (D := D) (ci := 1) (v := .ref n5) (C := RX3) (T := TX3) (N := 7) hx hb hts iX3_link_X3 hown hK hP 0 rfl rfl 5 (by decide) (hts (.fieldLink RX3 28 "FloatSolver$Nodes" "users" "[J") (oX3_link_in _ (List.mem_of_getElem? (i := 2) rfl))) (fun _ h9 => h9) rfl dX3_link_105 ?_
              refine lv_iload hx hb dX3_link_108 (lv_at hl 0 rfl) ?_
              refine lv_dup2_11 hx hb dX3_link_110 rfl rfl ?_
              refine va_lald hx hb hK hP 6 1 rfl rfl (by unfold vp_in; decide) dX3_link_111 ?_
              refine lv_topl (fun y282 e283 => ?_)
              obtain rfl : y282 = f247 3 := e283
              refine lv_lload_n hx hb dX3_link_112 rfl (lv_at hl 1 rfl) ?_
              refine lv_lor hx hb dX3_link_113 ?_
              refine lv_topl (fun y284 e285 => ?_)
              refine va_last hx hb hK hP hD hS 6 1 rfl rfl (by unfold vp_in; decide) dX3_link_114 (fun H locs hP hD hS => ?_)
              obtain ⟨f286, ef287⟩ : ∃ z9 : Nat → Int64, z9 = vp_updL f247 (3 : Int32).toNatClampNeg y284 := ⟨_, rfl⟩
              rw [← ef287] at hP hD
              have hP : va_P D vwCl [(oN, .inr (1, [.ref n0, .ref n1, .ref n2, .ref n3, .ref n4, .ref n5, .int 0])), (n0, .inl (cI, 40, .inl k0)), (n1, .inl (cI, 40, .inl k1)), (n2, .inl (cI, 40, .inl k2)), (n3, .inl (cI, 40, .inl k3)), (n4, .inl (cJ, 40, .inr (.inl f10))), (n5, .inl (cJ, 4, .inr (.inl f286)))] H := hP
              have hD : va_D A [(oN, .inr (1, [.ref n0, .ref n1, .ref n2, .ref n3, .ref n4, .ref n5, .int 0])), (n0, .inl (cI, 40, .inl k0)), (n1, .inl (cI, 40, .inl k1)), (n2, .inl (cI, 40, .inl k2)), (n3, .inl (cI, 40, .inl k3)), (n4, .inl (cJ, 40, .inr (.inl f10))), (n5, .inl (cJ, 4, .inr (.inl f286)))] := hD
              refine lv_iinc (v := 4) (lv' := [(4, .int 4), (2, .long y1), (0, .ref oN), (1, .int 0)]) hx hb dX3_link_115 hl (k := 0) rfl (by decide) (by decide) rfl (fun ls hl => ?_)
              refine lv_goto (tgt := 79) hx hb dX3_link_118 (by decide) ?_
              refine lv_iload hx hb dX3_link_79 (lv_at hl 0 rfl) ?_
              refine lv_iconst (v := 4) hx hb dX3_link_81 (by decide) ?_
              refine lv_icmp_ge (tgt := 121) hx hb dX3_link_82 (by decide) (fun _ => ?_) (fun c288 => absurd (by decide) c288)
              refine W.widen (k := 0) (n := 0) (by decide) (by decide) ?_
              exact sp_vret (u := (f10, f286)) hx hb hr hlocks hS trivial (hP.sub [0, 1, 2, 3, 4, 5, 6] rfl) (hD.sub [0, 1, 2, 3, 4, 5, 6] (by decide) rfl) dX3_link_121
          · skip
            have c272 := fun h => c272 ((lg_cmp_eq _ _).mpr h)
            have c272i : ¬ (y270 : Int64).toInt = 0 := fun h => c272 (Int64.toInt_inj.mp h)
            refine lv_aload_n hx hb dX3_link_104 rfl (lv_at hl 2 rfl) ?_
            refine va_get (D := D) (ci := 1) (v := .ref n5) (C := RX3) (T := TX3) (N := 7) hx hb hts iX3_link_X3 hown hK hP 0 rfl rfl 5 (by decide) (hts (.fieldLink RX3 28 "FloatSolver$Nodes" "users" "[J") (oX3_link_in _ (List.mem_of_getElem? (i := 2) rfl))) (fun _ h9 => h9) rfl dX3_link_105 ?_
            refine lv_iload hx hb dX3_link_108 (lv_at hl 0 rfl) ?_
            refine lv_dup2_11 hx hb dX3_link_110 rfl rfl ?_
            refine va_lald hx hb hK hP 6 1 rfl rfl (by unfold vp_in; decide) dX3_link_111 ?_
            refine lv_topl (fun y289 e290 => ?_)
            obtain rfl : y289 = f247 2 := e290
            refine lv_lload_n hx hb dX3_link_112 rfl (lv_at hl 1 rfl) ?_
            refine lv_lor hx hb dX3_link_113 ?_
            refine lv_topl (fun y291 e292 => ?_)
            refine va_last hx hb hK hP hD hS 6 1 rfl rfl (by unfold vp_in; decide) dX3_link_114 (fun H locs hP hD hS => ?_)
            obtain ⟨f293, ef294⟩ : ∃ z9 : Nat → Int64, z9 = vp_updL f247 (2 : Int32).toNatClampNeg y291 := ⟨_, rfl⟩
            rw [← ef294] at hP hD
            have hP : va_P D vwCl [(oN, .inr (1, [.ref n0, .ref n1, .ref n2, .ref n3, .ref n4, .ref n5, .int 0])), (n0, .inl (cI, 40, .inl k0)), (n1, .inl (cI, 40, .inl k1)), (n2, .inl (cI, 40, .inl k2)), (n3, .inl (cI, 40, .inl k3)), (n4, .inl (cJ, 40, .inr (.inl f10))), (n5, .inl (cJ, 4, .inr (.inl f293)))] H := hP
            have hD : va_D A [(oN, .inr (1, [.ref n0, .ref n1, .ref n2, .ref n3, .ref n4, .ref n5, .int 0])), (n0, .inl (cI, 40, .inl k0)), (n1, .inl (cI, 40, .inl k1)), (n2, .inl (cI, 40, .inl k2)), (n3, .inl (cI, 40, .inl k3)), (n4, .inl (cJ, 40, .inr (.inl f10))), (n5, .inl (cJ, 4, .inr (.inl f293)))] := hD
            refine lv_iinc (v := 3) (lv' := [(4, .int 3), (2, .long y1), (0, .ref oN), (1, .int 0)]) hx hb dX3_link_115 hl (k := 0) rfl (by decide) (by decide) rfl (fun ls hl => ?_)
            refine lv_goto (tgt := 79) hx hb dX3_link_118 (by decide) ?_
            refine lv_iload hx hb dX3_link_79 (lv_at hl 0 rfl) ?_
            refine lv_iconst (v := 4) hx hb dX3_link_81 (by decide) ?_
            refine lv_icmp_ge (tgt := 121) hx hb dX3_link_82 (by decide) (fun c295 => absurd c295 (by decide)) (fun _ => ?_)
            refine lv_aload_n hx hb dX3_link_85 rfl (lv_at hl 2 rfl) ?_
            refine va_get (D := D) (ci := 1) (v := .ref n5) (C := RX3) (T := TX3) (N := 7) hx hb hts iX3_link_X3 hown hK hP 0 rfl rfl 5 (by decide) (hts (.fieldLink RX3 28 "FloatSolver$Nodes" "users" "[J") (oX3_link_in _ (List.mem_of_getElem? (i := 2) rfl))) (fun _ h9 => h9) rfl dX3_link_86 ?_
            refine lv_iload hx hb dX3_link_89 (lv_at hl 0 rfl) ?_
            refine va_lald hx hb hK hP 6 1 rfl rfl (by unfold vp_in; decide) dX3_link_91 ?_
            refine lv_topl (fun y296 e297 => ?_)
            obtain rfl : y296 = f293 3 := e297
            refine lv_aload_n hx hb dX3_link_92 rfl (lv_at hl 2 rfl) ?_
            refine va_get (D := D) (ci := 1) (v := .ref n4) (C := RX3) (T := TX3) (N := 7) hx hb hts iX3_link_X3 hown hK hP 0 rfl rfl 4 (by decide) (hts (.fieldLink RX3 24 "FloatSolver$Nodes" "rests" "[J") (oX3_link_in _ (List.mem_of_getElem? (i := 0) rfl))) (fun _ h9 => h9) rfl dX3_link_93 ?_
            refine lv_iload_n hx hb dX3_link_96 rfl (lv_at hl 3 rfl) ?_
            refine va_lald hx hb hK hP 5 1 rfl rfl (by unfold vp_in; decide) dX3_link_97 ?_
            refine lv_topl (fun y298 e299 => ?_)
            obtain rfl : y298 = f10 0 := e299
            refine lv_land hx hb dX3_link_98 ?_
            refine lv_topl (fun y300 e301 => ?_)
            refine lv_lconst (v := 0) hx hb dX3_link_99 (by decide) ?_
            refine W.lcmp hx hb dX3_link_100 ?_
            refine lv_if_eq (tgt := 115) hx hb dX3_link_101 (by decide) (fun c302 => ?_) (fun c302 => ?_)
            · skip
              have c302 := (lg_cmp_eq _ _).mp c302
              have c302i : (y300 : Int64).toInt = 0 := congrArg Int64.toInt c302
              refine lv_iinc (v := 4) (lv' := [(4, .int 4), (2, .long y1), (0, .ref oN), (1, .int 0)]) hx hb dX3_link_115 hl (k := 0) rfl (by decide) (by decide) rfl (fun ls hl => ?_)
              refine lv_goto (tgt := 79) hx hb dX3_link_118 (by decide) ?_
              refine lv_iload hx hb dX3_link_79 (lv_at hl 0 rfl) ?_
              refine lv_iconst (v := 4) hx hb dX3_link_81 (by decide) ?_
              refine lv_icmp_ge (tgt := 121) hx hb dX3_link_82 (by decide) (fun _ => ?_) (fun c303 => absurd (by decide) c303)
              refine W.widen (k := 0) (n := 0) (by decide) (by decide) ?_
              exact sp_vret (u := (f10, f293)) hx hb hr hlocks hS trivial (hP.sub [0, 1, 2, 3, 4, 5, 6] rfl) (hD.sub [0, 1, 2, 3, 4, 5, 6] (by decide) rfl) dX3_link_121
            · skip
              have c302 := fun h => c302 ((lg_cmp_eq _ _).mpr h)
              have c302i : ¬ (y300 : Int64).toInt = 0 := fun h => c302 (Int64.toInt_inj.mp h)
              refine lv_aload_n hx hb dX3_link_104 rfl (lv_at hl 2 rfl) ?_
              refine va_get (D := D) (ci := 1) (v := .ref n5) (C := RX3) (T := TX3) (N := 7) hx hb hts iX3_link_X3 hown hK hP 0 rfl rfl 5 (by decide) (hts (.fieldLink RX3 28 "FloatSolver$Nodes" "users" "[J") (oX3_link_in _ (List.mem_of_getElem? (i := 2) rfl))) (fun _ h9 => h9) rfl dX3_link_105 ?_
              refine lv_iload hx hb dX3_link_108 (lv_at hl 0 rfl) ?_
              refine lv_dup2_11 hx hb dX3_link_110 rfl rfl ?_
              refine va_lald hx hb hK hP 6 1 rfl rfl (by unfold vp_in; decide) dX3_link_111 ?_
              refine lv_topl (fun y304 e305 => ?_)
              obtain rfl : y304 = f293 3 := e305
              refine lv_lload_n hx hb dX3_link_112 rfl (lv_at hl 1 rfl) ?_
              refine lv_lor hx hb dX3_link_113 ?_
              refine lv_topl (fun y306 e307 => ?_)
              refine va_last hx hb hK hP hD hS 6 1 rfl rfl (by unfold vp_in; decide) dX3_link_114 (fun H locs hP hD hS => ?_)
              obtain ⟨f308, ef309⟩ : ∃ z9 : Nat → Int64, z9 = vp_updL f293 (3 : Int32).toNatClampNeg y306 := ⟨_, rfl⟩
              rw [← ef309] at hP hD
              have hP : va_P D vwCl [(oN, .inr (1, [.ref n0, .ref n1, .ref n2, .ref n3, .ref n4, .ref n5, .int 0])), (n0, .inl (cI, 40, .inl k0)), (n1, .inl (cI, 40, .inl k1)), (n2, .inl (cI, 40, .inl k2)), (n3, .inl (cI, 40, .inl k3)), (n4, .inl (cJ, 40, .inr (.inl f10))), (n5, .inl (cJ, 4, .inr (.inl f308)))] H := hP
              have hD : va_D A [(oN, .inr (1, [.ref n0, .ref n1, .ref n2, .ref n3, .ref n4, .ref n5, .int 0])), (n0, .inl (cI, 40, .inl k0)), (n1, .inl (cI, 40, .inl k1)), (n2, .inl (cI, 40, .inl k2)), (n3, .inl (cI, 40, .inl k3)), (n4, .inl (cJ, 40, .inr (.inl f10))), (n5, .inl (cJ, 4, .inr (.inl f308)))] := hD
              refine lv_iinc (v := 4) (lv' := [(4, .int 4), (2, .long y1), (0, .ref oN), (1, .int 0)]) hx hb dX3_link_115 hl (k := 0) rfl (by decide) (by decide) rfl (fun ls hl => ?_)
              refine lv_goto (tgt := 79) hx hb dX3_link_118 (by decide) ?_
              refine lv_iload hx hb dX3_link_79 (lv_at hl 0 rfl) ?_
              refine lv_iconst (v := 4) hx hb dX3_link_81 (by decide) ?_
              refine lv_icmp_ge (tgt := 121) hx hb dX3_link_82 (by decide) (fun _ => ?_) (fun c310 => absurd (by decide) c310)
              refine W.widen (k := 0) (n := 0) (by decide) (by decide) ?_
              exact sp_vret (u := (f10, f308)) hx hb hr hlocks hS trivial (hP.sub [0, 1, 2, 3, 4, 5, 6] rfl) (hD.sub [0, 1, 2, 3, 4, 5, 6] (by decide) rfl) dX3_link_121
        · skip
          have c264 := fun h => c264 ((lg_cmp_eq _ _).mpr h)
          have c264i : ¬ (y262 : Int64).toInt = 0 := fun h => c264 (Int64.toInt_inj.mp h)
          refine lv_aload_n hx hb dX3_link_104 rfl (lv_at hl 2 rfl) ?_
          refine va_get (D := D) (ci := 1) (v := .ref n5) (C := RX3) (T := TX3) (N := 7) hx hb hts iX3_link_X3 hown hK hP 0 rfl rfl 5 (by decide) (hts (.fieldLink RX3 28 "FloatSolver$Nodes" "users" "[J") (oX3_link_in _ (List.mem_of_getElem? (i := 2) rfl))) (fun _ h9 => h9) rfl dX3_link_105 ?_
          refine lv_iload hx hb dX3_link_108 (lv_at hl 0 rfl) ?_
          refine lv_dup2_11 hx hb dX3_link_110 rfl rfl ?_
          refine va_lald hx hb hK hP 6 1 rfl rfl (by unfold vp_in; decide) dX3_link_111 ?_
          refine lv_topl (fun y311 e312 => ?_)
          obtain rfl : y311 = f247 1 := e312
          refine lv_lload_n hx hb dX3_link_112 rfl (lv_at hl 1 rfl) ?_
          refine lv_lor hx hb dX3_link_113 ?_
          refine lv_topl (fun y313 e314 => ?_)
          refine va_last hx hb hK hP hD hS 6 1 rfl rfl (by unfold vp_in; decide) dX3_link_114 (fun H locs hP hD hS => ?_)
          obtain ⟨f315, ef316⟩ : ∃ z9 : Nat → Int64, z9 = vp_updL f247 (1 : Int32).toNatClampNeg y313 := ⟨_, rfl⟩
          rw [← ef316] at hP hD
          have hP : va_P D vwCl [(oN, .inr (1, [.ref n0, .ref n1, .ref n2, .ref n3, .ref n4, .ref n5, .int 0])), (n0, .inl (cI, 40, .inl k0)), (n1, .inl (cI, 40, .inl k1)), (n2, .inl (cI, 40, .inl k2)), (n3, .inl (cI, 40, .inl k3)), (n4, .inl (cJ, 40, .inr (.inl f10))), (n5, .inl (cJ, 4, .inr (.inl f315)))] H := hP
          have hD : va_D A [(oN, .inr (1, [.ref n0, .ref n1, .ref n2, .ref n3, .ref n4, .ref n5, .int 0])), (n0, .inl (cI, 40, .inl k0)), (n1, .inl (cI, 40, .inl k1)), (n2, .inl (cI, 40, .inl k2)), (n3, .inl (cI, 40, .inl k3)), (n4, .inl (cJ, 40, .inr (.inl f10))), (n5, .inl (cJ, 4, .inr (.inl f315)))] := hD
          refine lv_iinc (v := 2) (lv' := [(4, .int 2), (2, .long y1), (0, .ref oN), (1, .int 0)]) hx hb dX3_link_115 hl (k := 0) rfl (by decide) (by decide) rfl (fun ls hl => ?_)
          refine lv_goto (tgt := 79) hx hb dX3_link_118 (by decide) ?_
          refine lv_iload hx hb dX3_link_79 (lv_at hl 0 rfl) ?_
          refine lv_iconst (v := 4) hx hb dX3_link_81 (by decide) ?_
          refine lv_icmp_ge (tgt := 121) hx hb dX3_link_82 (by decide) (fun c317 => absurd c317 (by decide)) (fun _ => ?_)
          refine lv_aload_n hx hb dX3_link_85 rfl (lv_at hl 2 rfl) ?_
          refine va_get (D := D) (ci := 1) (v := .ref n5) (C := RX3) (T := TX3) (N := 7) hx hb hts iX3_link_X3 hown hK hP 0 rfl rfl 5 (by decide) (hts (.fieldLink RX3 28 "FloatSolver$Nodes" "users" "[J") (oX3_link_in _ (List.mem_of_getElem? (i := 2) rfl))) (fun _ h9 => h9) rfl dX3_link_86 ?_
          refine lv_iload hx hb dX3_link_89 (lv_at hl 0 rfl) ?_
          refine va_lald hx hb hK hP 6 1 rfl rfl (by unfold vp_in; decide) dX3_link_91 ?_
          refine lv_topl (fun y318 e319 => ?_)
          obtain rfl : y318 = f315 2 := e319
          refine lv_aload_n hx hb dX3_link_92 rfl (lv_at hl 2 rfl) ?_
          refine va_get (D := D) (ci := 1) (v := .ref n4) (C := RX3) (T := TX3) (N := 7) hx hb hts iX3_link_X3 hown hK hP 0 rfl rfl 4 (by decide) (hts (.fieldLink RX3 24 "FloatSolver$Nodes" "rests" "[J") (oX3_link_in _ (List.mem_of_getElem? (i := 0) rfl))) (fun _ h9 => h9) rfl dX3_link_93 ?_
          refine lv_iload_n hx hb dX3_link_96 rfl (lv_at hl 3 rfl) ?_
          refine va_lald hx hb hK hP 5 1 rfl rfl (by unfold vp_in; decide) dX3_link_97 ?_
          refine lv_topl (fun y320 e321 => ?_)
          obtain rfl : y320 = f10 0 := e321
          refine lv_land hx hb dX3_link_98 ?_
          refine lv_topl (fun y322 e323 => ?_)
          refine lv_lconst (v := 0) hx hb dX3_link_99 (by decide) ?_
          refine W.lcmp hx hb dX3_link_100 ?_
          refine lv_if_eq (tgt := 115) hx hb dX3_link_101 (by decide) (fun c324 => ?_) (fun c324 => ?_)
          · skip
            have c324 := (lg_cmp_eq _ _).mp c324
            have c324i : (y322 : Int64).toInt = 0 := congrArg Int64.toInt c324
            refine lv_iinc (v := 3) (lv' := [(4, .int 3), (2, .long y1), (0, .ref oN), (1, .int 0)]) hx hb dX3_link_115 hl (k := 0) rfl (by decide) (by decide) rfl (fun ls hl => ?_)
            refine lv_goto (tgt := 79) hx hb dX3_link_118 (by decide) ?_
            refine lv_iload hx hb dX3_link_79 (lv_at hl 0 rfl) ?_
            refine lv_iconst (v := 4) hx hb dX3_link_81 (by decide) ?_
            refine lv_icmp_ge (tgt := 121) hx hb dX3_link_82 (by decide) (fun c325 => absurd c325 (by decide)) (fun _ => ?_)
            refine lv_aload_n hx hb dX3_link_85 rfl (lv_at hl 2 rfl) ?_
            refine va_get (D := D) (ci := 1) (v := .ref n5) (C := RX3) (T := TX3) (N := 7) hx hb hts iX3_link_X3 hown hK hP 0 rfl rfl 5 (by decide) (hts (.fieldLink RX3 28 "FloatSolver$Nodes" "users" "[J") (oX3_link_in _ (List.mem_of_getElem? (i := 2) rfl))) (fun _ h9 => h9) rfl dX3_link_86 ?_
            refine lv_iload hx hb dX3_link_89 (lv_at hl 0 rfl) ?_
            refine va_lald hx hb hK hP 6 1 rfl rfl (by unfold vp_in; decide) dX3_link_91 ?_
            refine lv_topl (fun y326 e327 => ?_)
            obtain rfl : y326 = f315 3 := e327
            refine lv_aload_n hx hb dX3_link_92 rfl (lv_at hl 2 rfl) ?_
            refine va_get (D := D) (ci := 1) (v := .ref n4) (C := RX3) (T := TX3) (N := 7) hx hb hts iX3_link_X3 hown hK hP 0 rfl rfl 4 (by decide) (hts (.fieldLink RX3 24 "FloatSolver$Nodes" "rests" "[J") (oX3_link_in _ (List.mem_of_getElem? (i := 0) rfl))) (fun _ h9 => h9) rfl dX3_link_93 ?_
            refine lv_iload_n hx hb dX3_link_96 rfl (lv_at hl 3 rfl) ?_
            refine va_lald hx hb hK hP 5 1 rfl rfl (by unfold vp_in; decide) dX3_link_97 ?_
            refine lv_topl (fun y328 e329 => ?_)
            obtain rfl : y328 = f10 0 := e329
            refine lv_land hx hb dX3_link_98 ?_
            refine lv_topl (fun y330 e331 => ?_)
            refine lv_lconst (v := 0) hx hb dX3_link_99 (by decide) ?_
            refine W.lcmp hx hb dX3_link_100 ?_
            refine lv_if_eq (tgt := 115) hx hb dX3_link_101 (by decide) (fun c332 => ?_) (fun c332 => ?_)
            · skip
              have c332 := (lg_cmp_eq _ _).mp c332
              have c332i : (y330 : Int64).toInt = 0 := congrArg Int64.toInt c332
              refine lv_iinc (v := 4) (lv' := [(4, .int 4), (2, .long y1), (0, .ref oN), (1, .int 0)]) hx hb dX3_link_115 hl (k := 0) rfl (by decide) (by decide) rfl (fun ls hl => ?_)
              refine lv_goto (tgt := 79) hx hb dX3_link_118 (by decide) ?_
              refine lv_iload hx hb dX3_link_79 (lv_at hl 0 rfl) ?_
              refine lv_iconst (v := 4) hx hb dX3_link_81 (by decide) ?_
              refine lv_icmp_ge (tgt := 121) hx hb dX3_link_82 (by decide) (fun _ => ?_) (fun c333 => absurd (by decide) c333)
              refine W.widen (k := 0) (n := 0) (by decide) (by decide) ?_
              exact sp_vret (u := (f10, f315)) hx hb hr hlocks hS trivial (hP.sub [0, 1, 2, 3, 4, 5, 6] rfl) (hD.sub [0, 1, 2, 3, 4, 5, 6] (by decide) rfl) dX3_link_121
            · skip
              have c332 := fun h => c332 ((lg_cmp_eq _ _).mpr h)
              have c332i : ¬ (y330 : Int64).toInt = 0 := fun h => c332 (Int64.toInt_inj.mp h)
              refine lv_aload_n hx hb dX3_link_104 rfl (lv_at hl 2 rfl) ?_
              refine va_get (D := D) (ci := 1) (v := .ref n5) (C := RX3) (T := TX3) (N := 7) hx hb hts iX3_link_X3 hown hK hP 0 rfl rfl 5 (by decide) (hts (.fieldLink RX3 28 "FloatSolver$Nodes" "users" "[J") (oX3_link_in _ (List.mem_of_getElem? (i := 2) rfl))) (fun _ h9 => h9) rfl dX3_link_105 ?_
              refine lv_iload hx hb dX3_link_108 (lv_at hl 0 rfl) ?_
              refine lv_dup2_11 hx hb dX3_link_110 rfl rfl ?_
              refine va_lald hx hb hK hP 6 1 rfl rfl (by unfold vp_in; decide) dX3_link_111 ?_
              refine lv_topl (fun y334 e335 => ?_)
              obtain rfl : y334 = f315 3 := e335
              refine lv_lload_n hx hb dX3_link_112 rfl (lv_at hl 1 rfl) ?_
              refine lv_lor hx hb dX3_link_113 ?_
              refine lv_topl (fun y336 e337 => ?_)
              refine va_last hx hb hK hP hD hS 6 1 rfl rfl (by unfold vp_in; decide) dX3_link_114 (fun H locs hP hD hS => ?_)
              obtain ⟨f338, ef339⟩ : ∃ z9 : Nat → Int64, z9 = vp_updL f315 (3 : Int32).toNatClampNeg y336 := ⟨_, rfl⟩
              rw [← ef339] at hP hD
              have hP : va_P D vwCl [(oN, .inr (1, [.ref n0, .ref n1, .ref n2, .ref n3, .ref n4, .ref n5, .int 0])), (n0, .inl (cI, 40, .inl k0)), (n1, .inl (cI, 40, .inl k1)), (n2, .inl (cI, 40, .inl k2)), (n3, .inl (cI, 40, .inl k3)), (n4, .inl (cJ, 40, .inr (.inl f10))), (n5, .inl (cJ, 4, .inr (.inl f338)))] H := hP
              have hD : va_D A [(oN, .inr (1, [.ref n0, .ref n1, .ref n2, .ref n3, .ref n4, .ref n5, .int 0])), (n0, .inl (cI, 40, .inl k0)), (n1, .inl (cI, 40, .inl k1)), (n2, .inl (cI, 40, .inl k2)), (n3, .inl (cI, 40, .inl k3)), (n4, .inl (cJ, 40, .inr (.inl f10))), (n5, .inl (cJ, 4, .inr (.inl f338)))] := hD
              refine lv_iinc (v := 4) (lv' := [(4, .int 4), (2, .long y1), (0, .ref oN), (1, .int 0)]) hx hb dX3_link_115 hl (k := 0) rfl (by decide) (by decide) rfl (fun ls hl => ?_)
              refine lv_goto (tgt := 79) hx hb dX3_link_118 (by decide) ?_
              refine lv_iload hx hb dX3_link_79 (lv_at hl 0 rfl) ?_
              refine lv_iconst (v := 4) hx hb dX3_link_81 (by decide) ?_
              refine lv_icmp_ge (tgt := 121) hx hb dX3_link_82 (by decide) (fun _ => ?_) (fun c340 => absurd (by decide) c340)
              refine W.widen (k := 0) (n := 0) (by decide) (by decide) ?_
              exact sp_vret (u := (f10, f338)) hx hb hr hlocks hS trivial (hP.sub [0, 1, 2, 3, 4, 5, 6] rfl) (hD.sub [0, 1, 2, 3, 4, 5, 6] (by decide) rfl) dX3_link_121
          · skip
            have c324 := fun h => c324 ((lg_cmp_eq _ _).mpr h)
            have c324i : ¬ (y322 : Int64).toInt = 0 := fun h => c324 (Int64.toInt_inj.mp h)
            refine lv_aload_n hx hb dX3_link_104 rfl (lv_at hl 2 rfl) ?_
            refine va_get (D := D) (ci := 1) (v := .ref n5) (C := RX3) (T := TX3) (N := 7) hx hb hts iX3_link_X3 hown hK hP 0 rfl rfl 5 (by decide) (hts (.fieldLink RX3 28 "FloatSolver$Nodes" "users" "[J") (oX3_link_in _ (List.mem_of_getElem? (i := 2) rfl))) (fun _ h9 => h9) rfl dX3_link_105 ?_
            refine lv_iload hx hb dX3_link_108 (lv_at hl 0 rfl) ?_
            refine lv_dup2_11 hx hb dX3_link_110 rfl rfl ?_
            refine va_lald hx hb hK hP 6 1 rfl rfl (by unfold vp_in; decide) dX3_link_111 ?_
            refine lv_topl (fun y341 e342 => ?_)
            obtain rfl : y341 = f315 2 := e342
            refine lv_lload_n hx hb dX3_link_112 rfl (lv_at hl 1 rfl) ?_
            refine lv_lor hx hb dX3_link_113 ?_
            refine lv_topl (fun y343 e344 => ?_)
            refine va_last hx hb hK hP hD hS 6 1 rfl rfl (by unfold vp_in; decide) dX3_link_114 (fun H locs hP hD hS => ?_)
            obtain ⟨f345, ef346⟩ : ∃ z9 : Nat → Int64, z9 = vp_updL f315 (2 : Int32).toNatClampNeg y343 := ⟨_, rfl⟩
            rw [← ef346] at hP hD
            have hP : va_P D vwCl [(oN, .inr (1, [.ref n0, .ref n1, .ref n2, .ref n3, .ref n4, .ref n5, .int 0])), (n0, .inl (cI, 40, .inl k0)), (n1, .inl (cI, 40, .inl k1)), (n2, .inl (cI, 40, .inl k2)), (n3, .inl (cI, 40, .inl k3)), (n4, .inl (cJ, 40, .inr (.inl f10))), (n5, .inl (cJ, 4, .inr (.inl f345)))] H := hP
            have hD : va_D A [(oN, .inr (1, [.ref n0, .ref n1, .ref n2, .ref n3, .ref n4, .ref n5, .int 0])), (n0, .inl (cI, 40, .inl k0)), (n1, .inl (cI, 40, .inl k1)), (n2, .inl (cI, 40, .inl k2)), (n3, .inl (cI, 40, .inl k3)), (n4, .inl (cJ, 40, .inr (.inl f10))), (n5, .inl (cJ, 4, .inr (.inl f345)))] := hD
            refine lv_iinc (v := 3) (lv' := [(4, .int 3), (2, .long y1), (0, .ref oN), (1, .int 0)]) hx hb dX3_link_115 hl (k := 0) rfl (by decide) (by decide) rfl (fun ls hl => ?_)
            refine lv_goto (tgt := 79) hx hb dX3_link_118 (by decide) ?_
            refine lv_iload hx hb dX3_link_79 (lv_at hl 0 rfl) ?_
            refine lv_iconst (v := 4) hx hb dX3_link_81 (by decide) ?_
            refine lv_icmp_ge (tgt := 121) hx hb dX3_link_82 (by decide) (fun c347 => absurd c347 (by decide)) (fun _ => ?_)
            refine lv_aload_n hx hb dX3_link_85 rfl (lv_at hl 2 rfl) ?_
            refine va_get (D := D) (ci := 1) (v := .ref n5) (C := RX3) (T := TX3) (N := 7) hx hb hts iX3_link_X3 hown hK hP 0 rfl rfl 5 (by decide) (hts (.fieldLink RX3 28 "FloatSolver$Nodes" "users" "[J") (oX3_link_in _ (List.mem_of_getElem? (i := 2) rfl))) (fun _ h9 => h9) rfl dX3_link_86 ?_
            refine lv_iload hx hb dX3_link_89 (lv_at hl 0 rfl) ?_
            refine va_lald hx hb hK hP 6 1 rfl rfl (by unfold vp_in; decide) dX3_link_91 ?_
            refine lv_topl (fun y348 e349 => ?_)
            obtain rfl : y348 = f345 3 := e349
            refine lv_aload_n hx hb dX3_link_92 rfl (lv_at hl 2 rfl) ?_
            refine va_get (D := D) (ci := 1) (v := .ref n4) (C := RX3) (T := TX3) (N := 7) hx hb hts iX3_link_X3 hown hK hP 0 rfl rfl 4 (by decide) (hts (.fieldLink RX3 24 "FloatSolver$Nodes" "rests" "[J") (oX3_link_in _ (List.mem_of_getElem? (i := 0) rfl))) (fun _ h9 => h9) rfl dX3_link_93 ?_
            refine lv_iload_n hx hb dX3_link_96 rfl (lv_at hl 3 rfl) ?_
            refine va_lald hx hb hK hP 5 1 rfl rfl (by unfold vp_in; decide) dX3_link_97 ?_
            refine lv_topl (fun y350 e351 => ?_)
            obtain rfl : y350 = f10 0 := e351
            refine lv_land hx hb dX3_link_98 ?_
            refine lv_topl (fun y352 e353 => ?_)
            refine lv_lconst (v := 0) hx hb dX3_link_99 (by decide) ?_
            refine W.lcmp hx hb dX3_link_100 ?_
            refine lv_if_eq (tgt := 115) hx hb dX3_link_101 (by decide) (fun c354 => ?_) (fun c354 => ?_)
            · skip
              have c354 := (lg_cmp_eq _ _).mp c354
              have c354i : (y352 : Int64).toInt = 0 := congrArg Int64.toInt c354
              refine lv_iinc (v := 4) (lv' := [(4, .int 4), (2, .long y1), (0, .ref oN), (1, .int 0)]) hx hb dX3_link_115 hl (k := 0) rfl (by decide) (by decide) rfl (fun ls hl => ?_)
              refine lv_goto (tgt := 79) hx hb dX3_link_118 (by decide) ?_
              refine lv_iload hx hb dX3_link_79 (lv_at hl 0 rfl) ?_
              refine lv_iconst (v := 4) hx hb dX3_link_81 (by decide) ?_
              refine lv_icmp_ge (tgt := 121) hx hb dX3_link_82 (by decide) (fun _ => ?_) (fun c355 => absurd (by decide) c355)
              refine W.widen (k := 0) (n := 0) (by decide) (by decide) ?_
              exact sp_vret (u := (f10, f345)) hx hb hr hlocks hS trivial (hP.sub [0, 1, 2, 3, 4, 5, 6] rfl) (hD.sub [0, 1, 2, 3, 4, 5, 6] (by decide) rfl) dX3_link_121
            · skip
              have c354 := fun h => c354 ((lg_cmp_eq _ _).mpr h)
              have c354i : ¬ (y352 : Int64).toInt = 0 := fun h => c354 (Int64.toInt_inj.mp h)
              refine lv_aload_n hx hb dX3_link_104 rfl (lv_at hl 2 rfl) ?_
              refine va_get (D := D) (ci := 1) (v := .ref n5) (C := RX3) (T := TX3) (N := 7) hx hb hts iX3_link_X3 hown hK hP 0 rfl rfl 5 (by decide) (hts (.fieldLink RX3 28 "FloatSolver$Nodes" "users" "[J") (oX3_link_in _ (List.mem_of_getElem? (i := 2) rfl))) (fun _ h9 => h9) rfl dX3_link_105 ?_
              refine lv_iload hx hb dX3_link_108 (lv_at hl 0 rfl) ?_
              refine lv_dup2_11 hx hb dX3_link_110 rfl rfl ?_
              refine va_lald hx hb hK hP 6 1 rfl rfl (by unfold vp_in; decide) dX3_link_111 ?_
              refine lv_topl (fun y356 e357 => ?_)
              obtain rfl : y356 = f345 3 := e357
              refine lv_lload_n hx hb dX3_link_112 rfl (lv_at hl 1 rfl) ?_
              refine lv_lor hx hb dX3_link_113 ?_
              refine lv_topl (fun y358 e359 => ?_)
              refine va_last hx hb hK hP hD hS 6 1 rfl rfl (by unfold vp_in; decide) dX3_link_114 (fun H locs hP hD hS => ?_)
              obtain ⟨f360, ef361⟩ : ∃ z9 : Nat → Int64, z9 = vp_updL f345 (3 : Int32).toNatClampNeg y358 := ⟨_, rfl⟩
              rw [← ef361] at hP hD
              have hP : va_P D vwCl [(oN, .inr (1, [.ref n0, .ref n1, .ref n2, .ref n3, .ref n4, .ref n5, .int 0])), (n0, .inl (cI, 40, .inl k0)), (n1, .inl (cI, 40, .inl k1)), (n2, .inl (cI, 40, .inl k2)), (n3, .inl (cI, 40, .inl k3)), (n4, .inl (cJ, 40, .inr (.inl f10))), (n5, .inl (cJ, 4, .inr (.inl f360)))] H := hP
              have hD : va_D A [(oN, .inr (1, [.ref n0, .ref n1, .ref n2, .ref n3, .ref n4, .ref n5, .int 0])), (n0, .inl (cI, 40, .inl k0)), (n1, .inl (cI, 40, .inl k1)), (n2, .inl (cI, 40, .inl k2)), (n3, .inl (cI, 40, .inl k3)), (n4, .inl (cJ, 40, .inr (.inl f10))), (n5, .inl (cJ, 4, .inr (.inl f360)))] := hD
              refine lv_iinc (v := 4) (lv' := [(4, .int 4), (2, .long y1), (0, .ref oN), (1, .int 0)]) hx hb dX3_link_115 hl (k := 0) rfl (by decide) (by decide) rfl (fun ls hl => ?_)
              refine lv_goto (tgt := 79) hx hb dX3_link_118 (by decide) ?_
              refine lv_iload hx hb dX3_link_79 (lv_at hl 0 rfl) ?_
              refine lv_iconst (v := 4) hx hb dX3_link_81 (by decide) ?_
              refine lv_icmp_ge (tgt := 121) hx hb dX3_link_82 (by decide) (fun _ => ?_) (fun c362 => absurd (by decide) c362)
              refine W.widen (k := 0) (n := 0) (by decide) (by decide) ?_
              exact sp_vret (u := (f10, f360)) hx hb hr hlocks hS trivial (hP.sub [0, 1, 2, 3, 4, 5, 6] rfl) (hD.sub [0, 1, 2, 3, 4, 5, 6] (by decide) rfl) dX3_link_121
      · skip
        have c256 := fun h => c256 ((lg_cmp_eq _ _).mpr h)
        have c256i : ¬ (y254 : Int64).toInt = 0 := fun h => c256 (Int64.toInt_inj.mp h)
        refine lv_aload_n hx hb dX3_link_104 rfl (lv_at hl 2 rfl) ?_
        refine va_get (D := D) (ci := 1) (v := .ref n5) (C := RX3) (T := TX3) (N := 7) hx hb hts iX3_link_X3 hown hK hP 0 rfl rfl 5 (by decide) (hts (.fieldLink RX3 28 "FloatSolver$Nodes" "users" "[J") (oX3_link_in _ (List.mem_of_getElem? (i := 2) rfl))) (fun _ h9 => h9) rfl dX3_link_105 ?_
        refine lv_iload hx hb dX3_link_108 (lv_at hl 0 rfl) ?_
        refine lv_dup2_11 hx hb dX3_link_110 rfl rfl ?_
        refine va_lald hx hb hK hP 6 1 rfl rfl (by unfold vp_in; decide) dX3_link_111 ?_
        refine lv_topl (fun y363 e364 => ?_)
        obtain rfl : y363 = f247 0 := e364
        refine lv_lload_n hx hb dX3_link_112 rfl (lv_at hl 1 rfl) ?_
        refine lv_lor hx hb dX3_link_113 ?_
        refine lv_topl (fun y365 e366 => ?_)
        refine va_last hx hb hK hP hD hS 6 1 rfl rfl (by unfold vp_in; decide) dX3_link_114 (fun H locs hP hD hS => ?_)
        obtain ⟨f367, ef368⟩ : ∃ z9 : Nat → Int64, z9 = vp_updL f247 (0 : Int32).toNatClampNeg y365 := ⟨_, rfl⟩
        rw [← ef368] at hP hD
        have hP : va_P D vwCl [(oN, .inr (1, [.ref n0, .ref n1, .ref n2, .ref n3, .ref n4, .ref n5, .int 0])), (n0, .inl (cI, 40, .inl k0)), (n1, .inl (cI, 40, .inl k1)), (n2, .inl (cI, 40, .inl k2)), (n3, .inl (cI, 40, .inl k3)), (n4, .inl (cJ, 40, .inr (.inl f10))), (n5, .inl (cJ, 4, .inr (.inl f367)))] H := hP
        have hD : va_D A [(oN, .inr (1, [.ref n0, .ref n1, .ref n2, .ref n3, .ref n4, .ref n5, .int 0])), (n0, .inl (cI, 40, .inl k0)), (n1, .inl (cI, 40, .inl k1)), (n2, .inl (cI, 40, .inl k2)), (n3, .inl (cI, 40, .inl k3)), (n4, .inl (cJ, 40, .inr (.inl f10))), (n5, .inl (cJ, 4, .inr (.inl f367)))] := hD
        refine lv_iinc (v := 1) (lv' := [(4, .int 1), (2, .long y1), (0, .ref oN), (1, .int 0)]) hx hb dX3_link_115 hl (k := 0) rfl (by decide) (by decide) rfl (fun ls hl => ?_)
        refine lv_goto (tgt := 79) hx hb dX3_link_118 (by decide) ?_
        refine lv_iload hx hb dX3_link_79 (lv_at hl 0 rfl) ?_
        refine lv_iconst (v := 4) hx hb dX3_link_81 (by decide) ?_
        refine lv_icmp_ge (tgt := 121) hx hb dX3_link_82 (by decide) (fun c369 => absurd c369 (by decide)) (fun _ => ?_)
        refine lv_aload_n hx hb dX3_link_85 rfl (lv_at hl 2 rfl) ?_
        refine va_get (D := D) (ci := 1) (v := .ref n5) (C := RX3) (T := TX3) (N := 7) hx hb hts iX3_link_X3 hown hK hP 0 rfl rfl 5 (by decide) (hts (.fieldLink RX3 28 "FloatSolver$Nodes" "users" "[J") (oX3_link_in _ (List.mem_of_getElem? (i := 2) rfl))) (fun _ h9 => h9) rfl dX3_link_86 ?_
        refine lv_iload hx hb dX3_link_89 (lv_at hl 0 rfl) ?_
        refine va_lald hx hb hK hP 6 1 rfl rfl (by unfold vp_in; decide) dX3_link_91 ?_
        refine lv_topl (fun y370 e371 => ?_)
        obtain rfl : y370 = f367 1 := e371
        refine lv_aload_n hx hb dX3_link_92 rfl (lv_at hl 2 rfl) ?_
        refine va_get (D := D) (ci := 1) (v := .ref n4) (C := RX3) (T := TX3) (N := 7) hx hb hts iX3_link_X3 hown hK hP 0 rfl rfl 4 (by decide) (hts (.fieldLink RX3 24 "FloatSolver$Nodes" "rests" "[J") (oX3_link_in _ (List.mem_of_getElem? (i := 0) rfl))) (fun _ h9 => h9) rfl dX3_link_93 ?_
        refine lv_iload_n hx hb dX3_link_96 rfl (lv_at hl 3 rfl) ?_
        refine va_lald hx hb hK hP 5 1 rfl rfl (by unfold vp_in; decide) dX3_link_97 ?_
        refine lv_topl (fun y372 e373 => ?_)
        obtain rfl : y372 = f10 0 := e373
        refine lv_land hx hb dX3_link_98 ?_
        refine lv_topl (fun y374 e375 => ?_)
        refine lv_lconst (v := 0) hx hb dX3_link_99 (by decide) ?_
        refine W.lcmp hx hb dX3_link_100 ?_
        refine lv_if_eq (tgt := 115) hx hb dX3_link_101 (by decide) (fun c376 => ?_) (fun c376 => ?_)
        · skip
          have c376 := (lg_cmp_eq _ _).mp c376
          have c376i : (y374 : Int64).toInt = 0 := congrArg Int64.toInt c376
          refine lv_iinc (v := 2) (lv' := [(4, .int 2), (2, .long y1), (0, .ref oN), (1, .int 0)]) hx hb dX3_link_115 hl (k := 0) rfl (by decide) (by decide) rfl (fun ls hl => ?_)
          refine lv_goto (tgt := 79) hx hb dX3_link_118 (by decide) ?_
          refine lv_iload hx hb dX3_link_79 (lv_at hl 0 rfl) ?_
          refine lv_iconst (v := 4) hx hb dX3_link_81 (by decide) ?_
          refine lv_icmp_ge (tgt := 121) hx hb dX3_link_82 (by decide) (fun c377 => absurd c377 (by decide)) (fun _ => ?_)
          refine lv_aload_n hx hb dX3_link_85 rfl (lv_at hl 2 rfl) ?_
          refine va_get (D := D) (ci := 1) (v := .ref n5) (C := RX3) (T := TX3) (N := 7) hx hb hts iX3_link_X3 hown hK hP 0 rfl rfl 5 (by decide) (hts (.fieldLink RX3 28 "FloatSolver$Nodes" "users" "[J") (oX3_link_in _ (List.mem_of_getElem? (i := 2) rfl))) (fun _ h9 => h9) rfl dX3_link_86 ?_
          refine lv_iload hx hb dX3_link_89 (lv_at hl 0 rfl) ?_
          refine va_lald hx hb hK hP 6 1 rfl rfl (by unfold vp_in; decide) dX3_link_91 ?_
          refine lv_topl (fun y378 e379 => ?_)
          obtain rfl : y378 = f367 2 := e379
          refine lv_aload_n hx hb dX3_link_92 rfl (lv_at hl 2 rfl) ?_
          refine va_get (D := D) (ci := 1) (v := .ref n4) (C := RX3) (T := TX3) (N := 7) hx hb hts iX3_link_X3 hown hK hP 0 rfl rfl 4 (by decide) (hts (.fieldLink RX3 24 "FloatSolver$Nodes" "rests" "[J") (oX3_link_in _ (List.mem_of_getElem? (i := 0) rfl))) (fun _ h9 => h9) rfl dX3_link_93 ?_
          refine lv_iload_n hx hb dX3_link_96 rfl (lv_at hl 3 rfl) ?_
          refine va_lald hx hb hK hP 5 1 rfl rfl (by unfold vp_in; decide) dX3_link_97 ?_
          refine lv_topl (fun y380 e381 => ?_)
          obtain rfl : y380 = f10 0 := e381
          refine lv_land hx hb dX3_link_98 ?_
          refine lv_topl (fun y382 e383 => ?_)
          refine lv_lconst (v := 0) hx hb dX3_link_99 (by decide) ?_
          refine W.lcmp hx hb dX3_link_100 ?_
          refine lv_if_eq (tgt := 115) hx hb dX3_link_101 (by decide) (fun c384 => ?_) (fun c384 => ?_)
          · skip
            have c384 := (lg_cmp_eq _ _).mp c384
            have c384i : (y382 : Int64).toInt = 0 := congrArg Int64.toInt c384
            refine lv_iinc (v := 3) (lv' := [(4, .int 3), (2, .long y1), (0, .ref oN), (1, .int 0)]) hx hb dX3_link_115 hl (k := 0) rfl (by decide) (by decide) rfl (fun ls hl => ?_)
            refine lv_goto (tgt := 79) hx hb dX3_link_118 (by decide) ?_
            refine lv_iload hx hb dX3_link_79 (lv_at hl 0 rfl) ?_
            refine lv_iconst (v := 4) hx hb dX3_link_81 (by decide) ?_
            refine lv_icmp_ge (tgt := 121) hx hb dX3_link_82 (by decide) (fun c385 => absurd c385 (by decide)) (fun _ => ?_)
            refine lv_aload_n hx hb dX3_link_85 rfl (lv_at hl 2 rfl) ?_
            refine va_get (D := D) (ci := 1) (v := .ref n5) (C := RX3) (T := TX3) (N := 7) hx hb hts iX3_link_X3 hown hK hP 0 rfl rfl 5 (by decide) (hts (.fieldLink RX3 28 "FloatSolver$Nodes" "users" "[J") (oX3_link_in _ (List.mem_of_getElem? (i := 2) rfl))) (fun _ h9 => h9) rfl dX3_link_86 ?_
            refine lv_iload hx hb dX3_link_89 (lv_at hl 0 rfl) ?_
            refine va_lald hx hb hK hP 6 1 rfl rfl (by unfold vp_in; decide) dX3_link_91 ?_
            refine lv_topl (fun y386 e387 => ?_)
            obtain rfl : y386 = f367 3 := e387
            refine lv_aload_n hx hb dX3_link_92 rfl (lv_at hl 2 rfl) ?_
            refine va_get (D := D) (ci := 1) (v := .ref n4) (C := RX3) (T := TX3) (N := 7) hx hb hts iX3_link_X3 hown hK hP 0 rfl rfl 4 (by decide) (hts (.fieldLink RX3 24 "FloatSolver$Nodes" "rests" "[J") (oX3_link_in _ (List.mem_of_getElem? (i := 0) rfl))) (fun _ h9 => h9) rfl dX3_link_93 ?_
            refine lv_iload_n hx hb dX3_link_96 rfl (lv_at hl 3 rfl) ?_
            refine va_lald hx hb hK hP 5 1 rfl rfl (by unfold vp_in; decide) dX3_link_97 ?_
            refine lv_topl (fun y388 e389 => ?_)
            obtain rfl : y388 = f10 0 := e389
            refine lv_land hx hb dX3_link_98 ?_
            refine lv_topl (fun y390 e391 => ?_)
            refine lv_lconst (v := 0) hx hb dX3_link_99 (by decide) ?_
            refine W.lcmp hx hb dX3_link_100 ?_
            refine lv_if_eq (tgt := 115) hx hb dX3_link_101 (by decide) (fun c392 => ?_) (fun c392 => ?_)
            · skip
              have c392 := (lg_cmp_eq _ _).mp c392
              have c392i : (y390 : Int64).toInt = 0 := congrArg Int64.toInt c392
              refine lv_iinc (v := 4) (lv' := [(4, .int 4), (2, .long y1), (0, .ref oN), (1, .int 0)]) hx hb dX3_link_115 hl (k := 0) rfl (by decide) (by decide) rfl (fun ls hl => ?_)
              refine lv_goto (tgt := 79) hx hb dX3_link_118 (by decide) ?_
              refine lv_iload hx hb dX3_link_79 (lv_at hl 0 rfl) ?_
              refine lv_iconst (v := 4) hx hb dX3_link_81 (by decide) ?_
              refine lv_icmp_ge (tgt := 121) hx hb dX3_link_82 (by decide) (fun _ => ?_) (fun c393 => absurd (by decide) c393)
              refine W.widen (k := 0) (n := 0) (by decide) (by decide) ?_
              exact sp_vret (u := (f10, f367)) hx hb hr hlocks hS trivial (hP.sub [0, 1, 2, 3, 4, 5, 6] rfl) (hD.sub [0, 1, 2, 3, 4, 5, 6] (by decide) rfl) dX3_link_121
            · skip
              have c392 := fun h => c392 ((lg_cmp_eq _ _).mpr h)
              have c392i : ¬ (y390 : Int64).toInt = 0 := fun h => c392 (Int64.toInt_inj.mp h)
              refine lv_aload_n hx hb dX3_link_104 rfl (lv_at hl 2 rfl) ?_
              refine va_get (D := D) (ci := 1) (v := .ref n5) (C := RX3) (T := TX3) (N := 7) hx hb hts iX3_link_X3 hown hK hP 0 rfl rfl 5 (by decide) (hts (.fieldLink RX3 28 "FloatSolver$Nodes" "users" "[J") (oX3_link_in _ (List.mem_of_getElem? (i := 2) rfl))) (fun _ h9 => h9) rfl dX3_link_105 ?_
              refine lv_iload hx hb dX3_link_108 (lv_at hl 0 rfl) ?_
              refine lv_dup2_11 hx hb dX3_link_110 rfl rfl ?_
              refine va_lald hx hb hK hP 6 1 rfl rfl (by unfold vp_in; decide) dX3_link_111 ?_
              refine lv_topl (fun y394 e395 => ?_)
              obtain rfl : y394 = f367 3 := e395
              refine lv_lload_n hx hb dX3_link_112 rfl (lv_at hl 1 rfl) ?_
              refine lv_lor hx hb dX3_link_113 ?_
              refine lv_topl (fun y396 e397 => ?_)
              refine va_last hx hb hK hP hD hS 6 1 rfl rfl (by unfold vp_in; decide) dX3_link_114 (fun H locs hP hD hS => ?_)
              obtain ⟨f398, ef399⟩ : ∃ z9 : Nat → Int64, z9 = vp_updL f367 (3 : Int32).toNatClampNeg y396 := ⟨_, rfl⟩
              rw [← ef399] at hP hD
              have hP : va_P D vwCl [(oN, .inr (1, [.ref n0, .ref n1, .ref n2, .ref n3, .ref n4, .ref n5, .int 0])), (n0, .inl (cI, 40, .inl k0)), (n1, .inl (cI, 40, .inl k1)), (n2, .inl (cI, 40, .inl k2)), (n3, .inl (cI, 40, .inl k3)), (n4, .inl (cJ, 40, .inr (.inl f10))), (n5, .inl (cJ, 4, .inr (.inl f398)))] H := hP
              have hD : va_D A [(oN, .inr (1, [.ref n0, .ref n1, .ref n2, .ref n3, .ref n4, .ref n5, .int 0])), (n0, .inl (cI, 40, .inl k0)), (n1, .inl (cI, 40, .inl k1)), (n2, .inl (cI, 40, .inl k2)), (n3, .inl (cI, 40, .inl k3)), (n4, .inl (cJ, 40, .inr (.inl f10))), (n5, .inl (cJ, 4, .inr (.inl f398)))] := hD
              refine lv_iinc (v := 4) (lv' := [(4, .int 4), (2, .long y1), (0, .ref oN), (1, .int 0)]) hx hb dX3_link_115 hl (k := 0) rfl (by decide) (by decide) rfl (fun ls hl => ?_)
              refine lv_goto (tgt := 79) hx hb dX3_link_118 (by decide) ?_
              refine lv_iload hx hb dX3_link_79 (lv_at hl 0 rfl) ?_
              refine lv_iconst (v := 4) hx hb dX3_link_81 (by decide) ?_
              refine lv_icmp_ge (tgt := 121) hx hb dX3_link_82 (by decide) (fun _ => ?_) (fun c400 => absurd (by decide) c400)
              refine W.widen (k := 0) (n := 0) (by decide) (by decide) ?_
              exact sp_vret (u := (f10, f398)) hx hb hr hlocks hS trivial (hP.sub [0, 1, 2, 3, 4, 5, 6] rfl) (hD.sub [0, 1, 2, 3, 4, 5, 6] (by decide) rfl) dX3_link_121
          · skip
            have c384 := fun h => c384 ((lg_cmp_eq _ _).mpr h)
            have c384i : ¬ (y382 : Int64).toInt = 0 := fun h => c384 (Int64.toInt_inj.mp h)
            refine lv_aload_n hx hb dX3_link_104 rfl (lv_at hl 2 rfl) ?_
            refine va_get (D := D) (ci := 1) (v := .ref n5) (C := RX3) (T := TX3) (N := 7) hx hb hts iX3_link_X3 hown hK hP 0 rfl rfl 5 (by decide) (hts (.fieldLink RX3 28 "FloatSolver$Nodes" "users" "[J") (oX3_link_in _ (List.mem_of_getElem? (i := 2) rfl))) (fun _ h9 => h9) rfl dX3_link_105 ?_
            refine lv_iload hx hb dX3_link_108 (lv_at hl 0 rfl) ?_
            refine lv_dup2_11 hx hb dX3_link_110 rfl rfl ?_
            refine va_lald hx hb hK hP 6 1 rfl rfl (by unfold vp_in; decide) dX3_link_111 ?_
            refine lv_topl (fun y401 e402 => ?_)
            obtain rfl : y401 = f367 2 := e402
            refine lv_lload_n hx hb dX3_link_112 rfl (lv_at hl 1 rfl) ?_
            refine lv_lor hx hb dX3_link_113 ?_
            refine lv_topl (fun y403 e404 => ?_)
            refine va_last hx hb hK hP hD hS 6 1 rfl rfl (by unfold vp_in; decide) dX3_link_114 (fun H locs hP hD hS => ?_)
            obtain ⟨f405, ef406⟩ : ∃ z9 : Nat → Int64, z9 = vp_updL f367 (2 : Int32).toNatClampNeg y403 := ⟨_, rfl⟩
            rw [← ef406] at hP hD
            have hP : va_P D vwCl [(oN, .inr (1, [.ref n0, .ref n1, .ref n2, .ref n3, .ref n4, .ref n5, .int 0])), (n0, .inl (cI, 40, .inl k0)), (n1, .inl (cI, 40, .inl k1)), (n2, .inl (cI, 40, .inl k2)), (n3, .inl (cI, 40, .inl k3)), (n4, .inl (cJ, 40, .inr (.inl f10))), (n5, .inl (cJ, 4, .inr (.inl f405)))] H := hP
            have hD : va_D A [(oN, .inr (1, [.ref n0, .ref n1, .ref n2, .ref n3, .ref n4, .ref n5, .int 0])), (n0, .inl (cI, 40, .inl k0)), (n1, .inl (cI, 40, .inl k1)), (n2, .inl (cI, 40, .inl k2)), (n3, .inl (cI, 40, .inl k3)), (n4, .inl (cJ, 40, .inr (.inl f10))), (n5, .inl (cJ, 4, .inr (.inl f405)))] := hD
            refine lv_iinc (v := 3) (lv' := [(4, .int 3), (2, .long y1), (0, .ref oN), (1, .int 0)]) hx hb dX3_link_115 hl (k := 0) rfl (by decide) (by decide) rfl (fun ls hl => ?_)
            refine lv_goto (tgt := 79) hx hb dX3_link_118 (by decide) ?_
            refine lv_iload hx hb dX3_link_79 (lv_at hl 0 rfl) ?_
            refine lv_iconst (v := 4) hx hb dX3_link_81 (by decide) ?_
            refine lv_icmp_ge (tgt := 121) hx hb dX3_link_82 (by decide) (fun c407 => absurd c407 (by decide)) (fun _ => ?_)
            refine lv_aload_n hx hb dX3_link_85 rfl (lv_at hl 2 rfl) ?_
            refine va_get (D := D) (ci := 1) (v := .ref n5) (C := RX3) (T := TX3) (N := 7) hx hb hts iX3_link_X3 hown hK hP 0 rfl rfl 5 (by decide) (hts (.fieldLink RX3 28 "FloatSolver$Nodes" "users" "[J") (oX3_link_in _ (List.mem_of_getElem? (i := 2) rfl))) (fun _ h9 => h9) rfl dX3_link_86 ?_
            refine lv_iload hx hb dX3_link_89 (lv_at hl 0 rfl) ?_
            refine va_lald hx hb hK hP 6 1 rfl rfl (by unfold vp_in; decide) dX3_link_91 ?_
            refine lv_topl (fun y408 e409 => ?_)
            obtain rfl : y408 = f405 3 := e409
            refine lv_aload_n hx hb dX3_link_92 rfl (lv_at hl 2 rfl) ?_
            refine va_get (D := D) (ci := 1) (v := .ref n4) (C := RX3) (T := TX3) (N := 7) hx hb hts iX3_link_X3 hown hK hP 0 rfl rfl 4 (by decide) (hts (.fieldLink RX3 24 "FloatSolver$Nodes" "rests" "[J") (oX3_link_in _ (List.mem_of_getElem? (i := 0) rfl))) (fun _ h9 => h9) rfl dX3_link_93 ?_
            refine lv_iload_n hx hb dX3_link_96 rfl (lv_at hl 3 rfl) ?_
            refine va_lald hx hb hK hP 5 1 rfl rfl (by unfold vp_in; decide) dX3_link_97 ?_
            refine lv_topl (fun y410 e411 => ?_)
            obtain rfl : y410 = f10 0 := e411
            refine lv_land hx hb dX3_link_98 ?_
            refine lv_topl (fun y412 e413 => ?_)
            refine lv_lconst (v := 0) hx hb dX3_link_99 (by decide) ?_
            refine W.lcmp hx hb dX3_link_100 ?_
            refine lv_if_eq (tgt := 115) hx hb dX3_link_101 (by decide) (fun c414 => ?_) (fun c414 => ?_)
            · skip
              have c414 := (lg_cmp_eq _ _).mp c414
              have c414i : (y412 : Int64).toInt = 0 := congrArg Int64.toInt c414
              refine lv_iinc (v := 4) (lv' := [(4, .int 4), (2, .long y1), (0, .ref oN), (1, .int 0)]) hx hb dX3_link_115 hl (k := 0) rfl (by decide) (by decide) rfl (fun ls hl => ?_)
              refine lv_goto (tgt := 79) hx hb dX3_link_118 (by decide) ?_
              refine lv_iload hx hb dX3_link_79 (lv_at hl 0 rfl) ?_
              refine lv_iconst (v := 4) hx hb dX3_link_81 (by decide) ?_
              refine lv_icmp_ge (tgt := 121) hx hb dX3_link_82 (by decide) (fun _ => ?_) (fun c415 => absurd (by decide) c415)
              refine W.widen (k := 0) (n := 0) (by decide) (by decide) ?_
              exact sp_vret (u := (f10, f405)) hx hb hr hlocks hS trivial (hP.sub [0, 1, 2, 3, 4, 5, 6] rfl) (hD.sub [0, 1, 2, 3, 4, 5, 6] (by decide) rfl) dX3_link_121
            · skip
              have c414 := fun h => c414 ((lg_cmp_eq _ _).mpr h)
              have c414i : ¬ (y412 : Int64).toInt = 0 := fun h => c414 (Int64.toInt_inj.mp h)
              refine lv_aload_n hx hb dX3_link_104 rfl (lv_at hl 2 rfl) ?_
              refine va_get (D := D) (ci := 1) (v := .ref n5) (C := RX3) (T := TX3) (N := 7) hx hb hts iX3_link_X3 hown hK hP 0 rfl rfl 5 (by decide) (hts (.fieldLink RX3 28 "FloatSolver$Nodes" "users" "[J") (oX3_link_in _ (List.mem_of_getElem? (i := 2) rfl))) (fun _ h9 => h9) rfl dX3_link_105 ?_
              refine lv_iload hx hb dX3_link_108 (lv_at hl 0 rfl) ?_
              refine lv_dup2_11 hx hb dX3_link_110 rfl rfl ?_
              refine va_lald hx hb hK hP 6 1 rfl rfl (by unfold vp_in; decide) dX3_link_111 ?_
              refine lv_topl (fun y416 e417 => ?_)
              obtain rfl : y416 = f405 3 := e417
              refine lv_lload_n hx hb dX3_link_112 rfl (lv_at hl 1 rfl) ?_
              refine lv_lor hx hb dX3_link_113 ?_
              refine lv_topl (fun y418 e419 => ?_)
              refine va_last hx hb hK hP hD hS 6 1 rfl rfl (by unfold vp_in; decide) dX3_link_114 (fun H locs hP hD hS => ?_)
              obtain ⟨f420, ef421⟩ : ∃ z9 : Nat → Int64, z9 = vp_updL f405 (3 : Int32).toNatClampNeg y418 := ⟨_, rfl⟩
              rw [← ef421] at hP hD
              have hP : va_P D vwCl [(oN, .inr (1, [.ref n0, .ref n1, .ref n2, .ref n3, .ref n4, .ref n5, .int 0])), (n0, .inl (cI, 40, .inl k0)), (n1, .inl (cI, 40, .inl k1)), (n2, .inl (cI, 40, .inl k2)), (n3, .inl (cI, 40, .inl k3)), (n4, .inl (cJ, 40, .inr (.inl f10))), (n5, .inl (cJ, 4, .inr (.inl f420)))] H := hP
              have hD : va_D A [(oN, .inr (1, [.ref n0, .ref n1, .ref n2, .ref n3, .ref n4, .ref n5, .int 0])), (n0, .inl (cI, 40, .inl k0)), (n1, .inl (cI, 40, .inl k1)), (n2, .inl (cI, 40, .inl k2)), (n3, .inl (cI, 40, .inl k3)), (n4, .inl (cJ, 40, .inr (.inl f10))), (n5, .inl (cJ, 4, .inr (.inl f420)))] := hD
              refine lv_iinc (v := 4) (lv' := [(4, .int 4), (2, .long y1), (0, .ref oN), (1, .int 0)]) hx hb dX3_link_115 hl (k := 0) rfl (by decide) (by decide) rfl (fun ls hl => ?_)
              refine lv_goto (tgt := 79) hx hb dX3_link_118 (by decide) ?_
              refine lv_iload hx hb dX3_link_79 (lv_at hl 0 rfl) ?_
              refine lv_iconst (v := 4) hx hb dX3_link_81 (by decide) ?_
              refine lv_icmp_ge (tgt := 121) hx hb dX3_link_82 (by decide) (fun _ => ?_) (fun c422 => absurd (by decide) c422)
              refine W.widen (k := 0) (n := 0) (by decide) (by decide) ?_
              exact sp_vret (u := (f10, f420)) hx hb hr hlocks hS trivial (hP.sub [0, 1, 2, 3, 4, 5, 6] rfl) (hD.sub [0, 1, 2, 3, 4, 5, 6] (by decide) rfl) dX3_link_121
        · skip
          have c376 := fun h => c376 ((lg_cmp_eq _ _).mpr h)
          have c376i : ¬ (y374 : Int64).toInt = 0 := fun h => c376 (Int64.toInt_inj.mp h)
          refine lv_aload_n hx hb dX3_link_104 rfl (lv_at hl 2 rfl) ?_
          refine va_get (D := D) (ci := 1) (v := .ref n5) (C := RX3) (T := TX3) (N := 7) hx hb hts iX3_link_X3 hown hK hP 0 rfl rfl 5 (by decide) (hts (.fieldLink RX3 28 "FloatSolver$Nodes" "users" "[J") (oX3_link_in _ (List.mem_of_getElem? (i := 2) rfl))) (fun _ h9 => h9) rfl dX3_link_105 ?_
          refine lv_iload hx hb dX3_link_108 (lv_at hl 0 rfl) ?_
          refine lv_dup2_11 hx hb dX3_link_110 rfl rfl ?_
          refine va_lald hx hb hK hP 6 1 rfl rfl (by unfold vp_in; decide) dX3_link_111 ?_
          refine lv_topl (fun y423 e424 => ?_)
          obtain rfl : y423 = f367 1 := e424
          refine lv_lload_n hx hb dX3_link_112 rfl (lv_at hl 1 rfl) ?_
          refine lv_lor hx hb dX3_link_113 ?_
          refine lv_topl (fun y425 e426 => ?_)
          refine va_last hx hb hK hP hD hS 6 1 rfl rfl (by unfold vp_in; decide) dX3_link_114 (fun H locs hP hD hS => ?_)
          obtain ⟨f427, ef428⟩ : ∃ z9 : Nat → Int64, z9 = vp_updL f367 (1 : Int32).toNatClampNeg y425 := ⟨_, rfl⟩
          rw [← ef428] at hP hD
          have hP : va_P D vwCl [(oN, .inr (1, [.ref n0, .ref n1, .ref n2, .ref n3, .ref n4, .ref n5, .int 0])), (n0, .inl (cI, 40, .inl k0)), (n1, .inl (cI, 40, .inl k1)), (n2, .inl (cI, 40, .inl k2)), (n3, .inl (cI, 40, .inl k3)), (n4, .inl (cJ, 40, .inr (.inl f10))), (n5, .inl (cJ, 4, .inr (.inl f427)))] H := hP
          have hD : va_D A [(oN, .inr (1, [.ref n0, .ref n1, .ref n2, .ref n3, .ref n4, .ref n5, .int 0])), (n0, .inl (cI, 40, .inl k0)), (n1, .inl (cI, 40, .inl k1)), (n2, .inl (cI, 40, .inl k2)), (n3, .inl (cI, 40, .inl k3)), (n4, .inl (cJ, 40, .inr (.inl f10))), (n5, .inl (cJ, 4, .inr (.inl f427)))] := hD
          refine lv_iinc (v := 2) (lv' := [(4, .int 2), (2, .long y1), (0, .ref oN), (1, .int 0)]) hx hb dX3_link_115 hl (k := 0) rfl (by decide) (by decide) rfl (fun ls hl => ?_)
          refine lv_goto (tgt := 79) hx hb dX3_link_118 (by decide) ?_
          refine lv_iload hx hb dX3_link_79 (lv_at hl 0 rfl) ?_
          refine lv_iconst (v := 4) hx hb dX3_link_81 (by decide) ?_
          refine lv_icmp_ge (tgt := 121) hx hb dX3_link_82 (by decide) (fun c429 => absurd c429 (by decide)) (fun _ => ?_)
          refine lv_aload_n hx hb dX3_link_85 rfl (lv_at hl 2 rfl) ?_
          refine va_get (D := D) (ci := 1) (v := .ref n5) (C := RX3) (T := TX3) (N := 7) hx hb hts iX3_link_X3 hown hK hP 0 rfl rfl 5 (by decide) (hts (.fieldLink RX3 28 "FloatSolver$Nodes" "users" "[J") (oX3_link_in _ (List.mem_of_getElem? (i := 2) rfl))) (fun _ h9 => h9) rfl dX3_link_86 ?_
          refine lv_iload hx hb dX3_link_89 (lv_at hl 0 rfl) ?_
          refine va_lald hx hb hK hP 6 1 rfl rfl (by unfold vp_in; decide) dX3_link_91 ?_
          refine lv_topl (fun y430 e431 => ?_)
          obtain rfl : y430 = f427 2 := e431
          refine lv_aload_n hx hb dX3_link_92 rfl (lv_at hl 2 rfl) ?_
          refine va_get (D := D) (ci := 1) (v := .ref n4) (C := RX3) (T := TX3) (N := 7) hx hb hts iX3_link_X3 hown hK hP 0 rfl rfl 4 (by decide) (hts (.fieldLink RX3 24 "FloatSolver$Nodes" "rests" "[J") (oX3_link_in _ (List.mem_of_getElem? (i := 0) rfl))) (fun _ h9 => h9) rfl dX3_link_93 ?_
          refine lv_iload_n hx hb dX3_link_96 rfl (lv_at hl 3 rfl) ?_
          refine va_lald hx hb hK hP 5 1 rfl rfl (by unfold vp_in; decide) dX3_link_97 ?_
          refine lv_topl (fun y432 e433 => ?_)
          obtain rfl : y432 = f10 0 := e433
          refine lv_land hx hb dX3_link_98 ?_
          refine lv_topl (fun y434 e435 => ?_)
          refine lv_lconst (v := 0) hx hb dX3_link_99 (by decide) ?_
          refine W.lcmp hx hb dX3_link_100 ?_
          refine lv_if_eq (tgt := 115) hx hb dX3_link_101 (by decide) (fun c436 => ?_) (fun c436 => ?_)
          · skip
            have c436 := (lg_cmp_eq _ _).mp c436
            have c436i : (y434 : Int64).toInt = 0 := congrArg Int64.toInt c436
            refine lv_iinc (v := 3) (lv' := [(4, .int 3), (2, .long y1), (0, .ref oN), (1, .int 0)]) hx hb dX3_link_115 hl (k := 0) rfl (by decide) (by decide) rfl (fun ls hl => ?_)
            refine lv_goto (tgt := 79) hx hb dX3_link_118 (by decide) ?_
            refine lv_iload hx hb dX3_link_79 (lv_at hl 0 rfl) ?_
            refine lv_iconst (v := 4) hx hb dX3_link_81 (by decide) ?_
            refine lv_icmp_ge (tgt := 121) hx hb dX3_link_82 (by decide) (fun c437 => absurd c437 (by decide)) (fun _ => ?_)
            refine lv_aload_n hx hb dX3_link_85 rfl (lv_at hl 2 rfl) ?_
            refine va_get (D := D) (ci := 1) (v := .ref n5) (C := RX3) (T := TX3) (N := 7) hx hb hts iX3_link_X3 hown hK hP 0 rfl rfl 5 (by decide) (hts (.fieldLink RX3 28 "FloatSolver$Nodes" "users" "[J") (oX3_link_in _ (List.mem_of_getElem? (i := 2) rfl))) (fun _ h9 => h9) rfl dX3_link_86 ?_
            refine lv_iload hx hb dX3_link_89 (lv_at hl 0 rfl) ?_
            refine va_lald hx hb hK hP 6 1 rfl rfl (by unfold vp_in; decide) dX3_link_91 ?_
            refine lv_topl (fun y438 e439 => ?_)
            obtain rfl : y438 = f427 3 := e439
            refine lv_aload_n hx hb dX3_link_92 rfl (lv_at hl 2 rfl) ?_
            refine va_get (D := D) (ci := 1) (v := .ref n4) (C := RX3) (T := TX3) (N := 7) hx hb hts iX3_link_X3 hown hK hP 0 rfl rfl 4 (by decide) (hts (.fieldLink RX3 24 "FloatSolver$Nodes" "rests" "[J") (oX3_link_in _ (List.mem_of_getElem? (i := 0) rfl))) (fun _ h9 => h9) rfl dX3_link_93 ?_
            refine lv_iload_n hx hb dX3_link_96 rfl (lv_at hl 3 rfl) ?_
            refine va_lald hx hb hK hP 5 1 rfl rfl (by unfold vp_in; decide) dX3_link_97 ?_
            refine lv_topl (fun y440 e441 => ?_)
            obtain rfl : y440 = f10 0 := e441
            refine lv_land hx hb dX3_link_98 ?_
            refine lv_topl (fun y442 e443 => ?_)
            refine lv_lconst (v := 0) hx hb dX3_link_99 (by decide) ?_
            refine W.lcmp hx hb dX3_link_100 ?_
            refine lv_if_eq (tgt := 115) hx hb dX3_link_101 (by decide) (fun c444 => ?_) (fun c444 => ?_)
            · skip
              have c444 := (lg_cmp_eq _ _).mp c444
              have c444i : (y442 : Int64).toInt = 0 := congrArg Int64.toInt c444
              refine lv_iinc (v := 4) (lv' := [(4, .int 4), (2, .long y1), (0, .ref oN), (1, .int 0)]) hx hb dX3_link_115 hl (k := 0) rfl (by decide) (by decide) rfl (fun ls hl => ?_)
              refine lv_goto (tgt := 79) hx hb dX3_link_118 (by decide) ?_
              refine lv_iload hx hb dX3_link_79 (lv_at hl 0 rfl) ?_
              refine lv_iconst (v := 4) hx hb dX3_link_81 (by decide) ?_
              refine lv_icmp_ge (tgt := 121) hx hb dX3_link_82 (by decide) (fun _ => ?_) (fun c445 => absurd (by decide) c445)
              refine W.widen (k := 0) (n := 0) (by decide) (by decide) ?_
              exact sp_vret (u := (f10, f427)) hx hb hr hlocks hS trivial (hP.sub [0, 1, 2, 3, 4, 5, 6] rfl) (hD.sub [0, 1, 2, 3, 4, 5, 6] (by decide) rfl) dX3_link_121
            · skip
              have c444 := fun h => c444 ((lg_cmp_eq _ _).mpr h)
              have c444i : ¬ (y442 : Int64).toInt = 0 := fun h => c444 (Int64.toInt_inj.mp h)
              refine lv_aload_n hx hb dX3_link_104 rfl (lv_at hl 2 rfl) ?_
              refine va_get (D := D) (ci := 1) (v := .ref n5) (C := RX3) (T := TX3) (N := 7) hx hb hts iX3_link_X3 hown hK hP 0 rfl rfl 5 (by decide) (hts (.fieldLink RX3 28 "FloatSolver$Nodes" "users" "[J") (oX3_link_in _ (List.mem_of_getElem? (i := 2) rfl))) (fun _ h9 => h9) rfl dX3_link_105 ?_
              refine lv_iload hx hb dX3_link_108 (lv_at hl 0 rfl) ?_
              refine lv_dup2_11 hx hb dX3_link_110 rfl rfl ?_
              refine va_lald hx hb hK hP 6 1 rfl rfl (by unfold vp_in; decide) dX3_link_111 ?_
              refine lv_topl (fun y446 e447 => ?_)
              obtain rfl : y446 = f427 3 := e447
              refine lv_lload_n hx hb dX3_link_112 rfl (lv_at hl 1 rfl) ?_
              refine lv_lor hx hb dX3_link_113 ?_
              refine lv_topl (fun y448 e449 => ?_)
              refine va_last hx hb hK hP hD hS 6 1 rfl rfl (by unfold vp_in; decide) dX3_link_114 (fun H locs hP hD hS => ?_)
              obtain ⟨f450, ef451⟩ : ∃ z9 : Nat → Int64, z9 = vp_updL f427 (3 : Int32).toNatClampNeg y448 := ⟨_, rfl⟩
              rw [← ef451] at hP hD
              have hP : va_P D vwCl [(oN, .inr (1, [.ref n0, .ref n1, .ref n2, .ref n3, .ref n4, .ref n5, .int 0])), (n0, .inl (cI, 40, .inl k0)), (n1, .inl (cI, 40, .inl k1)), (n2, .inl (cI, 40, .inl k2)), (n3, .inl (cI, 40, .inl k3)), (n4, .inl (cJ, 40, .inr (.inl f10))), (n5, .inl (cJ, 4, .inr (.inl f450)))] H := hP
              have hD : va_D A [(oN, .inr (1, [.ref n0, .ref n1, .ref n2, .ref n3, .ref n4, .ref n5, .int 0])), (n0, .inl (cI, 40, .inl k0)), (n1, .inl (cI, 40, .inl k1)), (n2, .inl (cI, 40, .inl k2)), (n3, .inl (cI, 40, .inl k3)), (n4, .inl (cJ, 40, .inr (.inl f10))), (n5, .inl (cJ, 4, .inr (.inl f450)))] := hD
              refine lv_iinc (v := 4) (lv' := [(4, .int 4), (2, .long y1), (0, .ref oN), (1, .int 0)]) hx hb dX3_link_115 hl (k := 0) rfl (by decide) (by decide) rfl (fun ls hl => ?_)
              refine lv_goto (tgt := 79) hx hb dX3_link_118 (by decide) ?_
              refine lv_iload hx hb dX3_link_79 (lv_at hl 0 rfl) ?_
              refine lv_iconst (v := 4) hx hb dX3_link_81 (by decide) ?_
              refine lv_icmp_ge (tgt := 121) hx hb dX3_link_82 (by decide) (fun _ => ?_) (fun c452 => absurd (by decide) c452)
              refine W.widen (k := 0) (n := 0) (by decide) (by decide) ?_
              exact sp_vret (u := (f10, f450)) hx hb hr hlocks hS trivial (hP.sub [0, 1, 2, 3, 4, 5, 6] rfl) (hD.sub [0, 1, 2, 3, 4, 5, 6] (by decide) rfl) dX3_link_121
          · skip
            have c436 := fun h => c436 ((lg_cmp_eq _ _).mpr h)
            have c436i : ¬ (y434 : Int64).toInt = 0 := fun h => c436 (Int64.toInt_inj.mp h)
            refine lv_aload_n hx hb dX3_link_104 rfl (lv_at hl 2 rfl) ?_
            refine va_get (D := D) (ci := 1) (v := .ref n5) (C := RX3) (T := TX3) (N := 7) hx hb hts iX3_link_X3 hown hK hP 0 rfl rfl 5 (by decide) (hts (.fieldLink RX3 28 "FloatSolver$Nodes" "users" "[J") (oX3_link_in _ (List.mem_of_getElem? (i := 2) rfl))) (fun _ h9 => h9) rfl dX3_link_105 ?_
            refine lv_iload hx hb dX3_link_108 (lv_at hl 0 rfl) ?_
            refine lv_dup2_11 hx hb dX3_link_110 rfl rfl ?_
            refine va_lald hx hb hK hP 6 1 rfl rfl (by unfold vp_in; decide) dX3_link_111 ?_
            refine lv_topl (fun y453 e454 => ?_)
            obtain rfl : y453 = f427 2 := e454
            refine lv_lload_n hx hb dX3_link_112 rfl (lv_at hl 1 rfl) ?_
            refine lv_lor hx hb dX3_link_113 ?_
            refine lv_topl (fun y455 e456 => ?_)
            refine va_last hx hb hK hP hD hS 6 1 rfl rfl (by unfold vp_in; decide) dX3_link_114 (fun H locs hP hD hS => ?_)
            obtain ⟨f457, ef458⟩ : ∃ z9 : Nat → Int64, z9 = vp_updL f427 (2 : Int32).toNatClampNeg y455 := ⟨_, rfl⟩
            rw [← ef458] at hP hD
            have hP : va_P D vwCl [(oN, .inr (1, [.ref n0, .ref n1, .ref n2, .ref n3, .ref n4, .ref n5, .int 0])), (n0, .inl (cI, 40, .inl k0)), (n1, .inl (cI, 40, .inl k1)), (n2, .inl (cI, 40, .inl k2)), (n3, .inl (cI, 40, .inl k3)), (n4, .inl (cJ, 40, .inr (.inl f10))), (n5, .inl (cJ, 4, .inr (.inl f457)))] H := hP
            have hD : va_D A [(oN, .inr (1, [.ref n0, .ref n1, .ref n2, .ref n3, .ref n4, .ref n5, .int 0])), (n0, .inl (cI, 40, .inl k0)), (n1, .inl (cI, 40, .inl k1)), (n2, .inl (cI, 40, .inl k2)), (n3, .inl (cI, 40, .inl k3)), (n4, .inl (cJ, 40, .inr (.inl f10))), (n5, .inl (cJ, 4, .inr (.inl f457)))] := hD
            refine lv_iinc (v := 3) (lv' := [(4, .int 3), (2, .long y1), (0, .ref oN), (1, .int 0)]) hx hb dX3_link_115 hl (k := 0) rfl (by decide) (by decide) rfl (fun ls hl => ?_)
            refine lv_goto (tgt := 79) hx hb dX3_link_118 (by decide) ?_
            refine lv_iload hx hb dX3_link_79 (lv_at hl 0 rfl) ?_
            refine lv_iconst (v := 4) hx hb dX3_link_81 (by decide) ?_
            refine lv_icmp_ge (tgt := 121) hx hb dX3_link_82 (by decide) (fun c459 => absurd c459 (by decide)) (fun _ => ?_)
            refine lv_aload_n hx hb dX3_link_85 rfl (lv_at hl 2 rfl) ?_
            refine va_get (D := D) (ci := 1) (v := .ref n5) (C := RX3) (T := TX3) (N := 7) hx hb hts iX3_link_X3 hown hK hP 0 rfl rfl 5 (by decide) (hts (.fieldLink RX3 28 "FloatSolver$Nodes" "users" "[J") (oX3_link_in _ (List.mem_of_getElem? (i := 2) rfl))) (fun _ h9 => h9) rfl dX3_link_86 ?_
            refine lv_iload hx hb dX3_link_89 (lv_at hl 0 rfl) ?_
            refine va_lald hx hb hK hP 6 1 rfl rfl (by unfold vp_in; decide) dX3_link_91 ?_
            refine lv_topl (fun y460 e461 => ?_)
            obtain rfl : y460 = f457 3 := e461
            refine lv_aload_n hx hb dX3_link_92 rfl (lv_at hl 2 rfl) ?_
            refine va_get (D := D) (ci := 1) (v := .ref n4) (C := RX3) (T := TX3) (N := 7) hx hb hts iX3_link_X3 hown hK hP 0 rfl rfl 4 (by decide) (hts (.fieldLink RX3 24 "FloatSolver$Nodes" "rests" "[J") (oX3_link_in _ (List.mem_of_getElem? (i := 0) rfl))) (fun _ h9 => h9) rfl dX3_link_93 ?_
            refine lv_iload_n hx hb dX3_link_96 rfl (lv_at hl 3 rfl) ?_
            refine va_lald hx hb hK hP 5 1 rfl rfl (by unfold vp_in; decide) dX3_link_97 ?_
            refine lv_topl (fun y462 e463 => ?_)
            obtain rfl : y462 = f10 0 := e463
            refine lv_land hx hb dX3_link_98 ?_
            refine lv_topl (fun y464 e465 => ?_)
            refine lv_lconst (v := 0) hx hb dX3_link_99 (by decide) ?_
            refine W.lcmp hx hb dX3_link_100 ?_
            refine lv_if_eq (tgt := 115) hx hb dX3_link_101 (by decide) (fun c466 => ?_) (fun c466 => ?_)
            · skip
              have c466 := (lg_cmp_eq _ _).mp c466
              have c466i : (y464 : Int64).toInt = 0 := congrArg Int64.toInt c466
              refine lv_iinc (v := 4) (lv' := [(4, .int 4), (2, .long y1), (0, .ref oN), (1, .int 0)]) hx hb dX3_link_115 hl (k := 0) rfl (by decide) (by decide) rfl (fun ls hl => ?_)
              refine lv_goto (tgt := 79) hx hb dX3_link_118 (by decide) ?_
              refine lv_iload hx hb dX3_link_79 (lv_at hl 0 rfl) ?_
              refine lv_iconst (v := 4) hx hb dX3_link_81 (by decide) ?_
              refine lv_icmp_ge (tgt := 121) hx hb dX3_link_82 (by decide) (fun _ => ?_) (fun c467 => absurd (by decide) c467)
              refine W.widen (k := 0) (n := 0) (by decide) (by decide) ?_
              exact sp_vret (u := (f10, f457)) hx hb hr hlocks hS trivial (hP.sub [0, 1, 2, 3, 4, 5, 6] rfl) (hD.sub [0, 1, 2, 3, 4, 5, 6] (by decide) rfl) dX3_link_121
            · skip
              have c466 := fun h => c466 ((lg_cmp_eq _ _).mpr h)
              have c466i : ¬ (y464 : Int64).toInt = 0 := fun h => c466 (Int64.toInt_inj.mp h)
              refine lv_aload_n hx hb dX3_link_104 rfl (lv_at hl 2 rfl) ?_
              refine va_get (D := D) (ci := 1) (v := .ref n5) (C := RX3) (T := TX3) (N := 7) hx hb hts iX3_link_X3 hown hK hP 0 rfl rfl 5 (by decide) (hts (.fieldLink RX3 28 "FloatSolver$Nodes" "users" "[J") (oX3_link_in _ (List.mem_of_getElem? (i := 2) rfl))) (fun _ h9 => h9) rfl dX3_link_105 ?_
              refine lv_iload hx hb dX3_link_108 (lv_at hl 0 rfl) ?_
              refine lv_dup2_11 hx hb dX3_link_110 rfl rfl ?_
              refine va_lald hx hb hK hP 6 1 rfl rfl (by unfold vp_in; decide) dX3_link_111 ?_
              refine lv_topl (fun y468 e469 => ?_)
              obtain rfl : y468 = f457 3 := e469
              refine lv_lload_n hx hb dX3_link_112 rfl (lv_at hl 1 rfl) ?_
              refine lv_lor hx hb dX3_link_113 ?_
              refine lv_topl (fun y470 e471 => ?_)
              refine va_last hx hb hK hP hD hS 6 1 rfl rfl (by unfold vp_in; decide) dX3_link_114 (fun H locs hP hD hS => ?_)
              obtain ⟨f472, ef473⟩ : ∃ z9 : Nat → Int64, z9 = vp_updL f457 (3 : Int32).toNatClampNeg y470 := ⟨_, rfl⟩
              rw [← ef473] at hP hD
              have hP : va_P D vwCl [(oN, .inr (1, [.ref n0, .ref n1, .ref n2, .ref n3, .ref n4, .ref n5, .int 0])), (n0, .inl (cI, 40, .inl k0)), (n1, .inl (cI, 40, .inl k1)), (n2, .inl (cI, 40, .inl k2)), (n3, .inl (cI, 40, .inl k3)), (n4, .inl (cJ, 40, .inr (.inl f10))), (n5, .inl (cJ, 4, .inr (.inl f472)))] H := hP
              have hD : va_D A [(oN, .inr (1, [.ref n0, .ref n1, .ref n2, .ref n3, .ref n4, .ref n5, .int 0])), (n0, .inl (cI, 40, .inl k0)), (n1, .inl (cI, 40, .inl k1)), (n2, .inl (cI, 40, .inl k2)), (n3, .inl (cI, 40, .inl k3)), (n4, .inl (cJ, 40, .inr (.inl f10))), (n5, .inl (cJ, 4, .inr (.inl f472)))] := hD
              refine lv_iinc (v := 4) (lv' := [(4, .int 4), (2, .long y1), (0, .ref oN), (1, .int 0)]) hx hb dX3_link_115 hl (k := 0) rfl (by decide) (by decide) rfl (fun ls hl => ?_)
              refine lv_goto (tgt := 79) hx hb dX3_link_118 (by decide) ?_
              refine lv_iload hx hb dX3_link_79 (lv_at hl 0 rfl) ?_
              refine lv_iconst (v := 4) hx hb dX3_link_81 (by decide) ?_
              refine lv_icmp_ge (tgt := 121) hx hb dX3_link_82 (by decide) (fun _ => ?_) (fun c474 => absurd (by decide) c474)
              refine W.widen (k := 0) (n := 0) (by decide) (by decide) ?_
              exact sp_vret (u := (f10, f472)) hx hb hr hlocks hS trivial (hP.sub [0, 1, 2, 3, 4, 5, 6] rfl) (hD.sub [0, 1, 2, 3, 4, 5, 6] (by decide) rfl) dX3_link_121
def oX3_add : List Cond := [.fieldLink RX3 9 "FloatSolver$Nodes" "kind" "[I", .fieldLink RX3 31 "FloatSolver$Nodes" "count" "I", .fieldLink RX3 15 "FloatSolver$Nodes" "x" "[I", .fieldLink RX3 18 "FloatSolver$Nodes" "y" "[I", .constant RX3 41 (2143289344)]
def wpX3_add : List Cond := .code yX3_add cX3_add 4 (some .int) :: (oX3_add ++ (wsX30 ++ ((va_wsS RX3 42 yX3_looksAtY wpX3_looksAtY) ++ ((wsV RX3 45 RX3 yX3_link wpX3_link) ++ ((va_wsS RX3 35 yX2_isNone wpX2_isNone) ++ ([] : List Cond))))))
theorem oX3_add_in : ∀ w ∈ oX3_add, w ∈ wpX3_add := fun w h => List.mem_cons_of_mem _ (List.mem_append_left _ h)
theorem gwoX3_add : ∀ w ∈ oX3_add, goodWord w = true := by decide +kernel
theorem gwX3_add : ∀ w ∈ wpX3_add, goodWord w = true := by
  unfold wpX3_add
  exact List.forall_mem_cons.mpr ⟨rfl, List.forall_mem_append.mpr ⟨gwoX3_add, List.forall_mem_append.mpr ⟨gwX3, List.forall_mem_append.mpr ⟨(sp_gS gwX3_looksAtY), List.forall_mem_append.mpr ⟨(sp_gV gwX3_link), List.forall_mem_append.mpr ⟨(sp_gS gwX2_isNone), fun _ h => absurd h List.not_mem_nil⟩⟩⟩⟩⟩⟩
set_option maxRecDepth 100000 in
theorem toX3_add : ∀ w ∈ oX3_add, w ∈ lw_tbl := by
  unfold oX3_add
  exact List.forall_mem_cons.mpr ⟨(List.mem_of_getElem? (i := 69) (by decide +kernel)), List.forall_mem_cons.mpr ⟨(List.mem_of_getElem? (i := 83) (by decide +kernel)), List.forall_mem_cons.mpr ⟨(List.mem_of_getElem? (i := 71) (by decide +kernel)), List.forall_mem_cons.mpr ⟨(List.mem_of_getElem? (i := 73) (by decide +kernel)), List.forall_mem_cons.mpr ⟨(List.mem_of_getElem? (i := 284) (by decide +kernel)), fun _ h => absurd h List.not_mem_nil⟩⟩⟩⟩⟩
set_option maxRecDepth 100000 in
theorem tX3_add : ∀ w ∈ wpX3_add, w ∈ lw_tbl := by
  unfold wpX3_add
  exact List.forall_mem_cons.mpr ⟨(List.mem_of_getElem? (i := 278) (by rfl)), List.forall_mem_append.mpr ⟨toX3_add, List.forall_mem_append.mpr ⟨in_wsX30, List.forall_mem_append.mpr ⟨(sp_tS (List.mem_of_getElem? (i := 285) (by decide +kernel)) (List.mem_of_getElem? (i := 273) (by decide +kernel)) (List.mem_of_getElem? (i := 39) (by decide +kernel)) tX3_looksAtY), List.forall_mem_append.mpr ⟨(sp_tV (List.mem_of_getElem? (i := 286) (by decide +kernel)) (List.mem_of_getElem? (i := 288) (by decide +kernel)) (List.mem_of_getElem? (i := 0) (by decide +kernel)) (List.mem_of_getElem? (i := 39) (by decide +kernel)) tX3_link), List.forall_mem_append.mpr ⟨(sp_tS (List.mem_of_getElem? (i := 279) (by decide +kernel)) (List.mem_of_getElem? (i := 280) (by decide +kernel)) (List.mem_of_getElem? (i := 46) (by decide +kernel)) tX2_isNone), fun _ h => absurd h List.not_mem_nil⟩⟩⟩⟩⟩⟩
theorem iX3_add_X3 : ∀ w ∈ wsX30, w ∈ wpX3_add := fun w h => List.mem_cons_of_mem _ (List.mem_append_right _ (List.mem_append_left _ h))
theorem gX3_add_X3_looksAtY_42 : GoodIn wpX3_add (va_wsS RX3 42 yX3_looksAtY wpX3_looksAtY) := fun w h => ⟨List.mem_cons_of_mem _ (List.mem_append_right _ (List.mem_append_right _ (List.mem_append_left _ h))), good_of_word (sp_gS gwX3_looksAtY w h)⟩
theorem gX3_add_X3_link_45 : GoodIn wpX3_add (wsV RX3 45 RX3 yX3_link wpX3_link) := fun w h => ⟨List.mem_cons_of_mem _ (List.mem_append_right _ (List.mem_append_right _ (List.mem_append_right _ (List.mem_append_left _ h)))), good_of_word (sp_gV gwX3_link w h)⟩
theorem gX3_add_X2_isNone_35 : GoodIn wpX3_add (va_wsS RX3 35 yX2_isNone wpX2_isNone) := fun w h => ⟨List.mem_cons_of_mem _ (List.mem_append_right _ (List.mem_append_right _ (List.mem_append_right _ (List.mem_append_right _ (List.mem_append_left _ h))))), good_of_word (sp_gS gwX2_isNone w h)⟩
set_option maxHeartbeats 4000000 in
set_option maxRecDepth 100000 in
theorem c_X3_add (l : Launch) (D : va_G) (cI cJ cZ : ClassId) (sz : Nat) (oN : Nat) (n0 n1 n2 n3 n4 n5 : Nat) (k0 k1 k2 k3 : Nat → Int32) (k4 k5 : Nat → Int64) (k x y : Int32) (hk0 : 0 ≤ k.toInt) (hk : k.toInt < 2) (hx1 : k.toInt = 1 → 0 ≤ x.toInt ∧ x.toInt < 4) : Met l yX3_add wpX3_add ({ frames := 2, cells := 0, slots := 0, locals := 44 }) (va_Pc [.ref oN, .int k, .int x, .int y] (sp_pre D vwCl (sp_ty cI cJ cZ) [(oN, .inr (1, [.ref n0, .ref n1, .ref n2, .ref n3, .ref n4, .ref n5, .int 0])), (n0, .inl (cI, 40, .inl k0)), (n1, .inl (cI, 40, .inl k1)), (n2, .inl (cI, 40, .inl k2)), (n3, .inl (cI, 40, .inl k3)), (n4, .inl (cJ, 40, .inr (.inl k4))), (n5, .inl (cJ, 4, .inr (.inl k5)))] sz)) (va_Qi (fun (r : Int32) (_ : Unit) => r = 0) (sp_B D vwCl (va_A [(oN, .inr (1, [.ref n0, .ref n1, .ref n2, .ref n3, .ref n4, .ref n5, .int 0])), (n0, .inl (cI, 40, .inl k0)), (n1, .inl (cI, 40, .inl k1)), (n2, .inl (cI, 40, .inl k2)), (n3, .inl (cI, 40, .inl k3)), (n4, .inl (cJ, 40, .inr (.inl k4))), (n5, .inl (cJ, 4, .inr (.inl k5)))] sz) (fun (_ : Unit) => [])) (va_A [(oN, .inr (1, [.ref n0, .ref n1, .ref n2, .ref n3, .ref n4, .ref n5, .int 0])), (n0, .inl (cI, 40, .inl k0)), (n1, .inl (cI, 40, .inl k1)), (n2, .inl (cI, 40, .inl k2)), (n3, .inl (cI, 40, .inl k3)), (n4, .inl (cJ, 40, .inr (.inl k4))), (n5, .inl (cJ, 4, .inr (.inl k5)))] sz)) 0 0 (va_A [(oN, .inr (1, [.ref n0, .ref n1, .ref n2, .ref n3, .ref n4, .ref n5, .int 0])), (n0, .inl (cI, 40, .inl k0)), (n1, .inl (cI, 40, .inl k1)), (n2, .inl (cI, 40, .inl k2)), (n3, .inl (cI, 40, .inl k3)), (n4, .inl (cJ, 40, .inr (.inl k4))), (n5, .inl (cJ, 4, .inr (.inl k5)))] sz) := by
  refine sp_ofW (Qc := fun A => va_Qi (fun (r : Int32) (_ : Unit) => r = 0) (sp_B D vwCl A (fun (_ : Unit) => [])) A) (by decide) rfl (Nat.le_of_ble_eq_true rfl) (fun p e s m below meth c A ls H locs C0 hA hS hP hK hD hl => ?_)
  obtain ⟨hx, hb, hr, hts, hown, hlocks, hml, hin⟩ := C0
  have hown : s.vm.findClass RX3 = some m.cls := hown
  have hl : lv_has ls 4 [(0, .ref oN), (1, .int k), (2, .int x), (3, .int y)] := hl
  have hK : va_K D vwCl [(cI, .int), (cJ, .long), (cZ, .boolean)] s := hK
  refine lv_aload_n hx hb dX3_add_0 rfl (lv_at hl 0 rfl) ?_
  refine va_get (D := D) (ci := 1) (v := .ref n0) (C := RX3) (T := TX3) (N := 7) hx hb hts iX3_add_X3 hown hK hP 0 rfl rfl 0 (by decide) (hts (.fieldLink RX3 9 "FloatSolver$Nodes" "kind" "[I") (oX3_add_in _ (List.mem_of_getElem? (i := 0) rfl))) (fun _ h9 => h9) rfl dX3_add_1 ?_
  refine lv_aload_n hx hb dX3_add_4 rfl (lv_at hl 0 rfl) ?_
  refine va_get (D := D) (ci := 1) (v := .int 0) (C := RX3) (T := TX3) (N := 7) hx hb hts iX3_add_X3 hown hK hP 0 rfl rfl 6 (by decide) (hts (.fieldLink RX3 31 "FloatSolver$Nodes" "count" "I") (oX3_add_in _ (List.mem_of_getElem? (i := 1) rfl))) (fun _ h9 => h9) rfl dX3_add_5 ?_
  refine lv_iload_n hx hb dX3_add_8 rfl (lv_at hl 1 rfl) ?_
  refine va_iast hx hb hK hP hD hS 1 0 rfl rfl (by unfold vp_in; decide) dX3_add_9 (fun H locs hP hD hS => ?_)
  obtain ⟨f1, ef2⟩ : ∃ z9 : Nat → Int32, z9 = upd k0 (0 : Int32).toNatClampNeg k := ⟨_, rfl⟩
  rw [← ef2] at hP hD
  have hP : va_P D vwCl [(oN, .inr (1, [.ref n0, .ref n1, .ref n2, .ref n3, .ref n4, .ref n5, .int 0])), (n0, .inl (cI, 40, .inl f1)), (n1, .inl (cI, 40, .inl k1)), (n2, .inl (cI, 40, .inl k2)), (n3, .inl (cI, 40, .inl k3)), (n4, .inl (cJ, 40, .inr (.inl k4))), (n5, .inl (cJ, 4, .inr (.inl k5)))] H := hP
  have hD : va_D A [(oN, .inr (1, [.ref n0, .ref n1, .ref n2, .ref n3, .ref n4, .ref n5, .int 0])), (n0, .inl (cI, 40, .inl f1)), (n1, .inl (cI, 40, .inl k1)), (n2, .inl (cI, 40, .inl k2)), (n3, .inl (cI, 40, .inl k3)), (n4, .inl (cJ, 40, .inr (.inl k4))), (n5, .inl (cJ, 4, .inr (.inl k5)))] := hD
  refine lv_aload_n hx hb dX3_add_10 rfl (lv_at hl 0 rfl) ?_
  refine va_get (D := D) (ci := 1) (v := .ref n1) (C := RX3) (T := TX3) (N := 7) hx hb hts iX3_add_X3 hown hK hP 0 rfl rfl 1 (by decide) (hts (.fieldLink RX3 15 "FloatSolver$Nodes" "x" "[I") (oX3_add_in _ (List.mem_of_getElem? (i := 2) rfl))) (fun _ h9 => h9) rfl dX3_add_11 ?_
  refine lv_aload_n hx hb dX3_add_14 rfl (lv_at hl 0 rfl) ?_
  refine va_get (D := D) (ci := 1) (v := .int 0) (C := RX3) (T := TX3) (N := 7) hx hb hts iX3_add_X3 hown hK hP 0 rfl rfl 6 (by decide) (hts (.fieldLink RX3 31 "FloatSolver$Nodes" "count" "I") (oX3_add_in _ (List.mem_of_getElem? (i := 1) rfl))) (fun _ h9 => h9) rfl dX3_add_15 ?_
  refine lv_iload_n hx hb dX3_add_18 rfl (lv_at hl 1 rfl) ?_
  refine lv_if_ne (tgt := 34) hx hb dX3_add_19 (by decide) (fun c3 => ?_) (fun c3 => ?_)
  · skip
    have c3i : ¬ (k : Int32).toInt = 0 := fun h => c3 (Int32.toInt_inj.mp h)
    refine lv_iload_n hx hb dX3_add_34 rfl (lv_at hl 2 rfl) ?_
    refine va_iast hx hb hK hP hD hS 2 0 rfl rfl (by unfold vp_in; decide) dX3_add_35 (fun H locs hP hD hS => ?_)
    obtain ⟨f4, ef5⟩ : ∃ z9 : Nat → Int32, z9 = upd k1 (0 : Int32).toNatClampNeg x := ⟨_, rfl⟩
    rw [← ef5] at hP hD
    have hP : va_P D vwCl [(oN, .inr (1, [.ref n0, .ref n1, .ref n2, .ref n3, .ref n4, .ref n5, .int 0])), (n0, .inl (cI, 40, .inl f1)), (n1, .inl (cI, 40, .inl f4)), (n2, .inl (cI, 40, .inl k2)), (n3, .inl (cI, 40, .inl k3)), (n4, .inl (cJ, 40, .inr (.inl k4))), (n5, .inl (cJ, 4, .inr (.inl k5)))] H := hP
    have hD : va_D A [(oN, .inr (1, [.ref n0, .ref n1, .ref n2, .ref n3, .ref n4, .ref n5, .int 0])), (n0, .inl (cI, 40, .inl f1)), (n1, .inl (cI, 40, .inl f4)), (n2, .inl (cI, 40, .inl k2)), (n3, .inl (cI, 40, .inl k3)), (n4, .inl (cJ, 40, .inr (.inl k4))), (n5, .inl (cJ, 4, .inr (.inl k5)))] := hD
    refine lv_aload_n hx hb dX3_add_36 rfl (lv_at hl 0 rfl) ?_
    refine va_get (D := D) (ci := 1) (v := .ref n2) (C := RX3) (T := TX3) (N := 7) hx hb hts iX3_add_X3 hown hK hP 0 rfl rfl 2 (by decide) (hts (.fieldLink RX3 18 "FloatSolver$Nodes" "y" "[I") (oX3_add_in _ (List.mem_of_getElem? (i := 3) rfl))) (fun _ h9 => h9) rfl dX3_add_37 ?_
    refine lv_aload_n hx hb dX3_add_40 rfl (lv_at hl 0 rfl) ?_
    refine va_get (D := D) (ci := 1) (v := .int 0) (C := RX3) (T := TX3) (N := 7) hx hb hts iX3_add_X3 hown hK hP 0 rfl rfl 6 (by decide) (hts (.fieldLink RX3 31 "FloatSolver$Nodes" "count" "I") (oX3_add_in _ (List.mem_of_getElem? (i := 1) rfl))) (fun _ h9 => h9) rfl dX3_add_41 ?_
    refine lv_iload_n hx hb dX3_add_44 rfl (lv_at hl 1 rfl) ?_
    refine sp_calli (wr := [(oN, .inr (1, [.ref n0, .ref n1, .ref n2, .ref n3, .ref n4, .ref n5, .int 0])), (n0, .inl (cI, 40, .inl f1)), (n1, .inl (cI, 40, .inl f4)), (n2, .inl (cI, 40, .inl k2)), (n3, .inl (cI, 40, .inl k3)), (n4, .inl (cJ, 40, .inr (.inl k4))), (n5, .inl (cJ, 4, .inr (.inl k5)))]) (wc := []) hP hD hS hA [] [0, 1, 2, 3, 4, 5, 6] rfl rfl (by decide) (by decide) (va_runS (As := [.int k]) (rest := [.int 0, .ref n2]) ⟨hx, hb, hml, hown, hts⟩ (c_X3_looksAtY l D cI cJ cZ H.size (k) (by omega)) (va_cwS 1 hts gX3_add_X3_looksAtY_42 rfl rfl rfl (by decide +kernel) ⟨Nat.le_of_ble_eq_true rfl, Nat.le_of_ble_eq_true rfl⟩) (sp_preS [.int k] hK (hP.sub (ws' := []) [] rfl) (hD.sub (ws' := []) [] (by decide) rfl)) rfl rfl hl.1 rfl (lv_room (Nat.le_of_ble_eq_true rfl)) dX3_add_45 ⟨Nat.le_of_ble_eq_true rfl, Nat.le_of_ble_eq_true rfl⟩) (fun r6 u7 H locs hw8 hP hD hS => ?_)
    obtain rfl := hw8
    have hP : va_P D vwCl [(oN, .inr (1, [.ref n0, .ref n1, .ref n2, .ref n3, .ref n4, .ref n5, .int 0])), (n0, .inl (cI, 40, .inl f1)), (n1, .inl (cI, 40, .inl f4)), (n2, .inl (cI, 40, .inl k2)), (n3, .inl (cI, 40, .inl k3)), (n4, .inl (cJ, 40, .inr (.inl k4))), (n5, .inl (cJ, 4, .inr (.inl k5)))] H := hP
    have hD : va_D A [(oN, .inr (1, [.ref n0, .ref n1, .ref n2, .ref n3, .ref n4, .ref n5, .int 0])), (n0, .inl (cI, 40, .inl f1)), (n1, .inl (cI, 40, .inl f4)), (n2, .inl (cI, 40, .inl k2)), (n3, .inl (cI, 40, .inl k3)), (n4, .inl (cJ, 40, .inr (.inl k4))), (n5, .inl (cJ, 4, .inr (.inl k5)))] := hD
    refine lv_if_eq (tgt := 55) hx hb dX3_add_48 (by decide) (fun _ => ?_) (fun c9 => absurd (by decide) c9)
    refine lv_iload_n hx hb dX3_add_55 rfl (lv_at hl 2 rfl) ?_
    refine va_iast hx hb hK hP hD hS 3 0 rfl rfl (by unfold vp_in; decide) dX3_add_56 (fun H locs hP hD hS => ?_)
    obtain ⟨f10, ef11⟩ : ∃ z9 : Nat → Int32, z9 = upd k2 (0 : Int32).toNatClampNeg x := ⟨_, rfl⟩
    rw [← ef11] at hP hD
    have hP : va_P D vwCl [(oN, .inr (1, [.ref n0, .ref n1, .ref n2, .ref n3, .ref n4, .ref n5, .int 0])), (n0, .inl (cI, 40, .inl f1)), (n1, .inl (cI, 40, .inl f4)), (n2, .inl (cI, 40, .inl f10)), (n3, .inl (cI, 40, .inl k3)), (n4, .inl (cJ, 40, .inr (.inl k4))), (n5, .inl (cJ, 4, .inr (.inl k5)))] H := hP
    have hD : va_D A [(oN, .inr (1, [.ref n0, .ref n1, .ref n2, .ref n3, .ref n4, .ref n5, .int 0])), (n0, .inl (cI, 40, .inl f1)), (n1, .inl (cI, 40, .inl f4)), (n2, .inl (cI, 40, .inl f10)), (n3, .inl (cI, 40, .inl k3)), (n4, .inl (cJ, 40, .inr (.inl k4))), (n5, .inl (cJ, 4, .inr (.inl k5)))] := hD
    refine lv_aload_n hx hb dX3_add_57 rfl (lv_at hl 0 rfl) ?_
    refine lv_aload_n hx hb dX3_add_58 rfl (lv_at hl 0 rfl) ?_
    refine va_get (D := D) (ci := 1) (v := .int 0) (C := RX3) (T := TX3) (N := 7) hx hb hts iX3_add_X3 hown hK hP 0 rfl rfl 6 (by decide) (hts (.fieldLink RX3 31 "FloatSolver$Nodes" "count" "I") (oX3_add_in _ (List.mem_of_getElem? (i := 1) rfl))) (fun _ h9 => h9) rfl dX3_add_59 ?_
    have h12 : f1 0 = k := by rw [ef2]; rfl
    have h13 : f4 0 = x := by rw [ef5]; rfl
    refine sp_callv (wr := []) (wc := [(oN, .inr (1, [.ref n0, .ref n1, .ref n2, .ref n3, .ref n4, .ref n5, .int 0])), (n0, .inl (cI, 40, .inl f1)), (n1, .inl (cI, 40, .inl f4)), (n2, .inl (cI, 40, .inl f10)), (n3, .inl (cI, 40, .inl k3)), (n4, .inl (cJ, 40, .inr (.inl k4))), (n5, .inl (cJ, 4, .inr (.inl k5)))]) hP hD hS hA [0, 1, 2, 3, 4, 5, 6] [] rfl rfl (by decide) (by decide) (va_runV (As := [.int 0]) (rest := []) ⟨hx, hb, hml, hown, hts⟩ (c_X3_link l D cI cJ cZ H.size oN n0 n1 n2 n3 n4 n5 f1 f4 f10 k3 k4 k5 (by rw [h12]; omega) (by rw [h12, h13]; omega)) (cwV 1 hts gX3_add_X3_link_45 rfl rfl rfl (by decide +kernel) ⟨Nat.le_of_ble_eq_true rfl, Nat.le_of_ble_eq_true rfl⟩) (sp_preV (ci := 1) (q0 := 0) [.int 0] hK (hP.sub (ws' := [(oN, .inr (1, [.ref n0, .ref n1, .ref n2, .ref n3, .ref n4, .ref n5, .int 0])), (n0, .inl (cI, 40, .inl f1)), (n1, .inl (cI, 40, .inl f4)), (n2, .inl (cI, 40, .inl f10)), (n3, .inl (cI, 40, .inl k3)), (n4, .inl (cJ, 40, .inr (.inl k4))), (n5, .inl (cJ, 4, .inr (.inl k5)))]) [0, 1, 2, 3, 4, 5, 6] rfl) (hD.sub (ws' := [(oN, .inr (1, [.ref n0, .ref n1, .ref n2, .ref n3, .ref n4, .ref n5, .int 0])), (n0, .inl (cI, 40, .inl f1)), (n1, .inl (cI, 40, .inl f4)), (n2, .inl (cI, 40, .inl f10)), (n3, .inl (cI, 40, .inl k3)), (n4, .inl (cJ, 40, .inr (.inl k4))), (n5, .inl (cJ, 4, .inr (.inl k5)))]) [0, 1, 2, 3, 4, 5, 6] (by decide) rfl) rfl rfl) rfl rfl hl.1 rfl (lv_room (Nat.le_of_ble_eq_true rfl)) dX3_add_62 ⟨Nat.le_of_ble_eq_true rfl, Nat.le_of_ble_eq_true rfl⟩) (fun u15 H locs hw16 hP hD hS => ?_)
    obtain ⟨f17, f18⟩ := u15
    have hP : va_P D vwCl [(oN, .inr (1, [.ref n0, .ref n1, .ref n2, .ref n3, .ref n4, .ref n5, .int 0])), (n0, .inl (cI, 40, .inl f1)), (n1, .inl (cI, 40, .inl f4)), (n2, .inl (cI, 40, .inl f10)), (n3, .inl (cI, 40, .inl k3)), (n4, .inl (cJ, 40, .inr (.inl f17))), (n5, .inl (cJ, 4, .inr (.inl f18)))] H := hP
    have hD : va_D A [(oN, .inr (1, [.ref n0, .ref n1, .ref n2, .ref n3, .ref n4, .ref n5, .int 0])), (n0, .inl (cI, 40, .inl f1)), (n1, .inl (cI, 40, .inl f4)), (n2, .inl (cI, 40, .inl f10)), (n3, .inl (cI, 40, .inl k3)), (n4, .inl (cJ, 40, .inr (.inl f17))), (n5, .inl (cJ, 4, .inr (.inl f18)))] := hD
    refine lv_aload_n hx hb dX3_add_65 rfl (lv_at hl 0 rfl) ?_
    refine lv_dup hx hb dX3_add_66 rfl ?_
    refine va_get (D := D) (ci := 1) (v := .int 0) (C := RX3) (T := TX3) (N := 7) hx hb hts iX3_add_X3 hown hK hP 0 rfl rfl 6 (by decide) (hts (.fieldLink RX3 31 "FloatSolver$Nodes" "count" "I") (oX3_add_in _ (List.mem_of_getElem? (i := 1) rfl))) (fun _ h9 => h9) rfl dX3_add_67 ?_
    refine lv_iconst (v := 1) hx hb dX3_add_70 (by decide) ?_
    refine lv_iadd hx hb dX3_add_71 ?_
    refine lv_topi (fun y19 e20 => ?_)
    obtain rfl : y19 = 1 := e20.trans (by decide)
    refine va_put (D := D) (ci := 1) (v := .int 1) (ty := .int) (C := RX3) (T := TX3) (N := 7) hx hb hts iX3_add_X3 tyX3 tyX3_ok nmX3 hown hK hP hD hS 0 rfl rfl 6 (by decide) (hts (.fieldLink RX3 31 "FloatSolver$Nodes" "count" "I") (oX3_add_in _ (List.mem_of_getElem? (i := 1) rfl))) (fun _ h9 => h9) rfl (by decide +kernel) rfl rfl (Nat.le_of_ble_eq_true rfl) dX3_add_72 (fun H locs hP hD hS => ?_)
    have hP : va_P D vwCl [(oN, .inr (1, [.ref n0, .ref n1, .ref n2, .ref n3, .ref n4, .ref n5, .int 1])), (n0, .inl (cI, 40, .inl f1)), (n1, .inl (cI, 40, .inl f4)), (n2, .inl (cI, 40, .inl f10)), (n3, .inl (cI, 40, .inl k3)), (n4, .inl (cJ, 40, .inr (.inl f17))), (n5, .inl (cJ, 4, .inr (.inl f18)))] H := hP
    have hD : va_D A [(oN, .inr (1, [.ref n0, .ref n1, .ref n2, .ref n3, .ref n4, .ref n5, .int 1])), (n0, .inl (cI, 40, .inl f1)), (n1, .inl (cI, 40, .inl f4)), (n2, .inl (cI, 40, .inl f10)), (n3, .inl (cI, 40, .inl k3)), (n4, .inl (cJ, 40, .inr (.inl f17))), (n5, .inl (cJ, 4, .inr (.inl f18)))] := hD
    refine lv_aload_n hx hb dX3_add_75 rfl (lv_at hl 0 rfl) ?_
    refine va_get (D := D) (ci := 1) (v := .int 1) (C := RX3) (T := TX3) (N := 7) hx hb hts iX3_add_X3 hown hK hP 0 rfl rfl 6 (by decide) (hts (.fieldLink RX3 31 "FloatSolver$Nodes" "count" "I") (oX3_add_in _ (List.mem_of_getElem? (i := 1) rfl))) (fun _ h9 => h9) rfl dX3_add_76 ?_
    refine lv_iconst (v := 1) hx hb dX3_add_79 (by decide) ?_
    refine lv_isub hx hb dX3_add_80 ?_
    refine lv_topi (fun y21 e22 => ?_)
    obtain rfl : y21 = 0 := e22.trans (by decide)
    refine W.widen (k := 0) (n := 0) (by decide) (by decide) ?_
    exact sp_iret (u := ()) hx hb hr hlocks hS rfl (hP.sub [] rfl) (hD.sub [] (by decide) rfl) dX3_add_81
  · skip
    have c3i : (k : Int32).toInt = 0 := congrArg Int32.toInt c3
    refine lv_iload_n hx hb dX3_add_22 rfl (lv_at hl 2 rfl) ?_
    refine sp_calli (wr := [(oN, .inr (1, [.ref n0, .ref n1, .ref n2, .ref n3, .ref n4, .ref n5, .int 0])), (n0, .inl (cI, 40, .inl f1)), (n1, .inl (cI, 40, .inl k1)), (n2, .inl (cI, 40, .inl k2)), (n3, .inl (cI, 40, .inl k3)), (n4, .inl (cJ, 40, .inr (.inl k4))), (n5, .inl (cJ, 4, .inr (.inl k5)))]) (wc := []) hP hD hS hA [] [0, 1, 2, 3, 4, 5, 6] rfl rfl (by decide) (by decide) (va_runS (As := [.int x]) (rest := [.int 0, .ref n1]) ⟨hx, hb, hml, hown, hts⟩ (c_X2_isNone l D cI cJ cZ H.size (x)) (va_cwS 1 hts gX3_add_X2_isNone_35 rfl rfl rfl (by decide +kernel) ⟨Nat.le_of_ble_eq_true rfl, Nat.le_of_ble_eq_true rfl⟩) (sp_preS [.int x] hK (hP.sub (ws' := []) [] rfl) (hD.sub (ws' := []) [] (by decide) rfl)) rfl rfl hl.1 rfl (lv_room (Nat.le_of_ble_eq_true rfl)) dX3_add_23 ⟨Nat.le_of_ble_eq_true rfl, Nat.le_of_ble_eq_true rfl⟩) (fun r23 u24 H locs hw25 hP hD hS => ?_)
    rcases hw25 with ⟨rfl, h26⟩ | ⟨rfl, h26⟩
    · skip
      have h26 : 2139095040 < (x &&& 2147483647 : Int32).toInt := h26
      have hP : va_P D vwCl [(oN, .inr (1, [.ref n0, .ref n1, .ref n2, .ref n3, .ref n4, .ref n5, .int 0])), (n0, .inl (cI, 40, .inl f1)), (n1, .inl (cI, 40, .inl k1)), (n2, .inl (cI, 40, .inl k2)), (n3, .inl (cI, 40, .inl k3)), (n4, .inl (cJ, 40, .inr (.inl k4))), (n5, .inl (cJ, 4, .inr (.inl k5)))] H := hP
      have hD : va_D A [(oN, .inr (1, [.ref n0, .ref n1, .ref n2, .ref n3, .ref n4, .ref n5, .int 0])), (n0, .inl (cI, 40, .inl f1)), (n1, .inl (cI, 40, .inl k1)), (n2, .inl (cI, 40, .inl k2)), (n3, .inl (cI, 40, .inl k3)), (n4, .inl (cJ, 40, .inr (.inl k4))), (n5, .inl (cJ, 4, .inr (.inl k5)))] := hD
      refine lv_if_eq (tgt := 34) hx hb dX3_add_26 (by decide) (fun c27 => absurd c27 (by decide)) (fun _ => ?_)
      refine lv_ldc (v := 2143289344) hx hb hown (hts (.constant RX3 41 (2143289344)) (oX3_add_in _ (List.mem_of_getElem? (i := 4) rfl))) dX3_add_29 ?_
      refine lv_goto (tgt := 35) hx hb dX3_add_31 (by decide) ?_
      refine va_iast hx hb hK hP hD hS 2 0 rfl rfl (by unfold vp_in; decide) dX3_add_35 (fun H locs hP hD hS => ?_)
      obtain ⟨f28, ef29⟩ : ∃ z9 : Nat → Int32, z9 = upd k1 (0 : Int32).toNatClampNeg 2143289344 := ⟨_, rfl⟩
      rw [← ef29] at hP hD
      have hP : va_P D vwCl [(oN, .inr (1, [.ref n0, .ref n1, .ref n2, .ref n3, .ref n4, .ref n5, .int 0])), (n0, .inl (cI, 40, .inl f1)), (n1, .inl (cI, 40, .inl f28)), (n2, .inl (cI, 40, .inl k2)), (n3, .inl (cI, 40, .inl k3)), (n4, .inl (cJ, 40, .inr (.inl k4))), (n5, .inl (cJ, 4, .inr (.inl k5)))] H := hP
      have hD : va_D A [(oN, .inr (1, [.ref n0, .ref n1, .ref n2, .ref n3, .ref n4, .ref n5, .int 0])), (n0, .inl (cI, 40, .inl f1)), (n1, .inl (cI, 40, .inl f28)), (n2, .inl (cI, 40, .inl k2)), (n3, .inl (cI, 40, .inl k3)), (n4, .inl (cJ, 40, .inr (.inl k4))), (n5, .inl (cJ, 4, .inr (.inl k5)))] := hD
      refine lv_aload_n hx hb dX3_add_36 rfl (lv_at hl 0 rfl) ?_
      refine va_get (D := D) (ci := 1) (v := .ref n2) (C := RX3) (T := TX3) (N := 7) hx hb hts iX3_add_X3 hown hK hP 0 rfl rfl 2 (by decide) (hts (.fieldLink RX3 18 "FloatSolver$Nodes" "y" "[I") (oX3_add_in _ (List.mem_of_getElem? (i := 3) rfl))) (fun _ h9 => h9) rfl dX3_add_37 ?_
      refine lv_aload_n hx hb dX3_add_40 rfl (lv_at hl 0 rfl) ?_
      refine va_get (D := D) (ci := 1) (v := .int 0) (C := RX3) (T := TX3) (N := 7) hx hb hts iX3_add_X3 hown hK hP 0 rfl rfl 6 (by decide) (hts (.fieldLink RX3 31 "FloatSolver$Nodes" "count" "I") (oX3_add_in _ (List.mem_of_getElem? (i := 1) rfl))) (fun _ h9 => h9) rfl dX3_add_41 ?_
      refine lv_iload_n hx hb dX3_add_44 rfl (lv_at hl 1 rfl) ?_
      refine sp_calli (wr := [(oN, .inr (1, [.ref n0, .ref n1, .ref n2, .ref n3, .ref n4, .ref n5, .int 0])), (n0, .inl (cI, 40, .inl f1)), (n1, .inl (cI, 40, .inl f28)), (n2, .inl (cI, 40, .inl k2)), (n3, .inl (cI, 40, .inl k3)), (n4, .inl (cJ, 40, .inr (.inl k4))), (n5, .inl (cJ, 4, .inr (.inl k5)))]) (wc := []) hP hD hS hA [] [0, 1, 2, 3, 4, 5, 6] rfl rfl (by decide) (by decide) (va_runS (As := [.int k]) (rest := [.int 0, .ref n2]) ⟨hx, hb, hml, hown, hts⟩ (c_X3_looksAtY l D cI cJ cZ H.size (k) (by omega)) (va_cwS 1 hts gX3_add_X3_looksAtY_42 rfl rfl rfl (by decide +kernel) ⟨Nat.le_of_ble_eq_true rfl, Nat.le_of_ble_eq_true rfl⟩) (sp_preS [.int k] hK (hP.sub (ws' := []) [] rfl) (hD.sub (ws' := []) [] (by decide) rfl)) rfl rfl hl.1 rfl (lv_room (Nat.le_of_ble_eq_true rfl)) dX3_add_45 ⟨Nat.le_of_ble_eq_true rfl, Nat.le_of_ble_eq_true rfl⟩) (fun r30 u31 H locs hw32 hP hD hS => ?_)
      obtain rfl := hw32
      have hP : va_P D vwCl [(oN, .inr (1, [.ref n0, .ref n1, .ref n2, .ref n3, .ref n4, .ref n5, .int 0])), (n0, .inl (cI, 40, .inl f1)), (n1, .inl (cI, 40, .inl f28)), (n2, .inl (cI, 40, .inl k2)), (n3, .inl (cI, 40, .inl k3)), (n4, .inl (cJ, 40, .inr (.inl k4))), (n5, .inl (cJ, 4, .inr (.inl k5)))] H := hP
      have hD : va_D A [(oN, .inr (1, [.ref n0, .ref n1, .ref n2, .ref n3, .ref n4, .ref n5, .int 0])), (n0, .inl (cI, 40, .inl f1)), (n1, .inl (cI, 40, .inl f28)), (n2, .inl (cI, 40, .inl k2)), (n3, .inl (cI, 40, .inl k3)), (n4, .inl (cJ, 40, .inr (.inl k4))), (n5, .inl (cJ, 4, .inr (.inl k5)))] := hD
      refine lv_if_eq (tgt := 55) hx hb dX3_add_48 (by decide) (fun _ => ?_) (fun c33 => absurd (by decide) c33)
      refine lv_iload_n hx hb dX3_add_55 rfl (lv_at hl 2 rfl) ?_
      refine va_iast hx hb hK hP hD hS 3 0 rfl rfl (by unfold vp_in; decide) dX3_add_56 (fun H locs hP hD hS => ?_)
      obtain ⟨f34, ef35⟩ : ∃ z9 : Nat → Int32, z9 = upd k2 (0 : Int32).toNatClampNeg x := ⟨_, rfl⟩
      rw [← ef35] at hP hD
      have hP : va_P D vwCl [(oN, .inr (1, [.ref n0, .ref n1, .ref n2, .ref n3, .ref n4, .ref n5, .int 0])), (n0, .inl (cI, 40, .inl f1)), (n1, .inl (cI, 40, .inl f28)), (n2, .inl (cI, 40, .inl f34)), (n3, .inl (cI, 40, .inl k3)), (n4, .inl (cJ, 40, .inr (.inl k4))), (n5, .inl (cJ, 4, .inr (.inl k5)))] H := hP
      have hD : va_D A [(oN, .inr (1, [.ref n0, .ref n1, .ref n2, .ref n3, .ref n4, .ref n5, .int 0])), (n0, .inl (cI, 40, .inl f1)), (n1, .inl (cI, 40, .inl f28)), (n2, .inl (cI, 40, .inl f34)), (n3, .inl (cI, 40, .inl k3)), (n4, .inl (cJ, 40, .inr (.inl k4))), (n5, .inl (cJ, 4, .inr (.inl k5)))] := hD
      refine lv_aload_n hx hb dX3_add_57 rfl (lv_at hl 0 rfl) ?_
      refine lv_aload_n hx hb dX3_add_58 rfl (lv_at hl 0 rfl) ?_
      refine va_get (D := D) (ci := 1) (v := .int 0) (C := RX3) (T := TX3) (N := 7) hx hb hts iX3_add_X3 hown hK hP 0 rfl rfl 6 (by decide) (hts (.fieldLink RX3 31 "FloatSolver$Nodes" "count" "I") (oX3_add_in _ (List.mem_of_getElem? (i := 1) rfl))) (fun _ h9 => h9) rfl dX3_add_59 ?_
      have h36 : f1 0 = k := by rw [ef2]; rfl
      have h37 : f28 0 = 2143289344 := by rw [ef29]; rfl
      refine sp_callv (wr := []) (wc := [(oN, .inr (1, [.ref n0, .ref n1, .ref n2, .ref n3, .ref n4, .ref n5, .int 0])), (n0, .inl (cI, 40, .inl f1)), (n1, .inl (cI, 40, .inl f28)), (n2, .inl (cI, 40, .inl f34)), (n3, .inl (cI, 40, .inl k3)), (n4, .inl (cJ, 40, .inr (.inl k4))), (n5, .inl (cJ, 4, .inr (.inl k5)))]) hP hD hS hA [0, 1, 2, 3, 4, 5, 6] [] rfl rfl (by decide) (by decide) (va_runV (As := [.int 0]) (rest := []) ⟨hx, hb, hml, hown, hts⟩ (c_X3_link l D cI cJ cZ H.size oN n0 n1 n2 n3 n4 n5 f1 f28 f34 k3 k4 k5 (by rw [h36]; omega) (by rw [h36, h37]; omega)) (cwV 1 hts gX3_add_X3_link_45 rfl rfl rfl (by decide +kernel) ⟨Nat.le_of_ble_eq_true rfl, Nat.le_of_ble_eq_true rfl⟩) (sp_preV (ci := 1) (q0 := 0) [.int 0] hK (hP.sub (ws' := [(oN, .inr (1, [.ref n0, .ref n1, .ref n2, .ref n3, .ref n4, .ref n5, .int 0])), (n0, .inl (cI, 40, .inl f1)), (n1, .inl (cI, 40, .inl f28)), (n2, .inl (cI, 40, .inl f34)), (n3, .inl (cI, 40, .inl k3)), (n4, .inl (cJ, 40, .inr (.inl k4))), (n5, .inl (cJ, 4, .inr (.inl k5)))]) [0, 1, 2, 3, 4, 5, 6] rfl) (hD.sub (ws' := [(oN, .inr (1, [.ref n0, .ref n1, .ref n2, .ref n3, .ref n4, .ref n5, .int 0])), (n0, .inl (cI, 40, .inl f1)), (n1, .inl (cI, 40, .inl f28)), (n2, .inl (cI, 40, .inl f34)), (n3, .inl (cI, 40, .inl k3)), (n4, .inl (cJ, 40, .inr (.inl k4))), (n5, .inl (cJ, 4, .inr (.inl k5)))]) [0, 1, 2, 3, 4, 5, 6] (by decide) rfl) rfl rfl) rfl rfl hl.1 rfl (lv_room (Nat.le_of_ble_eq_true rfl)) dX3_add_62 ⟨Nat.le_of_ble_eq_true rfl, Nat.le_of_ble_eq_true rfl⟩) (fun u39 H locs hw40 hP hD hS => ?_)
      obtain ⟨f41, f42⟩ := u39
      have hP : va_P D vwCl [(oN, .inr (1, [.ref n0, .ref n1, .ref n2, .ref n3, .ref n4, .ref n5, .int 0])), (n0, .inl (cI, 40, .inl f1)), (n1, .inl (cI, 40, .inl f28)), (n2, .inl (cI, 40, .inl f34)), (n3, .inl (cI, 40, .inl k3)), (n4, .inl (cJ, 40, .inr (.inl f41))), (n5, .inl (cJ, 4, .inr (.inl f42)))] H := hP
      have hD : va_D A [(oN, .inr (1, [.ref n0, .ref n1, .ref n2, .ref n3, .ref n4, .ref n5, .int 0])), (n0, .inl (cI, 40, .inl f1)), (n1, .inl (cI, 40, .inl f28)), (n2, .inl (cI, 40, .inl f34)), (n3, .inl (cI, 40, .inl k3)), (n4, .inl (cJ, 40, .inr (.inl f41))), (n5, .inl (cJ, 4, .inr (.inl f42)))] := hD
      refine lv_aload_n hx hb dX3_add_65 rfl (lv_at hl 0 rfl) ?_
      refine lv_dup hx hb dX3_add_66 rfl ?_
      refine va_get (D := D) (ci := 1) (v := .int 0) (C := RX3) (T := TX3) (N := 7) hx hb hts iX3_add_X3 hown hK hP 0 rfl rfl 6 (by decide) (hts (.fieldLink RX3 31 "FloatSolver$Nodes" "count" "I") (oX3_add_in _ (List.mem_of_getElem? (i := 1) rfl))) (fun _ h9 => h9) rfl dX3_add_67 ?_
      refine lv_iconst (v := 1) hx hb dX3_add_70 (by decide) ?_
      refine lv_iadd hx hb dX3_add_71 ?_
      refine lv_topi (fun y43 e44 => ?_)
      obtain rfl : y43 = 1 := e44.trans (by decide)
      refine va_put (D := D) (ci := 1) (v := .int 1) (ty := .int) (C := RX3) (T := TX3) (N := 7) hx hb hts iX3_add_X3 tyX3 tyX3_ok nmX3 hown hK hP hD hS 0 rfl rfl 6 (by decide) (hts (.fieldLink RX3 31 "FloatSolver$Nodes" "count" "I") (oX3_add_in _ (List.mem_of_getElem? (i := 1) rfl))) (fun _ h9 => h9) rfl (by decide +kernel) rfl rfl (Nat.le_of_ble_eq_true rfl) dX3_add_72 (fun H locs hP hD hS => ?_)
      have hP : va_P D vwCl [(oN, .inr (1, [.ref n0, .ref n1, .ref n2, .ref n3, .ref n4, .ref n5, .int 1])), (n0, .inl (cI, 40, .inl f1)), (n1, .inl (cI, 40, .inl f28)), (n2, .inl (cI, 40, .inl f34)), (n3, .inl (cI, 40, .inl k3)), (n4, .inl (cJ, 40, .inr (.inl f41))), (n5, .inl (cJ, 4, .inr (.inl f42)))] H := hP
      have hD : va_D A [(oN, .inr (1, [.ref n0, .ref n1, .ref n2, .ref n3, .ref n4, .ref n5, .int 1])), (n0, .inl (cI, 40, .inl f1)), (n1, .inl (cI, 40, .inl f28)), (n2, .inl (cI, 40, .inl f34)), (n3, .inl (cI, 40, .inl k3)), (n4, .inl (cJ, 40, .inr (.inl f41))), (n5, .inl (cJ, 4, .inr (.inl f42)))] := hD
      refine lv_aload_n hx hb dX3_add_75 rfl (lv_at hl 0 rfl) ?_
      refine va_get (D := D) (ci := 1) (v := .int 1) (C := RX3) (T := TX3) (N := 7) hx hb hts iX3_add_X3 hown hK hP 0 rfl rfl 6 (by decide) (hts (.fieldLink RX3 31 "FloatSolver$Nodes" "count" "I") (oX3_add_in _ (List.mem_of_getElem? (i := 1) rfl))) (fun _ h9 => h9) rfl dX3_add_76 ?_
      refine lv_iconst (v := 1) hx hb dX3_add_79 (by decide) ?_
      refine lv_isub hx hb dX3_add_80 ?_
      refine lv_topi (fun y45 e46 => ?_)
      obtain rfl : y45 = 0 := e46.trans (by decide)
      refine W.widen (k := 0) (n := 0) (by decide) (by decide) ?_
      exact sp_iret (u := ()) hx hb hr hlocks hS rfl (hP.sub [] rfl) (hD.sub [] (by decide) rfl) dX3_add_81
    · skip
      have h26 : ¬ (2139095040 < (x &&& 2147483647 : Int32).toInt) := h26
      have hP : va_P D vwCl [(oN, .inr (1, [.ref n0, .ref n1, .ref n2, .ref n3, .ref n4, .ref n5, .int 0])), (n0, .inl (cI, 40, .inl f1)), (n1, .inl (cI, 40, .inl k1)), (n2, .inl (cI, 40, .inl k2)), (n3, .inl (cI, 40, .inl k3)), (n4, .inl (cJ, 40, .inr (.inl k4))), (n5, .inl (cJ, 4, .inr (.inl k5)))] H := hP
      have hD : va_D A [(oN, .inr (1, [.ref n0, .ref n1, .ref n2, .ref n3, .ref n4, .ref n5, .int 0])), (n0, .inl (cI, 40, .inl f1)), (n1, .inl (cI, 40, .inl k1)), (n2, .inl (cI, 40, .inl k2)), (n3, .inl (cI, 40, .inl k3)), (n4, .inl (cJ, 40, .inr (.inl k4))), (n5, .inl (cJ, 4, .inr (.inl k5)))] := hD
      refine lv_if_eq (tgt := 34) hx hb dX3_add_26 (by decide) (fun _ => ?_) (fun c47 => absurd (by decide) c47)
      refine lv_iload_n hx hb dX3_add_34 rfl (lv_at hl 2 rfl) ?_
      refine va_iast hx hb hK hP hD hS 2 0 rfl rfl (by unfold vp_in; decide) dX3_add_35 (fun H locs hP hD hS => ?_)
      obtain ⟨f48, ef49⟩ : ∃ z9 : Nat → Int32, z9 = upd k1 (0 : Int32).toNatClampNeg x := ⟨_, rfl⟩
      rw [← ef49] at hP hD
      have hP : va_P D vwCl [(oN, .inr (1, [.ref n0, .ref n1, .ref n2, .ref n3, .ref n4, .ref n5, .int 0])), (n0, .inl (cI, 40, .inl f1)), (n1, .inl (cI, 40, .inl f48)), (n2, .inl (cI, 40, .inl k2)), (n3, .inl (cI, 40, .inl k3)), (n4, .inl (cJ, 40, .inr (.inl k4))), (n5, .inl (cJ, 4, .inr (.inl k5)))] H := hP
      have hD : va_D A [(oN, .inr (1, [.ref n0, .ref n1, .ref n2, .ref n3, .ref n4, .ref n5, .int 0])), (n0, .inl (cI, 40, .inl f1)), (n1, .inl (cI, 40, .inl f48)), (n2, .inl (cI, 40, .inl k2)), (n3, .inl (cI, 40, .inl k3)), (n4, .inl (cJ, 40, .inr (.inl k4))), (n5, .inl (cJ, 4, .inr (.inl k5)))] := hD
      refine lv_aload_n hx hb dX3_add_36 rfl (lv_at hl 0 rfl) ?_
      refine va_get (D := D) (ci := 1) (v := .ref n2) (C := RX3) (T := TX3) (N := 7) hx hb hts iX3_add_X3 hown hK hP 0 rfl rfl 2 (by decide) (hts (.fieldLink RX3 18 "FloatSolver$Nodes" "y" "[I") (oX3_add_in _ (List.mem_of_getElem? (i := 3) rfl))) (fun _ h9 => h9) rfl dX3_add_37 ?_
      refine lv_aload_n hx hb dX3_add_40 rfl (lv_at hl 0 rfl) ?_
      refine va_get (D := D) (ci := 1) (v := .int 0) (C := RX3) (T := TX3) (N := 7) hx hb hts iX3_add_X3 hown hK hP 0 rfl rfl 6 (by decide) (hts (.fieldLink RX3 31 "FloatSolver$Nodes" "count" "I") (oX3_add_in _ (List.mem_of_getElem? (i := 1) rfl))) (fun _ h9 => h9) rfl dX3_add_41 ?_
      refine lv_iload_n hx hb dX3_add_44 rfl (lv_at hl 1 rfl) ?_
      refine sp_calli (wr := [(oN, .inr (1, [.ref n0, .ref n1, .ref n2, .ref n3, .ref n4, .ref n5, .int 0])), (n0, .inl (cI, 40, .inl f1)), (n1, .inl (cI, 40, .inl f48)), (n2, .inl (cI, 40, .inl k2)), (n3, .inl (cI, 40, .inl k3)), (n4, .inl (cJ, 40, .inr (.inl k4))), (n5, .inl (cJ, 4, .inr (.inl k5)))]) (wc := []) hP hD hS hA [] [0, 1, 2, 3, 4, 5, 6] rfl rfl (by decide) (by decide) (va_runS (As := [.int k]) (rest := [.int 0, .ref n2]) ⟨hx, hb, hml, hown, hts⟩ (c_X3_looksAtY l D cI cJ cZ H.size (k) (by omega)) (va_cwS 1 hts gX3_add_X3_looksAtY_42 rfl rfl rfl (by decide +kernel) ⟨Nat.le_of_ble_eq_true rfl, Nat.le_of_ble_eq_true rfl⟩) (sp_preS [.int k] hK (hP.sub (ws' := []) [] rfl) (hD.sub (ws' := []) [] (by decide) rfl)) rfl rfl hl.1 rfl (lv_room (Nat.le_of_ble_eq_true rfl)) dX3_add_45 ⟨Nat.le_of_ble_eq_true rfl, Nat.le_of_ble_eq_true rfl⟩) (fun r50 u51 H locs hw52 hP hD hS => ?_)
      obtain rfl := hw52
      have hP : va_P D vwCl [(oN, .inr (1, [.ref n0, .ref n1, .ref n2, .ref n3, .ref n4, .ref n5, .int 0])), (n0, .inl (cI, 40, .inl f1)), (n1, .inl (cI, 40, .inl f48)), (n2, .inl (cI, 40, .inl k2)), (n3, .inl (cI, 40, .inl k3)), (n4, .inl (cJ, 40, .inr (.inl k4))), (n5, .inl (cJ, 4, .inr (.inl k5)))] H := hP
      have hD : va_D A [(oN, .inr (1, [.ref n0, .ref n1, .ref n2, .ref n3, .ref n4, .ref n5, .int 0])), (n0, .inl (cI, 40, .inl f1)), (n1, .inl (cI, 40, .inl f48)), (n2, .inl (cI, 40, .inl k2)), (n3, .inl (cI, 40, .inl k3)), (n4, .inl (cJ, 40, .inr (.inl k4))), (n5, .inl (cJ, 4, .inr (.inl k5)))] := hD
      refine lv_if_eq (tgt := 55) hx hb dX3_add_48 (by decide) (fun _ => ?_) (fun c53 => absurd (by decide) c53)
      refine lv_iload_n hx hb dX3_add_55 rfl (lv_at hl 2 rfl) ?_
      refine va_iast hx hb hK hP hD hS 3 0 rfl rfl (by unfold vp_in; decide) dX3_add_56 (fun H locs hP hD hS => ?_)
      obtain ⟨f54, ef55⟩ : ∃ z9 : Nat → Int32, z9 = upd k2 (0 : Int32).toNatClampNeg x := ⟨_, rfl⟩
      rw [← ef55] at hP hD
      have hP : va_P D vwCl [(oN, .inr (1, [.ref n0, .ref n1, .ref n2, .ref n3, .ref n4, .ref n5, .int 0])), (n0, .inl (cI, 40, .inl f1)), (n1, .inl (cI, 40, .inl f48)), (n2, .inl (cI, 40, .inl f54)), (n3, .inl (cI, 40, .inl k3)), (n4, .inl (cJ, 40, .inr (.inl k4))), (n5, .inl (cJ, 4, .inr (.inl k5)))] H := hP
      have hD : va_D A [(oN, .inr (1, [.ref n0, .ref n1, .ref n2, .ref n3, .ref n4, .ref n5, .int 0])), (n0, .inl (cI, 40, .inl f1)), (n1, .inl (cI, 40, .inl f48)), (n2, .inl (cI, 40, .inl f54)), (n3, .inl (cI, 40, .inl k3)), (n4, .inl (cJ, 40, .inr (.inl k4))), (n5, .inl (cJ, 4, .inr (.inl k5)))] := hD
      refine lv_aload_n hx hb dX3_add_57 rfl (lv_at hl 0 rfl) ?_
      refine lv_aload_n hx hb dX3_add_58 rfl (lv_at hl 0 rfl) ?_
      refine va_get (D := D) (ci := 1) (v := .int 0) (C := RX3) (T := TX3) (N := 7) hx hb hts iX3_add_X3 hown hK hP 0 rfl rfl 6 (by decide) (hts (.fieldLink RX3 31 "FloatSolver$Nodes" "count" "I") (oX3_add_in _ (List.mem_of_getElem? (i := 1) rfl))) (fun _ h9 => h9) rfl dX3_add_59 ?_
      have h56 : f1 0 = k := by rw [ef2]; rfl
      have h57 : f48 0 = x := by rw [ef49]; rfl
      refine sp_callv (wr := []) (wc := [(oN, .inr (1, [.ref n0, .ref n1, .ref n2, .ref n3, .ref n4, .ref n5, .int 0])), (n0, .inl (cI, 40, .inl f1)), (n1, .inl (cI, 40, .inl f48)), (n2, .inl (cI, 40, .inl f54)), (n3, .inl (cI, 40, .inl k3)), (n4, .inl (cJ, 40, .inr (.inl k4))), (n5, .inl (cJ, 4, .inr (.inl k5)))]) hP hD hS hA [0, 1, 2, 3, 4, 5, 6] [] rfl rfl (by decide) (by decide) (va_runV (As := [.int 0]) (rest := []) ⟨hx, hb, hml, hown, hts⟩ (c_X3_link l D cI cJ cZ H.size oN n0 n1 n2 n3 n4 n5 f1 f48 f54 k3 k4 k5 (by rw [h56]; omega) (by rw [h56, h57]; omega)) (cwV 1 hts gX3_add_X3_link_45 rfl rfl rfl (by decide +kernel) ⟨Nat.le_of_ble_eq_true rfl, Nat.le_of_ble_eq_true rfl⟩) (sp_preV (ci := 1) (q0 := 0) [.int 0] hK (hP.sub (ws' := [(oN, .inr (1, [.ref n0, .ref n1, .ref n2, .ref n3, .ref n4, .ref n5, .int 0])), (n0, .inl (cI, 40, .inl f1)), (n1, .inl (cI, 40, .inl f48)), (n2, .inl (cI, 40, .inl f54)), (n3, .inl (cI, 40, .inl k3)), (n4, .inl (cJ, 40, .inr (.inl k4))), (n5, .inl (cJ, 4, .inr (.inl k5)))]) [0, 1, 2, 3, 4, 5, 6] rfl) (hD.sub (ws' := [(oN, .inr (1, [.ref n0, .ref n1, .ref n2, .ref n3, .ref n4, .ref n5, .int 0])), (n0, .inl (cI, 40, .inl f1)), (n1, .inl (cI, 40, .inl f48)), (n2, .inl (cI, 40, .inl f54)), (n3, .inl (cI, 40, .inl k3)), (n4, .inl (cJ, 40, .inr (.inl k4))), (n5, .inl (cJ, 4, .inr (.inl k5)))]) [0, 1, 2, 3, 4, 5, 6] (by decide) rfl) rfl rfl) rfl rfl hl.1 rfl (lv_room (Nat.le_of_ble_eq_true rfl)) dX3_add_62 ⟨Nat.le_of_ble_eq_true rfl, Nat.le_of_ble_eq_true rfl⟩) (fun u59 H locs hw60 hP hD hS => ?_)
      obtain ⟨f61, f62⟩ := u59
      have hP : va_P D vwCl [(oN, .inr (1, [.ref n0, .ref n1, .ref n2, .ref n3, .ref n4, .ref n5, .int 0])), (n0, .inl (cI, 40, .inl f1)), (n1, .inl (cI, 40, .inl f48)), (n2, .inl (cI, 40, .inl f54)), (n3, .inl (cI, 40, .inl k3)), (n4, .inl (cJ, 40, .inr (.inl f61))), (n5, .inl (cJ, 4, .inr (.inl f62)))] H := hP
      have hD : va_D A [(oN, .inr (1, [.ref n0, .ref n1, .ref n2, .ref n3, .ref n4, .ref n5, .int 0])), (n0, .inl (cI, 40, .inl f1)), (n1, .inl (cI, 40, .inl f48)), (n2, .inl (cI, 40, .inl f54)), (n3, .inl (cI, 40, .inl k3)), (n4, .inl (cJ, 40, .inr (.inl f61))), (n5, .inl (cJ, 4, .inr (.inl f62)))] := hD
      refine lv_aload_n hx hb dX3_add_65 rfl (lv_at hl 0 rfl) ?_
      refine lv_dup hx hb dX3_add_66 rfl ?_
      refine va_get (D := D) (ci := 1) (v := .int 0) (C := RX3) (T := TX3) (N := 7) hx hb hts iX3_add_X3 hown hK hP 0 rfl rfl 6 (by decide) (hts (.fieldLink RX3 31 "FloatSolver$Nodes" "count" "I") (oX3_add_in _ (List.mem_of_getElem? (i := 1) rfl))) (fun _ h9 => h9) rfl dX3_add_67 ?_
      refine lv_iconst (v := 1) hx hb dX3_add_70 (by decide) ?_
      refine lv_iadd hx hb dX3_add_71 ?_
      refine lv_topi (fun y63 e64 => ?_)
      obtain rfl : y63 = 1 := e64.trans (by decide)
      refine va_put (D := D) (ci := 1) (v := .int 1) (ty := .int) (C := RX3) (T := TX3) (N := 7) hx hb hts iX3_add_X3 tyX3 tyX3_ok nmX3 hown hK hP hD hS 0 rfl rfl 6 (by decide) (hts (.fieldLink RX3 31 "FloatSolver$Nodes" "count" "I") (oX3_add_in _ (List.mem_of_getElem? (i := 1) rfl))) (fun _ h9 => h9) rfl (by decide +kernel) rfl rfl (Nat.le_of_ble_eq_true rfl) dX3_add_72 (fun H locs hP hD hS => ?_)
      have hP : va_P D vwCl [(oN, .inr (1, [.ref n0, .ref n1, .ref n2, .ref n3, .ref n4, .ref n5, .int 1])), (n0, .inl (cI, 40, .inl f1)), (n1, .inl (cI, 40, .inl f48)), (n2, .inl (cI, 40, .inl f54)), (n3, .inl (cI, 40, .inl k3)), (n4, .inl (cJ, 40, .inr (.inl f61))), (n5, .inl (cJ, 4, .inr (.inl f62)))] H := hP
      have hD : va_D A [(oN, .inr (1, [.ref n0, .ref n1, .ref n2, .ref n3, .ref n4, .ref n5, .int 1])), (n0, .inl (cI, 40, .inl f1)), (n1, .inl (cI, 40, .inl f48)), (n2, .inl (cI, 40, .inl f54)), (n3, .inl (cI, 40, .inl k3)), (n4, .inl (cJ, 40, .inr (.inl f61))), (n5, .inl (cJ, 4, .inr (.inl f62)))] := hD
      refine lv_aload_n hx hb dX3_add_75 rfl (lv_at hl 0 rfl) ?_
      refine va_get (D := D) (ci := 1) (v := .int 1) (C := RX3) (T := TX3) (N := 7) hx hb hts iX3_add_X3 hown hK hP 0 rfl rfl 6 (by decide) (hts (.fieldLink RX3 31 "FloatSolver$Nodes" "count" "I") (oX3_add_in _ (List.mem_of_getElem? (i := 1) rfl))) (fun _ h9 => h9) rfl dX3_add_76 ?_
      refine lv_iconst (v := 1) hx hb dX3_add_79 (by decide) ?_
      refine lv_isub hx hb dX3_add_80 ?_
      refine lv_topi (fun y65 e66 => ?_)
      obtain rfl : y65 = 0 := e66.trans (by decide)
      refine W.widen (k := 0) (n := 0) (by decide) (by decide) ?_
      exact sp_iret (u := ()) hx hb hr hlocks hS rfl (hP.sub [] rfl) (hD.sub [] (by decide) rfl) dX3_add_81
def oX7_node : List Cond := [.fieldLink RX7 16 "FloatSolver" "nodes" "LFloatSolver$Nodes;", .fieldLink RX7 69 "FloatSolver$Nodes" "count" "I"]
def wpX7_node : List Cond := .code yX7_node cX7_node 4 (some .int) :: (oX7_node ++ (wsX70 ++ (wsX30 ++ ((va_wsS RX7 60 yX3_looksAtX wpX3_looksAtX) ++ ((wsV RX7 63 RX3 yX3_has wpX3_has) ++ ((va_wsS RX7 66 yX3_looksAtY wpX3_looksAtY) ++ ((wsV RX7 73 RX3 yX3_add wpX3_add) ++ ((va_wsS RX7 56 yX7_isVariable wpX7_isVariable) ++ ([] : List Cond)))))))))
theorem oX7_node_in : ∀ w ∈ oX7_node, w ∈ wpX7_node := fun w h => List.mem_cons_of_mem _ (List.mem_append_left _ h)
theorem gwoX7_node : ∀ w ∈ oX7_node, goodWord w = true := by decide +kernel
theorem gwX7_node : ∀ w ∈ wpX7_node, goodWord w = true := by
  unfold wpX7_node
  exact List.forall_mem_cons.mpr ⟨rfl, List.forall_mem_append.mpr ⟨gwoX7_node, List.forall_mem_append.mpr ⟨gwX7, List.forall_mem_append.mpr ⟨gwX3, List.forall_mem_append.mpr ⟨(sp_gS gwX3_looksAtX), List.forall_mem_append.mpr ⟨(sp_gV gwX3_has), List.forall_mem_append.mpr ⟨(sp_gS gwX3_looksAtY), List.forall_mem_append.mpr ⟨(sp_gV gwX3_add), List.forall_mem_append.mpr ⟨(sp_gS gwX7_isVariable), fun _ h => absurd h List.not_mem_nil⟩⟩⟩⟩⟩⟩⟩⟩⟩
set_option maxRecDepth 100000 in
theorem toX7_node : ∀ w ∈ oX7_node, w ∈ lw_tbl := by
  unfold oX7_node
  exact List.forall_mem_cons.mpr ⟨(List.mem_of_getElem? (i := 239) (by decide +kernel)), List.forall_mem_cons.mpr ⟨(List.mem_of_getElem? (i := 85) (by decide +kernel)), fun _ h => absurd h List.not_mem_nil⟩⟩
set_option maxRecDepth 100000 in
theorem tX7_node : ∀ w ∈ wpX7_node, w ∈ lw_tbl := by
  unfold wpX7_node
  exact List.forall_mem_cons.mpr ⟨(List.mem_of_getElem? (i := 261) (by rfl)), List.forall_mem_append.mpr ⟨toX7_node, List.forall_mem_append.mpr ⟨in_wsX70, List.forall_mem_append.mpr ⟨in_wsX30, List.forall_mem_append.mpr ⟨(sp_tS (List.mem_of_getElem? (i := 265) (by decide +kernel)) (List.mem_of_getElem? (i := 266) (by decide +kernel)) (List.mem_of_getElem? (i := 39) (by decide +kernel)) tX3_looksAtX), List.forall_mem_append.mpr ⟨(sp_tV (List.mem_of_getElem? (i := 268) (by decide +kernel)) (List.mem_of_getElem? (i := 269) (by decide +kernel)) (List.mem_of_getElem? (i := 270) (by decide +kernel)) (List.mem_of_getElem? (i := 39) (by decide +kernel)) tX3_has), List.forall_mem_append.mpr ⟨(sp_tS (List.mem_of_getElem? (i := 272) (by decide +kernel)) (List.mem_of_getElem? (i := 273) (by decide +kernel)) (List.mem_of_getElem? (i := 39) (by decide +kernel)) tX3_looksAtY), List.forall_mem_append.mpr ⟨(sp_tV (List.mem_of_getElem? (i := 275) (by decide +kernel)) (List.mem_of_getElem? (i := 276) (by decide +kernel)) (List.mem_of_getElem? (i := 277) (by decide +kernel)) (List.mem_of_getElem? (i := 39) (by decide +kernel)) tX3_add), List.forall_mem_append.mpr ⟨(sp_tS (List.mem_of_getElem? (i := 262) (by decide +kernel)) (List.mem_of_getElem? (i := 263) (by decide +kernel)) (List.mem_of_getElem? (i := 38) (by decide +kernel)) tX7_isVariable), fun _ h => absurd h List.not_mem_nil⟩⟩⟩⟩⟩⟩⟩⟩⟩
theorem iX7_node_X7 : ∀ w ∈ wsX70, w ∈ wpX7_node := fun w h => List.mem_cons_of_mem _ (List.mem_append_right _ (List.mem_append_left _ h))
theorem iX7_node_X3 : ∀ w ∈ wsX30, w ∈ wpX7_node := fun w h => List.mem_cons_of_mem _ (List.mem_append_right _ (List.mem_append_right _ (List.mem_append_left _ h)))
theorem gX7_node_X3_looksAtX_60 : GoodIn wpX7_node (va_wsS RX7 60 yX3_looksAtX wpX3_looksAtX) := fun w h => ⟨List.mem_cons_of_mem _ (List.mem_append_right _ (List.mem_append_right _ (List.mem_append_right _ (List.mem_append_left _ h)))), good_of_word (sp_gS gwX3_looksAtX w h)⟩
theorem gX7_node_X3_has_63 : GoodIn wpX7_node (wsV RX7 63 RX3 yX3_has wpX3_has) := fun w h => ⟨List.mem_cons_of_mem _ (List.mem_append_right _ (List.mem_append_right _ (List.mem_append_right _ (List.mem_append_right _ (List.mem_append_left _ h))))), good_of_word (sp_gV gwX3_has w h)⟩
theorem gX7_node_X3_looksAtY_66 : GoodIn wpX7_node (va_wsS RX7 66 yX3_looksAtY wpX3_looksAtY) := fun w h => ⟨List.mem_cons_of_mem _ (List.mem_append_right _ (List.mem_append_right _ (List.mem_append_right _ (List.mem_append_right _ (List.mem_append_right _ (List.mem_append_left _ h)))))), good_of_word (sp_gS gwX3_looksAtY w h)⟩
theorem gX7_node_X3_add_73 : GoodIn wpX7_node (wsV RX7 73 RX3 yX3_add wpX3_add) := fun w h => ⟨List.mem_cons_of_mem _ (List.mem_append_right _ (List.mem_append_right _ (List.mem_append_right _ (List.mem_append_right _ (List.mem_append_right _ (List.mem_append_right _ (List.mem_append_left _ h))))))), good_of_word (sp_gV gwX3_add w h)⟩
theorem gX7_node_X7_isVariable_56 : GoodIn wpX7_node (va_wsS RX7 56 yX7_isVariable wpX7_isVariable) := fun w h => ⟨List.mem_cons_of_mem _ (List.mem_append_right _ (List.mem_append_right _ (List.mem_append_right _ (List.mem_append_right _ (List.mem_append_right _ (List.mem_append_right _ (List.mem_append_right _ (List.mem_append_left _ h)))))))), good_of_word (sp_gS gwX7_isVariable w h)⟩
set_option maxHeartbeats 4000000 in
set_option maxRecDepth 100000 in
theorem c_X7_node (l : Launch) (D : va_G) (cI cJ cZ : ClassId) (sz : Nat) (h oN oR oB oS oP oQ : Nat) (n0 n1 n2 n3 n4 n5 : Nat) (k0 k1 k2 k3 : Nat → Int32) (k4 k5 : Nat → Int64) (k x y : Int32) : Met l yX7_node wpX7_node ({ frames := 3, cells := 0, slots := 0, locals := 67 }) (va_Pc [.ref h, .int k, .int x, .int y] (sp_pre D vwCl (sp_ty cI cJ cZ) [(h, .inr (5, [.ref oN, .ref oR, .ref oB, .ref oS, .ref oP, .ref oQ])), (oN, .inr (1, [.ref n0, .ref n1, .ref n2, .ref n3, .ref n4, .ref n5, .int 0])), (n0, .inl (cI, 40, .inl k0)), (n1, .inl (cI, 40, .inl k1)), (n2, .inl (cI, 40, .inl k2)), (n3, .inl (cI, 40, .inl k3)), (n4, .inl (cJ, 40, .inr (.inl k4))), (n5, .inl (cJ, 4, .inr (.inl k5)))] sz)) (va_Qi (fun (r : Int32) (_ : Unit) => r = sp_node k x) (sp_B D vwCl (va_A [(h, .inr (5, [.ref oN, .ref oR, .ref oB, .ref oS, .ref oP, .ref oQ])), (oN, .inr (1, [.ref n0, .ref n1, .ref n2, .ref n3, .ref n4, .ref n5, .int 0])), (n0, .inl (cI, 40, .inl k0)), (n1, .inl (cI, 40, .inl k1)), (n2, .inl (cI, 40, .inl k2)), (n3, .inl (cI, 40, .inl k3)), (n4, .inl (cJ, 40, .inr (.inl k4))), (n5, .inl (cJ, 4, .inr (.inl k5)))] sz) (fun (_ : Unit) => [])) (va_A [(h, .inr (5, [.ref oN, .ref oR, .ref oB, .ref oS, .ref oP, .ref oQ])), (oN, .inr (1, [.ref n0, .ref n1, .ref n2, .ref n3, .ref n4, .ref n5, .int 0])), (n0, .inl (cI, 40, .inl k0)), (n1, .inl (cI, 40, .inl k1)), (n2, .inl (cI, 40, .inl k2)), (n3, .inl (cI, 40, .inl k3)), (n4, .inl (cJ, 40, .inr (.inl k4))), (n5, .inl (cJ, 4, .inr (.inl k5)))] sz)) 0 0 (va_A [(h, .inr (5, [.ref oN, .ref oR, .ref oB, .ref oS, .ref oP, .ref oQ])), (oN, .inr (1, [.ref n0, .ref n1, .ref n2, .ref n3, .ref n4, .ref n5, .int 0])), (n0, .inl (cI, 40, .inl k0)), (n1, .inl (cI, 40, .inl k1)), (n2, .inl (cI, 40, .inl k2)), (n3, .inl (cI, 40, .inl k3)), (n4, .inl (cJ, 40, .inr (.inl k4))), (n5, .inl (cJ, 4, .inr (.inl k5)))] sz) := by
  refine sp_ofW (Qc := fun A => va_Qi (fun (r : Int32) (_ : Unit) => r = sp_node k x) (sp_B D vwCl A (fun (_ : Unit) => [])) A) (by decide) rfl (Nat.le_of_ble_eq_true rfl) (fun p e s m below meth c A ls H locs C0 hA hS hP hK hD hl => ?_)
  obtain ⟨hx, hb, hr, hts, hown, hlocks, hml, hin⟩ := C0
  have hown : s.vm.findClass RX7 = some m.cls := hown
  have hl : lv_has ls 4 [(0, .ref h), (1, .int k), (2, .int x), (3, .int y)] := hl
  have hK : va_K D vwCl [(cI, .int), (cJ, .long), (cZ, .boolean)] s := hK
  refine lv_iload_n hx hb dX7_node_0 rfl (lv_at hl 1 rfl) ?_
  refine lv_if_lt (tgt := 10) hx hb dX7_node_1 (by decide) (fun c1 => ?_) (fun c1 => ?_)
  · skip
    have c1i : (k : Int32).toInt < 0 := Int32.lt_iff_toInt_lt.mp c1
    refine lv_bipush (v := (-2)) hx hb dX7_node_10 (by decide) ?_
    refine W.widen (k := 0) (n := 0) (by decide) (by decide) ?_
    exact sp_iret (u := ()) hx hb hr hlocks hS (by unfold sp_node; (repeat' split) <;> first | (exfalso; omega) | rfl) (hP.sub [] rfl) (hD.sub [] (by decide) rfl) dX7_node_12
  · skip
    have c1i : ¬ (k : Int32).toInt < 0 := fun h => c1 (Int32.lt_iff_toInt_lt.mpr h)
    refine lv_iload_n hx hb dX7_node_4 rfl (lv_at hl 1 rfl) ?_
    refine lv_bipush (v := 15) hx hb dX7_node_5 (by decide) ?_
    refine lv_icmp_le (tgt := 13) hx hb dX7_node_7 (by decide) (fun c2 => ?_) (fun c2 => ?_)
    · skip
      have c2i : (k : Int32).toInt ≤ 15 := Int32.le_iff_toInt_le.mp c2
      refine lv_iload_n hx hb dX7_node_13 rfl (lv_at hl 1 rfl) ?_
      refine lv_iconst (v := 1) hx hb dX7_node_14 (by decide) ?_
      refine lv_icmp_ne (tgt := 27) hx hb dX7_node_15 (by decide) (fun c3 => ?_) (fun c3 => ?_)
      · skip
        have c3i : ¬ (k : Int32).toInt = 1 := fun h => c3 (Int32.toInt_inj.mp h)
        refine lv_iload_n hx hb dX7_node_27 rfl (lv_at hl 1 rfl) ?_
        refine sp_calli (wr := [(h, .inr (5, [.ref oN, .ref oR, .ref oB, .ref oS, .ref oP, .ref oQ])), (oN, .inr (1, [.ref n0, .ref n1, .ref n2, .ref n3, .ref n4, .ref n5, .int 0])), (n0, .inl (cI, 40, .inl k0)), (n1, .inl (cI, 40, .inl k1)), (n2, .inl (cI, 40, .inl k2)), (n3, .inl (cI, 40, .inl k3)), (n4, .inl (cJ, 40, .inr (.inl k4))), (n5, .inl (cJ, 4, .inr (.inl k5)))]) (wc := []) hP hD hS hA [] [0, 1, 2, 3, 4, 5, 6, 7] rfl rfl (by decide) (by decide) (va_runS (As := [.int k]) (rest := []) ⟨hx, hb, hml, hown, hts⟩ (c_X3_looksAtX l D cI cJ cZ H.size (k)) (va_cwS 1 hts gX7_node_X3_looksAtX_60 rfl rfl rfl (by decide +kernel) ⟨Nat.le_of_ble_eq_true rfl, Nat.le_of_ble_eq_true rfl⟩) (sp_preS [.int k] hK (hP.sub (ws' := []) [] rfl) (hD.sub (ws' := []) [] (by decide) rfl)) rfl rfl hl.1 rfl (lv_room (Nat.le_of_ble_eq_true rfl)) dX7_node_28 ⟨Nat.le_of_ble_eq_true rfl, Nat.le_of_ble_eq_true rfl⟩) (fun r4 u5 H locs hw6 hP hD hS => ?_)
        rcases hw6 with ⟨rfl, h7⟩ | ⟨rfl, h7⟩
        · skip
          have h7 : 2 ≤ (k : Int32).toInt ∧ (k : Int32).toInt ≤ 15 := h7
          have hP : va_P D vwCl [(h, .inr (5, [.ref oN, .ref oR, .ref oB, .ref oS, .ref oP, .ref oQ])), (oN, .inr (1, [.ref n0, .ref n1, .ref n2, .ref n3, .ref n4, .ref n5, .int 0])), (n0, .inl (cI, 40, .inl k0)), (n1, .inl (cI, 40, .inl k1)), (n2, .inl (cI, 40, .inl k2)), (n3, .inl (cI, 40, .inl k3)), (n4, .inl (cJ, 40, .inr (.inl k4))), (n5, .inl (cJ, 4, .inr (.inl k5)))] H := hP
          have hD : va_D A [(h, .inr (5, [.ref oN, .ref oR, .ref oB, .ref oS, .ref oP, .ref oQ])), (oN, .inr (1, [.ref n0, .ref n1, .ref n2, .ref n3, .ref n4, .ref n5, .int 0])), (n0, .inl (cI, 40, .inl k0)), (n1, .inl (cI, 40, .inl k1)), (n2, .inl (cI, 40, .inl k2)), (n3, .inl (cI, 40, .inl k3)), (n4, .inl (cJ, 40, .inr (.inl k4))), (n5, .inl (cJ, 4, .inr (.inl k5)))] := hD
          refine lv_if_eq (tgt := 47) hx hb dX7_node_31 (by decide) (fun c8 => absurd c8 (by decide)) (fun _ => ?_)
          refine lv_aload_n hx hb dX7_node_34 rfl (lv_at hl 0 rfl) ?_
          refine va_get (D := D) (ci := 5) (v := .ref oN) (C := RX7) (T := TX7) (N := 6) hx hb hts iX7_node_X7 hown hK hP 0 rfl rfl 0 (by decide) (hts (.fieldLink RX7 16 "FloatSolver" "nodes" "LFloatSolver$Nodes;") (oX7_node_in _ (List.mem_of_getElem? (i := 0) rfl))) (fun _ h9 => h9) rfl dX7_node_35 ?_
          refine lv_iload_n hx hb dX7_node_38 rfl (lv_at hl 2 rfl) ?_
          refine sp_calli (wr := [(h, .inr (5, [.ref oN, .ref oR, .ref oB, .ref oS, .ref oP, .ref oQ])), (n0, .inl (cI, 40, .inl k0)), (n1, .inl (cI, 40, .inl k1)), (n2, .inl (cI, 40, .inl k2)), (n3, .inl (cI, 40, .inl k3)), (n4, .inl (cJ, 40, .inr (.inl k4))), (n5, .inl (cJ, 4, .inr (.inl k5)))]) (wc := [(oN, .inr (1, [.ref n0, .ref n1, .ref n2, .ref n3, .ref n4, .ref n5, .int 0]))]) hP hD hS hA [1] [0, 2, 3, 4, 5, 6, 7] rfl rfl (by decide) (by decide) (va_runV (As := [.int x]) (rest := []) ⟨hx, hb, hml, hown, hts⟩ (c_X3_has l D cI cJ cZ H.size oN n0 n1 n2 n3 n4 n5 (0) (x)) (cwV 1 hts gX7_node_X3_has_63 rfl rfl rfl (by decide +kernel) ⟨Nat.le_of_ble_eq_true rfl, Nat.le_of_ble_eq_true rfl⟩) (sp_preV (ci := 1) (q0 := 0) [.int x] hK (hP.sub (ws' := [(oN, .inr (1, [.ref n0, .ref n1, .ref n2, .ref n3, .ref n4, .ref n5, .int 0]))]) [1] rfl) (hD.sub (ws' := [(oN, .inr (1, [.ref n0, .ref n1, .ref n2, .ref n3, .ref n4, .ref n5, .int 0]))]) [1] (by decide) rfl) rfl rfl) rfl rfl hl.1 rfl (lv_room (Nat.le_of_ble_eq_true rfl)) dX7_node_39 ⟨Nat.le_of_ble_eq_true rfl, Nat.le_of_ble_eq_true rfl⟩) (fun r9 u10 H locs hw11 hP hD hS => ?_)
          rcases hw11 with ⟨rfl, h12⟩ | ⟨rfl, h12⟩
          · skip
            have h12 : 0 ≤ (x : Int32).toInt ∧ (x : Int32).toInt < (0 : Int) := h12
            exact absurd h12 (by omega)
          · skip
            have h12 : ¬ (0 ≤ (x : Int32).toInt ∧ (x : Int32).toInt < (0 : Int)) := h12
            have hP : va_P D vwCl [(h, .inr (5, [.ref oN, .ref oR, .ref oB, .ref oS, .ref oP, .ref oQ])), (n0, .inl (cI, 40, .inl k0)), (n1, .inl (cI, 40, .inl k1)), (n2, .inl (cI, 40, .inl k2)), (n3, .inl (cI, 40, .inl k3)), (n4, .inl (cJ, 40, .inr (.inl k4))), (n5, .inl (cJ, 4, .inr (.inl k5))), (oN, .inr (1, [.ref n0, .ref n1, .ref n2, .ref n3, .ref n4, .ref n5, .int 0]))] H := hP
            have hD : va_D A [(h, .inr (5, [.ref oN, .ref oR, .ref oB, .ref oS, .ref oP, .ref oQ])), (n0, .inl (cI, 40, .inl k0)), (n1, .inl (cI, 40, .inl k1)), (n2, .inl (cI, 40, .inl k2)), (n3, .inl (cI, 40, .inl k3)), (n4, .inl (cJ, 40, .inr (.inl k4))), (n5, .inl (cJ, 4, .inr (.inl k5))), (oN, .inr (1, [.ref n0, .ref n1, .ref n2, .ref n3, .ref n4, .ref n5, .int 0]))] := hD
            refine lv_if_ne (tgt := 47) hx hb dX7_node_42 (by decide) (fun c13 => absurd (by decide) c13) (fun _ => ?_)
            refine lv_iconst (v := (-1)) hx hb dX7_node_45 (by decide) ?_
            refine W.widen (k := 0) (n := 0) (by decide) (by decide) ?_
            exact sp_iret (u := ()) hx hb hr hlocks hS (by unfold sp_node; (repeat' split) <;> first | (exfalso; omega) | rfl) (hP.sub [] rfl) (hD.sub [] (by decide) rfl) dX7_node_46
        · skip
          have h7 : ¬ (2 ≤ (k : Int32).toInt ∧ (k : Int32).toInt ≤ 15) := h7
          have hP : va_P D vwCl [(h, .inr (5, [.ref oN, .ref oR, .ref oB, .ref oS, .ref oP, .ref oQ])), (oN, .inr (1, [.ref n0, .ref n1, .ref n2, .ref n3, .ref n4, .ref n5, .int 0])), (n0, .inl (cI, 40, .inl k0)), (n1, .inl (cI, 40, .inl k1)), (n2, .inl (cI, 40, .inl k2)), (n3, .inl (cI, 40, .inl k3)), (n4, .inl (cJ, 40, .inr (.inl k4))), (n5, .inl (cJ, 4, .inr (.inl k5)))] H := hP
          have hD : va_D A [(h, .inr (5, [.ref oN, .ref oR, .ref oB, .ref oS, .ref oP, .ref oQ])), (oN, .inr (1, [.ref n0, .ref n1, .ref n2, .ref n3, .ref n4, .ref n5, .int 0])), (n0, .inl (cI, 40, .inl k0)), (n1, .inl (cI, 40, .inl k1)), (n2, .inl (cI, 40, .inl k2)), (n3, .inl (cI, 40, .inl k3)), (n4, .inl (cJ, 40, .inr (.inl k4))), (n5, .inl (cJ, 4, .inr (.inl k5)))] := hD
          refine lv_if_eq (tgt := 47) hx hb dX7_node_31 (by decide) (fun _ => ?_) (fun c14 => absurd (by decide) c14)
          refine lv_iload_n hx hb dX7_node_47 rfl (lv_at hl 1 rfl) ?_
          refine sp_calli (wr := [(h, .inr (5, [.ref oN, .ref oR, .ref oB, .ref oS, .ref oP, .ref oQ])), (oN, .inr (1, [.ref n0, .ref n1, .ref n2, .ref n3, .ref n4, .ref n5, .int 0])), (n0, .inl (cI, 40, .inl k0)), (n1, .inl (cI, 40, .inl k1)), (n2, .inl (cI, 40, .inl k2)), (n3, .inl (cI, 40, .inl k3)), (n4, .inl (cJ, 40, .inr (.inl k4))), (n5, .inl (cJ, 4, .inr (.inl k5)))]) (wc := []) hP hD hS hA [] [0, 1, 2, 3, 4, 5, 6, 7] rfl rfl (by decide) (by decide) (va_runS (As := [.int k]) (rest := []) ⟨hx, hb, hml, hown, hts⟩ (c_X3_looksAtY l D cI cJ cZ H.size (k) (by omega)) (va_cwS 1 hts gX7_node_X3_looksAtY_66 rfl rfl rfl (by decide +kernel) ⟨Nat.le_of_ble_eq_true rfl, Nat.le_of_ble_eq_true rfl⟩) (sp_preS [.int k] hK (hP.sub (ws' := []) [] rfl) (hD.sub (ws' := []) [] (by decide) rfl)) rfl rfl hl.1 rfl (lv_room (Nat.le_of_ble_eq_true rfl)) dX7_node_48 ⟨Nat.le_of_ble_eq_true rfl, Nat.le_of_ble_eq_true rfl⟩) (fun r15 u16 H locs hw17 hP hD hS => ?_)
          obtain rfl := hw17
          have hP : va_P D vwCl [(h, .inr (5, [.ref oN, .ref oR, .ref oB, .ref oS, .ref oP, .ref oQ])), (oN, .inr (1, [.ref n0, .ref n1, .ref n2, .ref n3, .ref n4, .ref n5, .int 0])), (n0, .inl (cI, 40, .inl k0)), (n1, .inl (cI, 40, .inl k1)), (n2, .inl (cI, 40, .inl k2)), (n3, .inl (cI, 40, .inl k3)), (n4, .inl (cJ, 40, .inr (.inl k4))), (n5, .inl (cJ, 4, .inr (.inl k5)))] H := hP
          have hD : va_D A [(h, .inr (5, [.ref oN, .ref oR, .ref oB, .ref oS, .ref oP, .ref oQ])), (oN, .inr (1, [.ref n0, .ref n1, .ref n2, .ref n3, .ref n4, .ref n5, .int 0])), (n0, .inl (cI, 40, .inl k0)), (n1, .inl (cI, 40, .inl k1)), (n2, .inl (cI, 40, .inl k2)), (n3, .inl (cI, 40, .inl k3)), (n4, .inl (cJ, 40, .inr (.inl k4))), (n5, .inl (cJ, 4, .inr (.inl k5)))] := hD
          refine lv_if_eq (tgt := 67) hx hb dX7_node_51 (by decide) (fun _ => ?_) (fun c18 => absurd (by decide) c18)
          refine lv_aload_n hx hb dX7_node_67 rfl (lv_at hl 0 rfl) ?_
          refine va_get (D := D) (ci := 5) (v := .ref oN) (C := RX7) (T := TX7) (N := 6) hx hb hts iX7_node_X7 hown hK hP 0 rfl rfl 0 (by decide) (hts (.fieldLink RX7 16 "FloatSolver" "nodes" "LFloatSolver$Nodes;") (oX7_node_in _ (List.mem_of_getElem? (i := 0) rfl))) (fun _ h9 => h9) rfl dX7_node_68 ?_
          refine va_get (D := D) (ci := 1) (v := .int 0) (C := RX3) (T := TX3) (N := 7) hx hb hts iX7_node_X3 hown hK hP 1 rfl rfl 6 (by decide) (hts (.fieldLink RX7 69 "FloatSolver$Nodes" "count" "I") (oX7_node_in _ (List.mem_of_getElem? (i := 1) rfl))) (fun _ h9 => h9) rfl dX7_node_71 ?_
          refine lv_bipush (v := 40) hx hb dX7_node_74 (by decide) ?_
          refine lv_icmp_ne (tgt := 84) hx hb dX7_node_76 (by decide) (fun _ => ?_) (fun c19 => absurd c19 (by decide))
          refine lv_aload_n hx hb dX7_node_84 rfl (lv_at hl 0 rfl) ?_
          refine va_get (D := D) (ci := 5) (v := .ref oN) (C := RX7) (T := TX7) (N := 6) hx hb hts iX7_node_X7 hown hK hP 0 rfl rfl 0 (by decide) (hts (.fieldLink RX7 16 "FloatSolver" "nodes" "LFloatSolver$Nodes;") (oX7_node_in _ (List.mem_of_getElem? (i := 0) rfl))) (fun _ h9 => h9) rfl dX7_node_85 ?_
          refine lv_iload_n hx hb dX7_node_88 rfl (lv_at hl 1 rfl) ?_
          refine lv_iload_n hx hb dX7_node_89 rfl (lv_at hl 2 rfl) ?_
          refine lv_iload_n hx hb dX7_node_90 rfl (lv_at hl 3 rfl) ?_
          refine sp_calli (wr := [(h, .inr (5, [.ref oN, .ref oR, .ref oB, .ref oS, .ref oP, .ref oQ]))]) (wc := [(oN, .inr (1, [.ref n0, .ref n1, .ref n2, .ref n3, .ref n4, .ref n5, .int 0])), (n0, .inl (cI, 40, .inl k0)), (n1, .inl (cI, 40, .inl k1)), (n2, .inl (cI, 40, .inl k2)), (n3, .inl (cI, 40, .inl k3)), (n4, .inl (cJ, 40, .inr (.inl k4))), (n5, .inl (cJ, 4, .inr (.inl k5)))]) hP hD hS hA [1, 2, 3, 4, 5, 6, 7] [0] rfl rfl (by decide) (by decide) (va_runV (As := [.int k, .int x, .int y]) (rest := []) ⟨hx, hb, hml, hown, hts⟩ (c_X3_add l D cI cJ cZ H.size oN n0 n1 n2 n3 n4 n5 k0 k1 k2 k3 k4 k5 (k) (x) (y) (by omega) (by omega) (by omega)) (cwV 3 hts gX7_node_X3_add_73 rfl rfl rfl (by decide +kernel) ⟨Nat.le_of_ble_eq_true rfl, Nat.le_of_ble_eq_true rfl⟩) (sp_preV (ci := 1) (q0 := 0) [.int k, .int x, .int y] hK (hP.sub (ws' := [(oN, .inr (1, [.ref n0, .ref n1, .ref n2, .ref n3, .ref n4, .ref n5, .int 0])), (n0, .inl (cI, 40, .inl k0)), (n1, .inl (cI, 40, .inl k1)), (n2, .inl (cI, 40, .inl k2)), (n3, .inl (cI, 40, .inl k3)), (n4, .inl (cJ, 40, .inr (.inl k4))), (n5, .inl (cJ, 4, .inr (.inl k5)))]) [1, 2, 3, 4, 5, 6, 7] rfl) (hD.sub (ws' := [(oN, .inr (1, [.ref n0, .ref n1, .ref n2, .ref n3, .ref n4, .ref n5, .int 0])), (n0, .inl (cI, 40, .inl k0)), (n1, .inl (cI, 40, .inl k1)), (n2, .inl (cI, 40, .inl k2)), (n3, .inl (cI, 40, .inl k3)), (n4, .inl (cJ, 40, .inr (.inl k4))), (n5, .inl (cJ, 4, .inr (.inl k5)))]) [1, 2, 3, 4, 5, 6, 7] (by decide) rfl) rfl rfl) rfl rfl hl.1 rfl (lv_room (Nat.le_of_ble_eq_true rfl)) dX7_node_91 ⟨Nat.le_of_ble_eq_true rfl, Nat.le_of_ble_eq_true rfl⟩) (fun r20 u21 H locs hw22 hP hD hS => ?_)
          obtain rfl := hw22
          have hP : va_P D vwCl [(h, .inr (5, [.ref oN, .ref oR, .ref oB, .ref oS, .ref oP, .ref oQ]))] H := hP
          have hD : va_D A [(h, .inr (5, [.ref oN, .ref oR, .ref oB, .ref oS, .ref oP, .ref oQ]))] := hD
          refine W.widen (k := 0) (n := 0) (by decide) (by decide) ?_
          exact sp_iret (u := ()) hx hb hr hlocks hS (by unfold sp_node; (repeat' split) <;> first | (exfalso; omega) | rfl) (hP.sub [] rfl) (hD.sub [] (by decide) rfl) dX7_node_94
      · skip
        have c3i : (k : Int32).toInt = 1 := congrArg Int32.toInt c3
        refine lv_iload_n hx hb dX7_node_18 rfl (lv_at hl 2 rfl) ?_
        refine sp_calli (wr := [(h, .inr (5, [.ref oN, .ref oR, .ref oB, .ref oS, .ref oP, .ref oQ])), (oN, .inr (1, [.ref n0, .ref n1, .ref n2, .ref n3, .ref n4, .ref n5, .int 0])), (n0, .inl (cI, 40, .inl k0)), (n1, .inl (cI, 40, .inl k1)), (n2, .inl (cI, 40, .inl k2)), (n3, .inl (cI, 40, .inl k3)), (n4, .inl (cJ, 40, .inr (.inl k4))), (n5, .inl (cJ, 4, .inr (.inl k5)))]) (wc := []) hP hD hS hA [] [0, 1, 2, 3, 4, 5, 6, 7] rfl rfl (by decide) (by decide) (va_runS (As := [.int x]) (rest := []) ⟨hx, hb, hml, hown, hts⟩ (c_X7_isVariable l D cI cJ cZ H.size (x)) (va_cwS 1 hts gX7_node_X7_isVariable_56 rfl rfl rfl (by decide +kernel) ⟨Nat.le_of_ble_eq_true rfl, Nat.le_of_ble_eq_true rfl⟩) (sp_preS [.int x] hK (hP.sub (ws' := []) [] rfl) (hD.sub (ws' := []) [] (by decide) rfl)) rfl rfl hl.1 rfl (lv_room (Nat.le_of_ble_eq_true rfl)) dX7_node_19 ⟨Nat.le_of_ble_eq_true rfl, Nat.le_of_ble_eq_true rfl⟩) (fun r23 u24 H locs hw25 hP hD hS => ?_)
        rcases hw25 with ⟨rfl, h26⟩ | ⟨rfl, h26⟩
        · skip
          have h26 : 0 ≤ (x : Int32).toInt ∧ (x : Int32).toInt < 4 := h26
          have hP : va_P D vwCl [(h, .inr (5, [.ref oN, .ref oR, .ref oB, .ref oS, .ref oP, .ref oQ])), (oN, .inr (1, [.ref n0, .ref n1, .ref n2, .ref n3, .ref n4, .ref n5, .int 0])), (n0, .inl (cI, 40, .inl k0)), (n1, .inl (cI, 40, .inl k1)), (n2, .inl (cI, 40, .inl k2)), (n3, .inl (cI, 40, .inl k3)), (n4, .inl (cJ, 40, .inr (.inl k4))), (n5, .inl (cJ, 4, .inr (.inl k5)))] H := hP
          have hD : va_D A [(h, .inr (5, [.ref oN, .ref oR, .ref oB, .ref oS, .ref oP, .ref oQ])), (oN, .inr (1, [.ref n0, .ref n1, .ref n2, .ref n3, .ref n4, .ref n5, .int 0])), (n0, .inl (cI, 40, .inl k0)), (n1, .inl (cI, 40, .inl k1)), (n2, .inl (cI, 40, .inl k2)), (n3, .inl (cI, 40, .inl k3)), (n4, .inl (cJ, 40, .inr (.inl k4))), (n5, .inl (cJ, 4, .inr (.inl k5)))] := hD
          refine lv_if_ne (tgt := 27) hx hb dX7_node_22 (by decide) (fun _ => ?_) (fun c27 => absurd c27 (by decide))
          refine lv_iload_n hx hb dX7_node_27 rfl (lv_at hl 1 rfl) ?_
          refine sp_calli (wr := [(h, .inr (5, [.ref oN, .ref oR, .ref oB, .ref oS, .ref oP, .ref oQ])), (oN, .inr (1, [.ref n0, .ref n1, .ref n2, .ref n3, .ref n4, .ref n5, .int 0])), (n0, .inl (cI, 40, .inl k0)), (n1, .inl (cI, 40, .inl k1)), (n2, .inl (cI, 40, .inl k2)), (n3, .inl (cI, 40, .inl k3)), (n4, .inl (cJ, 40, .inr (.inl k4))), (n5, .inl (cJ, 4, .inr (.inl k5)))]) (wc := []) hP hD hS hA [] [0, 1, 2, 3, 4, 5, 6, 7] rfl rfl (by decide) (by decide) (va_runS (As := [.int k]) (rest := []) ⟨hx, hb, hml, hown, hts⟩ (c_X3_looksAtX l D cI cJ cZ H.size (k)) (va_cwS 1 hts gX7_node_X3_looksAtX_60 rfl rfl rfl (by decide +kernel) ⟨Nat.le_of_ble_eq_true rfl, Nat.le_of_ble_eq_true rfl⟩) (sp_preS [.int k] hK (hP.sub (ws' := []) [] rfl) (hD.sub (ws' := []) [] (by decide) rfl)) rfl rfl hl.1 rfl (lv_room (Nat.le_of_ble_eq_true rfl)) dX7_node_28 ⟨Nat.le_of_ble_eq_true rfl, Nat.le_of_ble_eq_true rfl⟩) (fun r28 u29 H locs hw30 hP hD hS => ?_)
          rcases hw30 with ⟨rfl, h31⟩ | ⟨rfl, h31⟩
          · skip
            have h31 : 2 ≤ (k : Int32).toInt ∧ (k : Int32).toInt ≤ 15 := h31
            have hP : va_P D vwCl [(h, .inr (5, [.ref oN, .ref oR, .ref oB, .ref oS, .ref oP, .ref oQ])), (oN, .inr (1, [.ref n0, .ref n1, .ref n2, .ref n3, .ref n4, .ref n5, .int 0])), (n0, .inl (cI, 40, .inl k0)), (n1, .inl (cI, 40, .inl k1)), (n2, .inl (cI, 40, .inl k2)), (n3, .inl (cI, 40, .inl k3)), (n4, .inl (cJ, 40, .inr (.inl k4))), (n5, .inl (cJ, 4, .inr (.inl k5)))] H := hP
            have hD : va_D A [(h, .inr (5, [.ref oN, .ref oR, .ref oB, .ref oS, .ref oP, .ref oQ])), (oN, .inr (1, [.ref n0, .ref n1, .ref n2, .ref n3, .ref n4, .ref n5, .int 0])), (n0, .inl (cI, 40, .inl k0)), (n1, .inl (cI, 40, .inl k1)), (n2, .inl (cI, 40, .inl k2)), (n3, .inl (cI, 40, .inl k3)), (n4, .inl (cJ, 40, .inr (.inl k4))), (n5, .inl (cJ, 4, .inr (.inl k5)))] := hD
            refine lv_if_eq (tgt := 47) hx hb dX7_node_31 (by decide) (fun c32 => absurd c32 (by decide)) (fun _ => ?_)
            refine lv_aload_n hx hb dX7_node_34 rfl (lv_at hl 0 rfl) ?_
            refine va_get (D := D) (ci := 5) (v := .ref oN) (C := RX7) (T := TX7) (N := 6) hx hb hts iX7_node_X7 hown hK hP 0 rfl rfl 0 (by decide) (hts (.fieldLink RX7 16 "FloatSolver" "nodes" "LFloatSolver$Nodes;") (oX7_node_in _ (List.mem_of_getElem? (i := 0) rfl))) (fun _ h9 => h9) rfl dX7_node_35 ?_
            refine lv_iload_n hx hb dX7_node_38 rfl (lv_at hl 2 rfl) ?_
            refine sp_calli (wr := [(h, .inr (5, [.ref oN, .ref oR, .ref oB, .ref oS, .ref oP, .ref oQ])), (n0, .inl (cI, 40, .inl k0)), (n1, .inl (cI, 40, .inl k1)), (n2, .inl (cI, 40, .inl k2)), (n3, .inl (cI, 40, .inl k3)), (n4, .inl (cJ, 40, .inr (.inl k4))), (n5, .inl (cJ, 4, .inr (.inl k5)))]) (wc := [(oN, .inr (1, [.ref n0, .ref n1, .ref n2, .ref n3, .ref n4, .ref n5, .int 0]))]) hP hD hS hA [1] [0, 2, 3, 4, 5, 6, 7] rfl rfl (by decide) (by decide) (va_runV (As := [.int x]) (rest := []) ⟨hx, hb, hml, hown, hts⟩ (c_X3_has l D cI cJ cZ H.size oN n0 n1 n2 n3 n4 n5 (0) (x)) (cwV 1 hts gX7_node_X3_has_63 rfl rfl rfl (by decide +kernel) ⟨Nat.le_of_ble_eq_true rfl, Nat.le_of_ble_eq_true rfl⟩) (sp_preV (ci := 1) (q0 := 0) [.int x] hK (hP.sub (ws' := [(oN, .inr (1, [.ref n0, .ref n1, .ref n2, .ref n3, .ref n4, .ref n5, .int 0]))]) [1] rfl) (hD.sub (ws' := [(oN, .inr (1, [.ref n0, .ref n1, .ref n2, .ref n3, .ref n4, .ref n5, .int 0]))]) [1] (by decide) rfl) rfl rfl) rfl rfl hl.1 rfl (lv_room (Nat.le_of_ble_eq_true rfl)) dX7_node_39 ⟨Nat.le_of_ble_eq_true rfl, Nat.le_of_ble_eq_true rfl⟩) (fun r33 u34 H locs hw35 hP hD hS => ?_)
            rcases hw35 with ⟨rfl, h36⟩ | ⟨rfl, h36⟩
            · skip
              have h36 : 0 ≤ (x : Int32).toInt ∧ (x : Int32).toInt < (0 : Int) := h36
              exact absurd h36 (by omega)
            · skip
              have h36 : ¬ (0 ≤ (x : Int32).toInt ∧ (x : Int32).toInt < (0 : Int)) := h36
              have hP : va_P D vwCl [(h, .inr (5, [.ref oN, .ref oR, .ref oB, .ref oS, .ref oP, .ref oQ])), (n0, .inl (cI, 40, .inl k0)), (n1, .inl (cI, 40, .inl k1)), (n2, .inl (cI, 40, .inl k2)), (n3, .inl (cI, 40, .inl k3)), (n4, .inl (cJ, 40, .inr (.inl k4))), (n5, .inl (cJ, 4, .inr (.inl k5))), (oN, .inr (1, [.ref n0, .ref n1, .ref n2, .ref n3, .ref n4, .ref n5, .int 0]))] H := hP
              have hD : va_D A [(h, .inr (5, [.ref oN, .ref oR, .ref oB, .ref oS, .ref oP, .ref oQ])), (n0, .inl (cI, 40, .inl k0)), (n1, .inl (cI, 40, .inl k1)), (n2, .inl (cI, 40, .inl k2)), (n3, .inl (cI, 40, .inl k3)), (n4, .inl (cJ, 40, .inr (.inl k4))), (n5, .inl (cJ, 4, .inr (.inl k5))), (oN, .inr (1, [.ref n0, .ref n1, .ref n2, .ref n3, .ref n4, .ref n5, .int 0]))] := hD
              refine lv_if_ne (tgt := 47) hx hb dX7_node_42 (by decide) (fun c37 => absurd (by decide) c37) (fun _ => ?_)
              refine lv_iconst (v := (-1)) hx hb dX7_node_45 (by decide) ?_
              refine W.widen (k := 0) (n := 0) (by decide) (by decide) ?_
              exact sp_iret (u := ()) hx hb hr hlocks hS (by unfold sp_node; (repeat' split) <;> first | (exfalso; omega) | rfl) (hP.sub [] rfl) (hD.sub [] (by decide) rfl) dX7_node_46
          · skip
            have h31 : ¬ (2 ≤ (k : Int32).toInt ∧ (k : Int32).toInt ≤ 15) := h31
            have hP : va_P D vwCl [(h, .inr (5, [.ref oN, .ref oR, .ref oB, .ref oS, .ref oP, .ref oQ])), (oN, .inr (1, [.ref n0, .ref n1, .ref n2, .ref n3, .ref n4, .ref n5, .int 0])), (n0, .inl (cI, 40, .inl k0)), (n1, .inl (cI, 40, .inl k1)), (n2, .inl (cI, 40, .inl k2)), (n3, .inl (cI, 40, .inl k3)), (n4, .inl (cJ, 40, .inr (.inl k4))), (n5, .inl (cJ, 4, .inr (.inl k5)))] H := hP
            have hD : va_D A [(h, .inr (5, [.ref oN, .ref oR, .ref oB, .ref oS, .ref oP, .ref oQ])), (oN, .inr (1, [.ref n0, .ref n1, .ref n2, .ref n3, .ref n4, .ref n5, .int 0])), (n0, .inl (cI, 40, .inl k0)), (n1, .inl (cI, 40, .inl k1)), (n2, .inl (cI, 40, .inl k2)), (n3, .inl (cI, 40, .inl k3)), (n4, .inl (cJ, 40, .inr (.inl k4))), (n5, .inl (cJ, 4, .inr (.inl k5)))] := hD
            refine lv_if_eq (tgt := 47) hx hb dX7_node_31 (by decide) (fun _ => ?_) (fun c38 => absurd (by decide) c38)
            refine lv_iload_n hx hb dX7_node_47 rfl (lv_at hl 1 rfl) ?_
            refine sp_calli (wr := [(h, .inr (5, [.ref oN, .ref oR, .ref oB, .ref oS, .ref oP, .ref oQ])), (oN, .inr (1, [.ref n0, .ref n1, .ref n2, .ref n3, .ref n4, .ref n5, .int 0])), (n0, .inl (cI, 40, .inl k0)), (n1, .inl (cI, 40, .inl k1)), (n2, .inl (cI, 40, .inl k2)), (n3, .inl (cI, 40, .inl k3)), (n4, .inl (cJ, 40, .inr (.inl k4))), (n5, .inl (cJ, 4, .inr (.inl k5)))]) (wc := []) hP hD hS hA [] [0, 1, 2, 3, 4, 5, 6, 7] rfl rfl (by decide) (by decide) (va_runS (As := [.int k]) (rest := []) ⟨hx, hb, hml, hown, hts⟩ (c_X3_looksAtY l D cI cJ cZ H.size (k) (by omega)) (va_cwS 1 hts gX7_node_X3_looksAtY_66 rfl rfl rfl (by decide +kernel) ⟨Nat.le_of_ble_eq_true rfl, Nat.le_of_ble_eq_true rfl⟩) (sp_preS [.int k] hK (hP.sub (ws' := []) [] rfl) (hD.sub (ws' := []) [] (by decide) rfl)) rfl rfl hl.1 rfl (lv_room (Nat.le_of_ble_eq_true rfl)) dX7_node_48 ⟨Nat.le_of_ble_eq_true rfl, Nat.le_of_ble_eq_true rfl⟩) (fun r39 u40 H locs hw41 hP hD hS => ?_)
            obtain rfl := hw41
            have hP : va_P D vwCl [(h, .inr (5, [.ref oN, .ref oR, .ref oB, .ref oS, .ref oP, .ref oQ])), (oN, .inr (1, [.ref n0, .ref n1, .ref n2, .ref n3, .ref n4, .ref n5, .int 0])), (n0, .inl (cI, 40, .inl k0)), (n1, .inl (cI, 40, .inl k1)), (n2, .inl (cI, 40, .inl k2)), (n3, .inl (cI, 40, .inl k3)), (n4, .inl (cJ, 40, .inr (.inl k4))), (n5, .inl (cJ, 4, .inr (.inl k5)))] H := hP
            have hD : va_D A [(h, .inr (5, [.ref oN, .ref oR, .ref oB, .ref oS, .ref oP, .ref oQ])), (oN, .inr (1, [.ref n0, .ref n1, .ref n2, .ref n3, .ref n4, .ref n5, .int 0])), (n0, .inl (cI, 40, .inl k0)), (n1, .inl (cI, 40, .inl k1)), (n2, .inl (cI, 40, .inl k2)), (n3, .inl (cI, 40, .inl k3)), (n4, .inl (cJ, 40, .inr (.inl k4))), (n5, .inl (cJ, 4, .inr (.inl k5)))] := hD
            refine lv_if_eq (tgt := 67) hx hb dX7_node_51 (by decide) (fun _ => ?_) (fun c42 => absurd (by decide) c42)
            refine lv_aload_n hx hb dX7_node_67 rfl (lv_at hl 0 rfl) ?_
            refine va_get (D := D) (ci := 5) (v := .ref oN) (C := RX7) (T := TX7) (N := 6) hx hb hts iX7_node_X7 hown hK hP 0 rfl rfl 0 (by decide) (hts (.fieldLink RX7 16 "FloatSolver" "nodes" "LFloatSolver$Nodes;") (oX7_node_in _ (List.mem_of_getElem? (i := 0) rfl))) (fun _ h9 => h9) rfl dX7_node_68 ?_
            refine va_get (D := D) (ci := 1) (v := .int 0) (C := RX3) (T := TX3) (N := 7) hx hb hts iX7_node_X3 hown hK hP 1 rfl rfl 6 (by decide) (hts (.fieldLink RX7 69 "FloatSolver$Nodes" "count" "I") (oX7_node_in _ (List.mem_of_getElem? (i := 1) rfl))) (fun _ h9 => h9) rfl dX7_node_71 ?_
            refine lv_bipush (v := 40) hx hb dX7_node_74 (by decide) ?_
            refine lv_icmp_ne (tgt := 84) hx hb dX7_node_76 (by decide) (fun _ => ?_) (fun c43 => absurd c43 (by decide))
            refine lv_aload_n hx hb dX7_node_84 rfl (lv_at hl 0 rfl) ?_
            refine va_get (D := D) (ci := 5) (v := .ref oN) (C := RX7) (T := TX7) (N := 6) hx hb hts iX7_node_X7 hown hK hP 0 rfl rfl 0 (by decide) (hts (.fieldLink RX7 16 "FloatSolver" "nodes" "LFloatSolver$Nodes;") (oX7_node_in _ (List.mem_of_getElem? (i := 0) rfl))) (fun _ h9 => h9) rfl dX7_node_85 ?_
            refine lv_iload_n hx hb dX7_node_88 rfl (lv_at hl 1 rfl) ?_
            refine lv_iload_n hx hb dX7_node_89 rfl (lv_at hl 2 rfl) ?_
            refine lv_iload_n hx hb dX7_node_90 rfl (lv_at hl 3 rfl) ?_
            refine sp_calli (wr := [(h, .inr (5, [.ref oN, .ref oR, .ref oB, .ref oS, .ref oP, .ref oQ]))]) (wc := [(oN, .inr (1, [.ref n0, .ref n1, .ref n2, .ref n3, .ref n4, .ref n5, .int 0])), (n0, .inl (cI, 40, .inl k0)), (n1, .inl (cI, 40, .inl k1)), (n2, .inl (cI, 40, .inl k2)), (n3, .inl (cI, 40, .inl k3)), (n4, .inl (cJ, 40, .inr (.inl k4))), (n5, .inl (cJ, 4, .inr (.inl k5)))]) hP hD hS hA [1, 2, 3, 4, 5, 6, 7] [0] rfl rfl (by decide) (by decide) (va_runV (As := [.int k, .int x, .int y]) (rest := []) ⟨hx, hb, hml, hown, hts⟩ (c_X3_add l D cI cJ cZ H.size oN n0 n1 n2 n3 n4 n5 k0 k1 k2 k3 k4 k5 (k) (x) (y) (by omega) (by omega) (by omega)) (cwV 3 hts gX7_node_X3_add_73 rfl rfl rfl (by decide +kernel) ⟨Nat.le_of_ble_eq_true rfl, Nat.le_of_ble_eq_true rfl⟩) (sp_preV (ci := 1) (q0 := 0) [.int k, .int x, .int y] hK (hP.sub (ws' := [(oN, .inr (1, [.ref n0, .ref n1, .ref n2, .ref n3, .ref n4, .ref n5, .int 0])), (n0, .inl (cI, 40, .inl k0)), (n1, .inl (cI, 40, .inl k1)), (n2, .inl (cI, 40, .inl k2)), (n3, .inl (cI, 40, .inl k3)), (n4, .inl (cJ, 40, .inr (.inl k4))), (n5, .inl (cJ, 4, .inr (.inl k5)))]) [1, 2, 3, 4, 5, 6, 7] rfl) (hD.sub (ws' := [(oN, .inr (1, [.ref n0, .ref n1, .ref n2, .ref n3, .ref n4, .ref n5, .int 0])), (n0, .inl (cI, 40, .inl k0)), (n1, .inl (cI, 40, .inl k1)), (n2, .inl (cI, 40, .inl k2)), (n3, .inl (cI, 40, .inl k3)), (n4, .inl (cJ, 40, .inr (.inl k4))), (n5, .inl (cJ, 4, .inr (.inl k5)))]) [1, 2, 3, 4, 5, 6, 7] (by decide) rfl) rfl rfl) rfl rfl hl.1 rfl (lv_room (Nat.le_of_ble_eq_true rfl)) dX7_node_91 ⟨Nat.le_of_ble_eq_true rfl, Nat.le_of_ble_eq_true rfl⟩) (fun r44 u45 H locs hw46 hP hD hS => ?_)
            obtain rfl := hw46
            have hP : va_P D vwCl [(h, .inr (5, [.ref oN, .ref oR, .ref oB, .ref oS, .ref oP, .ref oQ]))] H := hP
            have hD : va_D A [(h, .inr (5, [.ref oN, .ref oR, .ref oB, .ref oS, .ref oP, .ref oQ]))] := hD
            refine W.widen (k := 0) (n := 0) (by decide) (by decide) ?_
            exact sp_iret (u := ()) hx hb hr hlocks hS (by unfold sp_node; (repeat' split) <;> first | (exfalso; omega) | rfl) (hP.sub [] rfl) (hD.sub [] (by decide) rfl) dX7_node_94
        · skip
          have h26 : ¬ (0 ≤ (x : Int32).toInt ∧ (x : Int32).toInt < 4) := h26
          have hP : va_P D vwCl [(h, .inr (5, [.ref oN, .ref oR, .ref oB, .ref oS, .ref oP, .ref oQ])), (oN, .inr (1, [.ref n0, .ref n1, .ref n2, .ref n3, .ref n4, .ref n5, .int 0])), (n0, .inl (cI, 40, .inl k0)), (n1, .inl (cI, 40, .inl k1)), (n2, .inl (cI, 40, .inl k2)), (n3, .inl (cI, 40, .inl k3)), (n4, .inl (cJ, 40, .inr (.inl k4))), (n5, .inl (cJ, 4, .inr (.inl k5)))] H := hP
          have hD : va_D A [(h, .inr (5, [.ref oN, .ref oR, .ref oB, .ref oS, .ref oP, .ref oQ])), (oN, .inr (1, [.ref n0, .ref n1, .ref n2, .ref n3, .ref n4, .ref n5, .int 0])), (n0, .inl (cI, 40, .inl k0)), (n1, .inl (cI, 40, .inl k1)), (n2, .inl (cI, 40, .inl k2)), (n3, .inl (cI, 40, .inl k3)), (n4, .inl (cJ, 40, .inr (.inl k4))), (n5, .inl (cJ, 4, .inr (.inl k5)))] := hD
          refine lv_if_ne (tgt := 27) hx hb dX7_node_22 (by decide) (fun c47 => absurd (by decide) c47) (fun _ => ?_)
          refine lv_iconst (v := (-1)) hx hb dX7_node_25 (by decide) ?_
          refine W.widen (k := 0) (n := 0) (by decide) (by decide) ?_
          exact sp_iret (u := ()) hx hb hr hlocks hS (by unfold sp_node; (repeat' split) <;> first | (exfalso; omega) | rfl) (hP.sub [] rfl) (hD.sub [] (by decide) rfl) dX7_node_26
    · skip
      have c2i : ¬ (k : Int32).toInt ≤ 15 := fun h => c2 (Int32.le_iff_toInt_le.mpr h)
      refine lv_bipush (v := (-2)) hx hb dX7_node_10 (by decide) ?_
      refine W.widen (k := 0) (n := 0) (by decide) (by decide) ?_
      exact sp_iret (u := ()) hx hb hr hlocks hS (by unfold sp_node; (repeat' split) <;> first | (exfalso; omega) | rfl) (hP.sub [] rfl) (hD.sub [] (by decide) rfl) dX7_node_12
def oX7_rule : List Cond := [.fieldLink RX7 16 "FloatSolver" "nodes" "LFloatSolver$Nodes;"]
def wpX7_rule : List Cond := .code yX7_rule cX7_rule 5 (some .int) :: (oX7_rule ++ (wsX70 ++ ((wsV RX7 63 RX3 yX3_has wpX3_has) ++ ([] : List Cond))))
theorem oX7_rule_in : ∀ w ∈ oX7_rule, w ∈ wpX7_rule := fun w h => List.mem_cons_of_mem _ (List.mem_append_left _ h)
theorem gwoX7_rule : ∀ w ∈ oX7_rule, goodWord w = true := by decide +kernel
theorem gwX7_rule : ∀ w ∈ wpX7_rule, goodWord w = true := by
  unfold wpX7_rule
  exact List.forall_mem_cons.mpr ⟨rfl, List.forall_mem_append.mpr ⟨gwoX7_rule, List.forall_mem_append.mpr ⟨gwX7, List.forall_mem_append.mpr ⟨(sp_gV gwX3_has), fun _ h => absurd h List.not_mem_nil⟩⟩⟩⟩
set_option maxRecDepth 100000 in
theorem toX7_rule : ∀ w ∈ oX7_rule, w ∈ lw_tbl := by
  unfold oX7_rule
  exact List.forall_mem_cons.mpr ⟨(List.mem_of_getElem? (i := 239) (by decide +kernel)), fun _ h => absurd h List.not_mem_nil⟩
set_option maxRecDepth 100000 in
theorem tX7_rule : ∀ w ∈ wpX7_rule, w ∈ lw_tbl := by
  unfold wpX7_rule
  exact List.forall_mem_cons.mpr ⟨(List.mem_of_getElem? (i := 294) (by rfl)), List.forall_mem_append.mpr ⟨toX7_rule, List.forall_mem_append.mpr ⟨in_wsX70, List.forall_mem_append.mpr ⟨(sp_tV (List.mem_of_getElem? (i := 268) (by decide +kernel)) (List.mem_of_getElem? (i := 269) (by decide +kernel)) (List.mem_of_getElem? (i := 270) (by decide +kernel)) (List.mem_of_getElem? (i := 39) (by decide +kernel)) tX3_has), fun _ h => absurd h List.not_mem_nil⟩⟩⟩⟩
theorem iX7_rule_X7 : ∀ w ∈ wsX70, w ∈ wpX7_rule := fun w h => List.mem_cons_of_mem _ (List.mem_append_right _ (List.mem_append_left _ h))
theorem gX7_rule_X3_has_63 : GoodIn wpX7_rule (wsV RX7 63 RX3 yX3_has wpX3_has) := fun w h => ⟨List.mem_cons_of_mem _ (List.mem_append_right _ (List.mem_append_right _ (List.mem_append_left _ h))), good_of_word (sp_gV gwX3_has w h)⟩
set_option maxHeartbeats 4000000 in
set_option maxRecDepth 100000 in
theorem c_X7_rule (l : Launch) (D : va_G) (cI cJ cZ : ClassId) (sz : Nat) (h oN oR oB oS oP oQ : Nat) (n0 n1 n2 n3 n4 n5 : Nat) (k a b : Int32) : Met l yX7_rule wpX7_rule ({ frames := 1, cells := 0, slots := 0, locals := 21 }) (va_Pc [.ref h, .int k, .int a, .int b] (sp_pre D vwCl (sp_ty cI cJ cZ) [(h, .inr (5, [.ref oN, .ref oR, .ref oB, .ref oS, .ref oP, .ref oQ])), (oN, .inr (1, [.ref n0, .ref n1, .ref n2, .ref n3, .ref n4, .ref n5, .int 0]))] sz)) (va_Qi (fun (r : Int32) (_ : Unit) => r = -1) (sp_B D vwCl (va_A [(h, .inr (5, [.ref oN, .ref oR, .ref oB, .ref oS, .ref oP, .ref oQ])), (oN, .inr (1, [.ref n0, .ref n1, .ref n2, .ref n3, .ref n4, .ref n5, .int 0]))] sz) (fun (_ : Unit) => [])) (va_A [(h, .inr (5, [.ref oN, .ref oR, .ref oB, .ref oS, .ref oP, .ref oQ])), (oN, .inr (1, [.ref n0, .ref n1, .ref n2, .ref n3, .ref n4, .ref n5, .int 0]))] sz)) 0 0 (va_A [(h, .inr (5, [.ref oN, .ref oR, .ref oB, .ref oS, .ref oP, .ref oQ])), (oN, .inr (1, [.ref n0, .ref n1, .ref n2, .ref n3, .ref n4, .ref n5, .int 0]))] sz) := by
  refine sp_ofW (Qc := fun A => va_Qi (fun (r : Int32) (_ : Unit) => r = -1) (sp_B D vwCl A (fun (_ : Unit) => [])) A) (by decide) rfl (Nat.le_of_ble_eq_true rfl) (fun p e s m below meth c A ls H locs C0 hA hS hP hK hD hl => ?_)
  obtain ⟨hx, hb, hr, hts, hown, hlocks, hml, hin⟩ := C0
  have hown : s.vm.findClass RX7 = some m.cls := hown
  have hl : lv_has ls 5 [(0, .ref h), (1, .int k), (2, .int a), (3, .int b)] := hl
  have hK : va_K D vwCl [(cI, .int), (cJ, .long), (cZ, .boolean)] s := hK
  refine lv_iload_n hx hb dX7_rule_0 rfl (lv_at hl 1 rfl) ?_
  refine lv_iconst (v := 4) hx hb dX7_rule_1 (by decide) ?_
  refine lv_icmp_eq (tgt := 14) hx hb dX7_rule_2 (by decide) (fun c1 => ?_) (fun c1 => ?_)
  · skip
    have c1i : (k : Int32).toInt = 4 := congrArg Int32.toInt c1
    refine lv_iconst (v := 0) hx hb dX7_rule_14 (by decide) ?_
    refine lv_istore (lv' := [(4, .int 0), (0, .ref h), (1, .int k), (2, .int a), (3, .int b)]) hx hb dX7_rule_15 hl (by decide) rfl (fun ls hl => ?_)
    refine lv_aload_n hx hb dX7_rule_17 rfl (lv_at hl 1 rfl) ?_
    refine va_get (D := D) (ci := 5) (v := .ref oN) (C := RX7) (T := TX7) (N := 6) hx hb hts iX7_rule_X7 hown hK hP 0 rfl rfl 0 (by decide) (hts (.fieldLink RX7 16 "FloatSolver" "nodes" "LFloatSolver$Nodes;") (oX7_rule_in _ (List.mem_of_getElem? (i := 0) rfl))) (fun _ h9 => h9) rfl dX7_rule_18 ?_
    refine lv_iload_n hx hb dX7_rule_21 rfl (lv_at hl 3 rfl) ?_
    refine sp_calli (wr := [(h, .inr (5, [.ref oN, .ref oR, .ref oB, .ref oS, .ref oP, .ref oQ]))]) (wc := [(oN, .inr (1, [.ref n0, .ref n1, .ref n2, .ref n3, .ref n4, .ref n5, .int 0]))]) hP hD hS hA [1] [0] rfl rfl (by decide) (by decide) (va_runV (As := [.int a]) (rest := []) ⟨hx, hb, hml, hown, hts⟩ (c_X3_has l D cI cJ cZ H.size oN n0 n1 n2 n3 n4 n5 (0) (a)) (cwV 1 hts gX7_rule_X3_has_63 rfl rfl rfl (by decide +kernel) ⟨Nat.le_of_ble_eq_true rfl, Nat.le_of_ble_eq_true rfl⟩) (sp_preV (ci := 1) (q0 := 0) [.int a] hK (hP.sub (ws' := [(oN, .inr (1, [.ref n0, .ref n1, .ref n2, .ref n3, .ref n4, .ref n5, .int 0]))]) [1] rfl) (hD.sub (ws' := [(oN, .inr (1, [.ref n0, .ref n1, .ref n2, .ref n3, .ref n4, .ref n5, .int 0]))]) [1] (by decide) rfl) rfl rfl) rfl rfl hl.1 rfl (lv_room (Nat.le_of_ble_eq_true rfl)) dX7_rule_22 ⟨Nat.le_of_ble_eq_true rfl, Nat.le_of_ble_eq_true rfl⟩) (fun r2 u3 H locs hw4 hP hD hS => ?_)
    rcases hw4 with ⟨rfl, h5⟩ | ⟨rfl, h5⟩
    · skip
      have h5 : 0 ≤ (a : Int32).toInt ∧ (a : Int32).toInt < (0 : Int) := h5
      exact absurd h5 (by omega)
    · skip
      have h5 : ¬ (0 ≤ (a : Int32).toInt ∧ (a : Int32).toInt < (0 : Int)) := h5
      have hP : va_P D vwCl [(h, .inr (5, [.ref oN, .ref oR, .ref oB, .ref oS, .ref oP, .ref oQ])), (oN, .inr (1, [.ref n0, .ref n1, .ref n2, .ref n3, .ref n4, .ref n5, .int 0]))] H := hP
      have hD : va_D A [(h, .inr (5, [.ref oN, .ref oR, .ref oB, .ref oS, .ref oP, .ref oQ])), (oN, .inr (1, [.ref n0, .ref n1, .ref n2, .ref n3, .ref n4, .ref n5, .int 0]))] := hD
      refine lv_if_eq (tgt := 44) hx hb dX7_rule_25 (by decide) (fun _ => ?_) (fun c6 => absurd (by decide) c6)
      refine lv_iconst (v := (-1)) hx hb dX7_rule_44 (by decide) ?_
      refine W.widen (k := 0) (n := 0) (by decide) (by decide) ?_
      exact sp_iret (u := ()) hx hb hr hlocks hS rfl (hP.sub [] rfl) (hD.sub [] (by decide) rfl) dX7_rule_45
  · skip
    have c1i : ¬ (k : Int32).toInt = 4 := fun h => c1 (Int32.toInt_inj.mp h)
    refine lv_iload_n hx hb dX7_rule_5 rfl (lv_at hl 1 rfl) ?_
    refine lv_iconst (v := 5) hx hb dX7_rule_6 (by decide) ?_
    refine lv_icmp_eq (tgt := 14) hx hb dX7_rule_7 (by decide) (fun c7 => ?_) (fun c7 => ?_)
    · skip
      have c7i : (k : Int32).toInt = 5 := congrArg Int32.toInt c7
      refine lv_iconst (v := 0) hx hb dX7_rule_14 (by decide) ?_
      refine lv_istore (lv' := [(4, .int 0), (0, .ref h), (1, .int k), (2, .int a), (3, .int b)]) hx hb dX7_rule_15 hl (by decide) rfl (fun ls hl => ?_)
      refine lv_aload_n hx hb dX7_rule_17 rfl (lv_at hl 1 rfl) ?_
      refine va_get (D := D) (ci := 5) (v := .ref oN) (C := RX7) (T := TX7) (N := 6) hx hb hts iX7_rule_X7 hown hK hP 0 rfl rfl 0 (by decide) (hts (.fieldLink RX7 16 "FloatSolver" "nodes" "LFloatSolver$Nodes;") (oX7_rule_in _ (List.mem_of_getElem? (i := 0) rfl))) (fun _ h9 => h9) rfl dX7_rule_18 ?_
      refine lv_iload_n hx hb dX7_rule_21 rfl (lv_at hl 3 rfl) ?_
      refine sp_calli (wr := [(h, .inr (5, [.ref oN, .ref oR, .ref oB, .ref oS, .ref oP, .ref oQ]))]) (wc := [(oN, .inr (1, [.ref n0, .ref n1, .ref n2, .ref n3, .ref n4, .ref n5, .int 0]))]) hP hD hS hA [1] [0] rfl rfl (by decide) (by decide) (va_runV (As := [.int a]) (rest := []) ⟨hx, hb, hml, hown, hts⟩ (c_X3_has l D cI cJ cZ H.size oN n0 n1 n2 n3 n4 n5 (0) (a)) (cwV 1 hts gX7_rule_X3_has_63 rfl rfl rfl (by decide +kernel) ⟨Nat.le_of_ble_eq_true rfl, Nat.le_of_ble_eq_true rfl⟩) (sp_preV (ci := 1) (q0 := 0) [.int a] hK (hP.sub (ws' := [(oN, .inr (1, [.ref n0, .ref n1, .ref n2, .ref n3, .ref n4, .ref n5, .int 0]))]) [1] rfl) (hD.sub (ws' := [(oN, .inr (1, [.ref n0, .ref n1, .ref n2, .ref n3, .ref n4, .ref n5, .int 0]))]) [1] (by decide) rfl) rfl rfl) rfl rfl hl.1 rfl (lv_room (Nat.le_of_ble_eq_true rfl)) dX7_rule_22 ⟨Nat.le_of_ble_eq_true rfl, Nat.le_of_ble_eq_true rfl⟩) (fun r8 u9 H locs hw10 hP hD hS => ?_)
      rcases hw10 with ⟨rfl, h11⟩ | ⟨rfl, h11⟩
      · skip
        have h11 : 0 ≤ (a : Int32).toInt ∧ (a : Int32).toInt < (0 : Int) := h11
        exact absurd h11 (by omega)
      · skip
        have h11 : ¬ (0 ≤ (a : Int32).toInt ∧ (a : Int32).toInt < (0 : Int)) := h11
        have hP : va_P D vwCl [(h, .inr (5, [.ref oN, .ref oR, .ref oB, .ref oS, .ref oP, .ref oQ])), (oN, .inr (1, [.ref n0, .ref n1, .ref n2, .ref n3, .ref n4, .ref n5, .int 0]))] H := hP
        have hD : va_D A [(h, .inr (5, [.ref oN, .ref oR, .ref oB, .ref oS, .ref oP, .ref oQ])), (oN, .inr (1, [.ref n0, .ref n1, .ref n2, .ref n3, .ref n4, .ref n5, .int 0]))] := hD
        refine lv_if_eq (tgt := 44) hx hb dX7_rule_25 (by decide) (fun _ => ?_) (fun c12 => absurd (by decide) c12)
        refine lv_iconst (v := (-1)) hx hb dX7_rule_44 (by decide) ?_
        refine W.widen (k := 0) (n := 0) (by decide) (by decide) ?_
        exact sp_iret (u := ()) hx hb hr hlocks hS rfl (hP.sub [] rfl) (hD.sub [] (by decide) rfl) dX7_rule_45
    · skip
      have c7i : ¬ (k : Int32).toInt = 5 := fun h => c7 (Int32.toInt_inj.mp h)
      refine lv_iconst (v := 1) hx hb dX7_rule_10 (by decide) ?_
      refine lv_goto (tgt := 15) hx hb dX7_rule_11 (by decide) ?_
      refine lv_istore (lv' := [(4, .int 1), (0, .ref h), (1, .int k), (2, .int a), (3, .int b)]) hx hb dX7_rule_15 hl (by decide) rfl (fun ls hl => ?_)
      refine lv_aload_n hx hb dX7_rule_17 rfl (lv_at hl 1 rfl) ?_
      refine va_get (D := D) (ci := 5) (v := .ref oN) (C := RX7) (T := TX7) (N := 6) hx hb hts iX7_rule_X7 hown hK hP 0 rfl rfl 0 (by decide) (hts (.fieldLink RX7 16 "FloatSolver" "nodes" "LFloatSolver$Nodes;") (oX7_rule_in _ (List.mem_of_getElem? (i := 0) rfl))) (fun _ h9 => h9) rfl dX7_rule_18 ?_
      refine lv_iload_n hx hb dX7_rule_21 rfl (lv_at hl 3 rfl) ?_
      refine sp_calli (wr := [(h, .inr (5, [.ref oN, .ref oR, .ref oB, .ref oS, .ref oP, .ref oQ]))]) (wc := [(oN, .inr (1, [.ref n0, .ref n1, .ref n2, .ref n3, .ref n4, .ref n5, .int 0]))]) hP hD hS hA [1] [0] rfl rfl (by decide) (by decide) (va_runV (As := [.int a]) (rest := []) ⟨hx, hb, hml, hown, hts⟩ (c_X3_has l D cI cJ cZ H.size oN n0 n1 n2 n3 n4 n5 (0) (a)) (cwV 1 hts gX7_rule_X3_has_63 rfl rfl rfl (by decide +kernel) ⟨Nat.le_of_ble_eq_true rfl, Nat.le_of_ble_eq_true rfl⟩) (sp_preV (ci := 1) (q0 := 0) [.int a] hK (hP.sub (ws' := [(oN, .inr (1, [.ref n0, .ref n1, .ref n2, .ref n3, .ref n4, .ref n5, .int 0]))]) [1] rfl) (hD.sub (ws' := [(oN, .inr (1, [.ref n0, .ref n1, .ref n2, .ref n3, .ref n4, .ref n5, .int 0]))]) [1] (by decide) rfl) rfl rfl) rfl rfl hl.1 rfl (lv_room (Nat.le_of_ble_eq_true rfl)) dX7_rule_22 ⟨Nat.le_of_ble_eq_true rfl, Nat.le_of_ble_eq_true rfl⟩) (fun r13 u14 H locs hw15 hP hD hS => ?_)
      rcases hw15 with ⟨rfl, h16⟩ | ⟨rfl, h16⟩
      · skip
        have h16 : 0 ≤ (a : Int32).toInt ∧ (a : Int32).toInt < (0 : Int) := h16
        exact absurd h16 (by omega)
      · skip
        have h16 : ¬ (0 ≤ (a : Int32).toInt ∧ (a : Int32).toInt < (0 : Int)) := h16
        have hP : va_P D vwCl [(h, .inr (5, [.ref oN, .ref oR, .ref oB, .ref oS, .ref oP, .ref oQ])), (oN, .inr (1, [.ref n0, .ref n1, .ref n2, .ref n3, .ref n4, .ref n5, .int 0]))] H := hP
        have hD : va_D A [(h, .inr (5, [.ref oN, .ref oR, .ref oB, .ref oS, .ref oP, .ref oQ])), (oN, .inr (1, [.ref n0, .ref n1, .ref n2, .ref n3, .ref n4, .ref n5, .int 0]))] := hD
        refine lv_if_eq (tgt := 44) hx hb dX7_rule_25 (by decide) (fun _ => ?_) (fun c17 => absurd (by decide) c17)
        refine lv_iconst (v := (-1)) hx hb dX7_rule_44 (by decide) ?_
        refine W.widen (k := 0) (n := 0) (by decide) (by decide) ?_
        exact sp_iret (u := ()) hx hb hr hlocks hS rfl (hP.sub [] rfl) (hD.sub [] (by decide) rfl) dX7_rule_45
def oX4_clear : List Cond := [.fieldLink RX4 21 "FloatSolver$Rules" "count" "I"]
def wpX4_clear : List Cond := .code yX4_clear cX4_clear 2 (some .int) :: (oX4_clear ++ (wsX40 ++ ([] : List Cond)))
theorem oX4_clear_in : ∀ w ∈ oX4_clear, w ∈ wpX4_clear := fun w h => List.mem_cons_of_mem _ (List.mem_append_left _ h)
theorem gwoX4_clear : ∀ w ∈ oX4_clear, goodWord w = true := by decide +kernel
theorem gwX4_clear : ∀ w ∈ wpX4_clear, goodWord w = true := by
  unfold wpX4_clear
  exact List.forall_mem_cons.mpr ⟨rfl, List.forall_mem_append.mpr ⟨gwoX4_clear, List.forall_mem_append.mpr ⟨gwX4, fun _ h => absurd h List.not_mem_nil⟩⟩⟩
set_option maxRecDepth 100000 in
theorem toX4_clear : ∀ w ∈ oX4_clear, w ∈ lw_tbl := by
  unfold oX4_clear
  exact List.forall_mem_cons.mpr ⟨(List.mem_of_getElem? (i := 112) (by decide +kernel)), fun _ h => absurd h List.not_mem_nil⟩
set_option maxRecDepth 100000 in
theorem tX4_clear : ∀ w ∈ wpX4_clear, w ∈ lw_tbl := by
  unfold wpX4_clear
  exact List.forall_mem_cons.mpr ⟨(List.mem_of_getElem? (i := 306) (by rfl)), List.forall_mem_append.mpr ⟨toX4_clear, List.forall_mem_append.mpr ⟨in_wsX40, fun _ h => absurd h List.not_mem_nil⟩⟩⟩
theorem iX4_clear_X4 : ∀ w ∈ wsX40, w ∈ wpX4_clear := fun w h => List.mem_cons_of_mem _ (List.mem_append_right _ (List.mem_append_left _ h))
set_option maxHeartbeats 4000000 in
set_option maxRecDepth 100000 in
theorem c_X4_clear (l : Launch) (D : va_G) (cI cJ cZ : ClassId) (sz : Nat) (oR : Nat) (r0 r1 r2 : Nat) (n : Int32) : Met l yX4_clear wpX4_clear ({ frames := 0, cells := 0, slots := 0, locals := 0 }) (va_Pc [.ref oR] (sp_pre D vwCl (sp_ty cI cJ cZ) [(oR, .inr (2, [.ref r0, .ref r1, .ref r2, .int n]))] sz)) (va_Qi (fun (r : Int32) (_ : Unit) => r = n) (sp_B D vwCl (va_A [(oR, .inr (2, [.ref r0, .ref r1, .ref r2, .int n]))] sz) (fun (_ : Unit) => [])) (va_A [(oR, .inr (2, [.ref r0, .ref r1, .ref r2, .int n]))] sz)) 0 0 (va_A [(oR, .inr (2, [.ref r0, .ref r1, .ref r2, .int n]))] sz) := by
  refine sp_ofW (Qc := fun A => va_Qi (fun (r : Int32) (_ : Unit) => r = n) (sp_B D vwCl A (fun (_ : Unit) => [])) A) (by decide) rfl (Nat.le_of_ble_eq_true rfl) (fun p e s m below meth c A ls H locs C0 hA hS hP hK hD hl => ?_)
  obtain ⟨hx, hb, hr, hts, hown, hlocks, hml, hin⟩ := C0
  have hown : s.vm.findClass RX4 = some m.cls := hown
  have hl : lv_has ls 2 [(0, .ref oR)] := hl
  have hK : va_K D vwCl [(cI, .int), (cJ, .long), (cZ, .boolean)] s := hK
  refine lv_aload_n hx hb dX4_clear_0 rfl (lv_at hl 0 rfl) ?_
  refine va_get (D := D) (ci := 2) (v := .int n) (C := RX4) (T := TX4) (N := 4) hx hb hts iX4_clear_X4 hown hK hP 0 rfl rfl 3 (by decide) (hts (.fieldLink RX4 21 "FloatSolver$Rules" "count" "I") (oX4_clear_in _ (List.mem_of_getElem? (i := 0) rfl))) (fun _ h9 => h9) rfl dX4_clear_1 ?_
  refine lv_istore_n (lv' := [(1, .int n), (0, .ref oR)]) hx hb dX4_clear_4 rfl hl (by decide) rfl (fun ls hl => ?_)
  refine lv_aload_n hx hb dX4_clear_5 rfl (lv_at hl 1 rfl) ?_
  refine lv_iconst (v := 0) hx hb dX4_clear_6 (by decide) ?_
  refine va_put (D := D) (ci := 2) (v := .int 0) (ty := .int) (C := RX4) (T := TX4) (N := 4) hx hb hts iX4_clear_X4 tyX4 tyX4_ok nmX4 hown hK hP hD hS 0 rfl rfl 3 (by decide) (hts (.fieldLink RX4 21 "FloatSolver$Rules" "count" "I") (oX4_clear_in _ (List.mem_of_getElem? (i := 0) rfl))) (fun _ h9 => h9) rfl (by decide +kernel) rfl rfl (Nat.le_of_ble_eq_true rfl) dX4_clear_7 (fun H locs hP hD hS => ?_)
  have hP : va_P D vwCl [(oR, .inr (2, [.ref r0, .ref r1, .ref r2, .int 0]))] H := hP
  have hD : va_D A [(oR, .inr (2, [.ref r0, .ref r1, .ref r2, .int 0]))] := hD
  refine lv_iload_n hx hb dX4_clear_10 rfl (lv_at hl 0 rfl) ?_
  refine W.widen (k := 0) (n := 0) (by decide) (by decide) ?_
  exact sp_iret (u := ()) hx hb hr hlocks hS rfl (hP.sub [] rfl) (hD.sub [] (by decide) rfl) dX4_clear_11
def oX7_noRules : List Cond := [.fieldLink RX7 23 "FloatSolver" "rules" "LFloatSolver$Rules;"]
def wpX7_noRules : List Cond := .code yX7_noRules cX7_noRules 1 (some .int) :: (oX7_noRules ++ (wsX70 ++ ((wsV RX7 79 RX4 yX4_clear wpX4_clear) ++ ([] : List Cond))))
theorem oX7_noRules_in : ∀ w ∈ oX7_noRules, w ∈ wpX7_noRules := fun w h => List.mem_cons_of_mem _ (List.mem_append_left _ h)
theorem gwoX7_noRules : ∀ w ∈ oX7_noRules, goodWord w = true := by decide +kernel
theorem gwX7_noRules : ∀ w ∈ wpX7_noRules, goodWord w = true := by
  unfold wpX7_noRules
  exact List.forall_mem_cons.mpr ⟨rfl, List.forall_mem_append.mpr ⟨gwoX7_noRules, List.forall_mem_append.mpr ⟨gwX7, List.forall_mem_append.mpr ⟨(sp_gV gwX4_clear), fun _ h => absurd h List.not_mem_nil⟩⟩⟩⟩
set_option maxRecDepth 100000 in
theorem toX7_noRules : ∀ w ∈ oX7_noRules, w ∈ lw_tbl := by
  unfold oX7_noRules
  exact List.forall_mem_cons.mpr ⟨(List.mem_of_getElem? (i := 240) (by decide +kernel)), fun _ h => absurd h List.not_mem_nil⟩
set_option maxRecDepth 100000 in
theorem tX7_noRules : ∀ w ∈ wpX7_noRules, w ∈ lw_tbl := by
  unfold wpX7_noRules
  exact List.forall_mem_cons.mpr ⟨(List.mem_of_getElem? (i := 302) (by rfl)), List.forall_mem_append.mpr ⟨toX7_noRules, List.forall_mem_append.mpr ⟨in_wsX70, List.forall_mem_append.mpr ⟨(sp_tV (List.mem_of_getElem? (i := 303) (by decide +kernel)) (List.mem_of_getElem? (i := 304) (by decide +kernel)) (List.mem_of_getElem? (i := 305) (by decide +kernel)) (List.mem_of_getElem? (i := 40) (by decide +kernel)) tX4_clear), fun _ h => absurd h List.not_mem_nil⟩⟩⟩⟩
theorem iX7_noRules_X7 : ∀ w ∈ wsX70, w ∈ wpX7_noRules := fun w h => List.mem_cons_of_mem _ (List.mem_append_right _ (List.mem_append_left _ h))
theorem gX7_noRules_X4_clear_79 : GoodIn wpX7_noRules (wsV RX7 79 RX4 yX4_clear wpX4_clear) := fun w h => ⟨List.mem_cons_of_mem _ (List.mem_append_right _ (List.mem_append_right _ (List.mem_append_left _ h))), good_of_word (sp_gV gwX4_clear w h)⟩
set_option maxHeartbeats 4000000 in
set_option maxRecDepth 100000 in
theorem c_X7_noRules (l : Launch) (D : va_G) (cI cJ cZ : ClassId) (sz : Nat) (h oN oR oB oS oP oQ : Nat) (r0 r1 r2 : Nat) : Met l yX7_noRules wpX7_noRules ({ frames := 1, cells := 0, slots := 0, locals := 21 }) (va_Pc [.ref h] (sp_pre D vwCl (sp_ty cI cJ cZ) [(h, .inr (5, [.ref oN, .ref oR, .ref oB, .ref oS, .ref oP, .ref oQ])), (oR, .inr (2, [.ref r0, .ref r1, .ref r2, .int 0]))] sz)) (va_Qi (fun (r : Int32) (_ : Unit) => r = 0) (sp_B D vwCl (va_A [(h, .inr (5, [.ref oN, .ref oR, .ref oB, .ref oS, .ref oP, .ref oQ])), (oR, .inr (2, [.ref r0, .ref r1, .ref r2, .int 0]))] sz) (fun (_ : Unit) => [])) (va_A [(h, .inr (5, [.ref oN, .ref oR, .ref oB, .ref oS, .ref oP, .ref oQ])), (oR, .inr (2, [.ref r0, .ref r1, .ref r2, .int 0]))] sz)) 0 0 (va_A [(h, .inr (5, [.ref oN, .ref oR, .ref oB, .ref oS, .ref oP, .ref oQ])), (oR, .inr (2, [.ref r0, .ref r1, .ref r2, .int 0]))] sz) := by
  refine sp_ofW (Qc := fun A => va_Qi (fun (r : Int32) (_ : Unit) => r = 0) (sp_B D vwCl A (fun (_ : Unit) => [])) A) (by decide) rfl (Nat.le_of_ble_eq_true rfl) (fun p e s m below meth c A ls H locs C0 hA hS hP hK hD hl => ?_)
  obtain ⟨hx, hb, hr, hts, hown, hlocks, hml, hin⟩ := C0
  have hown : s.vm.findClass RX7 = some m.cls := hown
  have hl : lv_has ls 1 [(0, .ref h)] := hl
  have hK : va_K D vwCl [(cI, .int), (cJ, .long), (cZ, .boolean)] s := hK
  refine lv_aload_n hx hb dX7_noRules_0 rfl (lv_at hl 0 rfl) ?_
  refine va_get (D := D) (ci := 5) (v := .ref oR) (C := RX7) (T := TX7) (N := 6) hx hb hts iX7_noRules_X7 hown hK hP 0 rfl rfl 1 (by decide) (hts (.fieldLink RX7 23 "FloatSolver" "rules" "LFloatSolver$Rules;") (oX7_noRules_in _ (List.mem_of_getElem? (i := 0) rfl))) (fun _ h9 => h9) rfl dX7_noRules_1 ?_
  refine sp_calli (wr := [(h, .inr (5, [.ref oN, .ref oR, .ref oB, .ref oS, .ref oP, .ref oQ]))]) (wc := [(oR, .inr (2, [.ref r0, .ref r1, .ref r2, .int 0]))]) hP hD hS hA [1] [0] rfl rfl (by decide) (by decide) (va_runV (As := []) (rest := []) ⟨hx, hb, hml, hown, hts⟩ (c_X4_clear l D cI cJ cZ H.size oR r0 r1 r2 0) (cwV 0 hts gX7_noRules_X4_clear_79 rfl rfl rfl (by decide +kernel) ⟨Nat.le_of_ble_eq_true rfl, Nat.le_of_ble_eq_true rfl⟩) (sp_preV (ci := 2) (q0 := 0) [] hK (hP.sub (ws' := [(oR, .inr (2, [.ref r0, .ref r1, .ref r2, .int 0]))]) [1] rfl) (hD.sub (ws' := [(oR, .inr (2, [.ref r0, .ref r1, .ref r2, .int 0]))]) [1] (by decide) rfl) rfl rfl) rfl rfl hl.1 rfl (lv_room (Nat.le_of_ble_eq_true rfl)) dX7_noRules_4 ⟨Nat.le_of_ble_eq_true rfl, Nat.le_of_ble_eq_true rfl⟩) (fun r1 u2 H locs hw3 hP hD hS => ?_)
  obtain rfl := hw3
  have hP : va_P D vwCl [(h, .inr (5, [.ref oN, .ref oR, .ref oB, .ref oS, .ref oP, .ref oQ]))] H := hP
  have hD : va_D A [(h, .inr (5, [.ref oN, .ref oR, .ref oB, .ref oS, .ref oP, .ref oQ]))] := hD
  refine W.widen (k := 0) (n := 0) (by decide) (by decide) ?_
  exact sp_iret (u := ()) hx hb hr hlocks hS rfl (hP.sub [] rfl) (hD.sub [] (by decide) rfl) dX7_noRules_7
def oX1_put : List Cond := [.fieldLink RX1 9 "FloatSolver$Box" "low" "[I", .fieldLink RX1 15 "FloatSolver$Box" "high" "[I"]
def wpX1_put : List Cond := .code yX1_put cX1_put 4 none :: (oX1_put ++ (wsX10 ++ ([] : List Cond)))
theorem oX1_put_in : ∀ w ∈ oX1_put, w ∈ wpX1_put := fun w h => List.mem_cons_of_mem _ (List.mem_append_left _ h)
theorem gwoX1_put : ∀ w ∈ oX1_put, goodWord w = true := by decide +kernel
theorem gwX1_put : ∀ w ∈ wpX1_put, goodWord w = true := by
  unfold wpX1_put
  exact List.forall_mem_cons.mpr ⟨rfl, List.forall_mem_append.mpr ⟨gwoX1_put, List.forall_mem_append.mpr ⟨gwX1, fun _ h => absurd h List.not_mem_nil⟩⟩⟩
set_option maxRecDepth 100000 in
theorem toX1_put : ∀ w ∈ oX1_put, w ∈ lw_tbl := by
  unfold oX1_put
  exact List.forall_mem_cons.mpr ⟨(List.mem_of_getElem? (i := 134) (by decide +kernel)), List.forall_mem_cons.mpr ⟨(List.mem_of_getElem? (i := 138) (by decide +kernel)), fun _ h => absurd h List.not_mem_nil⟩⟩
set_option maxRecDepth 100000 in
theorem tX1_put : ∀ w ∈ wpX1_put, w ∈ lw_tbl := by
  unfold wpX1_put
  exact List.forall_mem_cons.mpr ⟨(List.mem_of_getElem? (i := 319) (by rfl)), List.forall_mem_append.mpr ⟨toX1_put, List.forall_mem_append.mpr ⟨in_wsX10, fun _ h => absurd h List.not_mem_nil⟩⟩⟩
theorem iX1_put_X1 : ∀ w ∈ wsX10, w ∈ wpX1_put := fun w h => List.mem_cons_of_mem _ (List.mem_append_right _ (List.mem_append_left _ h))
set_option maxHeartbeats 4000000 in
set_option maxRecDepth 100000 in
theorem c_X1_put (l : Launch) (D : va_G) (cI cJ cZ : ClassId) (sz : Nat) (oB b0 b1 : Nat) (fb gb : Nat → Int32) (v lo hi : Int32) (hv : 0 ≤ v.toInt ∧ v.toInt < 4) : Met l yX1_put wpX1_put ({ frames := 0, cells := 0, slots := 0, locals := 0 }) (va_Pc [.ref oB, .int v, .int lo, .int hi] (sp_pre D vwCl (sp_ty cI cJ cZ) [(oB, .inr (0, [.ref b0, .ref b1])), (b0, .inl (cI, 4, .inl fb)), (b1, .inl (cI, 4, .inl gb))] sz)) (va_Qv (fun (_ : Unit) => True) (sp_B D vwCl (va_A [(oB, .inr (0, [.ref b0, .ref b1])), (b0, .inl (cI, 4, .inl fb)), (b1, .inl (cI, 4, .inl gb))] sz) (fun (_ : Unit) => [])) (va_A [(oB, .inr (0, [.ref b0, .ref b1])), (b0, .inl (cI, 4, .inl fb)), (b1, .inl (cI, 4, .inl gb))] sz)) 0 0 (va_A [(oB, .inr (0, [.ref b0, .ref b1])), (b0, .inl (cI, 4, .inl fb)), (b1, .inl (cI, 4, .inl gb))] sz) := by
  refine sp_ofW (Qc := fun A => va_Qv (fun (_ : Unit) => True) (sp_B D vwCl A (fun (_ : Unit) => [])) A) (by decide) rfl (Nat.le_of_ble_eq_true rfl) (fun p e s m below meth c A ls H locs C0 hA hS hP hK hD hl => ?_)
  obtain ⟨hx, hb, hr, hts, hown, hlocks, hml, hin⟩ := C0
  have hown : s.vm.findClass RX1 = some m.cls := hown
  have hl : lv_has ls 4 [(0, .ref oB), (1, .int v), (2, .int lo), (3, .int hi)] := hl
  have hK : va_K D vwCl [(cI, .int), (cJ, .long), (cZ, .boolean)] s := hK
  refine lv_aload_n hx hb dX1_put_0 rfl (lv_at hl 0 rfl) ?_
  refine va_get (D := D) (ci := 0) (v := .ref b0) (C := RX1) (T := TX1) (N := 2) hx hb hts iX1_put_X1 hown hK hP 0 rfl rfl 0 (by decide) (hts (.fieldLink RX1 9 "FloatSolver$Box" "low" "[I") (oX1_put_in _ (List.mem_of_getElem? (i := 0) rfl))) (fun _ h9 => h9) rfl dX1_put_1 ?_
  refine lv_iload_n hx hb dX1_put_4 rfl (lv_at hl 1 rfl) ?_
  refine lv_iload_n hx hb dX1_put_5 rfl (lv_at hl 2 rfl) ?_
  refine va_iast hx hb hK hP hD hS 1 0 rfl rfl (vp_in_iff.mpr ⟨by omega, by omega⟩) dX1_put_6 (fun H locs hP hD hS => ?_)
  obtain ⟨f1, ef2⟩ : ∃ z9 : Nat → Int32, z9 = upd fb (v : Int32).toNatClampNeg lo := ⟨_, rfl⟩
  rw [← ef2] at hP hD
  have hP : va_P D vwCl [(oB, .inr (0, [.ref b0, .ref b1])), (b0, .inl (cI, 4, .inl f1)), (b1, .inl (cI, 4, .inl gb))] H := hP
  have hD : va_D A [(oB, .inr (0, [.ref b0, .ref b1])), (b0, .inl (cI, 4, .inl f1)), (b1, .inl (cI, 4, .inl gb))] := hD
  refine lv_aload_n hx hb dX1_put_7 rfl (lv_at hl 0 rfl) ?_
  refine va_get (D := D) (ci := 0) (v := .ref b1) (C := RX1) (T := TX1) (N := 2) hx hb hts iX1_put_X1 hown hK hP 0 rfl rfl 1 (by decide) (hts (.fieldLink RX1 15 "FloatSolver$Box" "high" "[I") (oX1_put_in _ (List.mem_of_getElem? (i := 1) rfl))) (fun _ h9 => h9) rfl dX1_put_8 ?_
  refine lv_iload_n hx hb dX1_put_11 rfl (lv_at hl 1 rfl) ?_
  refine lv_iload_n hx hb dX1_put_12 rfl (lv_at hl 3 rfl) ?_
  refine va_iast hx hb hK hP hD hS 2 0 rfl rfl (vp_in_iff.mpr ⟨by omega, by omega⟩) dX1_put_13 (fun H locs hP hD hS => ?_)
  obtain ⟨f3, ef4⟩ : ∃ z9 : Nat → Int32, z9 = upd gb (v : Int32).toNatClampNeg hi := ⟨_, rfl⟩
  rw [← ef4] at hP hD
  have hP : va_P D vwCl [(oB, .inr (0, [.ref b0, .ref b1])), (b0, .inl (cI, 4, .inl f1)), (b1, .inl (cI, 4, .inl f3))] H := hP
  have hD : va_D A [(oB, .inr (0, [.ref b0, .ref b1])), (b0, .inl (cI, 4, .inl f1)), (b1, .inl (cI, 4, .inl f3))] := hD
  refine W.widen (k := 0) (n := 0) (by decide) (by decide) ?_
  exact sp_vret (u := ()) hx hb hr hlocks hS trivial (hP.sub [] rfl) (hD.sub [] (by decide) rfl) dX1_put_14
def oX7_range : List Cond := [.fieldLink RX7 30 "FloatSolver" "ranges" "LFloatSolver$Box;"]
def wpX7_range : List Cond := .code yX7_range cX7_range 4 (some .int) :: (oX7_range ++ (wsX70 ++ ((va_wsS RX7 56 yX7_isVariable wpX7_isVariable) ++ ((va_wsS RX7 83 yX7_isPlace wpX7_isPlace) ++ ((wsV RX7 86 RX1 yX1_put wpX1_put) ++ ([] : List Cond))))))
theorem oX7_range_in : ∀ w ∈ oX7_range, w ∈ wpX7_range := fun w h => List.mem_cons_of_mem _ (List.mem_append_left _ h)
theorem gwoX7_range : ∀ w ∈ oX7_range, goodWord w = true := by decide +kernel
theorem gwX7_range : ∀ w ∈ wpX7_range, goodWord w = true := by
  unfold wpX7_range
  exact List.forall_mem_cons.mpr ⟨rfl, List.forall_mem_append.mpr ⟨gwoX7_range, List.forall_mem_append.mpr ⟨gwX7, List.forall_mem_append.mpr ⟨(sp_gS gwX7_isVariable), List.forall_mem_append.mpr ⟨(sp_gS gwX7_isPlace), List.forall_mem_append.mpr ⟨(sp_gV gwX1_put), fun _ h => absurd h List.not_mem_nil⟩⟩⟩⟩⟩⟩
set_option maxRecDepth 100000 in
theorem toX7_range : ∀ w ∈ oX7_range, w ∈ lw_tbl := by
  unfold oX7_range
  exact List.forall_mem_cons.mpr ⟨(List.mem_of_getElem? (i := 241) (by decide +kernel)), fun _ h => absurd h List.not_mem_nil⟩
set_option maxRecDepth 100000 in
theorem tX7_range : ∀ w ∈ wpX7_range, w ∈ lw_tbl := by
  unfold wpX7_range
  exact List.forall_mem_cons.mpr ⟨(List.mem_of_getElem? (i := 310) (by rfl)), List.forall_mem_append.mpr ⟨toX7_range, List.forall_mem_append.mpr ⟨in_wsX70, List.forall_mem_append.mpr ⟨(sp_tS (List.mem_of_getElem? (i := 262) (by decide +kernel)) (List.mem_of_getElem? (i := 263) (by decide +kernel)) (List.mem_of_getElem? (i := 38) (by decide +kernel)) tX7_isVariable), List.forall_mem_append.mpr ⟨(sp_tS (List.mem_of_getElem? (i := 311) (by decide +kernel)) (List.mem_of_getElem? (i := 312) (by decide +kernel)) (List.mem_of_getElem? (i := 38) (by decide +kernel)) tX7_isPlace), List.forall_mem_append.mpr ⟨(sp_tV (List.mem_of_getElem? (i := 316) (by decide +kernel)) (List.mem_of_getElem? (i := 317) (by decide +kernel)) (List.mem_of_getElem? (i := 318) (by decide +kernel)) (List.mem_of_getElem? (i := 41) (by decide +kernel)) tX1_put), fun _ h => absurd h List.not_mem_nil⟩⟩⟩⟩⟩⟩
theorem iX7_range_X7 : ∀ w ∈ wsX70, w ∈ wpX7_range := fun w h => List.mem_cons_of_mem _ (List.mem_append_right _ (List.mem_append_left _ h))
theorem gX7_range_X7_isVariable_56 : GoodIn wpX7_range (va_wsS RX7 56 yX7_isVariable wpX7_isVariable) := fun w h => ⟨List.mem_cons_of_mem _ (List.mem_append_right _ (List.mem_append_right _ (List.mem_append_left _ h))), good_of_word (sp_gS gwX7_isVariable w h)⟩
theorem gX7_range_X7_isPlace_83 : GoodIn wpX7_range (va_wsS RX7 83 yX7_isPlace wpX7_isPlace) := fun w h => ⟨List.mem_cons_of_mem _ (List.mem_append_right _ (List.mem_append_right _ (List.mem_append_right _ (List.mem_append_left _ h)))), good_of_word (sp_gS gwX7_isPlace w h)⟩
theorem gX7_range_X1_put_86 : GoodIn wpX7_range (wsV RX7 86 RX1 yX1_put wpX1_put) := fun w h => ⟨List.mem_cons_of_mem _ (List.mem_append_right _ (List.mem_append_right _ (List.mem_append_right _ (List.mem_append_right _ (List.mem_append_left _ h))))), good_of_word (sp_gV gwX1_put w h)⟩
set_option maxHeartbeats 4000000 in
set_option maxRecDepth 100000 in
theorem c_X7_range (l : Launch) (D : va_G) (cI cJ cZ : ClassId) (sz : Nat) (h oN oR oB oS oP oQ : Nat) (b0 b1 : Nat) (fb gb : Nat → Int32) (v a b : Int32) : Met l yX7_range wpX7_range ({ frames := 1, cells := 0, slots := 0, locals := 23 }) (va_Pc [.ref h, .int v, .int a, .int b] (sp_pre D vwCl (sp_ty cI cJ cZ) [(h, .inr (5, [.ref oN, .ref oR, .ref oB, .ref oS, .ref oP, .ref oQ])), (oB, .inr (0, [.ref b0, .ref b1])), (b0, .inl (cI, 4, .inl fb)), (b1, .inl (cI, 4, .inl gb))] sz)) (va_Qi (fun (r : Int32) (_ : Unit) => r = sp_range v a b) (sp_B D vwCl (va_A [(h, .inr (5, [.ref oN, .ref oR, .ref oB, .ref oS, .ref oP, .ref oQ])), (oB, .inr (0, [.ref b0, .ref b1])), (b0, .inl (cI, 4, .inl fb)), (b1, .inl (cI, 4, .inl gb))] sz) (fun (_ : Unit) => [])) (va_A [(h, .inr (5, [.ref oN, .ref oR, .ref oB, .ref oS, .ref oP, .ref oQ])), (oB, .inr (0, [.ref b0, .ref b1])), (b0, .inl (cI, 4, .inl fb)), (b1, .inl (cI, 4, .inl gb))] sz)) 0 0 (va_A [(h, .inr (5, [.ref oN, .ref oR, .ref oB, .ref oS, .ref oP, .ref oQ])), (oB, .inr (0, [.ref b0, .ref b1])), (b0, .inl (cI, 4, .inl fb)), (b1, .inl (cI, 4, .inl gb))] sz) := by
  refine sp_ofW (Qc := fun A => va_Qi (fun (r : Int32) (_ : Unit) => r = sp_range v a b) (sp_B D vwCl A (fun (_ : Unit) => [])) A) (by decide) rfl (Nat.le_of_ble_eq_true rfl) (fun p e s m below meth c A ls H locs C0 hA hS hP hK hD hl => ?_)
  obtain ⟨hx, hb, hr, hts, hown, hlocks, hml, hin⟩ := C0
  have hown : s.vm.findClass RX7 = some m.cls := hown
  have hl : lv_has ls 4 [(0, .ref h), (1, .int v), (2, .int a), (3, .int b)] := hl
  have hK : va_K D vwCl [(cI, .int), (cJ, .long), (cZ, .boolean)] s := hK
  refine lv_iload_n hx hb dX7_range_0 rfl (lv_at hl 1 rfl) ?_
  refine sp_calli (wr := [(h, .inr (5, [.ref oN, .ref oR, .ref oB, .ref oS, .ref oP, .ref oQ])), (oB, .inr (0, [.ref b0, .ref b1])), (b0, .inl (cI, 4, .inl fb)), (b1, .inl (cI, 4, .inl gb))]) (wc := []) hP hD hS hA [] [0, 1, 2, 3] rfl rfl (by decide) (by decide) (va_runS (As := [.int v]) (rest := []) ⟨hx, hb, hml, hown, hts⟩ (c_X7_isVariable l D cI cJ cZ H.size (v)) (va_cwS 1 hts gX7_range_X7_isVariable_56 rfl rfl rfl (by decide +kernel) ⟨Nat.le_of_ble_eq_true rfl, Nat.le_of_ble_eq_true rfl⟩) (sp_preS [.int v] hK (hP.sub (ws' := []) [] rfl) (hD.sub (ws' := []) [] (by decide) rfl)) rfl rfl hl.1 rfl (lv_room (Nat.le_of_ble_eq_true rfl)) dX7_range_1 ⟨Nat.le_of_ble_eq_true rfl, Nat.le_of_ble_eq_true rfl⟩) (fun r1 u2 H locs hw3 hP hD hS => ?_)
  rcases hw3 with ⟨rfl, h4⟩ | ⟨rfl, h4⟩
  · skip
    have h4 : 0 ≤ (v : Int32).toInt ∧ (v : Int32).toInt < 4 := h4
    have hP : va_P D vwCl [(h, .inr (5, [.ref oN, .ref oR, .ref oB, .ref oS, .ref oP, .ref oQ])), (oB, .inr (0, [.ref b0, .ref b1])), (b0, .inl (cI, 4, .inl fb)), (b1, .inl (cI, 4, .inl gb))] H := hP
    have hD : va_D A [(h, .inr (5, [.ref oN, .ref oR, .ref oB, .ref oS, .ref oP, .ref oQ])), (oB, .inr (0, [.ref b0, .ref b1])), (b0, .inl (cI, 4, .inl fb)), (b1, .inl (cI, 4, .inl gb))] := hD
    refine lv_if_ne (tgt := 9) hx hb dX7_range_4 (by decide) (fun _ => ?_) (fun c5 => absurd c5 (by decide))
    refine lv_iload_n hx hb dX7_range_9 rfl (lv_at hl 2 rfl) ?_
    refine sp_calli (wr := [(h, .inr (5, [.ref oN, .ref oR, .ref oB, .ref oS, .ref oP, .ref oQ])), (oB, .inr (0, [.ref b0, .ref b1])), (b0, .inl (cI, 4, .inl fb)), (b1, .inl (cI, 4, .inl gb))]) (wc := []) hP hD hS hA [] [0, 1, 2, 3] rfl rfl (by decide) (by decide) (va_runS (As := [.int a]) (rest := []) ⟨hx, hb, hml, hown, hts⟩ (c_X7_isPlace l D cI cJ cZ H.size (a)) (va_cwS 1 hts gX7_range_X7_isPlace_83 rfl rfl rfl (by decide +kernel) ⟨Nat.le_of_ble_eq_true rfl, Nat.le_of_ble_eq_true rfl⟩) (sp_preS [.int a] hK (hP.sub (ws' := []) [] rfl) (hD.sub (ws' := []) [] (by decide) rfl)) rfl rfl hl.1 rfl (lv_room (Nat.le_of_ble_eq_true rfl)) dX7_range_10 ⟨Nat.le_of_ble_eq_true rfl, Nat.le_of_ble_eq_true rfl⟩) (fun r6 u7 H locs hw8 hP hD hS => ?_)
    rcases hw8 with ⟨rfl, h9⟩ | ⟨rfl, h9⟩
    · skip
      have h9 : -2139095041 ≤ (a : Int32).toInt ∧ (a : Int32).toInt ≤ 2139095040 := h9
      have hP : va_P D vwCl [(h, .inr (5, [.ref oN, .ref oR, .ref oB, .ref oS, .ref oP, .ref oQ])), (oB, .inr (0, [.ref b0, .ref b1])), (b0, .inl (cI, 4, .inl fb)), (b1, .inl (cI, 4, .inl gb))] H := hP
      have hD : va_D A [(h, .inr (5, [.ref oN, .ref oR, .ref oB, .ref oS, .ref oP, .ref oQ])), (oB, .inr (0, [.ref b0, .ref b1])), (b0, .inl (cI, 4, .inl fb)), (b1, .inl (cI, 4, .inl gb))] := hD
      refine lv_if_eq (tgt := 28) hx hb dX7_range_13 (by decide) (fun c10 => absurd c10 (by decide)) (fun _ => ?_)
      refine lv_iload_n hx hb dX7_range_16 rfl (lv_at hl 3 rfl) ?_
      refine sp_calli (wr := [(h, .inr (5, [.ref oN, .ref oR, .ref oB, .ref oS, .ref oP, .ref oQ])), (oB, .inr (0, [.ref b0, .ref b1])), (b0, .inl (cI, 4, .inl fb)), (b1, .inl (cI, 4, .inl gb))]) (wc := []) hP hD hS hA [] [0, 1, 2, 3] rfl rfl (by decide) (by decide) (va_runS (As := [.int b]) (rest := []) ⟨hx, hb, hml, hown, hts⟩ (c_X7_isPlace l D cI cJ cZ H.size (b)) (va_cwS 1 hts gX7_range_X7_isPlace_83 rfl rfl rfl (by decide +kernel) ⟨Nat.le_of_ble_eq_true rfl, Nat.le_of_ble_eq_true rfl⟩) (sp_preS [.int b] hK (hP.sub (ws' := []) [] rfl) (hD.sub (ws' := []) [] (by decide) rfl)) rfl rfl hl.1 rfl (lv_room (Nat.le_of_ble_eq_true rfl)) dX7_range_17 ⟨Nat.le_of_ble_eq_true rfl, Nat.le_of_ble_eq_true rfl⟩) (fun r11 u12 H locs hw13 hP hD hS => ?_)
      rcases hw13 with ⟨rfl, h14⟩ | ⟨rfl, h14⟩
      · skip
        have h14 : -2139095041 ≤ (b : Int32).toInt ∧ (b : Int32).toInt ≤ 2139095040 := h14
        have hP : va_P D vwCl [(h, .inr (5, [.ref oN, .ref oR, .ref oB, .ref oS, .ref oP, .ref oQ])), (oB, .inr (0, [.ref b0, .ref b1])), (b0, .inl (cI, 4, .inl fb)), (b1, .inl (cI, 4, .inl gb))] H := hP
        have hD : va_D A [(h, .inr (5, [.ref oN, .ref oR, .ref oB, .ref oS, .ref oP, .ref oQ])), (oB, .inr (0, [.ref b0, .ref b1])), (b0, .inl (cI, 4, .inl fb)), (b1, .inl (cI, 4, .inl gb))] := hD
        refine lv_if_eq (tgt := 28) hx hb dX7_range_20 (by decide) (fun c15 => absurd c15 (by decide)) (fun _ => ?_)
        refine lv_iload_n hx hb dX7_range_23 rfl (lv_at hl 2 rfl) ?_
        refine lv_iload_n hx hb dX7_range_24 rfl (lv_at hl 3 rfl) ?_
        refine lv_icmp_le (tgt := 31) hx hb dX7_range_25 (by decide) (fun c16 => ?_) (fun c16 => ?_)
        · skip
          have c16i : (a : Int32).toInt ≤ (b : Int32).toInt := Int32.le_iff_toInt_le.mp c16
          refine lv_aload_n hx hb dX7_range_31 rfl (lv_at hl 0 rfl) ?_
          refine va_get (D := D) (ci := 5) (v := .ref oB) (C := RX7) (T := TX7) (N := 6) hx hb hts iX7_range_X7 hown hK hP 0 rfl rfl 2 (by decide) (hts (.fieldLink RX7 30 "FloatSolver" "ranges" "LFloatSolver$Box;") (oX7_range_in _ (List.mem_of_getElem? (i := 0) rfl))) (fun _ h9 => h9) rfl dX7_range_32 ?_
          refine lv_iload_n hx hb dX7_range_35 rfl (lv_at hl 1 rfl) ?_
          refine lv_iload_n hx hb dX7_range_36 rfl (lv_at hl 2 rfl) ?_
          refine lv_iload_n hx hb dX7_range_37 rfl (lv_at hl 3 rfl) ?_
          refine sp_callv (wr := [(h, .inr (5, [.ref oN, .ref oR, .ref oB, .ref oS, .ref oP, .ref oQ]))]) (wc := [(oB, .inr (0, [.ref b0, .ref b1])), (b0, .inl (cI, 4, .inl fb)), (b1, .inl (cI, 4, .inl gb))]) hP hD hS hA [1, 2, 3] [0] rfl rfl (by decide) (by decide) (va_runV (As := [.int v, .int a, .int b]) (rest := []) ⟨hx, hb, hml, hown, hts⟩ (c_X1_put l D cI cJ cZ H.size oB b0 b1 fb gb (v) (a) (b) (by omega)) (cwV 3 hts gX7_range_X1_put_86 rfl rfl rfl (by decide +kernel) ⟨Nat.le_of_ble_eq_true rfl, Nat.le_of_ble_eq_true rfl⟩) (sp_preV (ci := 0) (q0 := 0) [.int v, .int a, .int b] hK (hP.sub (ws' := [(oB, .inr (0, [.ref b0, .ref b1])), (b0, .inl (cI, 4, .inl fb)), (b1, .inl (cI, 4, .inl gb))]) [1, 2, 3] rfl) (hD.sub (ws' := [(oB, .inr (0, [.ref b0, .ref b1])), (b0, .inl (cI, 4, .inl fb)), (b1, .inl (cI, 4, .inl gb))]) [1, 2, 3] (by decide) rfl) rfl rfl) rfl rfl hl.1 rfl (lv_room (Nat.le_of_ble_eq_true rfl)) dX7_range_38 ⟨Nat.le_of_ble_eq_true rfl, Nat.le_of_ble_eq_true rfl⟩) (fun u18 H locs hw19 hP hD hS => ?_)
          have hP : va_P D vwCl [(h, .inr (5, [.ref oN, .ref oR, .ref oB, .ref oS, .ref oP, .ref oQ]))] H := hP
          have hD : va_D A [(h, .inr (5, [.ref oN, .ref oR, .ref oB, .ref oS, .ref oP, .ref oQ]))] := hD
          refine lv_iconst (v := 1) hx hb dX7_range_41 (by decide) ?_
          refine W.widen (k := 0) (n := 0) (by decide) (by decide) ?_
          exact sp_iret (u := ()) hx hb hr hlocks hS (by unfold sp_range; (repeat' split) <;> first | (exfalso; omega) | rfl) (hP.sub [] rfl) (hD.sub [] (by decide) rfl) dX7_range_42
        · skip
          have c16i : ¬ (a : Int32).toInt ≤ (b : Int32).toInt := fun h => c16 (Int32.le_iff_toInt_le.mpr h)
          refine lv_bipush (v := (-2)) hx hb dX7_range_28 (by decide) ?_
          refine W.widen (k := 0) (n := 0) (by decide) (by decide) ?_
          exact sp_iret (u := ()) hx hb hr hlocks hS (by unfold sp_range; (repeat' split) <;> first | (exfalso; omega) | rfl) (hP.sub [] rfl) (hD.sub [] (by decide) rfl) dX7_range_30
      · skip
        have h14 : ¬ (-2139095041 ≤ (b : Int32).toInt ∧ (b : Int32).toInt ≤ 2139095040) := h14
        have hP : va_P D vwCl [(h, .inr (5, [.ref oN, .ref oR, .ref oB, .ref oS, .ref oP, .ref oQ])), (oB, .inr (0, [.ref b0, .ref b1])), (b0, .inl (cI, 4, .inl fb)), (b1, .inl (cI, 4, .inl gb))] H := hP
        have hD : va_D A [(h, .inr (5, [.ref oN, .ref oR, .ref oB, .ref oS, .ref oP, .ref oQ])), (oB, .inr (0, [.ref b0, .ref b1])), (b0, .inl (cI, 4, .inl fb)), (b1, .inl (cI, 4, .inl gb))] := hD
        refine lv_if_eq (tgt := 28) hx hb dX7_range_20 (by decide) (fun _ => ?_) (fun c20 => absurd (by decide) c20)
        refine lv_bipush (v := (-2)) hx hb dX7_range_28 (by decide) ?_
        refine W.widen (k := 0) (n := 0) (by decide) (by decide) ?_
        exact sp_iret (u := ()) hx hb hr hlocks hS (by unfold sp_range; (repeat' split) <;> first | (exfalso; omega) | rfl) (hP.sub [] rfl) (hD.sub [] (by decide) rfl) dX7_range_30
    · skip
      have h9 : ¬ (-2139095041 ≤ (a : Int32).toInt ∧ (a : Int32).toInt ≤ 2139095040) := h9
      have hP : va_P D vwCl [(h, .inr (5, [.ref oN, .ref oR, .ref oB, .ref oS, .ref oP, .ref oQ])), (oB, .inr (0, [.ref b0, .ref b1])), (b0, .inl (cI, 4, .inl fb)), (b1, .inl (cI, 4, .inl gb))] H := hP
      have hD : va_D A [(h, .inr (5, [.ref oN, .ref oR, .ref oB, .ref oS, .ref oP, .ref oQ])), (oB, .inr (0, [.ref b0, .ref b1])), (b0, .inl (cI, 4, .inl fb)), (b1, .inl (cI, 4, .inl gb))] := hD
      refine lv_if_eq (tgt := 28) hx hb dX7_range_13 (by decide) (fun _ => ?_) (fun c21 => absurd (by decide) c21)
      refine lv_bipush (v := (-2)) hx hb dX7_range_28 (by decide) ?_
      refine W.widen (k := 0) (n := 0) (by decide) (by decide) ?_
      exact sp_iret (u := ()) hx hb hr hlocks hS (by unfold sp_range; (repeat' split) <;> first | (exfalso; omega) | rfl) (hP.sub [] rfl) (hD.sub [] (by decide) rfl) dX7_range_30
  · skip
    have h4 : ¬ (0 ≤ (v : Int32).toInt ∧ (v : Int32).toInt < 4) := h4
    have hP : va_P D vwCl [(h, .inr (5, [.ref oN, .ref oR, .ref oB, .ref oS, .ref oP, .ref oQ])), (oB, .inr (0, [.ref b0, .ref b1])), (b0, .inl (cI, 4, .inl fb)), (b1, .inl (cI, 4, .inl gb))] H := hP
    have hD : va_D A [(h, .inr (5, [.ref oN, .ref oR, .ref oB, .ref oS, .ref oP, .ref oQ])), (oB, .inr (0, [.ref b0, .ref b1])), (b0, .inl (cI, 4, .inl fb)), (b1, .inl (cI, 4, .inl gb))] := hD
    refine lv_if_ne (tgt := 9) hx hb dX7_range_4 (by decide) (fun c22 => absurd (by decide) c22) (fun _ => ?_)
    refine lv_iconst (v := (-1)) hx hb dX7_range_7 (by decide) ?_
    refine W.widen (k := 0) (n := 0) (by decide) (by decide) ?_
    exact sp_iret (u := ()) hx hb hr hlocks hS (by unfold sp_range; (repeat' split) <;> first | (exfalso; omega) | rfl) (hP.sub [] rfl) (hD.sub [] (by decide) rfl) dX7_range_8
def oX7_set : List Cond := [.fieldLink RX7 34 "FloatSolver" "settings" "[I"]
def wpX7_set : List Cond := .code yX7_set cX7_set 3 (some .int) :: (oX7_set ++ (wsX70 ++ ((va_wsS RX7 56 yX7_isVariable wpX7_isVariable) ++ ((va_wsS RX7 83 yX7_isPlace wpX7_isPlace) ++ ([] : List Cond)))))
theorem oX7_set_in : ∀ w ∈ oX7_set, w ∈ wpX7_set := fun w h => List.mem_cons_of_mem _ (List.mem_append_left _ h)
theorem gwoX7_set : ∀ w ∈ oX7_set, goodWord w = true := by decide +kernel
theorem gwX7_set : ∀ w ∈ wpX7_set, goodWord w = true := by
  unfold wpX7_set
  exact List.forall_mem_cons.mpr ⟨rfl, List.forall_mem_append.mpr ⟨gwoX7_set, List.forall_mem_append.mpr ⟨gwX7, List.forall_mem_append.mpr ⟨(sp_gS gwX7_isVariable), List.forall_mem_append.mpr ⟨(sp_gS gwX7_isPlace), fun _ h => absurd h List.not_mem_nil⟩⟩⟩⟩⟩
set_option maxRecDepth 100000 in
theorem toX7_set : ∀ w ∈ oX7_set, w ∈ lw_tbl := by
  unfold oX7_set
  exact List.forall_mem_cons.mpr ⟨(List.mem_of_getElem? (i := 242) (by decide +kernel)), fun _ h => absurd h List.not_mem_nil⟩
set_option maxRecDepth 100000 in
theorem tX7_set : ∀ w ∈ wpX7_set, w ∈ lw_tbl := by
  unfold wpX7_set
  exact List.forall_mem_cons.mpr ⟨(List.mem_of_getElem? (i := 323) (by rfl)), List.forall_mem_append.mpr ⟨toX7_set, List.forall_mem_append.mpr ⟨in_wsX70, List.forall_mem_append.mpr ⟨(sp_tS (List.mem_of_getElem? (i := 262) (by decide +kernel)) (List.mem_of_getElem? (i := 263) (by decide +kernel)) (List.mem_of_getElem? (i := 38) (by decide +kernel)) tX7_isVariable), List.forall_mem_append.mpr ⟨(sp_tS (List.mem_of_getElem? (i := 311) (by decide +kernel)) (List.mem_of_getElem? (i := 312) (by decide +kernel)) (List.mem_of_getElem? (i := 38) (by decide +kernel)) tX7_isPlace), fun _ h => absurd h List.not_mem_nil⟩⟩⟩⟩⟩
theorem iX7_set_X7 : ∀ w ∈ wsX70, w ∈ wpX7_set := fun w h => List.mem_cons_of_mem _ (List.mem_append_right _ (List.mem_append_left _ h))
theorem gX7_set_X7_isVariable_56 : GoodIn wpX7_set (va_wsS RX7 56 yX7_isVariable wpX7_isVariable) := fun w h => ⟨List.mem_cons_of_mem _ (List.mem_append_right _ (List.mem_append_right _ (List.mem_append_left _ h))), good_of_word (sp_gS gwX7_isVariable w h)⟩
theorem gX7_set_X7_isPlace_83 : GoodIn wpX7_set (va_wsS RX7 83 yX7_isPlace wpX7_isPlace) := fun w h => ⟨List.mem_cons_of_mem _ (List.mem_append_right _ (List.mem_append_right _ (List.mem_append_right _ (List.mem_append_left _ h)))), good_of_word (sp_gS gwX7_isPlace w h)⟩
set_option maxHeartbeats 4000000 in
set_option maxRecDepth 100000 in
theorem c_X7_set (l : Launch) (D : va_G) (cI cJ cZ : ClassId) (sz : Nat) (h oN oR oB oS oP oQ : Nat) (fs : Nat → Int32) (v a : Int32) : Met l yX7_set wpX7_set ({ frames := 1, cells := 0, slots := 0, locals := 20 }) (va_Pc [.ref h, .int v, .int a] (sp_pre D vwCl (sp_ty cI cJ cZ) [(h, .inr (5, [.ref oN, .ref oR, .ref oB, .ref oS, .ref oP, .ref oQ])), (oS, .inl (cI, 4, .inl fs))] sz)) (va_Qi (fun (r : Int32) (_ : Unit) => r = sp_set v a) (sp_B D vwCl (va_A [(h, .inr (5, [.ref oN, .ref oR, .ref oB, .ref oS, .ref oP, .ref oQ])), (oS, .inl (cI, 4, .inl fs))] sz) (fun (_ : Unit) => [])) (va_A [(h, .inr (5, [.ref oN, .ref oR, .ref oB, .ref oS, .ref oP, .ref oQ])), (oS, .inl (cI, 4, .inl fs))] sz)) 0 0 (va_A [(h, .inr (5, [.ref oN, .ref oR, .ref oB, .ref oS, .ref oP, .ref oQ])), (oS, .inl (cI, 4, .inl fs))] sz) := by
  refine sp_ofW (Qc := fun A => va_Qi (fun (r : Int32) (_ : Unit) => r = sp_set v a) (sp_B D vwCl A (fun (_ : Unit) => [])) A) (by decide) rfl (Nat.le_of_ble_eq_true rfl) (fun p e s m below meth c A ls H locs C0 hA hS hP hK hD hl => ?_)
  obtain ⟨hx, hb, hr, hts, hown, hlocks, hml, hin⟩ := C0
  have hown : s.vm.findClass RX7 = some m.cls := hown
  have hl : lv_has ls 3 [(0, .ref h), (1, .int v), (2, .int a)] := hl
  have hK : va_K D vwCl [(cI, .int), (cJ, .long), (cZ, .boolean)] s := hK
  refine lv_iload_n hx hb dX7_set_0 rfl (lv_at hl 1 rfl) ?_
  refine sp_calli (wr := [(h, .inr (5, [.ref oN, .ref oR, .ref oB, .ref oS, .ref oP, .ref oQ])), (oS, .inl (cI, 4, .inl fs))]) (wc := []) hP hD hS hA [] [0, 1] rfl rfl (by decide) (by decide) (va_runS (As := [.int v]) (rest := []) ⟨hx, hb, hml, hown, hts⟩ (c_X7_isVariable l D cI cJ cZ H.size (v)) (va_cwS 1 hts gX7_set_X7_isVariable_56 rfl rfl rfl (by decide +kernel) ⟨Nat.le_of_ble_eq_true rfl, Nat.le_of_ble_eq_true rfl⟩) (sp_preS [.int v] hK (hP.sub (ws' := []) [] rfl) (hD.sub (ws' := []) [] (by decide) rfl)) rfl rfl hl.1 rfl (lv_room (Nat.le_of_ble_eq_true rfl)) dX7_set_1 ⟨Nat.le_of_ble_eq_true rfl, Nat.le_of_ble_eq_true rfl⟩) (fun r1 u2 H locs hw3 hP hD hS => ?_)
  rcases hw3 with ⟨rfl, h4⟩ | ⟨rfl, h4⟩
  · skip
    have h4 : 0 ≤ (v : Int32).toInt ∧ (v : Int32).toInt < 4 := h4
    have hP : va_P D vwCl [(h, .inr (5, [.ref oN, .ref oR, .ref oB, .ref oS, .ref oP, .ref oQ])), (oS, .inl (cI, 4, .inl fs))] H := hP
    have hD : va_D A [(h, .inr (5, [.ref oN, .ref oR, .ref oB, .ref oS, .ref oP, .ref oQ])), (oS, .inl (cI, 4, .inl fs))] := hD
    refine lv_if_ne (tgt := 9) hx hb dX7_set_4 (by decide) (fun _ => ?_) (fun c5 => absurd c5 (by decide))
    refine lv_iload_n hx hb dX7_set_9 rfl (lv_at hl 2 rfl) ?_
    refine sp_calli (wr := [(h, .inr (5, [.ref oN, .ref oR, .ref oB, .ref oS, .ref oP, .ref oQ])), (oS, .inl (cI, 4, .inl fs))]) (wc := []) hP hD hS hA [] [0, 1] rfl rfl (by decide) (by decide) (va_runS (As := [.int a]) (rest := []) ⟨hx, hb, hml, hown, hts⟩ (c_X7_isPlace l D cI cJ cZ H.size (a)) (va_cwS 1 hts gX7_set_X7_isPlace_83 rfl rfl rfl (by decide +kernel) ⟨Nat.le_of_ble_eq_true rfl, Nat.le_of_ble_eq_true rfl⟩) (sp_preS [.int a] hK (hP.sub (ws' := []) [] rfl) (hD.sub (ws' := []) [] (by decide) rfl)) rfl rfl hl.1 rfl (lv_room (Nat.le_of_ble_eq_true rfl)) dX7_set_10 ⟨Nat.le_of_ble_eq_true rfl, Nat.le_of_ble_eq_true rfl⟩) (fun r6 u7 H locs hw8 hP hD hS => ?_)
    rcases hw8 with ⟨rfl, h9⟩ | ⟨rfl, h9⟩
    · skip
      have h9 : -2139095041 ≤ (a : Int32).toInt ∧ (a : Int32).toInt ≤ 2139095040 := h9
      have hP : va_P D vwCl [(h, .inr (5, [.ref oN, .ref oR, .ref oB, .ref oS, .ref oP, .ref oQ])), (oS, .inl (cI, 4, .inl fs))] H := hP
      have hD : va_D A [(h, .inr (5, [.ref oN, .ref oR, .ref oB, .ref oS, .ref oP, .ref oQ])), (oS, .inl (cI, 4, .inl fs))] := hD
      refine lv_if_ne (tgt := 19) hx hb dX7_set_13 (by decide) (fun _ => ?_) (fun c10 => absurd c10 (by decide))
      refine lv_aload_n hx hb dX7_set_19 rfl (lv_at hl 0 rfl) ?_
      refine va_get (D := D) (ci := 5) (v := .ref oS) (C := RX7) (T := TX7) (N := 6) hx hb hts iX7_set_X7 hown hK hP 0 rfl rfl 3 (by decide) (hts (.fieldLink RX7 34 "FloatSolver" "settings" "[I") (oX7_set_in _ (List.mem_of_getElem? (i := 0) rfl))) (fun _ h9 => h9) rfl dX7_set_20 ?_
      refine lv_iload_n hx hb dX7_set_23 rfl (lv_at hl 1 rfl) ?_
      refine lv_iload_n hx hb dX7_set_24 rfl (lv_at hl 2 rfl) ?_
      refine va_iast hx hb hK hP hD hS 1 0 rfl rfl (vp_in_iff.mpr ⟨by omega, by omega⟩) dX7_set_25 (fun H locs hP hD hS => ?_)
      obtain ⟨f11, ef12⟩ : ∃ z9 : Nat → Int32, z9 = upd fs (v : Int32).toNatClampNeg a := ⟨_, rfl⟩
      rw [← ef12] at hP hD
      have hP : va_P D vwCl [(h, .inr (5, [.ref oN, .ref oR, .ref oB, .ref oS, .ref oP, .ref oQ])), (oS, .inl (cI, 4, .inl f11))] H := hP
      have hD : va_D A [(h, .inr (5, [.ref oN, .ref oR, .ref oB, .ref oS, .ref oP, .ref oQ])), (oS, .inl (cI, 4, .inl f11))] := hD
      refine lv_iconst (v := 1) hx hb dX7_set_26 (by decide) ?_
      refine W.widen (k := 0) (n := 0) (by decide) (by decide) ?_
      exact sp_iret (u := ()) hx hb hr hlocks hS (by unfold sp_set; (repeat' split) <;> first | (exfalso; omega) | rfl) (hP.sub [] rfl) (hD.sub [] (by decide) rfl) dX7_set_27
    · skip
      have h9 : ¬ (-2139095041 ≤ (a : Int32).toInt ∧ (a : Int32).toInt ≤ 2139095040) := h9
      have hP : va_P D vwCl [(h, .inr (5, [.ref oN, .ref oR, .ref oB, .ref oS, .ref oP, .ref oQ])), (oS, .inl (cI, 4, .inl fs))] H := hP
      have hD : va_D A [(h, .inr (5, [.ref oN, .ref oR, .ref oB, .ref oS, .ref oP, .ref oQ])), (oS, .inl (cI, 4, .inl fs))] := hD
      refine lv_if_ne (tgt := 19) hx hb dX7_set_13 (by decide) (fun c13 => absurd (by decide) c13) (fun _ => ?_)
      refine lv_bipush (v := (-2)) hx hb dX7_set_16 (by decide) ?_
      refine W.widen (k := 0) (n := 0) (by decide) (by decide) ?_
      exact sp_iret (u := ()) hx hb hr hlocks hS (by unfold sp_set; (repeat' split) <;> first | (exfalso; omega) | rfl) (hP.sub [] rfl) (hD.sub [] (by decide) rfl) dX7_set_18
  · skip
    have h4 : ¬ (0 ≤ (v : Int32).toInt ∧ (v : Int32).toInt < 4) := h4
    have hP : va_P D vwCl [(h, .inr (5, [.ref oN, .ref oR, .ref oB, .ref oS, .ref oP, .ref oQ])), (oS, .inl (cI, 4, .inl fs))] H := hP
    have hD : va_D A [(h, .inr (5, [.ref oN, .ref oR, .ref oB, .ref oS, .ref oP, .ref oQ])), (oS, .inl (cI, 4, .inl fs))] := hD
    refine lv_if_ne (tgt := 9) hx hb dX7_set_4 (by decide) (fun c14 => absurd (by decide) c14) (fun _ => ?_)
    refine lv_iconst (v := (-1)) hx hb dX7_set_7 (by decide) ?_
    refine W.widen (k := 0) (n := 0) (by decide) (by decide) ?_
    exact sp_iret (u := ()) hx hb hr hlocks hS (by unfold sp_set; (repeat' split) <;> first | (exfalso; omega) | rfl) (hP.sub [] rfl) (hD.sub [] (by decide) rfl) dX7_set_8
def oX7_place : List Cond := [.constantLong RX7 95 (-9223372036854775808)]
def wpX7_place : List Cond := .code yX7_place cX7_place 2 (some .long) :: (oX7_place ++ ((va_wsS RX7 90 yX2_isNone wpX2_isNone) ++ ((va_wsS RX7 97 yX2_placeOf wpX2_placeOf) ++ ([] : List Cond))))
theorem oX7_place_in : ∀ w ∈ oX7_place, w ∈ wpX7_place := fun w h => List.mem_cons_of_mem _ (List.mem_append_left _ h)
theorem gwoX7_place : ∀ w ∈ oX7_place, goodWord w = true := by decide +kernel
theorem gwX7_place : ∀ w ∈ wpX7_place, goodWord w = true := by
  unfold wpX7_place
  exact List.forall_mem_cons.mpr ⟨rfl, List.forall_mem_append.mpr ⟨gwoX7_place, List.forall_mem_append.mpr ⟨(sp_gS gwX2_isNone), List.forall_mem_append.mpr ⟨(sp_gS gwX2_placeOf), fun _ h => absurd h List.not_mem_nil⟩⟩⟩⟩
set_option maxRecDepth 100000 in
theorem toX7_place : ∀ w ∈ oX7_place, w ∈ lw_tbl := by
  unfold oX7_place
  exact List.forall_mem_cons.mpr ⟨(List.mem_of_getElem? (i := 329) (by decide +kernel)), fun _ h => absurd h List.not_mem_nil⟩
set_option maxRecDepth 100000 in
theorem tX7_place : ∀ w ∈ wpX7_place, w ∈ lw_tbl := by
  unfold wpX7_place
  exact List.forall_mem_cons.mpr ⟨(List.mem_of_getElem? (i := 327) (by rfl)), List.forall_mem_append.mpr ⟨toX7_place, List.forall_mem_append.mpr ⟨(sp_tS (List.mem_of_getElem? (i := 328) (by decide +kernel)) (List.mem_of_getElem? (i := 280) (by decide +kernel)) (List.mem_of_getElem? (i := 46) (by decide +kernel)) tX2_isNone), List.forall_mem_append.mpr ⟨(sp_tS (List.mem_of_getElem? (i := 330) (by decide +kernel)) (List.mem_of_getElem? (i := 331) (by decide +kernel)) (List.mem_of_getElem? (i := 46) (by decide +kernel)) tX2_placeOf), fun _ h => absurd h List.not_mem_nil⟩⟩⟩⟩
theorem gX7_place_X2_isNone_90 : GoodIn wpX7_place (va_wsS RX7 90 yX2_isNone wpX2_isNone) := fun w h => ⟨List.mem_cons_of_mem _ (List.mem_append_right _ (List.mem_append_left _ h)), good_of_word (sp_gS gwX2_isNone w h)⟩
theorem gX7_place_X2_placeOf_97 : GoodIn wpX7_place (va_wsS RX7 97 yX2_placeOf wpX2_placeOf) := fun w h => ⟨List.mem_cons_of_mem _ (List.mem_append_right _ (List.mem_append_right _ (List.mem_append_left _ h))), good_of_word (sp_gS gwX2_placeOf w h)⟩
set_option maxHeartbeats 4000000 in
set_option maxRecDepth 100000 in
theorem c_X7_place (l : Launch) (D : va_G) (cI cJ cZ : ClassId) (sz : Nat) (h oN oR oB oS oP oQ : Nat) (b : Int32) : Met l yX7_place wpX7_place ({ frames := 1, cells := 0, slots := 0, locals := 20 }) (va_Pc [.ref h, .int b] (sp_pre D vwCl (sp_ty cI cJ cZ) [(h, .inr (5, [.ref oN, .ref oR, .ref oB, .ref oS, .ref oP, .ref oQ]))] sz)) (va_Ql (fun (r : Int64) (_ : Unit) => r = sp_place b) (sp_B D vwCl (va_A [(h, .inr (5, [.ref oN, .ref oR, .ref oB, .ref oS, .ref oP, .ref oQ]))] sz) (fun (_ : Unit) => [])) (va_A [(h, .inr (5, [.ref oN, .ref oR, .ref oB, .ref oS, .ref oP, .ref oQ]))] sz)) 0 0 (va_A [(h, .inr (5, [.ref oN, .ref oR, .ref oB, .ref oS, .ref oP, .ref oQ]))] sz) := by
  refine sp_ofW (Qc := fun A => va_Ql (fun (r : Int64) (_ : Unit) => r = sp_place b) (sp_B D vwCl A (fun (_ : Unit) => [])) A) (by decide) rfl (Nat.le_of_ble_eq_true rfl) (fun p e s m below meth c A ls H locs C0 hA hS hP hK hD hl => ?_)
  obtain ⟨hx, hb, hr, hts, hown, hlocks, hml, hin⟩ := C0
  have hown : s.vm.findClass RX7 = some m.cls := hown
  have hl : lv_has ls 2 [(0, .ref h), (1, .int b)] := hl
  have hK : va_K D vwCl [(cI, .int), (cJ, .long), (cZ, .boolean)] s := hK
  refine lv_iload_n hx hb dX7_place_0 rfl (lv_at hl 1 rfl) ?_
  refine sp_calli (wr := [(h, .inr (5, [.ref oN, .ref oR, .ref oB, .ref oS, .ref oP, .ref oQ]))]) (wc := []) hP hD hS hA [] [0] rfl rfl (by decide) (by decide) (va_runS (As := [.int b]) (rest := []) ⟨hx, hb, hml, hown, hts⟩ (c_X2_isNone l D cI cJ cZ H.size (b)) (va_cwS 1 hts gX7_place_X2_isNone_90 rfl rfl rfl (by decide +kernel) ⟨Nat.le_of_ble_eq_true rfl, Nat.le_of_ble_eq_true rfl⟩) (sp_preS [.int b] hK (hP.sub (ws' := []) [] rfl) (hD.sub (ws' := []) [] (by decide) rfl)) rfl rfl hl.1 rfl (lv_room (Nat.le_of_ble_eq_true rfl)) dX7_place_1 ⟨Nat.le_of_ble_eq_true rfl, Nat.le_of_ble_eq_true rfl⟩) (fun r1 u2 H locs hw3 hP hD hS => ?_)
  rcases hw3 with ⟨rfl, h4⟩ | ⟨rfl, h4⟩
  · skip
    have h4 : 2139095040 < (b &&& 2147483647 : Int32).toInt := h4
    have hP : va_P D vwCl [(h, .inr (5, [.ref oN, .ref oR, .ref oB, .ref oS, .ref oP, .ref oQ]))] H := hP
    have hD : va_D A [(h, .inr (5, [.ref oN, .ref oR, .ref oB, .ref oS, .ref oP, .ref oQ]))] := hD
    refine lv_if_eq (tgt := 13) hx hb dX7_place_4 (by decide) (fun c5 => absurd c5 (by decide)) (fun _ => ?_)
    refine lv_ldc2 (v := (-9223372036854775808)) hx hb hown (hts (.constantLong RX7 95 (-9223372036854775808)) (oX7_place_in _ (List.mem_of_getElem? (i := 0) rfl))) dX7_place_7 ?_
    refine lv_goto (tgt := 18) hx hb dX7_place_10 (by decide) ?_
    refine W.widen (k := 0) (n := 0) (by decide) (by decide) ?_
    exact sp_lret (u := ()) hx hb hr hlocks hS (by unfold sp_place; (repeat' split) <;> first | (exfalso; omega) | rfl) (hP.sub [] rfl) (hD.sub [] (by decide) rfl) dX7_place_18
  · skip
    have h4 : ¬ (2139095040 < (b &&& 2147483647 : Int32).toInt) := h4
    have hP : va_P D vwCl [(h, .inr (5, [.ref oN, .ref oR, .ref oB, .ref oS, .ref oP, .ref oQ]))] H := hP
    have hD : va_D A [(h, .inr (5, [.ref oN, .ref oR, .ref oB, .ref oS, .ref oP, .ref oQ]))] := hD
    refine lv_if_eq (tgt := 13) hx hb dX7_place_4 (by decide) (fun _ => ?_) (fun c6 => absurd (by decide) c6)
    refine lv_iload_n hx hb dX7_place_13 rfl (lv_at hl 1 rfl) ?_
    refine sp_calli (wr := [(h, .inr (5, [.ref oN, .ref oR, .ref oB, .ref oS, .ref oP, .ref oQ]))]) (wc := []) hP hD hS hA [] [0] rfl rfl (by decide) (by decide) (va_runS (As := [.int b]) (rest := []) ⟨hx, hb, hml, hown, hts⟩ (c_X2_placeOf l D cI cJ cZ H.size (b)) (va_cwS 1 hts gX7_place_X2_placeOf_97 rfl rfl rfl (by decide +kernel) ⟨Nat.le_of_ble_eq_true rfl, Nat.le_of_ble_eq_true rfl⟩) (sp_preS [.int b] hK (hP.sub (ws' := []) [] rfl) (hD.sub (ws' := []) [] (by decide) rfl)) rfl rfl hl.1 rfl (lv_room (Nat.le_of_ble_eq_true rfl)) dX7_place_14 ⟨Nat.le_of_ble_eq_true rfl, Nat.le_of_ble_eq_true rfl⟩) (fun r7 u8 H locs hw9 hP hD hS => ?_)
    rcases hw9 with ⟨h10, rfl⟩ | ⟨h10, rfl⟩
    · skip
      have hP : va_P D vwCl [(h, .inr (5, [.ref oN, .ref oR, .ref oB, .ref oS, .ref oP, .ref oQ]))] H := hP
      have hD : va_D A [(h, .inr (5, [.ref oN, .ref oR, .ref oB, .ref oS, .ref oP, .ref oQ]))] := hD
      refine lv_i2l (v := _) hx hb dX7_place_17 rfl ?_
      refine W.widen (k := 0) (n := 0) (by decide) (by decide) ?_
      exact sp_lret (u := ()) hx hb hr hlocks hS (by unfold sp_place; (repeat' split) <;> first | (exfalso; omega) | rfl) (hP.sub [] rfl) (hD.sub [] (by decide) rfl) dX7_place_18
    · skip
      have hP : va_P D vwCl [(h, .inr (5, [.ref oN, .ref oR, .ref oB, .ref oS, .ref oP, .ref oQ]))] H := hP
      have hD : va_D A [(h, .inr (5, [.ref oN, .ref oR, .ref oB, .ref oS, .ref oP, .ref oQ]))] := hD
      refine lv_i2l (v := _) hx hb dX7_place_17 rfl ?_
      refine W.widen (k := 0) (n := 0) (by decide) (by decide) ?_
      exact sp_lret (u := ()) hx hb hr hlocks hS (by unfold sp_place; (repeat' split) <;> first | (exfalso; omega) | rfl) (hP.sub [] rfl) (hD.sub [] (by decide) rfl) dX7_place_18
def oX7_bits : List Cond := [.constantLong RX7 95 (-9223372036854775808)]
def wpX7_bits : List Cond := .code yX7_bits cX7_bits 2 (some .long) :: (oX7_bits ++ ((va_wsS RX7 83 yX7_isPlace wpX7_isPlace) ++ ((va_wsS RX7 101 yX2_bitsAt wpX2_bitsAt) ++ ([] : List Cond))))
theorem oX7_bits_in : ∀ w ∈ oX7_bits, w ∈ wpX7_bits := fun w h => List.mem_cons_of_mem _ (List.mem_append_left _ h)
theorem gwoX7_bits : ∀ w ∈ oX7_bits, goodWord w = true := by decide +kernel
theorem gwX7_bits : ∀ w ∈ wpX7_bits, goodWord w = true := by
  unfold wpX7_bits
  exact List.forall_mem_cons.mpr ⟨rfl, List.forall_mem_append.mpr ⟨gwoX7_bits, List.forall_mem_append.mpr ⟨(sp_gS gwX7_isPlace), List.forall_mem_append.mpr ⟨(sp_gS gwX2_bitsAt), fun _ h => absurd h List.not_mem_nil⟩⟩⟩⟩
set_option maxRecDepth 100000 in
theorem toX7_bits : ∀ w ∈ oX7_bits, w ∈ lw_tbl := by
  unfold oX7_bits
  exact List.forall_mem_cons.mpr ⟨(List.mem_of_getElem? (i := 329) (by decide +kernel)), fun _ h => absurd h List.not_mem_nil⟩
set_option maxRecDepth 100000 in
theorem tX7_bits : ∀ w ∈ wpX7_bits, w ∈ lw_tbl := by
  unfold wpX7_bits
  exact List.forall_mem_cons.mpr ⟨(List.mem_of_getElem? (i := 336) (by rfl)), List.forall_mem_append.mpr ⟨toX7_bits, List.forall_mem_append.mpr ⟨(sp_tS (List.mem_of_getElem? (i := 311) (by decide +kernel)) (List.mem_of_getElem? (i := 312) (by decide +kernel)) (List.mem_of_getElem? (i := 38) (by decide +kernel)) tX7_isPlace), List.forall_mem_append.mpr ⟨(sp_tS (List.mem_of_getElem? (i := 337) (by decide +kernel)) (List.mem_of_getElem? (i := 338) (by decide +kernel)) (List.mem_of_getElem? (i := 46) (by decide +kernel)) tX2_bitsAt), fun _ h => absurd h List.not_mem_nil⟩⟩⟩⟩
theorem gX7_bits_X7_isPlace_83 : GoodIn wpX7_bits (va_wsS RX7 83 yX7_isPlace wpX7_isPlace) := fun w h => ⟨List.mem_cons_of_mem _ (List.mem_append_right _ (List.mem_append_left _ h)), good_of_word (sp_gS gwX7_isPlace w h)⟩
theorem gX7_bits_X2_bitsAt_101 : GoodIn wpX7_bits (va_wsS RX7 101 yX2_bitsAt wpX2_bitsAt) := fun w h => ⟨List.mem_cons_of_mem _ (List.mem_append_right _ (List.mem_append_right _ (List.mem_append_left _ h))), good_of_word (sp_gS gwX2_bitsAt w h)⟩
set_option maxHeartbeats 4000000 in
set_option maxRecDepth 100000 in
theorem c_X7_bits (l : Launch) (D : va_G) (cI cJ cZ : ClassId) (sz : Nat) (h oN oR oB oS oP oQ : Nat) (b : Int32) : Met l yX7_bits wpX7_bits ({ frames := 1, cells := 0, slots := 0, locals := 20 }) (va_Pc [.ref h, .int b] (sp_pre D vwCl (sp_ty cI cJ cZ) [(h, .inr (5, [.ref oN, .ref oR, .ref oB, .ref oS, .ref oP, .ref oQ]))] sz)) (va_Ql (fun (r : Int64) (_ : Unit) => r = sp_bits b) (sp_B D vwCl (va_A [(h, .inr (5, [.ref oN, .ref oR, .ref oB, .ref oS, .ref oP, .ref oQ]))] sz) (fun (_ : Unit) => [])) (va_A [(h, .inr (5, [.ref oN, .ref oR, .ref oB, .ref oS, .ref oP, .ref oQ]))] sz)) 0 0 (va_A [(h, .inr (5, [.ref oN, .ref oR, .ref oB, .ref oS, .ref oP, .ref oQ]))] sz) := by
  refine sp_ofW (Qc := fun A => va_Ql (fun (r : Int64) (_ : Unit) => r = sp_bits b) (sp_B D vwCl A (fun (_ : Unit) => [])) A) (by decide) rfl (Nat.le_of_ble_eq_true rfl) (fun p e s m below meth c A ls H locs C0 hA hS hP hK hD hl => ?_)
  obtain ⟨hx, hb, hr, hts, hown, hlocks, hml, hin⟩ := C0
  have hown : s.vm.findClass RX7 = some m.cls := hown
  have hl : lv_has ls 2 [(0, .ref h), (1, .int b)] := hl
  have hK : va_K D vwCl [(cI, .int), (cJ, .long), (cZ, .boolean)] s := hK
  refine lv_iload_n hx hb dX7_bits_0 rfl (lv_at hl 1 rfl) ?_
  refine sp_calli (wr := [(h, .inr (5, [.ref oN, .ref oR, .ref oB, .ref oS, .ref oP, .ref oQ]))]) (wc := []) hP hD hS hA [] [0] rfl rfl (by decide) (by decide) (va_runS (As := [.int b]) (rest := []) ⟨hx, hb, hml, hown, hts⟩ (c_X7_isPlace l D cI cJ cZ H.size (b)) (va_cwS 1 hts gX7_bits_X7_isPlace_83 rfl rfl rfl (by decide +kernel) ⟨Nat.le_of_ble_eq_true rfl, Nat.le_of_ble_eq_true rfl⟩) (sp_preS [.int b] hK (hP.sub (ws' := []) [] rfl) (hD.sub (ws' := []) [] (by decide) rfl)) rfl rfl hl.1 rfl (lv_room (Nat.le_of_ble_eq_true rfl)) dX7_bits_1 ⟨Nat.le_of_ble_eq_true rfl, Nat.le_of_ble_eq_true rfl⟩) (fun r1 u2 H locs hw3 hP hD hS => ?_)
  rcases hw3 with ⟨rfl, h4⟩ | ⟨rfl, h4⟩
  · skip
    have h4 : -2139095041 ≤ (b : Int32).toInt ∧ (b : Int32).toInt ≤ 2139095040 := h4
    have hP : va_P D vwCl [(h, .inr (5, [.ref oN, .ref oR, .ref oB, .ref oS, .ref oP, .ref oQ]))] H := hP
    have hD : va_D A [(h, .inr (5, [.ref oN, .ref oR, .ref oB, .ref oS, .ref oP, .ref oQ]))] := hD
    refine lv_if_eq (tgt := 15) hx hb dX7_bits_4 (by decide) (fun c5 => absurd c5 (by decide)) (fun _ => ?_)
    refine lv_iload_n hx hb dX7_bits_7 rfl (lv_at hl 1 rfl) ?_
    refine sp_calli (wr := [(h, .inr (5, [.ref oN, .ref oR, .ref oB, .ref oS, .ref oP, .ref oQ]))]) (wc := []) hP hD hS hA [] [0] rfl rfl (by decide) (by decide) (va_runS (As := [.int b]) (rest := []) ⟨hx, hb, hml, hown, hts⟩ (c_X2_bitsAt l D cI cJ cZ H.size (b)) (va_cwS 1 hts gX7_bits_X2_bitsAt_101 rfl rfl rfl (by decide +kernel) ⟨Nat.le_of_ble_eq_true rfl, Nat.le_of_ble_eq_true rfl⟩) (sp_preS [.int b] hK (hP.sub (ws' := []) [] rfl) (hD.sub (ws' := []) [] (by decide) rfl)) rfl rfl hl.1 rfl (lv_room (Nat.le_of_ble_eq_true rfl)) dX7_bits_8 ⟨Nat.le_of_ble_eq_true rfl, Nat.le_of_ble_eq_true rfl⟩) (fun r6 u7 H locs hw8 hP hD hS => ?_)
    rcases hw8 with ⟨h9, rfl⟩ | ⟨h9, rfl⟩
    · skip
      have hP : va_P D vwCl [(h, .inr (5, [.ref oN, .ref oR, .ref oB, .ref oS, .ref oP, .ref oQ]))] H := hP
      have hD : va_D A [(h, .inr (5, [.ref oN, .ref oR, .ref oB, .ref oS, .ref oP, .ref oQ]))] := hD
      refine lv_i2l (v := _) hx hb dX7_bits_11 rfl ?_
      refine lv_goto (tgt := 18) hx hb dX7_bits_12 (by decide) ?_
      refine W.widen (k := 0) (n := 0) (by decide) (by decide) ?_
      exact sp_lret (u := ()) hx hb hr hlocks hS (by unfold sp_bits; (repeat' split) <;> first | (exfalso; omega) | rfl) (hP.sub [] rfl) (hD.sub [] (by decide) rfl) dX7_bits_18
    · skip
      have hP : va_P D vwCl [(h, .inr (5, [.ref oN, .ref oR, .ref oB, .ref oS, .ref oP, .ref oQ]))] H := hP
      have hD : va_D A [(h, .inr (5, [.ref oN, .ref oR, .ref oB, .ref oS, .ref oP, .ref oQ]))] := hD
      refine lv_i2l (v := _) hx hb dX7_bits_11 rfl ?_
      refine lv_goto (tgt := 18) hx hb dX7_bits_12 (by decide) ?_
      refine W.widen (k := 0) (n := 0) (by decide) (by decide) ?_
      exact sp_lret (u := ()) hx hb hr hlocks hS (by unfold sp_bits; (repeat' split) <;> first | (exfalso; omega) | rfl) (hP.sub [] rfl) (hD.sub [] (by decide) rfl) dX7_bits_18
  · skip
    have h4 : ¬ (-2139095041 ≤ (b : Int32).toInt ∧ (b : Int32).toInt ≤ 2139095040) := h4
    have hP : va_P D vwCl [(h, .inr (5, [.ref oN, .ref oR, .ref oB, .ref oS, .ref oP, .ref oQ]))] H := hP
    have hD : va_D A [(h, .inr (5, [.ref oN, .ref oR, .ref oB, .ref oS, .ref oP, .ref oQ]))] := hD
    refine lv_if_eq (tgt := 15) hx hb dX7_bits_4 (by decide) (fun _ => ?_) (fun c10 => absurd (by decide) c10)
    refine lv_ldc2 (v := (-9223372036854775808)) hx hb hown (hts (.constantLong RX7 95 (-9223372036854775808)) (oX7_bits_in _ (List.mem_of_getElem? (i := 0) rfl))) dX7_bits_15 ?_
    refine W.widen (k := 0) (n := 0) (by decide) (by decide) ?_
    exact sp_lret (u := ()) hx hb hr hlocks hS (by unfold sp_bits; (repeat' split) <;> first | (exfalso; omega) | rfl) (hP.sub [] rfl) (hD.sub [] (by decide) rfl) dX7_bits_18
def oX7_value : List Cond := [.fieldLink RX7 16 "FloatSolver" "nodes" "LFloatSolver$Nodes;", .constantLong RX7 95 (-9223372036854775808)]
def wpX7_value : List Cond := .code yX7_value cX7_value 2 (some .long) :: (oX7_value ++ (wsX70 ++ ((wsV RX7 63 RX3 yX3_has wpX3_has) ++ ([] : List Cond))))
theorem oX7_value_in : ∀ w ∈ oX7_value, w ∈ wpX7_value := fun w h => List.mem_cons_of_mem _ (List.mem_append_left _ h)
theorem gwoX7_value : ∀ w ∈ oX7_value, goodWord w = true := by decide +kernel
theorem gwX7_value : ∀ w ∈ wpX7_value, goodWord w = true := by
  unfold wpX7_value
  exact List.forall_mem_cons.mpr ⟨rfl, List.forall_mem_append.mpr ⟨gwoX7_value, List.forall_mem_append.mpr ⟨gwX7, List.forall_mem_append.mpr ⟨(sp_gV gwX3_has), fun _ h => absurd h List.not_mem_nil⟩⟩⟩⟩
set_option maxRecDepth 100000 in
theorem toX7_value : ∀ w ∈ oX7_value, w ∈ lw_tbl := by
  unfold oX7_value
  exact List.forall_mem_cons.mpr ⟨(List.mem_of_getElem? (i := 239) (by decide +kernel)), List.forall_mem_cons.mpr ⟨(List.mem_of_getElem? (i := 329) (by decide +kernel)), fun _ h => absurd h List.not_mem_nil⟩⟩
set_option maxRecDepth 100000 in
theorem tX7_value : ∀ w ∈ wpX7_value, w ∈ lw_tbl := by
  unfold wpX7_value
  exact List.forall_mem_cons.mpr ⟨(List.mem_of_getElem? (i := 343) (by rfl)), List.forall_mem_append.mpr ⟨toX7_value, List.forall_mem_append.mpr ⟨in_wsX70, List.forall_mem_append.mpr ⟨(sp_tV (List.mem_of_getElem? (i := 268) (by decide +kernel)) (List.mem_of_getElem? (i := 269) (by decide +kernel)) (List.mem_of_getElem? (i := 270) (by decide +kernel)) (List.mem_of_getElem? (i := 39) (by decide +kernel)) tX3_has), fun _ h => absurd h List.not_mem_nil⟩⟩⟩⟩
theorem iX7_value_X7 : ∀ w ∈ wsX70, w ∈ wpX7_value := fun w h => List.mem_cons_of_mem _ (List.mem_append_right _ (List.mem_append_left _ h))
theorem gX7_value_X3_has_63 : GoodIn wpX7_value (wsV RX7 63 RX3 yX3_has wpX3_has) := fun w h => ⟨List.mem_cons_of_mem _ (List.mem_append_right _ (List.mem_append_right _ (List.mem_append_left _ h))), good_of_word (sp_gV gwX3_has w h)⟩
set_option maxHeartbeats 4000000 in
set_option maxRecDepth 100000 in
theorem c_X7_value (l : Launch) (D : va_G) (cI cJ cZ : ClassId) (sz : Nat) (h oN oR oB oS oP oQ : Nat) (n0 n1 n2 n3 n4 n5 : Nat) (a : Int32) : Met l yX7_value wpX7_value ({ frames := 1, cells := 0, slots := 0, locals := 21 }) (va_Pc [.ref h, .int a] (sp_pre D vwCl (sp_ty cI cJ cZ) [(h, .inr (5, [.ref oN, .ref oR, .ref oB, .ref oS, .ref oP, .ref oQ])), (oN, .inr (1, [.ref n0, .ref n1, .ref n2, .ref n3, .ref n4, .ref n5, .int 0]))] sz)) (va_Ql (fun (r : Int64) (_ : Unit) => r = (-9223372036854775808)) (sp_B D vwCl (va_A [(h, .inr (5, [.ref oN, .ref oR, .ref oB, .ref oS, .ref oP, .ref oQ])), (oN, .inr (1, [.ref n0, .ref n1, .ref n2, .ref n3, .ref n4, .ref n5, .int 0]))] sz) (fun (_ : Unit) => [])) (va_A [(h, .inr (5, [.ref oN, .ref oR, .ref oB, .ref oS, .ref oP, .ref oQ])), (oN, .inr (1, [.ref n0, .ref n1, .ref n2, .ref n3, .ref n4, .ref n5, .int 0]))] sz)) 0 0 (va_A [(h, .inr (5, [.ref oN, .ref oR, .ref oB, .ref oS, .ref oP, .ref oQ])), (oN, .inr (1, [.ref n0, .ref n1, .ref n2, .ref n3, .ref n4, .ref n5, .int 0]))] sz) := by
  refine sp_ofW (Qc := fun A => va_Ql (fun (r : Int64) (_ : Unit) => r = (-9223372036854775808)) (sp_B D vwCl A (fun (_ : Unit) => [])) A) (by decide) rfl (Nat.le_of_ble_eq_true rfl) (fun p e s m below meth c A ls H locs C0 hA hS hP hK hD hl => ?_)
  obtain ⟨hx, hb, hr, hts, hown, hlocks, hml, hin⟩ := C0
  have hown : s.vm.findClass RX7 = some m.cls := hown
  have hl : lv_has ls 2 [(0, .ref h), (1, .int a)] := hl
  have hK : va_K D vwCl [(cI, .int), (cJ, .long), (cZ, .boolean)] s := hK
  refine lv_aload_n hx hb dX7_value_0 rfl (lv_at hl 0 rfl) ?_
  refine va_get (D := D) (ci := 5) (v := .ref oN) (C := RX7) (T := TX7) (N := 6) hx hb hts iX7_value_X7 hown hK hP 0 rfl rfl 0 (by decide) (hts (.fieldLink RX7 16 "FloatSolver" "nodes" "LFloatSolver$Nodes;") (oX7_value_in _ (List.mem_of_getElem? (i := 0) rfl))) (fun _ h9 => h9) rfl dX7_value_1 ?_
  refine lv_iload_n hx hb dX7_value_4 rfl (lv_at hl 1 rfl) ?_
  refine sp_calli (wr := [(h, .inr (5, [.ref oN, .ref oR, .ref oB, .ref oS, .ref oP, .ref oQ]))]) (wc := [(oN, .inr (1, [.ref n0, .ref n1, .ref n2, .ref n3, .ref n4, .ref n5, .int 0]))]) hP hD hS hA [1] [0] rfl rfl (by decide) (by decide) (va_runV (As := [.int a]) (rest := []) ⟨hx, hb, hml, hown, hts⟩ (c_X3_has l D cI cJ cZ H.size oN n0 n1 n2 n3 n4 n5 (0) (a)) (cwV 1 hts gX7_value_X3_has_63 rfl rfl rfl (by decide +kernel) ⟨Nat.le_of_ble_eq_true rfl, Nat.le_of_ble_eq_true rfl⟩) (sp_preV (ci := 1) (q0 := 0) [.int a] hK (hP.sub (ws' := [(oN, .inr (1, [.ref n0, .ref n1, .ref n2, .ref n3, .ref n4, .ref n5, .int 0]))]) [1] rfl) (hD.sub (ws' := [(oN, .inr (1, [.ref n0, .ref n1, .ref n2, .ref n3, .ref n4, .ref n5, .int 0]))]) [1] (by decide) rfl) rfl rfl) rfl rfl hl.1 rfl (lv_room (Nat.le_of_ble_eq_true rfl)) dX7_value_5 ⟨Nat.le_of_ble_eq_true rfl, Nat.le_of_ble_eq_true rfl⟩) (fun r1 u2 H locs hw3 hP hD hS => ?_)
  rcases hw3 with ⟨rfl, h4⟩ | ⟨rfl, h4⟩
  · skip
    have h4 : 0 ≤ (a : Int32).toInt ∧ (a : Int32).toInt < (0 : Int) := h4
    exact absurd h4 (by omega)
  · skip
    have h4 : ¬ (0 ≤ (a : Int32).toInt ∧ (a : Int32).toInt < (0 : Int)) := h4
    have hP : va_P D vwCl [(h, .inr (5, [.ref oN, .ref oR, .ref oB, .ref oS, .ref oP, .ref oQ])), (oN, .inr (1, [.ref n0, .ref n1, .ref n2, .ref n3, .ref n4, .ref n5, .int 0]))] H := hP
    have hD : va_D A [(h, .inr (5, [.ref oN, .ref oR, .ref oB, .ref oS, .ref oP, .ref oQ])), (oN, .inr (1, [.ref n0, .ref n1, .ref n2, .ref n3, .ref n4, .ref n5, .int 0]))] := hD
    refine lv_if_ne (tgt := 15) hx hb dX7_value_8 (by decide) (fun c5 => absurd (by decide) c5) (fun _ => ?_)
    refine lv_ldc2 (v := (-9223372036854775808)) hx hb hown (hts (.constantLong RX7 95 (-9223372036854775808)) (oX7_value_in _ (List.mem_of_getElem? (i := 1) rfl))) dX7_value_11 ?_
    refine W.widen (k := 0) (n := 0) (by decide) (by decide) ?_
    exact sp_lret (u := ()) hx hb hr hlocks hS rfl (hP.sub [] rfl) (hD.sub [] (by decide) rfl) dX7_value_14
def oX7_span : List Cond := [.fieldLink RX7 16 "FloatSolver" "nodes" "LFloatSolver$Nodes;", .constantLong RX7 95 (-9223372036854775808)]
def wpX7_span : List Cond := .code yX7_span cX7_span 3 (some .long) :: (oX7_span ++ (wsX70 ++ ((wsV RX7 63 RX3 yX3_has wpX3_has) ++ ([] : List Cond))))
theorem oX7_span_in : ∀ w ∈ oX7_span, w ∈ wpX7_span := fun w h => List.mem_cons_of_mem _ (List.mem_append_left _ h)
theorem gwoX7_span : ∀ w ∈ oX7_span, goodWord w = true := by decide +kernel
theorem gwX7_span : ∀ w ∈ wpX7_span, goodWord w = true := by
  unfold wpX7_span
  exact List.forall_mem_cons.mpr ⟨rfl, List.forall_mem_append.mpr ⟨gwoX7_span, List.forall_mem_append.mpr ⟨gwX7, List.forall_mem_append.mpr ⟨(sp_gV gwX3_has), fun _ h => absurd h List.not_mem_nil⟩⟩⟩⟩
set_option maxRecDepth 100000 in
theorem toX7_span : ∀ w ∈ oX7_span, w ∈ lw_tbl := by
  unfold oX7_span
  exact List.forall_mem_cons.mpr ⟨(List.mem_of_getElem? (i := 239) (by decide +kernel)), List.forall_mem_cons.mpr ⟨(List.mem_of_getElem? (i := 329) (by decide +kernel)), fun _ h => absurd h List.not_mem_nil⟩⟩
set_option maxRecDepth 100000 in
theorem tX7_span : ∀ w ∈ wpX7_span, w ∈ lw_tbl := by
  unfold wpX7_span
  exact List.forall_mem_cons.mpr ⟨(List.mem_of_getElem? (i := 453) (by rfl)), List.forall_mem_append.mpr ⟨toX7_span, List.forall_mem_append.mpr ⟨in_wsX70, List.forall_mem_append.mpr ⟨(sp_tV (List.mem_of_getElem? (i := 268) (by decide +kernel)) (List.mem_of_getElem? (i := 269) (by decide +kernel)) (List.mem_of_getElem? (i := 270) (by decide +kernel)) (List.mem_of_getElem? (i := 39) (by decide +kernel)) tX3_has), fun _ h => absurd h List.not_mem_nil⟩⟩⟩⟩
theorem iX7_span_X7 : ∀ w ∈ wsX70, w ∈ wpX7_span := fun w h => List.mem_cons_of_mem _ (List.mem_append_right _ (List.mem_append_left _ h))
theorem gX7_span_X3_has_63 : GoodIn wpX7_span (wsV RX7 63 RX3 yX3_has wpX3_has) := fun w h => ⟨List.mem_cons_of_mem _ (List.mem_append_right _ (List.mem_append_right _ (List.mem_append_left _ h))), good_of_word (sp_gV gwX3_has w h)⟩
set_option maxHeartbeats 4000000 in
set_option maxRecDepth 100000 in
theorem c_X7_span (l : Launch) (D : va_G) (cI cJ cZ : ClassId) (sz : Nat) (h oN oR oB oS oP oQ : Nat) (n0 n1 n2 n3 n4 n5 : Nat) (a b : Int32) : Met l yX7_span wpX7_span ({ frames := 1, cells := 0, slots := 0, locals := 21 }) (va_Pc [.ref h, .int a, .int b] (sp_pre D vwCl (sp_ty cI cJ cZ) [(h, .inr (5, [.ref oN, .ref oR, .ref oB, .ref oS, .ref oP, .ref oQ])), (oN, .inr (1, [.ref n0, .ref n1, .ref n2, .ref n3, .ref n4, .ref n5, .int 0]))] sz)) (va_Ql (fun (r : Int64) (_ : Unit) => r = (-9223372036854775808)) (sp_B D vwCl (va_A [(h, .inr (5, [.ref oN, .ref oR, .ref oB, .ref oS, .ref oP, .ref oQ])), (oN, .inr (1, [.ref n0, .ref n1, .ref n2, .ref n3, .ref n4, .ref n5, .int 0]))] sz) (fun (_ : Unit) => [])) (va_A [(h, .inr (5, [.ref oN, .ref oR, .ref oB, .ref oS, .ref oP, .ref oQ])), (oN, .inr (1, [.ref n0, .ref n1, .ref n2, .ref n3, .ref n4, .ref n5, .int 0]))] sz)) 0 0 (va_A [(h, .inr (5, [.ref oN, .ref oR, .ref oB, .ref oS, .ref oP, .ref oQ])), (oN, .inr (1, [.ref n0, .ref n1, .ref n2, .ref n3, .ref n4, .ref n5, .int 0]))] sz) := by
  refine sp_ofW (Qc := fun A => va_Ql (fun (r : Int64) (_ : Unit) => r = (-9223372036854775808)) (sp_B D vwCl A (fun (_ : Unit) => [])) A) (by decide) rfl (Nat.le_of_ble_eq_true rfl) (fun p e s m below meth c A ls H locs C0 hA hS hP hK hD hl => ?_)
  obtain ⟨hx, hb, hr, hts, hown, hlocks, hml, hin⟩ := C0
  have hown : s.vm.findClass RX7 = some m.cls := hown
  have hl : lv_has ls 3 [(0, .ref h), (1, .int a), (2, .int b)] := hl
  have hK : va_K D vwCl [(cI, .int), (cJ, .long), (cZ, .boolean)] s := hK
  refine lv_aload_n hx hb dX7_span_0 rfl (lv_at hl 0 rfl) ?_
  refine va_get (D := D) (ci := 5) (v := .ref oN) (C := RX7) (T := TX7) (N := 6) hx hb hts iX7_span_X7 hown hK hP 0 rfl rfl 0 (by decide) (hts (.fieldLink RX7 16 "FloatSolver" "nodes" "LFloatSolver$Nodes;") (oX7_span_in _ (List.mem_of_getElem? (i := 0) rfl))) (fun _ h9 => h9) rfl dX7_span_1 ?_
  refine lv_iload_n hx hb dX7_span_4 rfl (lv_at hl 1 rfl) ?_
  refine sp_calli (wr := [(h, .inr (5, [.ref oN, .ref oR, .ref oB, .ref oS, .ref oP, .ref oQ]))]) (wc := [(oN, .inr (1, [.ref n0, .ref n1, .ref n2, .ref n3, .ref n4, .ref n5, .int 0]))]) hP hD hS hA [1] [0] rfl rfl (by decide) (by decide) (va_runV (As := [.int a]) (rest := []) ⟨hx, hb, hml, hown, hts⟩ (c_X3_has l D cI cJ cZ H.size oN n0 n1 n2 n3 n4 n5 (0) (a)) (cwV 1 hts gX7_span_X3_has_63 rfl rfl rfl (by decide +kernel) ⟨Nat.le_of_ble_eq_true rfl, Nat.le_of_ble_eq_true rfl⟩) (sp_preV (ci := 1) (q0 := 0) [.int a] hK (hP.sub (ws' := [(oN, .inr (1, [.ref n0, .ref n1, .ref n2, .ref n3, .ref n4, .ref n5, .int 0]))]) [1] rfl) (hD.sub (ws' := [(oN, .inr (1, [.ref n0, .ref n1, .ref n2, .ref n3, .ref n4, .ref n5, .int 0]))]) [1] (by decide) rfl) rfl rfl) rfl rfl hl.1 rfl (lv_room (Nat.le_of_ble_eq_true rfl)) dX7_span_5 ⟨Nat.le_of_ble_eq_true rfl, Nat.le_of_ble_eq_true rfl⟩) (fun r1 u2 H locs hw3 hP hD hS => ?_)
  rcases hw3 with ⟨rfl, h4⟩ | ⟨rfl, h4⟩
  · skip
    have h4 : 0 ≤ (a : Int32).toInt ∧ (a : Int32).toInt < (0 : Int) := h4
    exact absurd h4 (by omega)
  · skip
    have h4 : ¬ (0 ≤ (a : Int32).toInt ∧ (a : Int32).toInt < (0 : Int)) := h4
    have hP : va_P D vwCl [(h, .inr (5, [.ref oN, .ref oR, .ref oB, .ref oS, .ref oP, .ref oQ])), (oN, .inr (1, [.ref n0, .ref n1, .ref n2, .ref n3, .ref n4, .ref n5, .int 0]))] H := hP
    have hD : va_D A [(h, .inr (5, [.ref oN, .ref oR, .ref oB, .ref oS, .ref oP, .ref oQ])), (oN, .inr (1, [.ref n0, .ref n1, .ref n2, .ref n3, .ref n4, .ref n5, .int 0]))] := hD
    refine lv_if_ne (tgt := 15) hx hb dX7_span_8 (by decide) (fun c5 => absurd (by decide) c5) (fun _ => ?_)
    refine lv_ldc2 (v := (-9223372036854775808)) hx hb hown (hts (.constantLong RX7 95 (-9223372036854775808)) (oX7_span_in _ (List.mem_of_getElem? (i := 1) rfl))) dX7_span_11 ?_
    refine W.widen (k := 0) (n := 0) (by decide) (by decide) ?_
    exact sp_lret (u := ()) hx hb hr hlocks hS rfl (hP.sub [] rfl) (hD.sub [] (by decide) rfl) dX7_span_14
def oX7_holds : List Cond := [.fieldLink RX7 23 "FloatSolver" "rules" "LFloatSolver$Rules;"]
def wpX7_holds : List Cond := .code yX7_holds cX7_holds 2 (some .int) :: (oX7_holds ++ (wsX70 ++ ((wsV RX7 111 RX4 yX4_has wpX4_has) ++ ([] : List Cond))))
theorem oX7_holds_in : ∀ w ∈ oX7_holds, w ∈ wpX7_holds := fun w h => List.mem_cons_of_mem _ (List.mem_append_left _ h)
theorem gwoX7_holds : ∀ w ∈ oX7_holds, goodWord w = true := by decide +kernel
theorem gwX7_holds : ∀ w ∈ wpX7_holds, goodWord w = true := by
  unfold wpX7_holds
  exact List.forall_mem_cons.mpr ⟨rfl, List.forall_mem_append.mpr ⟨gwoX7_holds, List.forall_mem_append.mpr ⟨gwX7, List.forall_mem_append.mpr ⟨(sp_gV gwX4_has), fun _ h => absurd h List.not_mem_nil⟩⟩⟩⟩
set_option maxRecDepth 100000 in
theorem toX7_holds : ∀ w ∈ oX7_holds, w ∈ lw_tbl := by
  unfold oX7_holds
  exact List.forall_mem_cons.mpr ⟨(List.mem_of_getElem? (i := 240) (by decide +kernel)), fun _ h => absurd h List.not_mem_nil⟩
set_option maxRecDepth 100000 in
theorem tX7_holds : ∀ w ∈ wpX7_holds, w ∈ lw_tbl := by
  unfold wpX7_holds
  exact List.forall_mem_cons.mpr ⟨(List.mem_of_getElem? (i := 433) (by rfl)), List.forall_mem_append.mpr ⟨toX7_holds, List.forall_mem_append.mpr ⟨in_wsX70, List.forall_mem_append.mpr ⟨(sp_tV (List.mem_of_getElem? (i := 434) (by decide +kernel)) (List.mem_of_getElem? (i := 435) (by decide +kernel)) (List.mem_of_getElem? (i := 436) (by decide +kernel)) (List.mem_of_getElem? (i := 40) (by decide +kernel)) tX4_has), fun _ h => absurd h List.not_mem_nil⟩⟩⟩⟩
theorem iX7_holds_X7 : ∀ w ∈ wsX70, w ∈ wpX7_holds := fun w h => List.mem_cons_of_mem _ (List.mem_append_right _ (List.mem_append_left _ h))
theorem gX7_holds_X4_has_111 : GoodIn wpX7_holds (wsV RX7 111 RX4 yX4_has wpX4_has) := fun w h => ⟨List.mem_cons_of_mem _ (List.mem_append_right _ (List.mem_append_right _ (List.mem_append_left _ h))), good_of_word (sp_gV gwX4_has w h)⟩
set_option maxHeartbeats 4000000 in
set_option maxRecDepth 100000 in
theorem c_X7_holds (l : Launch) (D : va_G) (cI cJ cZ : ClassId) (sz : Nat) (h oN oR oB oS oP oQ : Nat) (r0 r1 r2 : Nat) (a : Int32) : Met l yX7_holds wpX7_holds ({ frames := 1, cells := 0, slots := 0, locals := 21 }) (va_Pc [.ref h, .int a] (sp_pre D vwCl (sp_ty cI cJ cZ) [(h, .inr (5, [.ref oN, .ref oR, .ref oB, .ref oS, .ref oP, .ref oQ])), (oR, .inr (2, [.ref r0, .ref r1, .ref r2, .int 0]))] sz)) (va_Qi (fun (r : Int32) (_ : Unit) => r = (-1)) (sp_B D vwCl (va_A [(h, .inr (5, [.ref oN, .ref oR, .ref oB, .ref oS, .ref oP, .ref oQ])), (oR, .inr (2, [.ref r0, .ref r1, .ref r2, .int 0]))] sz) (fun (_ : Unit) => [])) (va_A [(h, .inr (5, [.ref oN, .ref oR, .ref oB, .ref oS, .ref oP, .ref oQ])), (oR, .inr (2, [.ref r0, .ref r1, .ref r2, .int 0]))] sz)) 0 0 (va_A [(h, .inr (5, [.ref oN, .ref oR, .ref oB, .ref oS, .ref oP, .ref oQ])), (oR, .inr (2, [.ref r0, .ref r1, .ref r2, .int 0]))] sz) := by
  refine sp_ofW (Qc := fun A => va_Qi (fun (r : Int32) (_ : Unit) => r = (-1)) (sp_B D vwCl A (fun (_ : Unit) => [])) A) (by decide) rfl (Nat.le_of_ble_eq_true rfl) (fun p e s m below meth c A ls H locs C0 hA hS hP hK hD hl => ?_)
  obtain ⟨hx, hb, hr, hts, hown, hlocks, hml, hin⟩ := C0
  have hown : s.vm.findClass RX7 = some m.cls := hown
  have hl : lv_has ls 2 [(0, .ref h), (1, .int a)] := hl
  have hK : va_K D vwCl [(cI, .int), (cJ, .long), (cZ, .boolean)] s := hK
  refine lv_aload_n hx hb dX7_holds_0 rfl (lv_at hl 0 rfl) ?_
  refine va_get (D := D) (ci := 5) (v := .ref oR) (C := RX7) (T := TX7) (N := 6) hx hb hts iX7_holds_X7 hown hK hP 0 rfl rfl 1 (by decide) (hts (.fieldLink RX7 23 "FloatSolver" "rules" "LFloatSolver$Rules;") (oX7_holds_in _ (List.mem_of_getElem? (i := 0) rfl))) (fun _ h9 => h9) rfl dX7_holds_1 ?_
  refine lv_iload_n hx hb dX7_holds_4 rfl (lv_at hl 1 rfl) ?_
  refine sp_calli (wr := [(h, .inr (5, [.ref oN, .ref oR, .ref oB, .ref oS, .ref oP, .ref oQ]))]) (wc := [(oR, .inr (2, [.ref r0, .ref r1, .ref r2, .int 0]))]) hP hD hS hA [1] [0] rfl rfl (by decide) (by decide) (va_runV (As := [.int a]) (rest := []) ⟨hx, hb, hml, hown, hts⟩ (c_X4_has l D cI cJ cZ H.size oR r0 r1 r2 (0) (a)) (cwV 1 hts gX7_holds_X4_has_111 rfl rfl rfl (by decide +kernel) ⟨Nat.le_of_ble_eq_true rfl, Nat.le_of_ble_eq_true rfl⟩) (sp_preV (ci := 2) (q0 := 0) [.int a] hK (hP.sub (ws' := [(oR, .inr (2, [.ref r0, .ref r1, .ref r2, .int 0]))]) [1] rfl) (hD.sub (ws' := [(oR, .inr (2, [.ref r0, .ref r1, .ref r2, .int 0]))]) [1] (by decide) rfl) rfl rfl) rfl rfl hl.1 rfl (lv_room (Nat.le_of_ble_eq_true rfl)) dX7_holds_5 ⟨Nat.le_of_ble_eq_true rfl, Nat.le_of_ble_eq_true rfl⟩) (fun r1 u2 H locs hw3 hP hD hS => ?_)
  rcases hw3 with ⟨rfl, h4⟩ | ⟨rfl, h4⟩
  · skip
    have h4 : 0 ≤ (a : Int32).toInt ∧ (a : Int32).toInt < (0 : Int) := h4
    exact absurd h4 (by omega)
  · skip
    have h4 : ¬ (0 ≤ (a : Int32).toInt ∧ (a : Int32).toInt < (0 : Int)) := h4
    have hP : va_P D vwCl [(h, .inr (5, [.ref oN, .ref oR, .ref oB, .ref oS, .ref oP, .ref oQ])), (oR, .inr (2, [.ref r0, .ref r1, .ref r2, .int 0]))] H := hP
    have hD : va_D A [(h, .inr (5, [.ref oN, .ref oR, .ref oB, .ref oS, .ref oP, .ref oQ])), (oR, .inr (2, [.ref r0, .ref r1, .ref r2, .int 0]))] := hD
    refine lv_if_ne (tgt := 13) hx hb dX7_holds_8 (by decide) (fun c5 => absurd (by decide) c5) (fun _ => ?_)
    refine lv_iconst (v := (-1)) hx hb dX7_holds_11 (by decide) ?_
    refine W.widen (k := 0) (n := 0) (by decide) (by decide) ?_
    exact sp_iret (u := ()) hx hb hr hlocks hS rfl (hP.sub [] rfl) (hD.sub [] (by decide) rfl) dX7_holds_12
def oX7_judge : List Cond := [.fieldLink RX7 23 "FloatSolver" "rules" "LFloatSolver$Rules;"]
def wpX7_judge : List Cond := .code yX7_judge cX7_judge 2 (some .int) :: (oX7_judge ++ (wsX70 ++ ((wsV RX7 111 RX4 yX4_has wpX4_has) ++ ([] : List Cond))))
theorem oX7_judge_in : ∀ w ∈ oX7_judge, w ∈ wpX7_judge := fun w h => List.mem_cons_of_mem _ (List.mem_append_left _ h)
theorem gwoX7_judge : ∀ w ∈ oX7_judge, goodWord w = true := by decide +kernel
theorem gwX7_judge : ∀ w ∈ wpX7_judge, goodWord w = true := by
  unfold wpX7_judge
  exact List.forall_mem_cons.mpr ⟨rfl, List.forall_mem_append.mpr ⟨gwoX7_judge, List.forall_mem_append.mpr ⟨gwX7, List.forall_mem_append.mpr ⟨(sp_gV gwX4_has), fun _ h => absurd h List.not_mem_nil⟩⟩⟩⟩
set_option maxRecDepth 100000 in
theorem toX7_judge : ∀ w ∈ oX7_judge, w ∈ lw_tbl := by
  unfold oX7_judge
  exact List.forall_mem_cons.mpr ⟨(List.mem_of_getElem? (i := 240) (by decide +kernel)), fun _ h => absurd h List.not_mem_nil⟩
set_option maxRecDepth 100000 in
theorem tX7_judge : ∀ w ∈ wpX7_judge, w ∈ lw_tbl := by
  unfold wpX7_judge
  exact List.forall_mem_cons.mpr ⟨(List.mem_of_getElem? (i := 525) (by rfl)), List.forall_mem_append.mpr ⟨toX7_judge, List.forall_mem_append.mpr ⟨in_wsX70, List.forall_mem_append.mpr ⟨(sp_tV (List.mem_of_getElem? (i := 434) (by decide +kernel)) (List.mem_of_getElem? (i := 435) (by decide +kernel)) (List.mem_of_getElem? (i := 436) (by decide +kernel)) (List.mem_of_getElem? (i := 40) (by decide +kernel)) tX4_has), fun _ h => absurd h List.not_mem_nil⟩⟩⟩⟩
theorem iX7_judge_X7 : ∀ w ∈ wsX70, w ∈ wpX7_judge := fun w h => List.mem_cons_of_mem _ (List.mem_append_right _ (List.mem_append_left _ h))
theorem gX7_judge_X4_has_111 : GoodIn wpX7_judge (wsV RX7 111 RX4 yX4_has wpX4_has) := fun w h => ⟨List.mem_cons_of_mem _ (List.mem_append_right _ (List.mem_append_right _ (List.mem_append_left _ h))), good_of_word (sp_gV gwX4_has w h)⟩
set_option maxHeartbeats 4000000 in
set_option maxRecDepth 100000 in
theorem c_X7_judge (l : Launch) (D : va_G) (cI cJ cZ : ClassId) (sz : Nat) (h oN oR oB oS oP oQ : Nat) (r0 r1 r2 : Nat) (a : Int32) : Met l yX7_judge wpX7_judge ({ frames := 1, cells := 0, slots := 0, locals := 21 }) (va_Pc [.ref h, .int a] (sp_pre D vwCl (sp_ty cI cJ cZ) [(h, .inr (5, [.ref oN, .ref oR, .ref oB, .ref oS, .ref oP, .ref oQ])), (oR, .inr (2, [.ref r0, .ref r1, .ref r2, .int 0]))] sz)) (va_Qi (fun (r : Int32) (_ : Unit) => r = (-1)) (sp_B D vwCl (va_A [(h, .inr (5, [.ref oN, .ref oR, .ref oB, .ref oS, .ref oP, .ref oQ])), (oR, .inr (2, [.ref r0, .ref r1, .ref r2, .int 0]))] sz) (fun (_ : Unit) => [])) (va_A [(h, .inr (5, [.ref oN, .ref oR, .ref oB, .ref oS, .ref oP, .ref oQ])), (oR, .inr (2, [.ref r0, .ref r1, .ref r2, .int 0]))] sz)) 0 0 (va_A [(h, .inr (5, [.ref oN, .ref oR, .ref oB, .ref oS, .ref oP, .ref oQ])), (oR, .inr (2, [.ref r0, .ref r1, .ref r2, .int 0]))] sz) := by
  refine sp_ofW (Qc := fun A => va_Qi (fun (r : Int32) (_ : Unit) => r = (-1)) (sp_B D vwCl A (fun (_ : Unit) => [])) A) (by decide) rfl (Nat.le_of_ble_eq_true rfl) (fun p e s m below meth c A ls H locs C0 hA hS hP hK hD hl => ?_)
  obtain ⟨hx, hb, hr, hts, hown, hlocks, hml, hin⟩ := C0
  have hown : s.vm.findClass RX7 = some m.cls := hown
  have hl : lv_has ls 2 [(0, .ref h), (1, .int a)] := hl
  have hK : va_K D vwCl [(cI, .int), (cJ, .long), (cZ, .boolean)] s := hK
  refine lv_aload_n hx hb dX7_judge_0 rfl (lv_at hl 0 rfl) ?_
  refine va_get (D := D) (ci := 5) (v := .ref oR) (C := RX7) (T := TX7) (N := 6) hx hb hts iX7_judge_X7 hown hK hP 0 rfl rfl 1 (by decide) (hts (.fieldLink RX7 23 "FloatSolver" "rules" "LFloatSolver$Rules;") (oX7_judge_in _ (List.mem_of_getElem? (i := 0) rfl))) (fun _ h9 => h9) rfl dX7_judge_1 ?_
  refine lv_iload_n hx hb dX7_judge_4 rfl (lv_at hl 1 rfl) ?_
  refine sp_calli (wr := [(h, .inr (5, [.ref oN, .ref oR, .ref oB, .ref oS, .ref oP, .ref oQ]))]) (wc := [(oR, .inr (2, [.ref r0, .ref r1, .ref r2, .int 0]))]) hP hD hS hA [1] [0] rfl rfl (by decide) (by decide) (va_runV (As := [.int a]) (rest := []) ⟨hx, hb, hml, hown, hts⟩ (c_X4_has l D cI cJ cZ H.size oR r0 r1 r2 (0) (a)) (cwV 1 hts gX7_judge_X4_has_111 rfl rfl rfl (by decide +kernel) ⟨Nat.le_of_ble_eq_true rfl, Nat.le_of_ble_eq_true rfl⟩) (sp_preV (ci := 2) (q0 := 0) [.int a] hK (hP.sub (ws' := [(oR, .inr (2, [.ref r0, .ref r1, .ref r2, .int 0]))]) [1] rfl) (hD.sub (ws' := [(oR, .inr (2, [.ref r0, .ref r1, .ref r2, .int 0]))]) [1] (by decide) rfl) rfl rfl) rfl rfl hl.1 rfl (lv_room (Nat.le_of_ble_eq_true rfl)) dX7_judge_5 ⟨Nat.le_of_ble_eq_true rfl, Nat.le_of_ble_eq_true rfl⟩) (fun r1 u2 H locs hw3 hP hD hS => ?_)
  rcases hw3 with ⟨rfl, h4⟩ | ⟨rfl, h4⟩
  · skip
    have h4 : 0 ≤ (a : Int32).toInt ∧ (a : Int32).toInt < (0 : Int) := h4
    exact absurd h4 (by omega)
  · skip
    have h4 : ¬ (0 ≤ (a : Int32).toInt ∧ (a : Int32).toInt < (0 : Int)) := h4
    have hP : va_P D vwCl [(h, .inr (5, [.ref oN, .ref oR, .ref oB, .ref oS, .ref oP, .ref oQ])), (oR, .inr (2, [.ref r0, .ref r1, .ref r2, .int 0]))] H := hP
    have hD : va_D A [(h, .inr (5, [.ref oN, .ref oR, .ref oB, .ref oS, .ref oP, .ref oQ])), (oR, .inr (2, [.ref r0, .ref r1, .ref r2, .int 0]))] := hD
    refine lv_if_ne (tgt := 13) hx hb dX7_judge_8 (by decide) (fun c5 => absurd (by decide) c5) (fun _ => ?_)
    refine lv_iconst (v := (-1)) hx hb dX7_judge_11 (by decide) ?_
    refine W.widen (k := 0) (n := 0) (by decide) (by decide) ?_
    exact sp_iret (u := ()) hx hb hr hlocks hS rfl (hP.sub [] rfl) (hD.sub [] (by decide) rfl) dX7_judge_12
def oX7_solved : List Cond := [.fieldLink RX7 52 "FloatSolver" "search" "LFloatSolver$Search;", .fieldLink RX7 148 "FloatSolver$Search" "hasRun" "Z", .constantLong RX7 95 (-9223372036854775808)]
def wpX7_solved : List Cond := .code yX7_solved cX7_solved 2 (some .long) :: (oX7_solved ++ (wsX70 ++ (wsX50 ++ ([] : List Cond))))
theorem oX7_solved_in : ∀ w ∈ oX7_solved, w ∈ wpX7_solved := fun w h => List.mem_cons_of_mem _ (List.mem_append_left _ h)
theorem gwoX7_solved : ∀ w ∈ oX7_solved, goodWord w = true := by decide +kernel
theorem gwX7_solved : ∀ w ∈ wpX7_solved, goodWord w = true := by
  unfold wpX7_solved
  exact List.forall_mem_cons.mpr ⟨rfl, List.forall_mem_append.mpr ⟨gwoX7_solved, List.forall_mem_append.mpr ⟨gwX7, List.forall_mem_append.mpr ⟨gwX5, fun _ h => absurd h List.not_mem_nil⟩⟩⟩⟩
set_option maxRecDepth 100000 in
theorem toX7_solved : ∀ w ∈ oX7_solved, w ∈ lw_tbl := by
  unfold oX7_solved
  exact List.forall_mem_cons.mpr ⟨(List.mem_of_getElem? (i := 244) (by decide +kernel)), List.forall_mem_cons.mpr ⟨(List.mem_of_getElem? (i := 205) (by decide +kernel)), List.forall_mem_cons.mpr ⟨(List.mem_of_getElem? (i := 329) (by decide +kernel)), fun _ h => absurd h List.not_mem_nil⟩⟩⟩
set_option maxRecDepth 100000 in
theorem tX7_solved : ∀ w ∈ wpX7_solved, w ∈ lw_tbl := by
  unfold wpX7_solved
  exact List.forall_mem_cons.mpr ⟨(List.mem_of_getElem? (i := 600) (by rfl)), List.forall_mem_append.mpr ⟨toX7_solved, List.forall_mem_append.mpr ⟨in_wsX70, List.forall_mem_append.mpr ⟨in_wsX50, fun _ h => absurd h List.not_mem_nil⟩⟩⟩⟩
theorem iX7_solved_X7 : ∀ w ∈ wsX70, w ∈ wpX7_solved := fun w h => List.mem_cons_of_mem _ (List.mem_append_right _ (List.mem_append_left _ h))
theorem iX7_solved_X5 : ∀ w ∈ wsX50, w ∈ wpX7_solved := fun w h => List.mem_cons_of_mem _ (List.mem_append_right _ (List.mem_append_right _ (List.mem_append_left _ h)))
set_option maxHeartbeats 4000000 in
set_option maxRecDepth 100000 in
theorem c_X7_solved (l : Launch) (D : va_G) (cI cJ cZ : ClassId) (sz : Nat) (h oN oR oB oS oP oQ : Nat) (q0 q1 q2 oX : Nat) (a : Int32) : Met l yX7_solved wpX7_solved ({ frames := 1, cells := 0, slots := 0, locals := 20 }) (va_Pc [.ref h, .int a] (sp_pre D vwCl (sp_ty cI cJ cZ) [(h, .inr (5, [.ref oN, .ref oR, .ref oB, .ref oS, .ref oP, .ref oQ])), (oQ, .inr (3, [.ref oN, .ref oR, .ref oP, .ref oB, .ref q0, .ref q1, .ref q2, .int 0, .ref oX, .int 0, .int 0, .int 0, .int 0]))] sz)) (va_Ql (fun (r : Int64) (_ : Unit) => r = -9223372036854775808) (sp_B D vwCl (va_A [(h, .inr (5, [.ref oN, .ref oR, .ref oB, .ref oS, .ref oP, .ref oQ])), (oQ, .inr (3, [.ref oN, .ref oR, .ref oP, .ref oB, .ref q0, .ref q1, .ref q2, .int 0, .ref oX, .int 0, .int 0, .int 0, .int 0]))] sz) (fun (_ : Unit) => [])) (va_A [(h, .inr (5, [.ref oN, .ref oR, .ref oB, .ref oS, .ref oP, .ref oQ])), (oQ, .inr (3, [.ref oN, .ref oR, .ref oP, .ref oB, .ref q0, .ref q1, .ref q2, .int 0, .ref oX, .int 0, .int 0, .int 0, .int 0]))] sz)) 0 0 (va_A [(h, .inr (5, [.ref oN, .ref oR, .ref oB, .ref oS, .ref oP, .ref oQ])), (oQ, .inr (3, [.ref oN, .ref oR, .ref oP, .ref oB, .ref q0, .ref q1, .ref q2, .int 0, .ref oX, .int 0, .int 0, .int 0, .int 0]))] sz) := by
  refine sp_ofW (Qc := fun A => va_Ql (fun (r : Int64) (_ : Unit) => r = -9223372036854775808) (sp_B D vwCl A (fun (_ : Unit) => [])) A) (by decide) rfl (Nat.le_of_ble_eq_true rfl) (fun p e s m below meth c A ls H locs C0 hA hS hP hK hD hl => ?_)
  obtain ⟨hx, hb, hr, hts, hown, hlocks, hml, hin⟩ := C0
  have hown : s.vm.findClass RX7 = some m.cls := hown
  have hl : lv_has ls 2 [(0, .ref h), (1, .int a)] := hl
  have hK : va_K D vwCl [(cI, .int), (cJ, .long), (cZ, .boolean)] s := hK
  refine lv_aload_n hx hb dX7_solved_0 rfl (lv_at hl 0 rfl) ?_
  refine va_get (D := D) (ci := 5) (v := .ref oQ) (C := RX7) (T := TX7) (N := 6) hx hb hts iX7_solved_X7 hown hK hP 0 rfl rfl 5 (by decide) (hts (.fieldLink RX7 52 "FloatSolver" "search" "LFloatSolver$Search;") (oX7_solved_in _ (List.mem_of_getElem? (i := 0) rfl))) (fun _ h9 => h9) rfl dX7_solved_1 ?_
  refine va_get (D := D) (ci := 3) (v := .int 0) (C := RX5) (T := TX5) (N := 13) hx hb hts iX7_solved_X5 hown hK hP 1 rfl rfl 9 (by decide) (hts (.fieldLink RX7 148 "FloatSolver$Search" "hasRun" "Z") (oX7_solved_in _ (List.mem_of_getElem? (i := 1) rfl))) (fun _ h9 => h9) rfl dX7_solved_4 ?_
  refine lv_if_ne (tgt := 14) hx hb dX7_solved_7 (by decide) (fun c1 => absurd (by decide) c1) (fun _ => ?_)
  refine lv_ldc2 (v := (-9223372036854775808)) hx hb hown (hts (.constantLong RX7 95 (-9223372036854775808)) (oX7_solved_in _ (List.mem_of_getElem? (i := 2) rfl))) dX7_solved_10 ?_
  refine W.widen (k := 0) (n := 0) (by decide) (by decide) ?_
  exact sp_lret (u := ()) hx hb hr hlocks hS rfl (hP.sub [] rfl) (hD.sub [] (by decide) rfl) dX7_solved_13
