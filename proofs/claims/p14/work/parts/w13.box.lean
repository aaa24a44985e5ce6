def oX1_put : List Cond := [.fieldLink RX1 9 "FloatSolver$Box" "low" "[I", .fieldLink RX1 15 "FloatSolver$Box" "high" "[I"]
def wpX1_put : List Cond := .code yX1_put cX1_put 4 none :: (oX1_put ++ (wsX10 ++ ([] : List Cond)))
theorem oX1_put_in : ∀ w ∈ oX1_put, w ∈ wpX1_put := fun w h => List.mem_cons_of_mem _ (List.mem_append_left _ h)
theorem gwoX1_put : ∀ w ∈ oX1_put, goodWord w = true := by decide +kernel
theorem gwX1_put : ∀ w ∈ wpX1_put, goodWord w = true := by
  unfold wpX1_put
  exact List.forall_mem_cons.mpr ⟨rfl, List.forall_mem_append.mpr ⟨gwoX1_put, List.forall_mem_append.mpr ⟨gwX1, fun _ h => absurd h List.not_mem_nil⟩⟩⟩
set_option maxRecDepth 100000 in
theorem toX1_put : ∀ w ∈ oX1_put, w ∈ lw_tbl := by
  unfold oX1_put
  exact List.forall_mem_cons.mpr ⟨(List.mem_of_getElem? (i := 134) (by decide +kernel)), List.forall_mem_cons.mpr ⟨(List.mem_of_getElem? (i := 138) (by decide +kernel)), fun _ h => absurd h List.not_mem_nil⟩⟩
set_option maxRecDepth 100000 in
theorem tX1_put : ∀ w ∈ wpX1_put, w ∈ lw_tbl := by
  unfold wpX1_put
  exact List.forall_mem_cons.mpr ⟨(List.mem_of_getElem? (i := 319) (by rfl)), List.forall_mem_append.mpr ⟨toX1_put, List.forall_mem_append.mpr ⟨in_wsX10, fun _ h => absurd h List.not_mem_nil⟩⟩⟩
theorem iX1_put_X1 : ∀ w ∈ wsX10, w ∈ wpX1_put := fun w h => List.mem_cons_of_mem _ (List.mem_append_right _ (List.mem_append_left _ h))
set_option maxHeartbeats 4000000 in
set_option maxRecDepth 100000 in
theorem c_X1_put (l : Launch) (D : va_G) (cI cJ cZ : ClassId) (sz : Nat) (h a b : Nat) (f : Nat → Int32) (g : Nat → Int32) (v : Int32) (lo : Int32) (hi : Int32) (hv : 0 ≤ (v : Int32).toInt ∧ (v : Int32).toInt < 4) : Met l yX1_put wpX1_put ({ frames := 0, cells := 0, slots := 0, locals := 0 }) (va_Pc ([.ref h, .int v, .int lo, .int hi] : List Value) (sp_pre D vwCl (sp_ty cI cJ cZ) [(h, .inr (0, [.ref a, .ref b])), (a, .inl (cI, 4, .inl f)), (b, .inl (cI, 4, .inl g))] sz)) (va_Qv (fun (u : (Nat → Int32) × (Nat → Int32)) => match u with | (f9, g9) => f9 = kX1_put_f9 f g v lo hi ∧ g9 = kX1_put_g9 f g v lo hi) (sp_B D vwCl (va_A [(h, .inr (0, [.ref a, .ref b])), (a, .inl (cI, 4, .inl f)), (b, .inl (cI, 4, .inl g))] sz) (fun (u : (Nat → Int32) × (Nat → Int32)) => match u with | (f9, g9) => [(h, .inr (0, [.ref a, .ref b])), (a, .inl (cI, 4, .inl f9)), (b, .inl (cI, 4, .inl g9))])) (va_A [(h, .inr (0, [.ref a, .ref b])), (a, .inl (cI, 4, .inl f)), (b, .inl (cI, 4, .inl g))] sz)) 0 0 (va_A [(h, .inr (0, [.ref a, .ref b])), (a, .inl (cI, 4, .inl f)), (b, .inl (cI, 4, .inl g))] sz) := by
  refine sp_ofW (Qc := fun A => va_Qv (fun (u : (Nat → Int32) × (Nat → Int32)) => match u with | (f9, g9) => f9 = kX1_put_f9 f g v lo hi ∧ g9 = kX1_put_g9 f g v lo hi) (sp_B D vwCl A (fun (u : (Nat → Int32) × (Nat → Int32)) => match u with | (f9, g9) => [(h, .inr (0, [.ref a, .ref b])), (a, .inl (cI, 4, .inl f9)), (b, .inl (cI, 4, .inl g9))])) A) (by decide) rfl (Nat.le_of_ble_eq_true rfl) (fun p e s m below meth c A ls H locs C0 hA hS hP hK hD hl => ?_)
  obtain ⟨hx, hb, hr, hts, hown, hlocks, hml, hin⟩ := id C0
  have hown : s.vm.findClass RX1 = some m.cls := hown
  have hl : lv_has ls 4 [(0, .ref h), (1, .int v), (2, .int lo), (3, .int hi)] := hl
  have hK : va_K D vwCl [(cI, .int), (cJ, .long), (cZ, .boolean)] s := hK
  refine lv_aload_n hx hb dX1_put_0 rfl (lv_at hl 0 rfl) ?_
  refine va_get (D := D) (ci := 0) (v := .ref a) (C := RX1) (T := TX1) (N := 2) hx hb hts iX1_put_X1 hown hK hP 0 rfl rfl 0 (by decide) (hts (.fieldLink RX1 9 "FloatSolver$Box" "low" "[I") (oX1_put_in _ (List.mem_of_getElem? (i := 0) rfl))) (fun _ h9 => h9) rfl dX1_put_1 ?_
  refine lv_iload_n hx hb dX1_put_4 rfl (lv_at hl 1 rfl) ?_
  refine lv_iload_n hx hb dX1_put_5 rfl (lv_at hl 2 rfl) ?_
  refine va_iast hx hb hK hP hD hS 1 0 rfl rfl (vp_in_iff.mpr ⟨by omega, by omega⟩) dX1_put_6 (fun H locs hP hD hS => ?_)
  have hP : va_P D vwCl [(h, .inr (0, [.ref a, .ref b])), (a, .inl (cI, 4, .inl (upd f ((v) : Int32).toNatClampNeg lo))), (b, .inl (cI, 4, .inl g))] H := hP
  have hD : va_D A [(h, .inr (0, [.ref a, .ref b])), (a, .inl (cI, 4, .inl (upd f ((v) : Int32).toNatClampNeg lo))), (b, .inl (cI, 4, .inl g))] := hD
  refine lv_aload_n hx hb dX1_put_7 rfl (lv_at hl 0 rfl) ?_
  refine va_get (D := D) (ci := 0) (v := .ref b) (C := RX1) (T := TX1) (N := 2) hx hb hts iX1_put_X1 hown hK hP 0 rfl rfl 1 (by decide) (hts (.fieldLink RX1 15 "FloatSolver$Box" "high" "[I") (oX1_put_in _ (List.mem_of_getElem? (i := 1) rfl))) (fun _ h9 => h9) rfl dX1_put_8 ?_
  refine lv_iload_n hx hb dX1_put_11 rfl (lv_at hl 1 rfl) ?_
  refine lv_iload_n hx hb dX1_put_12 rfl (lv_at hl 3 rfl) ?_
  refine va_iast hx hb hK hP hD hS 2 0 rfl rfl (vp_in_iff.mpr ⟨by omega, by omega⟩) dX1_put_13 (fun H locs hP hD hS => ?_)
  have hP : va_P D vwCl [(h, .inr (0, [.ref a, .ref b])), (a, .inl (cI, 4, .inl (upd f ((v) : Int32).toNatClampNeg lo))), (b, .inl (cI, 4, .inl (upd g ((v) : Int32).toNatClampNeg hi)))] H := hP
  have hD : va_D A [(h, .inr (0, [.ref a, .ref b])), (a, .inl (cI, 4, .inl (upd f ((v) : Int32).toNatClampNeg lo))), (b, .inl (cI, 4, .inl (upd g ((v) : Int32).toNatClampNeg hi)))] := hD
  refine W.widen (k := 0) (n := 0) (by decide) (by decide) ?_
  exact sp_vret (u := ((upd f ((v) : Int32).toNatClampNeg lo), (upd g ((v) : Int32).toNatClampNeg hi))) hx hb hr hlocks hS ⟨(Eq.symm rfl), (Eq.symm rfl)⟩ (hP.sub [0, 1, 2] rfl) (hD.sub [0, 1, 2] (by decide) rfl) dX1_put_14
def oX1_follow : List Cond := [.fieldLink RX1 9 "FloatSolver$Box" "low" "[I", .fieldLink RX1 15 "FloatSolver$Box" "high" "[I"]
def wpX1_follow : List Cond := .code yX1_follow cX1_follow 4 (some .int) :: (oX1_follow ++ (wsX10 ++ ((wsV RX1 26 RX1 yX1_put wpX1_put) ++ ([] : List Cond))))
theorem oX1_follow_in : ∀ w ∈ oX1_follow, w ∈ wpX1_follow := fun w h => List.mem_cons_of_mem _ (List.mem_append_left _ h)
theorem gwoX1_follow : ∀ w ∈ oX1_follow, goodWord w = true := by decide +kernel
theorem gwX1_follow : ∀ w ∈ wpX1_follow, goodWord w = true := by
  unfold wpX1_follow
  exact List.forall_mem_cons.mpr ⟨rfl, List.forall_mem_append.mpr ⟨gwoX1_follow, List.forall_mem_append.mpr ⟨gwX1, List.forall_mem_append.mpr ⟨(sp_gV gwX1_put), fun _ h => absurd h List.not_mem_nil⟩⟩⟩⟩
set_option maxRecDepth 100000 in
theorem toX1_follow : ∀ w ∈ oX1_follow, w ∈ lw_tbl := by
  unfold oX1_follow
  exact List.forall_mem_cons.mpr ⟨(List.mem_of_getElem? (i := 134) (by decide +kernel)), List.forall_mem_cons.mpr ⟨(List.mem_of_getElem? (i := 138) (by decide +kernel)), fun _ h => absurd h List.not_mem_nil⟩⟩
set_option maxRecDepth 100000 in
theorem tX1_follow : ∀ w ∈ wpX1_follow, w ∈ lw_tbl := by
  unfold wpX1_follow
  exact List.forall_mem_cons.mpr ⟨(List.mem_of_getElem? (i := 461) (by rfl)), List.forall_mem_append.mpr ⟨toX1_follow, List.forall_mem_append.mpr ⟨in_wsX10, List.forall_mem_append.mpr ⟨(sp_tV (List.mem_of_getElem? (i := 462) (by decide +kernel)) (List.mem_of_getElem? (i := 317) (by decide +kernel)) (List.mem_of_getElem? (i := 318) (by decide +kernel)) (List.mem_of_getElem? (i := 41) (by decide +kernel)) tX1_put), fun _ h => absurd h List.not_mem_nil⟩⟩⟩⟩
theorem iX1_follow_X1 : ∀ w ∈ wsX10, w ∈ wpX1_follow := fun w h => List.mem_cons_of_mem _ (List.mem_append_right _ (List.mem_append_left _ h))
theorem gX1_follow_X1_put_26 : GoodIn wpX1_follow (wsV RX1 26 RX1 yX1_put wpX1_put) := fun w h => ⟨List.mem_cons_of_mem _ (List.mem_append_right _ (List.mem_append_right _ (List.mem_append_left _ h))), good_of_word (sp_gV gwX1_put w h)⟩
set_option maxHeartbeats 4000000 in
set_option maxRecDepth 100000 in
theorem lp_X1_follow_4 {p : Program} {e : Env} {s : State} {m : MethodId} {below : List Frame} {meth : Method} {c : Code} {A : Nat → Prop} (l : Launch) (D : va_G) (cI cJ cZ : ClassId) (h h2 a b a2 b2 : Nat) (f : Nat → Int32) (g : Nat → Int32) (f2 : Nat → Int32) (g2 : Nat → Int32) (C0 : sp_C cX1_follow (some .int) 4 wpX1_follow yX1_follow.cls yX1_follow.name p s m ([.ref h, .ref h2] : List Value).toArray meth c) (hA : ∀ q : Nat, s.heap.size ≤ q → A q) (hK : va_K D vwCl [(cI, .int), (cJ, .long), (cZ, .boolean)] s) :
    ∀ (fuel : Nat) (ch : Int32) (i : Int32) (f9 : Nat → Int32) (g9 : Nat → Int32) (H : Heap) (locs : List Loc) (ls : Array Slot), (0 ≤ (i : Int32).toInt) → ((i : Int32).toInt ≤ 4) → (kX1_follow f g f2 g2 = kX1_follow_l4 fuel f g f2 g2 ch i f9 g9) → (kX1_follow_f9 f g f2 g2 = kX1_follow_l4_f9 fuel f g f2 g2 ch i f9 g9) → (kX1_follow_g9 f g f2 g2 = kX1_follow_l4_g9 fuel f g f2 g2 ch i f9 g9) → (4 - (i : Int32).toInt < (fuel : Int)) → va_P D vwCl [(h, .inr (0, [.ref a, .ref b])), (a, .inl (cI, 4, .inl f9)), (b, .inl (cI, 4, .inl g9)), (h2, .inr (0, [.ref a2, .ref b2])), (a2, .inl (cI, 4, .inl f2)), (b2, .inl (cI, 4, .inl g2))] H → va_D A [(h, .inr (0, [.ref a, .ref b])), (a, .inl (cI, 4, .inl f9)), (b, .inl (cI, 4, .inl g9)), (h2, .inr (0, [.ref a2, .ref b2])), (a2, .inl (cI, 4, .inl f2)), (b2, .inl (cI, 4, .inl g2))] → va_S A s.heap H locs → lv_has ls 4 [(0, .ref h), (1, .ref h2), (2, .int ch), (3, .int i)] → W p l e ({ frames := 1, cells := 0, slots := 0, locals := 23 }) s m (([.ref h, .ref h2] : List Value).toArray) below meth c H locs 0 0 (MQ below (va_Qi (fun (r : Int32) (u : (Nat → Int32) × (Nat → Int32)) => match u with | (f9, g9) => r = kX1_follow f g f2 g2 ∧ f9 = kX1_follow_f9 f g f2 g2 ∧ g9 = kX1_follow_g9 f g f2 g2) (sp_B D vwCl A (fun (u : (Nat → Int32) × (Nat → Int32)) => match u with | (f9, g9) => [(h, .inr (0, [.ref a, .ref b])), (a, .inl (cI, 4, .inl f9)), (b, .inl (cI, 4, .inl g9)), (h2, .inr (0, [.ref a2, .ref b2])), (a2, .inl (cI, 4, .inl f2)), (b2, .inl (cI, 4, .inl g2))])) A) ([.ref h, .ref h2] : List Value).toArray s 0 0 A) (F0 m 4 ls []) := by
  obtain ⟨hx, hb, hr, hts, hown, hlocks, hml, hin⟩ := id C0
  have hown : s.vm.findClass RX1 = some m.cls := hown
  intro fuel
  induction fuel with
  | zero =>
    intro ch i f9 g9 H locs ls h0 h1 hk_r hk_f9 hk_g9 hm
    exact absurd hm (by omega)
  | succ fuel ih =>
    intro ch i f9 g9 H locs ls h0 h1 hk_r hk_f9 hk_g9 hm hP hD hS hl
    refine lv_iload_n hx hb dX1_follow_4 rfl (lv_at hl 3 rfl) ?_
    refine lv_iconst (v := 4) hx hb dX1_follow_5 (by decide) ?_
    refine lv_icmp_ge (tgt := 68) hx hb dX1_follow_6 (by decide) (fun c1 => ?_) (fun c1 => ?_)
    · skip
      have c1i : 4 ≤ (i : Int32).toInt := Int32.le_iff_toInt_le.mp c1
      refine lv_iload_n hx hb dX1_follow_68 rfl (lv_at hl 2 rfl) ?_
      refine W.widen (k := 0) (n := 0) (by decide) (by decide) ?_
      exact sp_iret (u := (f9, g9)) hx hb hr hlocks hS ⟨(Eq.symm (hk_r.trans ((if_pos c1i).trans rfl))), (Eq.symm (hk_f9.trans ((if_pos c1i).trans rfl))), (Eq.symm (hk_g9.trans ((if_pos c1i).trans rfl)))⟩ (hP.sub [0, 1, 2, 3, 4, 5] rfl) (hD.sub [0, 1, 2, 3, 4, 5] (by decide) rfl) dX1_follow_69
    · skip
      have c1i : ¬ 4 ≤ (i : Int32).toInt := fun h => c1 (Int32.le_iff_toInt_le.mpr h)
      refine lv_aload_n hx hb dX1_follow_9 rfl (lv_at hl 0 rfl) ?_
      refine va_get (D := D) (ci := 0) (v := .ref a) (C := RX1) (T := TX1) (N := 2) hx hb hts iX1_follow_X1 hown hK hP 0 rfl rfl 0 (by decide) (hts (.fieldLink RX1 9 "FloatSolver$Box" "low" "[I") (oX1_follow_in _ (List.mem_of_getElem? (i := 0) rfl))) (fun _ h9 => h9) rfl dX1_follow_10 ?_
      refine lv_iload_n hx hb dX1_follow_13 rfl (lv_at hl 3 rfl) ?_
      refine va_iald hx hb hK hP 1 0 rfl rfl (vp_in_iff.mpr ⟨by omega, by omega⟩) dX1_follow_14 ?_
      refine lv_aload_n hx hb dX1_follow_15 rfl (lv_at hl 1 rfl) ?_
      refine va_get (D := D) (ci := 0) (v := .ref a2) (C := RX1) (T := TX1) (N := 2) hx hb hts iX1_follow_X1 hown hK hP 3 rfl rfl 0 (by decide) (hts (.fieldLink RX1 9 "FloatSolver$Box" "low" "[I") (oX1_follow_in _ (List.mem_of_getElem? (i := 0) rfl))) (fun _ h9 => h9) rfl dX1_follow_16 ?_
      refine lv_iload_n hx hb dX1_follow_19 rfl (lv_at hl 3 rfl) ?_
      refine va_iald hx hb hK hP 4 0 rfl rfl (vp_in_iff.mpr ⟨by omega, by omega⟩) dX1_follow_20 ?_
      have hj26 : ∀ (z23 : Int32) (z24 : Nat → Int32) (z25 : Nat → Int32) (H : Heap) (locs : List Loc) (ls : Array Slot), (z23 = kX1_follow_l4_62_z23 f g f2 g2 ch i f9 g9) → (z24 = kX1_follow_l4_62_z24 f g f2 g2 ch i f9 g9) → (z25 = kX1_follow_l4_62_z25 f g f2 g2 ch i f9 g9) → va_P D vwCl [(h2, .inr (0, [.ref a2, .ref b2])), (a2, .inl (cI, 4, .inl f2)), (b2, .inl (cI, 4, .inl g2)), (h, .inr (0, [.ref a, .ref b])), (a, .inl (cI, 4, .inl z24)), (b, .inl (cI, 4, .inl z25))] H → va_D A [(h2, .inr (0, [.ref a2, .ref b2])), (a2, .inl (cI, 4, .inl f2)), (b2, .inl (cI, 4, .inl g2)), (h, .inr (0, [.ref a, .ref b])), (a, .inl (cI, 4, .inl z24)), (b, .inl (cI, 4, .inl z25))] → va_S A s.heap H locs → lv_has ls 4 [(2, .int z23), (0, .ref h), (1, .ref h2), (3, .int i)] → W p l e ({ frames := 1, cells := 0, slots := 0, locals := 23 }) s m (([.ref h, .ref h2] : List Value).toArray) below meth c H locs 0 0 (MQ below (va_Qi (fun (r : Int32) (u : (Nat → Int32) × (Nat → Int32)) => match u with | (f9, g9) => r = kX1_follow f g f2 g2 ∧ f9 = kX1_follow_f9 f g f2 g2 ∧ g9 = kX1_follow_g9 f g f2 g2) (sp_B D vwCl A (fun (u : (Nat → Int32) × (Nat → Int32)) => match u with | (f9, g9) => [(h, .inr (0, [.ref a, .ref b])), (a, .inl (cI, 4, .inl f9)), (b, .inl (cI, 4, .inl g9)), (h2, .inr (0, [.ref a2, .ref b2])), (a2, .inl (cI, 4, .inl f2)), (b2, .inl (cI, 4, .inl g2))])) A) ([.ref h, .ref h2] : List Value).toArray s 0 0 A) (F0 m 62 ls []) := by
        intro z23 z24 z25 H locs ls hz23 hz24 hz25 hP hD hS hl
        subst z23 z24 z25
        refine lv_iinc (v := (i + 1)) (lv' := [(3, .int (i + 1)), (2, .int (kX1_follow_l4_62_z23 f g f2 g2 ch i f9 g9)), (0, .ref h), (1, .ref h2)]) hx hb dX1_follow_62 hl (k := 3) rfl rfl (by decide) rfl (fun ls hl => ?_)
        have ii27 : ((i + 1) : Int32).toInt = (i : Int32).toInt + 1 := px_iadd (show -2147483648 ≤ (i : Int32).toInt + 1 by omega) (show (i : Int32).toInt + 1 < 2147483648 by omega)
        refine lv_goto (tgt := 4) hx hb dX1_follow_65 (by decide) ?_
        exact ih ((kX1_follow_l4_62_z23 f g f2 g2 ch i f9 g9)) ((i + 1)) ((kX1_follow_l4_62_z24 f g f2 g2 ch i f9 g9)) ((kX1_follow_l4_62_z25 f g f2 g2 ch i f9 g9)) _ _ _ (by first | assumption | omega) (by first | assumption | omega) (hk_r.trans ((if_neg c1i).trans rfl)) (hk_f9.trans ((if_neg c1i).trans rfl)) (hk_g9.trans ((if_neg c1i).trans rfl)) (by omega) (hP.sub [3, 4, 5, 0, 1, 2] rfl) (hD.sub [3, 4, 5, 0, 1, 2] (by decide) rfl) hS (lv_sub hl [2, 3, 1, 0] rfl)
      refine lv_icmp_ne (tgt := 39) hx hb dX1_follow_21 (by decide) (fun c3 => ?_) (fun c3 => ?_)
      · skip
        have c3i : ¬ ((f9 (i : Int32).toNatClampNeg) : Int32).toInt = ((f2 (i : Int32).toNatClampNeg) : Int32).toInt := fun h => c3 (Int32.toInt_inj.mp h)
        refine lv_iload_n hx hb dX1_follow_39 rfl (lv_at hl 2 rfl) ?_
        refine lv_iconst (v := 1) hx hb dX1_follow_40 (by decide) ?_
        refine lv_iload_n hx hb dX1_follow_41 rfl (lv_at hl 3 rfl) ?_
        refine lv_ishl hx hb dX1_follow_42 ?_
        refine lv_ior hx hb dX1_follow_43 ?_
        refine lv_istore_n (lv' := [(2, .int (ch ||| (1 <<< (i &&& 31)))), (0, .ref h), (1, .ref h2), (3, .int i)]) hx hb dX1_follow_44 rfl hl (by decide) rfl (fun ls hl => ?_)
        refine lv_aload_n hx hb dX1_follow_45 rfl (lv_at hl 1 rfl) ?_
        refine lv_iload_n hx hb dX1_follow_46 rfl (lv_at hl 3 rfl) ?_
        refine lv_aload_n hx hb dX1_follow_47 rfl (lv_at hl 2 rfl) ?_
        refine va_get (D := D) (ci := 0) (v := .ref a2) (C := RX1) (T := TX1) (N := 2) hx hb hts iX1_follow_X1 hown hK hP 3 rfl rfl 0 (by decide) (hts (.fieldLink RX1 9 "FloatSolver$Box" "low" "[I") (oX1_follow_in _ (List.mem_of_getElem? (i := 0) rfl))) (fun _ h9 => h9) rfl dX1_follow_48 ?_
        refine lv_iload_n hx hb dX1_follow_51 rfl (lv_at hl 3 rfl) ?_
        refine va_iald hx hb hK hP 4 0 rfl rfl (vp_in_iff.mpr ⟨by omega, by omega⟩) dX1_follow_52 ?_
        refine lv_aload_n hx hb dX1_follow_53 rfl (lv_at hl 2 rfl) ?_
        refine va_get (D := D) (ci := 0) (v := .ref b2) (C := RX1) (T := TX1) (N := 2) hx hb hts iX1_follow_X1 hown hK hP 3 rfl rfl 1 (by decide) (hts (.fieldLink RX1 15 "FloatSolver$Box" "high" "[I") (oX1_follow_in _ (List.mem_of_getElem? (i := 1) rfl))) (fun _ h9 => h9) rfl dX1_follow_54 ?_
        refine lv_iload_n hx hb dX1_follow_57 rfl (lv_at hl 3 rfl) ?_
        refine va_iald hx hb hK hP 5 0 rfl rfl (vp_in_iff.mpr ⟨by omega, by omega⟩) dX1_follow_58 ?_
        refine sp_callv (wr := [(h2, .inr (0, [.ref a2, .ref b2])), (a2, .inl (cI, 4, .inl f2)), (b2, .inl (cI, 4, .inl g2))]) (wc := [(h, .inr (0, [.ref a, .ref b])), (a, .inl (cI, 4, .inl f9)), (b, .inl (cI, 4, .inl g9))]) hP hD hS hA [0, 1, 2] [3, 4, 5] rfl rfl (by decide) (by decide) (va_runV (As := [.int i, .int (f2 (i : Int32).toNatClampNeg), .int (g2 (i : Int32).toNatClampNeg)]) (rest := []) ⟨hx, hb, hml, hown, hts⟩ (c_X1_put l D cI cJ cZ H.size h a b f9 g9 i (f2 (i : Int32).toNatClampNeg) (g2 (i : Int32).toNatClampNeg) (by first | omega | assumption)) (cwV 3 hts gX1_follow_X1_put_26 rfl rfl rfl (by decide +kernel) ⟨Nat.le_of_ble_eq_true rfl, Nat.le_of_ble_eq_true rfl⟩) (sp_preV (ci := 0) (q0 := 0) [.int i, .int (f2 (i : Int32).toNatClampNeg), .int (g2 (i : Int32).toNatClampNeg)] hK (hP.sub (ws' := [(h, .inr (0, [.ref a, .ref b])), (a, .inl (cI, 4, .inl f9)), (b, .inl (cI, 4, .inl g9))]) [0, 1, 2] rfl) (hD.sub (ws' := [(h, .inr (0, [.ref a, .ref b])), (a, .inl (cI, 4, .inl f9)), (b, .inl (cI, 4, .inl g9))]) [0, 1, 2] (by decide) rfl) rfl rfl) rfl rfl hl.1 rfl (lv_room (Nat.le_of_ble_eq_true rfl)) dX1_follow_59 ⟨Nat.le_of_ble_eq_true rfl, Nat.le_of_ble_eq_true rfl⟩) (fun u5 H locs hw6 hP hD hS => ?_)
        obtain ⟨u7, u8⟩ := u5
        obtain ⟨hq_8_0, hq_8_1⟩ : u7 = (kX1_put_f9 f9 g9 i (f2 (i : Int32).toNatClampNeg) (g2 (i : Int32).toNatClampNeg)) ∧ u8 = (kX1_put_g9 f9 g9 i (f2 (i : Int32).toNatClampNeg) (g2 (i : Int32).toNatClampNeg)) := hw6
        subst u7 u8
        have hP : va_P D vwCl [(h2, .inr (0, [.ref a2, .ref b2])), (a2, .inl (cI, 4, .inl f2)), (b2, .inl (cI, 4, .inl g2)), (h, .inr (0, [.ref a, .ref b])), (a, .inl (cI, 4, .inl (kX1_put_f9 f9 g9 i (f2 (i : Int32).toNatClampNeg) (g2 (i : Int32).toNatClampNeg)))), (b, .inl (cI, 4, .inl (kX1_put_g9 f9 g9 i (f2 (i : Int32).toNatClampNeg) (g2 (i : Int32).toNatClampNeg))))] H := hP
        have hD : va_D A [(h2, .inr (0, [.ref a2, .ref b2])), (a2, .inl (cI, 4, .inl f2)), (b2, .inl (cI, 4, .inl g2)), (h, .inr (0, [.ref a, .ref b])), (a, .inl (cI, 4, .inl (kX1_put_f9 f9 g9 i (f2 (i : Int32).toNatClampNeg) (g2 (i : Int32).toNatClampNeg)))), (b, .inl (cI, 4, .inl (kX1_put_g9 f9 g9 i (f2 (i : Int32).toNatClampNeg) (g2 (i : Int32).toNatClampNeg))))] := hD
        exact hj26 ((ch ||| (1 <<< (i &&& 31)))) ((kX1_put_f9 f9 g9 i (f2 (i : Int32).toNatClampNeg) (g2 (i : Int32).toNatClampNeg))) ((kX1_put_g9 f9 g9 i (f2 (i : Int32).toNatClampNeg) (g2 (i : Int32).toNatClampNeg))) _ _ _ (Eq.symm ((if_neg c3i).trans rfl)) (Eq.symm ((if_neg c3i).trans rfl)) (Eq.symm ((if_neg c3i).trans rfl)) (hP.sub [0, 1, 2, 3, 4, 5] rfl) (hD.sub [0, 1, 2, 3, 4, 5] (by decide) rfl) hS (lv_sub hl [0, 1, 2, 3] rfl)
      · skip
        have c3i : ((f9 (i : Int32).toNatClampNeg) : Int32).toInt = ((f2 (i : Int32).toNatClampNeg) : Int32).toInt := congrArg Int32.toInt c3
        refine lv_aload_n hx hb dX1_follow_24 rfl (lv_at hl 0 rfl) ?_
        refine va_get (D := D) (ci := 0) (v := .ref b) (C := RX1) (T := TX1) (N := 2) hx hb hts iX1_follow_X1 hown hK hP 0 rfl rfl 1 (by decide) (hts (.fieldLink RX1 15 "FloatSolver$Box" "high" "[I") (oX1_follow_in _ (List.mem_of_getElem? (i := 1) rfl))) (fun _ h9 => h9) rfl dX1_follow_25 ?_
        refine lv_iload_n hx hb dX1_follow_28 rfl (lv_at hl 3 rfl) ?_
        refine va_iald hx hb hK hP 2 0 rfl rfl (vp_in_iff.mpr ⟨by omega, by omega⟩) dX1_follow_29 ?_
        refine lv_aload_n hx hb dX1_follow_30 rfl (lv_at hl 1 rfl) ?_
        refine va_get (D := D) (ci := 0) (v := .ref b2) (C := RX1) (T := TX1) (N := 2) hx hb hts iX1_follow_X1 hown hK hP 3 rfl rfl 1 (by decide) (hts (.fieldLink RX1 15 "FloatSolver$Box" "high" "[I") (oX1_follow_in _ (List.mem_of_getElem? (i := 1) rfl))) (fun _ h9 => h9) rfl dX1_follow_31 ?_
        refine lv_iload_n hx hb dX1_follow_34 rfl (lv_at hl 3 rfl) ?_
        refine va_iald hx hb hK hP 5 0 rfl rfl (vp_in_iff.mpr ⟨by omega, by omega⟩) dX1_follow_35 ?_
        have hj21 : ∀ (z18 : Int32) (z19 : Nat → Int32) (z20 : Nat → Int32) (H : Heap) (locs : List Loc) (ls : Array Slot), (z18 = kX1_follow_l4_62_z18 f g f2 g2 ch i f9 g9) → (z19 = kX1_follow_l4_62_z19 f g f2 g2 ch i f9 g9) → (z20 = kX1_follow_l4_62_z20 f g f2 g2 ch i f9 g9) → va_P D vwCl [(h, .inr (0, [.ref a, .ref b])), (a, .inl (cI, 4, .inl z19)), (b, .inl (cI, 4, .inl z20)), (h2, .inr (0, [.ref a2, .ref b2])), (a2, .inl (cI, 4, .inl f2)), (b2, .inl (cI, 4, .inl g2))] H → va_D A [(h, .inr (0, [.ref a, .ref b])), (a, .inl (cI, 4, .inl z19)), (b, .inl (cI, 4, .inl z20)), (h2, .inr (0, [.ref a2, .ref b2])), (a2, .inl (cI, 4, .inl f2)), (b2, .inl (cI, 4, .inl g2))] → va_S A s.heap H locs → lv_has ls 4 [(0, .ref h), (1, .ref h2), (2, .int z18), (3, .int i)] → W p l e ({ frames := 1, cells := 0, slots := 0, locals := 23 }) s m (([.ref h, .ref h2] : List Value).toArray) below meth c H locs 0 0 (MQ below (va_Qi (fun (r : Int32) (u : (Nat → Int32) × (Nat → Int32)) => match u with | (f9, g9) => r = kX1_follow f g f2 g2 ∧ f9 = kX1_follow_f9 f g f2 g2 ∧ g9 = kX1_follow_g9 f g f2 g2) (sp_B D vwCl A (fun (u : (Nat → Int32) × (Nat → Int32)) => match u with | (f9, g9) => [(h, .inr (0, [.ref a, .ref b])), (a, .inl (cI, 4, .inl f9)), (b, .inl (cI, 4, .inl g9)), (h2, .inr (0, [.ref a2, .ref b2])), (a2, .inl (cI, 4, .inl f2)), (b2, .inl (cI, 4, .inl g2))])) A) ([.ref h, .ref h2] : List Value).toArray s 0 0 A) (F0 m 62 ls []) := by
          intro z18 z19 z20 H locs ls hz18 hz19 hz20 hP hD hS hl
          subst z18 z19 z20
          exact hj26 ((kX1_follow_l4_62_z18 f g f2 g2 ch i f9 g9)) ((kX1_follow_l4_62_z19 f g f2 g2 ch i f9 g9)) ((kX1_follow_l4_62_z20 f g f2 g2 ch i f9 g9)) _ _ _ (Eq.symm ((if_pos c3i).trans rfl)) (Eq.symm ((if_pos c3i).trans rfl)) (Eq.symm ((if_pos c3i).trans rfl)) (hP.sub [3, 4, 5, 0, 1, 2] rfl) (hD.sub [3, 4, 5, 0, 1, 2] (by decide) rfl) hS (lv_sub hl [2, 0, 1, 3] rfl)
        refine lv_icmp_eq (tgt := 62) hx hb dX1_follow_36 (by decide) (fun c10 => ?_) (fun c10 => ?_)
        · skip
          have c10i : ((g9 (i : Int32).toNatClampNeg) : Int32).toInt = ((g2 (i : Int32).toNatClampNeg) : Int32).toInt := congrArg Int32.toInt c10
          exact hj21 (ch) (f9) (g9) _ _ _ (Eq.symm ((if_pos c10i).trans rfl)) (Eq.symm ((if_pos c10i).trans rfl)) (Eq.symm ((if_pos c10i).trans rfl)) (hP.sub [0, 1, 2, 3, 4, 5] rfl) (hD.sub [0, 1, 2, 3, 4, 5] (by decide) rfl) hS (lv_sub hl [0, 1, 2, 3] rfl)
        · skip
          have c10i : ¬ ((g9 (i : Int32).toNatClampNeg) : Int32).toInt = ((g2 (i : Int32).toNatClampNeg) : Int32).toInt := fun h => c10 (Int32.toInt_inj.mp h)
          refine lv_iload_n hx hb dX1_follow_39 rfl (lv_at hl 2 rfl) ?_
          refine lv_iconst (v := 1) hx hb dX1_follow_40 (by decide) ?_
          refine lv_iload_n hx hb dX1_follow_41 rfl (lv_at hl 3 rfl) ?_
          refine lv_ishl hx hb dX1_follow_42 ?_
          refine lv_ior hx hb dX1_follow_43 ?_
          refine lv_istore_n (lv' := [(2, .int (ch ||| (1 <<< (i &&& 31)))), (0, .ref h), (1, .ref h2), (3, .int i)]) hx hb dX1_follow_44 rfl hl (by decide) rfl (fun ls hl => ?_)
          refine lv_aload_n hx hb dX1_follow_45 rfl (lv_at hl 1 rfl) ?_
          refine lv_iload_n hx hb dX1_follow_46 rfl (lv_at hl 3 rfl) ?_
          refine lv_aload_n hx hb dX1_follow_47 rfl (lv_at hl 2 rfl) ?_
          refine va_get (D := D) (ci := 0) (v := .ref a2) (C := RX1) (T := TX1) (N := 2) hx hb hts iX1_follow_X1 hown hK hP 3 rfl rfl 0 (by decide) (hts (.fieldLink RX1 9 "FloatSolver$Box" "low" "[I") (oX1_follow_in _ (List.mem_of_getElem? (i := 0) rfl))) (fun _ h9 => h9) rfl dX1_follow_48 ?_
          refine lv_iload_n hx hb dX1_follow_51 rfl (lv_at hl 3 rfl) ?_
          refine va_iald hx hb hK hP 4 0 rfl rfl (vp_in_iff.mpr ⟨by omega, by omega⟩) dX1_follow_52 ?_
          refine lv_aload_n hx hb dX1_follow_53 rfl (lv_at hl 2 rfl) ?_
          refine va_get (D := D) (ci := 0) (v := .ref b2) (C := RX1) (T := TX1) (N := 2) hx hb hts iX1_follow_X1 hown hK hP 3 rfl rfl 1 (by decide) (hts (.fieldLink RX1 15 "FloatSolver$Box" "high" "[I") (oX1_follow_in _ (List.mem_of_getElem? (i := 1) rfl))) (fun _ h9 => h9) rfl dX1_follow_54 ?_
          refine lv_iload_n hx hb dX1_follow_57 rfl (lv_at hl 3 rfl) ?_
          refine va_iald hx hb hK hP 5 0 rfl rfl (vp_in_iff.mpr ⟨by omega, by omega⟩) dX1_follow_58 ?_
          refine sp_callv (wr := [(h2, .inr (0, [.ref a2, .ref b2])), (a2, .inl (cI, 4, .inl f2)), (b2, .inl (cI, 4, .inl g2))]) (wc := [(h, .inr (0, [.ref a, .ref b])), (a, .inl (cI, 4, .inl f9)), (b, .inl (cI, 4, .inl g9))]) hP hD hS hA [0, 1, 2] [3, 4, 5] rfl rfl (by decide) (by decide) (va_runV (As := [.int i, .int (f2 (i : Int32).toNatClampNeg), .int (g2 (i : Int32).toNatClampNeg)]) (rest := []) ⟨hx, hb, hml, hown, hts⟩ (c_X1_put l D cI cJ cZ H.size h a b f9 g9 i (f2 (i : Int32).toNatClampNeg) (g2 (i : Int32).toNatClampNeg) (by first | omega | assumption)) (cwV 3 hts gX1_follow_X1_put_26 rfl rfl rfl (by decide +kernel) ⟨Nat.le_of_ble_eq_true rfl, Nat.le_of_ble_eq_true rfl⟩) (sp_preV (ci := 0) (q0 := 0) [.int i, .int (f2 (i : Int32).toNatClampNeg), .int (g2 (i : Int32).toNatClampNeg)] hK (hP.sub (ws' := [(h, .inr (0, [.ref a, .ref b])), (a, .inl (cI, 4, .inl f9)), (b, .inl (cI, 4, .inl g9))]) [0, 1, 2] rfl) (hD.sub (ws' := [(h, .inr (0, [.ref a, .ref b])), (a, .inl (cI, 4, .inl f9)), (b, .inl (cI, 4, .inl g9))]) [0, 1, 2] (by decide) rfl) rfl rfl) rfl rfl hl.1 rfl (lv_room (Nat.le_of_ble_eq_true rfl)) dX1_follow_59 ⟨Nat.le_of_ble_eq_true rfl, Nat.le_of_ble_eq_true rfl⟩) (fun u13 H locs hw14 hP hD hS => ?_)
          obtain ⟨u15, u16⟩ := u13
          obtain ⟨hq_16_0, hq_16_1⟩ : u15 = (kX1_put_f9 f9 g9 i (f2 (i : Int32).toNatClampNeg) (g2 (i : Int32).toNatClampNeg)) ∧ u16 = (kX1_put_g9 f9 g9 i (f2 (i : Int32).toNatClampNeg) (g2 (i : Int32).toNatClampNeg)) := hw14
          subst u15 u16
          have hP : va_P D vwCl [(h2, .inr (0, [.ref a2, .ref b2])), (a2, .inl (cI, 4, .inl f2)), (b2, .inl (cI, 4, .inl g2)), (h, .inr (0, [.ref a, .ref b])), (a, .inl (cI, 4, .inl (kX1_put_f9 f9 g9 i (f2 (i : Int32).toNatClampNeg) (g2 (i : Int32).toNatClampNeg)))), (b, .inl (cI, 4, .inl (kX1_put_g9 f9 g9 i (f2 (i : Int32).toNatClampNeg) (g2 (i : Int32).toNatClampNeg))))] H := hP
          have hD : va_D A [(h2, .inr (0, [.ref a2, .ref b2])), (a2, .inl (cI, 4, .inl f2)), (b2, .inl (cI, 4, .inl g2)), (h, .inr (0, [.ref a, .ref b])), (a, .inl (cI, 4, .inl (kX1_put_f9 f9 g9 i (f2 (i : Int32).toNatClampNeg) (g2 (i : Int32).toNatClampNeg)))), (b, .inl (cI, 4, .inl (kX1_put_g9 f9 g9 i (f2 (i : Int32).toNatClampNeg) (g2 (i : Int32).toNatClampNeg))))] := hD
          exact hj21 ((ch ||| (1 <<< (i &&& 31)))) ((kX1_put_f9 f9 g9 i (f2 (i : Int32).toNatClampNeg) (g2 (i : Int32).toNatClampNeg))) ((kX1_put_g9 f9 g9 i (f2 (i : Int32).toNatClampNeg) (g2 (i : Int32).toNatClampNeg))) _ _ _ (Eq.symm ((if_neg c10i).trans rfl)) (Eq.symm ((if_neg c10i).trans rfl)) (Eq.symm ((if_neg c10i).trans rfl)) (hP.sub [3, 4, 5, 0, 1, 2] rfl) (hD.sub [3, 4, 5, 0, 1, 2] (by decide) rfl) hS (lv_sub hl [1, 2, 0, 3] rfl)
set_option maxHeartbeats 4000000 in
set_option maxRecDepth 100000 in
theorem c_X1_follow (l : Launch) (D : va_G) (cI cJ cZ : ClassId) (sz : Nat) (h h2 a b a2 b2 : Nat) (f : Nat → Int32) (g : Nat → Int32) (f2 : Nat → Int32) (g2 : Nat → Int32) : Met l yX1_follow wpX1_follow ({ frames := 1, cells := 0, slots := 0, locals := 23 }) (va_Pc ([.ref h, .ref h2] : List Value) (sp_pre D vwCl (sp_ty cI cJ cZ) [(h, .inr (0, [.ref a, .ref b])), (a, .inl (cI, 4, .inl f)), (b, .inl (cI, 4, .inl g)), (h2, .inr (0, [.ref a2, .ref b2])), (a2, .inl (cI, 4, .inl f2)), (b2, .inl (cI, 4, .inl g2))] sz)) (va_Qi (fun (r : Int32) (u : (Nat → Int32) × (Nat → Int32)) => match u with | (f9, g9) => r = kX1_follow f g f2 g2 ∧ f9 = kX1_follow_f9 f g f2 g2 ∧ g9 = kX1_follow_g9 f g f2 g2) (sp_B D vwCl (va_A [(h, .inr (0, [.ref a, .ref b])), (a, .inl (cI, 4, .inl f)), (b, .inl (cI, 4, .inl g)), (h2, .inr (0, [.ref a2, .ref b2])), (a2, .inl (cI, 4, .inl f2)), (b2, .inl (cI, 4, .inl g2))] sz) (fun (u : (Nat → Int32) × (Nat → Int32)) => match u with | (f9, g9) => [(h, .inr (0, [.ref a, .ref b])), (a, .inl (cI, 4, .inl f9)), (b, .inl (cI, 4, .inl g9)), (h2, .inr (0, [.ref a2, .ref b2])), (a2, .inl (cI, 4, .inl f2)), (b2, .inl (cI, 4, .inl g2))])) (va_A [(h, .inr (0, [.ref a, .ref b])), (a, .inl (cI, 4, .inl f)), (b, .inl (cI, 4, .inl g)), (h2, .inr (0, [.ref a2, .ref b2])), (a2, .inl (cI, 4, .inl f2)), (b2, .inl (cI, 4, .inl g2))] sz)) 0 0 (va_A [(h, .inr (0, [.ref a, .ref b])), (a, .inl (cI, 4, .inl f)), (b, .inl (cI, 4, .inl g)), (h2, .inr (0, [.ref a2, .ref b2])), (a2, .inl (cI, 4, .inl f2)), (b2, .inl (cI, 4, .inl g2))] sz) := by
  refine sp_ofW (Qc := fun A => va_Qi (fun (r : Int32) (u : (Nat → Int32) × (Nat → Int32)) => match u with | (f9, g9) => r = kX1_follow f g f2 g2 ∧ f9 = kX1_follow_f9 f g f2 g2 ∧ g9 = kX1_follow_g9 f g f2 g2) (sp_B D vwCl A (fun (u : (Nat → Int32) × (Nat → Int32)) => match u with | (f9, g9) => [(h, .inr (0, [.ref a, .ref b])), (a, .inl (cI, 4, .inl f9)), (b, .inl (cI, 4, .inl g9)), (h2, .inr (0, [.ref a2, .ref b2])), (a2, .inl (cI, 4, .inl f2)), (b2, .inl (cI, 4, .inl g2))])) A) (by decide) rfl (Nat.le_of_ble_eq_true rfl) (fun p e s m below meth c A ls H locs C0 hA hS hP hK hD hl => ?_)
  obtain ⟨hx, hb, hr, hts, hown, hlocks, hml, hin⟩ := id C0
  have hown : s.vm.findClass RX1 = some m.cls := hown
  have hl : lv_has ls 4 [(0, .ref h), (1, .ref h2)] := hl
  have hK : va_K D vwCl [(cI, .int), (cJ, .long), (cZ, .boolean)] s := hK
  refine lv_iconst (v := 0) hx hb dX1_follow_0 (by decide) ?_
  refine lv_istore_n (lv' := [(2, .int 0), (0, .ref h), (1, .ref h2)]) hx hb dX1_follow_1 rfl hl (by decide) rfl (fun ls hl => ?_)
  refine lv_iconst (v := 0) hx hb dX1_follow_2 (by decide) ?_
  refine lv_istore_n (lv' := [(3, .int 0), (2, .int 0), (0, .ref h), (1, .ref h2)]) hx hb dX1_follow_3 rfl hl (by decide) rfl (fun ls hl => ?_)
  have kk1 : ((0) : Int32).toInt = (0) := by decide
  have kk2 : ((0) : Int32).toInt = (0) := by decide
  exact lp_X1_follow_4 l D cI cJ cZ h h2 a b a2 b2 f g f2 g2 C0 hA hK 6 (0) (0) (f) (g) _ _ _ (by first | assumption | omega) (by first | assumption | omega) rfl rfl rfl (by omega) (hP.sub [0, 1, 2, 3, 4, 5] rfl) (hD.sub [0, 1, 2, 3, 4, 5] (by decide) rfl) hS (lv_sub hl [2, 3, 1, 0] rfl)
def oX1_firstWide : List Cond := [.fieldLink RX1 9 "FloatSolver$Box" "low" "[I", .fieldLink RX1 15 "FloatSolver$Box" "high" "[I"]
def wpX1_firstWide : List Cond := .code yX1_firstWide cX1_firstWide 2 (some .int) :: (oX1_firstWide ++ (wsX10 ++ ([] : List Cond)))
theorem oX1_firstWide_in : ∀ w ∈ oX1_firstWide, w ∈ wpX1_firstWide := fun w h => List.mem_cons_of_mem _ (List.mem_append_left _ h)
theorem gwoX1_firstWide : ∀ w ∈ oX1_firstWide, goodWord w = true := by decide +kernel
theorem gwX1_firstWide : ∀ w ∈ wpX1_firstWide, goodWord w = true := by
  unfold wpX1_firstWide
  exact List.forall_mem_cons.mpr ⟨rfl, List.forall_mem_append.mpr ⟨gwoX1_firstWide, List.forall_mem_append.mpr ⟨gwX1, fun _ h => absurd h List.not_mem_nil⟩⟩⟩
set_option maxRecDepth 100000 in
theorem toX1_firstWide : ∀ w ∈ oX1_firstWide, w ∈ lw_tbl := by
  unfold oX1_firstWide
  exact List.forall_mem_cons.mpr ⟨(List.mem_of_getElem? (i := 134) (by decide +kernel)), List.forall_mem_cons.mpr ⟨(List.mem_of_getElem? (i := 138) (by decide +kernel)), fun _ h => absurd h List.not_mem_nil⟩⟩
set_option maxRecDepth 100000 in
theorem tX1_firstWide : ∀ w ∈ wpX1_firstWide, w ∈ lw_tbl := by
  unfold wpX1_firstWide
  exact List.forall_mem_cons.mpr ⟨(List.mem_of_getElem? (i := 573) (by rfl)), List.forall_mem_append.mpr ⟨toX1_firstWide, List.forall_mem_append.mpr ⟨in_wsX10, fun _ h => absurd h List.not_mem_nil⟩⟩⟩
theorem iX1_firstWide_X1 : ∀ w ∈ wsX10, w ∈ wpX1_firstWide := fun w h => List.mem_cons_of_mem _ (List.mem_append_right _ (List.mem_append_left _ h))
set_option maxHeartbeats 4000000 in
set_option maxRecDepth 100000 in
theorem lp_X1_firstWide_2 {p : Program} {e : Env} {s : State} {m : MethodId} {below : List Frame} {meth : Method} {c : Code} {A : Nat → Prop} (l : Launch) (D : va_G) (cI cJ cZ : ClassId) (h a b : Nat) (f : Nat → Int32) (g : Nat → Int32) (C0 : sp_C cX1_firstWide (some .int) 2 wpX1_firstWide yX1_firstWide.cls yX1_firstWide.name p s m ([.ref h] : List Value).toArray meth c) (hA : ∀ q : Nat, s.heap.size ≤ q → A q) (hK : va_K D vwCl [(cI, .int), (cJ, .long), (cZ, .boolean)] s) :
    ∀ (fuel : Nat) (i : Int32) (H : Heap) (locs : List Loc) (ls : Array Slot), (0 ≤ (i : Int32).toInt) → ((i : Int32).toInt ≤ 4) → (kX1_firstWide f g = kX1_firstWide_l2 fuel f g i) → (4 - (i : Int32).toInt < (fuel : Int)) → va_P D vwCl [(h, .inr (0, [.ref a, .ref b])), (a, .inl (cI, 4, .inl f)), (b, .inl (cI, 4, .inl g))] H → va_D A [(h, .inr (0, [.ref a, .ref b])), (a, .inl (cI, 4, .inl f)), (b, .inl (cI, 4, .inl g))] → va_S A s.heap H locs → lv_has ls 2 [(0, .ref h), (1, .int i)] → W p l e ({ frames := 0, cells := 0, slots := 0, locals := 0 }) s m (([.ref h] : List Value).toArray) below meth c H locs 0 0 (MQ below (va_Qi (fun (r : Int32) (_ : Unit) => r = kX1_firstWide f g ∧ (0 ≤ (r : Int32).toInt ∧ (r : Int32).toInt ≤ 4)) (sp_B D vwCl A (fun (_ : Unit) => [(h, .inr (0, [.ref a, .ref b])), (a, .inl (cI, 4, .inl f)), (b, .inl (cI, 4, .inl g))])) A) ([.ref h] : List Value).toArray s 0 0 A) (F0 m 2 ls []) := by
  obtain ⟨hx, hb, hr, hts, hown, hlocks, hml, hin⟩ := id C0
  have hown : s.vm.findClass RX1 = some m.cls := hown
  intro fuel
  induction fuel with
  | zero =>
    intro i H locs ls h0 h1 hk_r hm
    exact absurd hm (by omega)
  | succ fuel ih =>
    intro i H locs ls h0 h1 hk_r hm hP hD hS hl
    refine lv_iload_n hx hb dX1_firstWide_2 rfl (lv_at hl 1 rfl) ?_
    refine lv_iconst (v := 4) hx hb dX1_firstWide_3 (by decide) ?_
    refine lv_icmp_ge (tgt := 28) hx hb dX1_firstWide_4 (by decide) (fun c1 => ?_) (fun c1 => ?_)
    · skip
      have c1i : 4 ≤ (i : Int32).toInt := Int32.le_iff_toInt_le.mp c1
      refine lv_iload_n hx hb dX1_firstWide_28 rfl (lv_at hl 1 rfl) ?_
      refine W.widen (k := 0) (n := 0) (by decide) (by decide) ?_
      exact sp_iret (u := ()) hx hb hr hlocks hS ⟨(Eq.symm (hk_r.trans ((if_pos c1i).trans rfl))), ⟨by omega, by omega⟩⟩ (hP.sub [0, 1, 2] rfl) (hD.sub [0, 1, 2] (by decide) rfl) dX1_firstWide_29
    · skip
      have c1i : ¬ 4 ≤ (i : Int32).toInt := fun h => c1 (Int32.le_iff_toInt_le.mpr h)
      refine lv_aload_n hx hb dX1_firstWide_7 rfl (lv_at hl 0 rfl) ?_
      refine va_get (D := D) (ci := 0) (v := .ref a) (C := RX1) (T := TX1) (N := 2) hx hb hts iX1_firstWide_X1 hown hK hP 0 rfl rfl 0 (by decide) (hts (.fieldLink RX1 9 "FloatSolver$Box" "low" "[I") (oX1_firstWide_in _ (List.mem_of_getElem? (i := 0) rfl))) (fun _ h9 => h9) rfl dX1_firstWide_8 ?_
      refine lv_iload_n hx hb dX1_firstWide_11 rfl (lv_at hl 1 rfl) ?_
      refine va_iald hx hb hK hP 1 0 rfl rfl (vp_in_iff.mpr ⟨by omega, by omega⟩) dX1_firstWide_12 ?_
      refine lv_aload_n hx hb dX1_firstWide_13 rfl (lv_at hl 0 rfl) ?_
      refine va_get (D := D) (ci := 0) (v := .ref b) (C := RX1) (T := TX1) (N := 2) hx hb hts iX1_firstWide_X1 hown hK hP 0 rfl rfl 1 (by decide) (hts (.fieldLink RX1 15 "FloatSolver$Box" "high" "[I") (oX1_firstWide_in _ (List.mem_of_getElem? (i := 1) rfl))) (fun _ h9 => h9) rfl dX1_firstWide_14 ?_
      refine lv_iload_n hx hb dX1_firstWide_17 rfl (lv_at hl 1 rfl) ?_
      refine va_iald hx hb hK hP 2 0 rfl rfl (vp_in_iff.mpr ⟨by omega, by omega⟩) dX1_firstWide_18 ?_
      refine lv_icmp_ne (tgt := 28) hx hb dX1_firstWide_19 (by decide) (fun c2 => ?_) (fun c2 => ?_)
      · skip
        have c2i : ¬ ((f (i : Int32).toNatClampNeg) : Int32).toInt = ((g (i : Int32).toNatClampNeg) : Int32).toInt := fun h => c2 (Int32.toInt_inj.mp h)
        refine lv_iload_n hx hb dX1_firstWide_28 rfl (lv_at hl 1 rfl) ?_
        refine W.widen (k := 0) (n := 0) (by decide) (by decide) ?_
        exact sp_iret (u := ()) hx hb hr hlocks hS ⟨(Eq.symm (hk_r.trans ((if_neg c1i).trans ((if_neg c2i).trans rfl)))), ⟨by omega, by omega⟩⟩ (hP.sub [0, 1, 2] rfl) (hD.sub [0, 1, 2] (by decide) rfl) dX1_firstWide_29
      · skip
        have c2i : ((f (i : Int32).toNatClampNeg) : Int32).toInt = ((g (i : Int32).toNatClampNeg) : Int32).toInt := congrArg Int32.toInt c2
        refine lv_iinc (v := (i + 1)) (lv' := [(1, .int (i + 1)), (0, .ref h)]) hx hb dX1_firstWide_22 hl (k := 1) rfl rfl (by decide) rfl (fun ls hl => ?_)
        have ii4 : ((i + 1) : Int32).toInt = (i : Int32).toInt + 1 := px_iadd (show -2147483648 ≤ (i : Int32).toInt + 1 by omega) (show (i : Int32).toInt + 1 < 2147483648 by omega)
        refine lv_goto (tgt := 2) hx hb dX1_firstWide_25 (by decide) ?_
        exact ih ((i + 1)) _ _ _ (by first | assumption | omega) (by first | assumption | omega) (hk_r.trans ((if_neg c1i).trans ((if_pos c2i).trans rfl))) (by omega) (hP.sub [0, 1, 2] rfl) (hD.sub [0, 1, 2] (by decide) rfl) hS (lv_sub hl [1, 0] rfl)
set_option maxHeartbeats 4000000 in
set_option maxRecDepth 100000 in
theorem c_X1_firstWide (l : Launch) (D : va_G) (cI cJ cZ : ClassId) (sz : Nat) (h a b : Nat) (f : Nat → Int32) (g : Nat → Int32) : Met l yX1_firstWide wpX1_firstWide ({ frames := 0, cells := 0, slots := 0, locals := 0 }) (va_Pc ([.ref h] : List Value) (sp_pre D vwCl (sp_ty cI cJ cZ) [(h, .inr (0, [.ref a, .ref b])), (a, .inl (cI, 4, .inl f)), (b, .inl (cI, 4, .inl g))] sz)) (va_Qi (fun (r : Int32) (_ : Unit) => r = kX1_firstWide f g ∧ (0 ≤ (r : Int32).toInt ∧ (r : Int32).toInt ≤ 4)) (sp_B D vwCl (va_A [(h, .inr (0, [.ref a, .ref b])), (a, .inl (cI, 4, .inl f)), (b, .inl (cI, 4, .inl g))] sz) (fun (_ : Unit) => [(h, .inr (0, [.ref a, .ref b])), (a, .inl (cI, 4, .inl f)), (b, .inl (cI, 4, .inl g))])) (va_A [(h, .inr (0, [.ref a, .ref b])), (a, .inl (cI, 4, .inl f)), (b, .inl (cI, 4, .inl g))] sz)) 0 0 (va_A [(h, .inr (0, [.ref a, .ref b])), (a, .inl (cI, 4, .inl f)), (b, .inl (cI, 4, .inl g))] sz) := by
  refine sp_ofW (Qc := fun A => va_Qi (fun (r : Int32) (_ : Unit) => r = kX1_firstWide f g ∧ (0 ≤ (r : Int32).toInt ∧ (r : Int32).toInt ≤ 4)) (sp_B D vwCl A (fun (_ : Unit) => [(h, .inr (0, [.ref a, .ref b])), (a, .inl (cI, 4, .inl f)), (b, .inl (cI, 4, .inl g))])) A) (by decide) rfl (Nat.le_of_ble_eq_true rfl) (fun p e s m below meth c A ls H locs C0 hA hS hP hK hD hl => ?_)
  obtain ⟨hx, hb, hr, hts, hown, hlocks, hml, hin⟩ := id C0
  have hown : s.vm.findClass RX1 = some m.cls := hown
  have hl : lv_has ls 2 [(0, .ref h)] := hl
  have hK : va_K D vwCl [(cI, .int), (cJ, .long), (cZ, .boolean)] s := hK
  refine lv_iconst (v := 0) hx hb dX1_firstWide_0 (by decide) ?_
  refine lv_istore_n (lv' := [(1, .int 0), (0, .ref h)]) hx hb dX1_firstWide_1 rfl hl (by decide) rfl (fun ls hl => ?_)
  have kk1 : ((0) : Int32).toInt = (0) := by decide
  exact lp_X1_firstWide_2 l D cI cJ cZ h a b f g C0 hA hK 6 (0) _ _ _ (by first | assumption | omega) (by first | assumption | omega) rfl (by omega) (hP.sub [0, 1, 2] rfl) (hD.sub [0, 1, 2] (by decide) rfl) hS (lv_sub hl [1, 0] rfl)
