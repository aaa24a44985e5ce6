set_option maxRecDepth 100000 in
theorem in_wsX10 : ∀ w ∈ wsX10, w ∈ lw_tbl := by
  intro w h
  obtain ⟨k, hk, rfl⟩ := List.mem_map.mp h
  have hk := List.mem_range.mp hk
  match k, hk with
  | 0, _ => exact List.mem_of_getElem? (i := 142) (by decide +kernel)
  | 1, _ => exact List.mem_of_getElem? (i := 144) (by decide +kernel)
  | k + 2, hk => exact absurd hk (by omega)
theorem gwX1 : ∀ w ∈ wsX10, goodWord w = true := by decide +kernel
set_option maxRecDepth 100000 in
theorem in_wsX30 : ∀ w ∈ wsX30, w ∈ lw_tbl := by
  intro w h
  obtain ⟨k, hk, rfl⟩ := List.mem_map.mp h
  have hk := List.mem_range.mp hk
  match k, hk with
  | 0, _ => exact List.mem_of_getElem? (i := 86) (by decide +kernel)
  | 1, _ => exact List.mem_of_getElem? (i := 88) (by decide +kernel)
  | 2, _ => exact List.mem_of_getElem? (i := 90) (by decide +kernel)
  | 3, _ => exact List.mem_of_getElem? (i := 92) (by decide +kernel)
  | 4, _ => exact List.mem_of_getElem? (i := 94) (by decide +kernel)
  | 5, _ => exact List.mem_of_getElem? (i := 96) (by decide +kernel)
  | 6, _ => exact List.mem_of_getElem? (i := 98) (by decide +kernel)
  | k + 7, hk => exact absurd hk (by omega)
theorem gwX3 : ∀ w ∈ wsX30, goodWord w = true := by decide +kernel
set_option maxRecDepth 100000 in
theorem in_wsX40 : ∀ w ∈ wsX40, w ∈ lw_tbl := by
  intro w h
  obtain ⟨k, hk, rfl⟩ := List.mem_map.mp h
  have hk := List.mem_range.mp hk
  match k, hk with
  | 0, _ => exact List.mem_of_getElem? (i := 114) (by decide +kernel)
  | 1, _ => exact List.mem_of_getElem? (i := 116) (by decide +kernel)
  | 2, _ => exact List.mem_of_getElem? (i := 118) (by decide +kernel)
  | 3, _ => exact List.mem_of_getElem? (i := 120) (by decide +kernel)
  | k + 4, hk => exact absurd hk (by omega)
theorem gwX4 : ∀ w ∈ wsX40, goodWord w = true := by decide +kernel
set_option maxRecDepth 100000 in
theorem in_wsX50 : ∀ w ∈ wsX50, w ∈ lw_tbl := by
  intro w h
  obtain ⟨k, hk, rfl⟩ := List.mem_map.mp h
  have hk := List.mem_range.mp hk
  match k, hk with
  | 0, _ => exact List.mem_of_getElem? (i := 212) (by decide +kernel)
  | 1, _ => exact List.mem_of_getElem? (i := 214) (by decide +kernel)
  | 2, _ => exact List.mem_of_getElem? (i := 216) (by decide +kernel)
  | 3, _ => exact List.mem_of_getElem? (i := 218) (by decide +kernel)
  | 4, _ => exact List.mem_of_getElem? (i := 220) (by decide +kernel)
  | 5, _ => exact List.mem_of_getElem? (i := 222) (by decide +kernel)
  | 6, _ => exact List.mem_of_getElem? (i := 224) (by decide +kernel)
  | 7, _ => exact List.mem_of_getElem? (i := 226) (by decide +kernel)
  | 8, _ => exact List.mem_of_getElem? (i := 228) (by decide +kernel)
  | 9, _ => exact List.mem_of_getElem? (i := 230) (by decide +kernel)
  | 10, _ => exact List.mem_of_getElem? (i := 232) (by decide +kernel)
  | 11, _ => exact List.mem_of_getElem? (i := 234) (by decide +kernel)
  | 12, _ => exact List.mem_of_getElem? (i := 236) (by decide +kernel)
  | k + 13, hk => exact absurd hk (by omega)
theorem gwX5 : ∀ w ∈ wsX50, goodWord w = true := by decide +kernel
set_option maxRecDepth 100000 in
theorem in_wsX60 : ∀ w ∈ wsX60, w ∈ lw_tbl := by
  intro w h
  obtain ⟨k, hk, rfl⟩ := List.mem_map.mp h
  have hk := List.mem_range.mp hk
  match k, hk with
  | 0, _ => exact List.mem_of_getElem? (i := 170) (by decide +kernel)
  | 1, _ => exact List.mem_of_getElem? (i := 172) (by decide +kernel)
  | 2, _ => exact List.mem_of_getElem? (i := 174) (by decide +kernel)
  | 3, _ => exact List.mem_of_getElem? (i := 176) (by decide +kernel)
  | 4, _ => exact List.mem_of_getElem? (i := 178) (by decide +kernel)
  | 5, _ => exact List.mem_of_getElem? (i := 180) (by decide +kernel)
  | 6, _ => exact List.mem_of_getElem? (i := 182) (by decide +kernel)
  | k + 7, hk => exact absurd hk (by omega)
theorem gwX6 : ∀ w ∈ wsX60, goodWord w = true := by decide +kernel
set_option maxRecDepth 100000 in
theorem in_wsX70 : ∀ w ∈ wsX70, w ∈ lw_tbl := by
  intro w h
  obtain ⟨k, hk, rfl⟩ := List.mem_map.mp h
  have hk := List.mem_range.mp hk
  match k, hk with
  | 0, _ => exact List.mem_of_getElem? (i := 245) (by decide +kernel)
  | 1, _ => exact List.mem_of_getElem? (i := 247) (by decide +kernel)
  | 2, _ => exact List.mem_of_getElem? (i := 249) (by decide +kernel)
  | 3, _ => exact List.mem_of_getElem? (i := 251) (by decide +kernel)
  | 4, _ => exact List.mem_of_getElem? (i := 253) (by decide +kernel)
  | 5, _ => exact List.mem_of_getElem? (i := 255) (by decide +kernel)
  | k + 6, hk => exact absurd hk (by omega)
theorem gwX7 : ∀ w ∈ wsX70, goodWord w = true := by decide +kernel
set_option maxRecDepth 100000 in
theorem in_wsX80 : ∀ w ∈ wsX80, w ∈ lw_tbl := by
  intro w h
  obtain ⟨k, hk, rfl⟩ := List.mem_map.mp h
  have hk := List.mem_range.mp hk
  match k, hk with
  | 0, _ => exact List.mem_of_getElem? (i := 709) (by decide +kernel)
  | 1, _ => exact List.mem_of_getElem? (i := 711) (by decide +kernel)
  | 2, _ => exact List.mem_of_getElem? (i := 713) (by decide +kernel)
  | 3, _ => exact List.mem_of_getElem? (i := 715) (by decide +kernel)
  | 4, _ => exact List.mem_of_getElem? (i := 717) (by decide +kernel)
  | 5, _ => exact List.mem_of_getElem? (i := 719) (by decide +kernel)
  | 6, _ => exact List.mem_of_getElem? (i := 721) (by decide +kernel)
  | 7, _ => exact List.mem_of_getElem? (i := 723) (by decide +kernel)
  | 8, _ => exact List.mem_of_getElem? (i := 725) (by decide +kernel)
  | 9, _ => exact List.mem_of_getElem? (i := 727) (by decide +kernel)
  | 10, _ => exact List.mem_of_getElem? (i := 729) (by decide +kernel)
  | 11, _ => exact List.mem_of_getElem? (i := 731) (by decide +kernel)
  | 12, _ => exact List.mem_of_getElem? (i := 733) (by decide +kernel)
  | 13, _ => exact List.mem_of_getElem? (i := 735) (by decide +kernel)
  | 14, _ => exact List.mem_of_getElem? (i := 737) (by decide +kernel)
  | 15, _ => exact List.mem_of_getElem? (i := 739) (by decide +kernel)
  | 16, _ => exact List.mem_of_getElem? (i := 741) (by decide +kernel)
  | 17, _ => exact List.mem_of_getElem? (i := 743) (by decide +kernel)
  | 18, _ => exact List.mem_of_getElem? (i := 745) (by decide +kernel)
  | 19, _ => exact List.mem_of_getElem? (i := 747) (by decide +kernel)
  | 20, _ => exact List.mem_of_getElem? (i := 749) (by decide +kernel)
  | 21, _ => exact List.mem_of_getElem? (i := 751) (by decide +kernel)
  | 22, _ => exact List.mem_of_getElem? (i := 753) (by decide +kernel)
  | 23, _ => exact List.mem_of_getElem? (i := 755) (by decide +kernel)
  | 24, _ => exact List.mem_of_getElem? (i := 757) (by decide +kernel)
  | 25, _ => exact List.mem_of_getElem? (i := 759) (by decide +kernel)
  | k + 26, hk => exact absurd hk (by omega)
theorem gwX8 : ∀ w ∈ wsX80, goodWord w = true := by decide +kernel
theorem sp_gV {own C : String} {idx : Nat} {y : MethodName} {ws : List Cond} (h : ∀ w ∈ ws, goodWord w = true) : ∀ w ∈ wsV own idx C y ws, goodWord w = true := by
  unfold wsV
  exact List.forall_mem_append.mpr ⟨List.forall_mem_cons.mpr ⟨rfl, List.forall_mem_cons.mpr ⟨rfl, List.forall_mem_cons.mpr ⟨rfl, List.forall_mem_cons.mpr ⟨rfl, fun _ h => absurd h List.not_mem_nil⟩⟩⟩⟩, h⟩
theorem sp_gS {own : String} {idx : Nat} {y : MethodName} {ws : List Cond} (h : ∀ w ∈ ws, goodWord w = true) : ∀ w ∈ va_wsS own idx y ws, goodWord w = true := by
  unfold va_wsS
  exact List.forall_mem_append.mpr ⟨List.forall_mem_cons.mpr ⟨rfl, List.forall_mem_cons.mpr ⟨rfl, List.forall_mem_cons.mpr ⟨rfl, fun _ h => absurd h List.not_mem_nil⟩⟩⟩, h⟩
theorem sp_tV {own C : String} {idx : Nat} {y : MethodName} {ws big : List Cond} (h1 : Cond.methodLink own idx y ∈ big) (h2 : Cond.instanceMethod y ∈ big) (h3 : Cond.selects C y y ∈ big) (h4 : Cond.initialized C ∈ big) (h : ∀ w ∈ ws, w ∈ big) : ∀ w ∈ wsV own idx C y ws, w ∈ big := by
  unfold wsV
  exact List.forall_mem_append.mpr ⟨List.forall_mem_cons.mpr ⟨h1, List.forall_mem_cons.mpr ⟨h2, List.forall_mem_cons.mpr ⟨h3, List.forall_mem_cons.mpr ⟨h4, fun _ h => absurd h List.not_mem_nil⟩⟩⟩⟩, h⟩
theorem sp_tS {own : String} {idx : Nat} {y : MethodName} {ws big : List Cond} (h1 : Cond.methodLink own idx y ∈ big) (h2 : Cond.static y ∈ big) (h4 : Cond.initialized y.cls ∈ big) (h : ∀ w ∈ ws, w ∈ big) : ∀ w ∈ va_wsS own idx y ws, w ∈ big := by
  unfold va_wsS
  exact List.forall_mem_append.mpr ⟨List.forall_mem_cons.mpr ⟨h1, List.forall_mem_cons.mpr ⟨h2, List.forall_mem_cons.mpr ⟨h4, fun _ h => absurd h List.not_mem_nil⟩⟩⟩, h⟩
