/-! printed by wip/whole/gen/nest.py: words of the tables that only the law's start gives -/
theorem z_chn {big : List Cond} (hb : ∀ w ∈ big, w ∈ lw_tbl) (ws : List Cond) (ps : List Nat) (hp : ws = ps.filterMap (fun i => big[i]?)) : ∀ w ∈ ws, w ∈ lw_tbl := by
  intro w hw
  rw [hp] at hw
  obtain ⟨i, -, hi⟩ := List.mem_filterMap.mp hw
  exact hb w (List.mem_of_getElem? hi)
theorem zn_1 : ∀ w ∈ ([(5, 71, 202), (11, 17, 90), (11, 34, 0)] : List (Nat × Nat × Nat)).map (fun e => (.methodLinkNest (z_cn e.1) e.2.1 (z_nm e.2.2) RX11 : Cond)), w ∈ lw_tbl := z_chn (big := tables_1_1) zin_1 _ [92, 32, 188] (by decide +kernel)
theorem zn_2 : ∀ w ∈ ([(1, 11, 0), (11, 108, 108)] : List (Nat × Nat × Nat)).map (fun e => (.methodLinkNest (z_cn e.1) e.2.1 (z_nm e.2.2) RX11 : Cond)), w ∈ lw_tbl := z_chn (big := tables_1_2) zin_2 _ [26, 154] (by decide +kernel)
theorem zn_3 : ∀ w ∈ ([(6, 107, 200), (7, 25, 200), (7, 38, 199), (7, 99, 208)] : List (Nat × Nat × Nat)).map (fun e => (.methodLinkNest (z_cn e.1) e.2.1 (z_nm e.2.2) RX11 : Cond)), w ∈ lw_tbl := z_chn (big := tables_1_3) zin_3 _ [221, 77, 92, 196] (by decide +kernel)
theorem zn_4 : ∀ w ∈ ([(0, 36, 203), (0, 42, 200), (1, 81, 200), (1, 88, 208), (1, 92, 199), (5, 75, 203), (5, 79, 204), (5, 86, 200), (5, 94, 206), (5, 98, 199), (5, 123, 207), (5, 136, 201), (6, 151, 207), (6, 154, 206)] : List (Nat × Nat × Nat)).map (fun e => (.methodLinkNest (z_cn e.1) e.2.1 (z_nm e.2.2) RX11 : Cond)), w ∈ lw_tbl := z_chn (big := tables_1_4) zin_4 _ [105, 65, 100, 70, 60, 26, 29, 13, 126, 125, 152, 237, 3, 6] (by decide +kernel)
theorem zn_5 : ∀ w ∈ ([(3, 22, 206), (3, 26, 207), (3, 35, 199), (3, 49, 200), (9, 24, 199), (9, 42, 206), (9, 55, 207), (9, 63, 202), (9, 70, 200)] : List (Nat × Nat × Nat)).map (fun e => (.methodLinkNest (z_cn e.1) e.2.1 (z_nm e.2.2) RX11 : Cond)), w ∈ lw_tbl := z_chn (big := tables_1_5) zin_5 _ [174, 175, 176, 194, 64, 65, 91, 121, 122] (by decide +kernel)
theorem zn_6 : ∀ w ∈ ([(2, 27, 199), (2, 42, 207), (2, 49, 206), (2, 52, 200), (2, 66, 203), (4, 32, 200), (4, 69, 199), (10, 23, 206), (10, 39, 207), (10, 50, 202), (10, 54, 199), (10, 58, 200)] : List (Nat × Nat × Nat)).map (fun e => (.methodLinkNest (z_cn e.1) e.2.1 (z_nm e.2.2) RX11 : Cond)), w ∈ lw_tbl := z_chn (big := tables_1_6) zin_6 _ [59, 69, 61, 62, 70, 119, 114, 6, 16, 30, 31, 32] (by decide +kernel)
theorem zn_all : ∀ x ∈ z_nests, (fun e : Nat × Nat × Nat => (.methodLinkNest (z_cn e.1) e.2.1 (z_nm e.2.2) RX11 : Cond)) x ∈ lw_tbl := by
  have key : ∀ x ∈ z_nests, x ∈ ([(5, 71, 202), (11, 17, 90), (11, 34, 0)] : List (Nat × Nat × Nat)) ∨ x ∈ ([(1, 11, 0), (11, 108, 108)] : List (Nat × Nat × Nat)) ∨ x ∈ ([(6, 107, 200), (7, 25, 200), (7, 38, 199), (7, 99, 208)] : List (Nat × Nat × Nat)) ∨ x ∈ ([(0, 36, 203), (0, 42, 200), (1, 81, 200), (1, 88, 208), (1, 92, 199), (5, 75, 203), (5, 79, 204), (5, 86, 200), (5, 94, 206), (5, 98, 199), (5, 123, 207), (5, 136, 201), (6, 151, 207), (6, 154, 206)] : List (Nat × Nat × Nat)) ∨ x ∈ ([(3, 22, 206), (3, 26, 207), (3, 35, 199), (3, 49, 200), (9, 24, 199), (9, 42, 206), (9, 55, 207), (9, 63, 202), (9, 70, 200)] : List (Nat × Nat × Nat)) ∨ x ∈ ([(2, 27, 199), (2, 42, 207), (2, 49, 206), (2, 52, 200), (2, 66, 203), (4, 32, 200), (4, 69, 199), (10, 23, 206), (10, 39, 207), (10, 50, 202), (10, 54, 199), (10, 58, 200)] : List (Nat × Nat × Nat)) := by decide +kernel
  intro x hx
  rcases key x hx with h | h | h | h | h | h
  · exact zn_1 _ (List.mem_map_of_mem h)
  · exact zn_2 _ (List.mem_map_of_mem h)
  · exact zn_3 _ (List.mem_map_of_mem h)
  · exact zn_4 _ (List.mem_map_of_mem h)
  · exact zn_5 _ (List.mem_map_of_mem h)
  · exact zn_6 _ (List.mem_map_of_mem h)
theorem zt_ao_10 : (.arrayOver (.object (z_cn (10 - 10))) : Cond) ∈ lw_tbl := zin_2 _ (List.mem_of_getElem? (i := 48) (by decide +kernel))
theorem zt_ao_15 : (.arrayOver (.object (z_cn (15 - 10))) : Cond) ∈ lw_tbl := zin_2 _ (List.mem_of_getElem? (i := 47) (by decide +kernel))
theorem zt_ao_18 : (.arrayOver (.object (z_cn (18 - 10))) : Cond) ∈ lw_tbl := zin_1 _ (List.mem_of_getElem? (i := 29) (by decide +kernel))
theorem zt_s0 : (.stringRef "ThornSchool$Text" 78 (ztx 0) : Cond) ∈ lw_tbl := zin_3 _ (List.mem_of_getElem? (i := 109) (by decide +kernel))
theorem zt_s1 : (.stringRef "ThornSchoolModel" 181 (ztx 1) : Cond) ∈ lw_tbl := zin_7 _ (List.mem_of_getElem? (i := 167) (by decide +kernel))
theorem zt_ls_compact : (.laysStatic "java/lang/String" "COMPACT_STRINGS" "Z" : Cond) ∈ lw_tbl := zin_3 _ (List.mem_of_getElem? (i := 119) (by decide +kernel))
theorem zt_ls_sioobe : (.laysStatic "jdk/internal/util/Preconditions" "SIOOBE_FORMATTER" "Ljava/util/function/BiFunction;" : Cond) ∈ lw_tbl := zin_3 _ (List.mem_of_getElem? (i := 135) (by decide +kernel))
