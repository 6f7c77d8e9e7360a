/-! printed by wip/whole/gen/facts.py -/
def zTs : List Cond := lw_tbl.filter goodWord
theorem zin_1 : ∀ w ∈ tables_1_1, w ∈ lw_tbl := fun w h => List.mem_append_right _ (List.mem_append_left _ h : w ∈ tables_1)
theorem zin_2 : ∀ w ∈ tables_1_2, w ∈ lw_tbl := fun w h => List.mem_append_right _ (List.mem_append_right _ (List.mem_append_left _ h) : w ∈ tables_1)
theorem zin_3 : ∀ w ∈ tables_1_3, w ∈ lw_tbl := fun w h => List.mem_append_right _ (List.mem_append_right _ (List.mem_append_right _ (List.mem_append_left _ h)) : w ∈ tables_1)
theorem zin_4 : ∀ w ∈ tables_1_4, w ∈ lw_tbl := fun w h => List.mem_append_right _ (List.mem_append_right _ (List.mem_append_right _ (List.mem_append_right _ (List.mem_append_left _ h))) : w ∈ tables_1)
theorem zin_5 : ∀ w ∈ tables_1_5, w ∈ lw_tbl := fun w h => List.mem_append_right _ (List.mem_append_right _ (List.mem_append_right _ (List.mem_append_right _ (List.mem_append_right _ (List.mem_append_left _ h)))) : w ∈ tables_1)
theorem zin_6 : ∀ w ∈ tables_1_6, w ∈ lw_tbl := fun w h => List.mem_append_right _ (List.mem_append_right _ (List.mem_append_right _ (List.mem_append_right _ (List.mem_append_right _ (List.mem_append_right _ (List.mem_append_left _ h))))) : w ∈ tables_1)
theorem zin_7 : ∀ w ∈ tables_1_7, w ∈ lw_tbl := fun w h => List.mem_append_right _ (List.mem_append_right _ (List.mem_append_right _ (List.mem_append_right _ (List.mem_append_right _ (List.mem_append_right _ (List.mem_append_right _ (List.mem_append_left _ h)))))) : w ∈ tables_1)
theorem zin_8 : ∀ w ∈ tables_1_8, w ∈ lw_tbl := fun w h => List.mem_append_right _ (List.mem_append_right _ (List.mem_append_right _ (List.mem_append_right _ (List.mem_append_right _ (List.mem_append_right _ (List.mem_append_right _ (List.mem_append_right _ (List.mem_append_left _ h))))))) : w ∈ tables_1)
theorem zin_9 : ∀ w ∈ tables_1_9, w ∈ lw_tbl := fun w h => List.mem_append_right _ (List.mem_append_right _ (List.mem_append_right _ (List.mem_append_right _ (List.mem_append_right _ (List.mem_append_right _ (List.mem_append_right _ (List.mem_append_right _ (List.mem_append_right _ (h)))))))) : w ∈ tables_1)
theorem z_sel {a b : List (MethodName × Nat)} (h : ∀ q ∈ a, q ∈ b) : ∀ w ∈ k2_sels a, w ∈ k2_sels b := fun w hw => by
  unfold k2_sels at hw ⊢
  obtain ⟨q, h1, h2⟩ := List.mem_map.mp hw
  exact List.mem_map.mpr ⟨q, h q h1, h2⟩
theorem z_ch {big : List Cond} (hb : ∀ w ∈ big, w ∈ lw_tbl) (ws : List Cond) (ps : List Nat) (hp : ws = ps.filterMap (fun i => big[i]?)) (h : ws.all goodWord = true) : ∀ w ∈ ws, w ∈ zTs := by
  intro w hw
  refine List.mem_filter.mpr ⟨hb w ?_, List.all_eq_true.mp h w hw⟩
  rw [hp] at hw
  obtain ⟨i, -, hi⟩ := List.mem_filterMap.mp hw
  exact List.mem_of_getElem? hi
theorem z_app {α : Type} {f : α → Cond} {a b : List α} (ha : ∀ w ∈ a.map f, w ∈ zTs) (hb : ∀ w ∈ b.map f, w ∈ zTs) : ∀ w ∈ (a ++ b).map f, w ∈ zTs := fun w hw => by
  rw [List.map_append] at hw
  exact (List.mem_append.mp hw).elim (ha w) (hb w)
theorem zpr_1 : ∀ q ∈ lw_privs_1, q ∈ lw_privs := fun q h => List.mem_append_left _ h
theorem zin_10 : ∀ w ∈ k2_sels lw_privs_1, w ∈ lw_tbl := fun w h => List.mem_append_left _ (z_sel zpr_1 w h)
theorem zpr_2 : ∀ q ∈ lw_privs_2, q ∈ lw_privs := fun q h => List.mem_append_right _ (List.mem_append_left _ h)
theorem zin_11 : ∀ w ∈ k2_sels lw_privs_2, w ∈ lw_tbl := fun w h => List.mem_append_left _ (z_sel zpr_2 w h)
theorem zpr_3 : ∀ q ∈ lw_privs_3, q ∈ lw_privs := fun q h => List.mem_append_right _ (List.mem_append_right _ (List.mem_append_left _ h))
theorem zin_12 : ∀ w ∈ k2_sels lw_privs_3, w ∈ lw_tbl := fun w h => List.mem_append_left _ (z_sel zpr_3 w h)
theorem zpr_4 : ∀ q ∈ lw_privs_4, q ∈ lw_privs := fun q h => List.mem_append_right _ (List.mem_append_right _ (List.mem_append_right _ (List.mem_append_left _ h)))
theorem zin_13 : ∀ w ∈ k2_sels lw_privs_4, w ∈ lw_tbl := fun w h => List.mem_append_left _ (z_sel zpr_4 w h)
theorem zpr_5 : ∀ q ∈ lw_privs_5, q ∈ lw_privs := fun q h => List.mem_append_right _ (List.mem_append_right _ (List.mem_append_right _ (List.mem_append_right _ (List.mem_append_left _ h))))
theorem zin_14 : ∀ w ∈ k2_sels lw_privs_5, w ∈ lw_tbl := fun w h => List.mem_append_left _ (z_sel zpr_5 w h)
theorem zpr_6 : ∀ q ∈ lw_privs_6, q ∈ lw_privs := fun q h => List.mem_append_right _ (List.mem_append_right _ (List.mem_append_right _ (List.mem_append_right _ (List.mem_append_right _ (List.mem_append_left _ h)))))
theorem zin_15 : ∀ w ∈ k2_sels lw_privs_6, w ∈ lw_tbl := fun w h => List.mem_append_left _ (z_sel zpr_6 w h)
theorem zpr_7 : ∀ q ∈ lw_privs_7, q ∈ lw_privs := fun q h => List.mem_append_right _ (List.mem_append_right _ (List.mem_append_right _ (List.mem_append_right _ (List.mem_append_right _ (List.mem_append_right _ (List.mem_append_left _ h))))))
theorem zin_16 : ∀ w ∈ k2_sels lw_privs_7, w ∈ lw_tbl := fun w h => List.mem_append_left _ (z_sel zpr_7 w h)
theorem zpr_8 : ∀ q ∈ lw_privs_8, q ∈ lw_privs := fun q h => List.mem_append_right _ (List.mem_append_right _ (List.mem_append_right _ (List.mem_append_right _ (List.mem_append_right _ (List.mem_append_right _ (List.mem_append_right _ (List.mem_append_left _ h)))))))
theorem zin_17 : ∀ w ∈ k2_sels lw_privs_8, w ∈ lw_tbl := fun w h => List.mem_append_left _ (z_sel zpr_8 w h)
theorem zpr_9 : ∀ q ∈ lw_privs_9, q ∈ lw_privs := fun q h => List.mem_append_right _ (List.mem_append_right _ (List.mem_append_right _ (List.mem_append_right _ (List.mem_append_right _ (List.mem_append_right _ (List.mem_append_right _ (List.mem_append_right _ (h))))))))
theorem zin_18 : ∀ w ∈ k2_sels lw_privs_9, w ∈ lw_tbl := fun w h => List.mem_append_left _ (z_sel zpr_9 w h)
def z_cns : List String := [RX0, RX1, RX2, RX3, RX4, RX5, RX6, RX7, RX8, RX9, RX10, RX11, RX12, RJ6, RL]
def z_cn (c : Nat) : String := z_cns.getD c ""
def zT (c : Nat) : u_T := match c with
  | 0 => TX0
  | 1 => TX1
  | 2 => TX2
  | 3 => TX3
  | 4 => TX4
  | 5 => TX5
  | 6 => TX6
  | 7 => TX7
  | 8 => TX8
  | 9 => TX9
  | 10 => TX10
  | 11 => TX11
  | _ => TX12
def zty (c : Nat) : Nat → FieldType := match c with
  | 0 => tyX0
  | 1 => tyX1
  | 2 => tyX2
  | 3 => tyX3
  | 4 => tyX4
  | 5 => tyX5
  | 6 => tyX6
  | 7 => tyX7
  | 8 => tyX8
  | 9 => tyX9
  | 10 => tyX10
  | 11 => tyX11
  | _ => tyX12
def z_Nl : List Nat := [8, 6, 3, 3, 12, 18, 7, 11, 3, 2, 2, 18, 39]
def z_N (c : Nat) : Nat := z_Nl.getD c 0
def z_oc_0 : List (Nat) := [0, 0, 0, 0, 0, 1, 1, 1, 1, 1, 1, 1, 1, 1, 1, 2, 2, 2, 2, 2]
def z_oc_1 : List (Nat) := [2, 3, 3, 3, 3, 3, 3, 3, 3, 3, 4, 4, 4, 4, 4, 4, 4, 4, 4, 4]
def z_oc_2 : List (Nat) := [4, 4, 4, 4, 4, 5, 5, 5, 5, 5, 5, 5, 5, 5, 5, 5, 5, 5, 5, 5]
def z_oc_3 : List (Nat) := [5, 5, 5, 5, 5, 5, 5, 5, 5, 5, 5, 5, 5, 5, 5, 5, 5, 5, 5, 5]
def z_oc_4 : List (Nat) := [6, 6, 6, 6, 6, 6, 6, 6, 6, 6, 7, 7, 7, 7, 7, 7, 7, 7, 7, 7]
def z_oc_5 : List (Nat) := [7, 7, 7, 7, 7, 7, 7, 7, 8, 8, 8, 8, 8, 8, 8, 8, 9, 9, 9, 9]
def z_oc_6 : List (Nat) := [9, 9, 9, 9, 9, 9, 9, 9, 9, 10, 10, 10, 10, 10, 10, 11, 11, 11, 11, 11]
def z_oc_7 : List (Nat) := [11, 11, 11, 11, 11, 11, 11, 11, 11, 11, 11, 11, 11, 11, 11, 11, 11, 11, 11, 11]
def z_oc_8 : List (Nat) := [11, 11, 11, 11, 11, 11, 11, 11, 11, 11, 11, 11, 11, 11, 11, 11, 11, 11, 11, 11]
def z_oc_9 : List (Nat) := [11, 11, 11, 11, 11, 11, 11, 11, 11, 11, 11, 11, 11, 11, 11, 11, 11, 11, 11, 11]
def z_oc_10 : List (Nat) := [11, 11, 11, 11, 11, 11, 11, 11, 11, 11, 12, 12, 12, 12, 12, 12, 12, 12, 12, 12]
def z_oc_11 : List (Nat) := [12, 12, 12, 12, 12, 12, 12, 12, 12, 12, 12, 12, 12, 12, 12, 12, 12, 12, 12, 12]
def z_oc_12 : List (Nat) := [12, 12, 12, 12, 12, 12, 12, 12, 12, 12, 12, 12, 12, 12, 12, 12, 12, 12, 12, 12]
def z_oc_13 : List (Nat) := [12, 12, 12, 12, 12, 12, 12, 12, 12, 12, 12, 12, 12, 12, 12, 12, 12, 12, 12, 12]
def z_oc_14 : List (Nat) := [12, 12, 12, 12, 12, 12, 12, 12, 12, 12, 12, 12, 12, 12, 12, 12, 12, 12, 12, 12]
def z_oc_15 : List (Nat) := [12, 12, 12, 12, 12, 12, 12, 12, 12, 12, 12, 12, 12, 12, 12, 12, 12, 12, 12, 12]
def z_oc_16 : List (Nat) := [12, 12, 12, 12, 12, 12, 12, 12, 12, 12, 12, 12, 12, 12, 12, 12, 12, 12, 12, 12]
def z_oc_17 : List (Nat) := [12, 12, 12, 12, 12, 12, 12, 12, 12, 12, 12, 12, 12, 12, 12, 12, 12, 12, 12, 12]
def z_oc_18 : List (Nat) := [12, 12, 12, 12, 13, 14]
def z_oc_s : List (List (Nat)) := [z_oc_0, z_oc_1, z_oc_2, z_oc_3, z_oc_4, z_oc_5, z_oc_6, z_oc_7, z_oc_8, z_oc_9, z_oc_10, z_oc_11, z_oc_12, z_oc_13, z_oc_14, z_oc_15, z_oc_16, z_oc_17, z_oc_18]
def z_oc (y : Nat) : Nat := (z_oc_s.getD (y / 20) []).getD (y % 20) 0
def z_nm_0 : List (MethodName) := [yX0_init, yX0_clear, yX0_copyFrom, yX0_addStep, yX0_addEnd, yX1_init, yX1_readAll, yX1_readStep, yX1_beginsStep, yX1_readEnd, yX1_readPlain, yX1_readTest, yX1_takesPupil, yX1_takesSide, yX1_takesCompare, yX2_init, yX2_clearSet, yX2_isKeptFrom, yX2_look, yX2_goodToStepTo]
def z_nm_1 : List (MethodName) := [yX2_firstMove, yX3_init, yX3_allFor, yX3_hoursOf, yX3_atOnce, yX3_latest, yX3_countOrders, yX3_ordersOf, yX3_inLastOrder, yX3_lastThatCan, yX4_init, yX4_keepAsLived, yX4_run, yX4_pass, yX4_passEnd, yX4_holds, yX4_compares, yX4_does, yX4_goes, yX4_frees]
def z_nm_2 : List (MethodName) := [yX4_tears, yX4_picks, yX4_ages, yX4_doesAny, yX4_draw, yX5_init, yX5_clear, yX5_copyFrom, yX5_cells, yX5_hasCell, yX5_isCellNumber, yX5_hasLesson, yX5_hasPupil, yX5_lessonNamed, yX5_pupilNamed, yX5_addLesson, yX5_addPupil, yX5_beside, yX5_around, yX5_areNear]
def z_nm_3 : List (MethodName) := [yX5_pupilsAt, yX5_touch, yX5_catchOf, yX5_clearSet, yX5_isCaught, yX5_caughtSet, yX5_pupilsWhoKnow, yX5_canStep, yX5_step, yX5_canHelp, yX5_takeThorn, yX5_nextLesson, yX5_tearOff, yX5_canGather, yX5_gather, yX5_canAge, yX5_age, yX5_helperSet, yX5_freedSet, yX5_isNearSome]
def z_nm_4 : List (MethodName) := [yX6_init, yX6_readAll, yX6_readPart, yX6_readThicket, yX6_readOdds, yX6_readGrown, yX6_readLesson, yX6_readPupil, yX6_takesNewName, yX6_takesLessonsBehind, yX7_init, yX7_hasRoom, yX7_addInt, yX7_begin, yX7_advance, yX7_scanWord, yX7_wordNumber, yX7_scanNumber, yX7_isBlank, yX7_isLetter]
def z_nm_5 : List (MethodName) := [yX7_isDigit, yX7_isCompare, yX7_isWord, yX7_fails, yX7_strays, yX7_takesWord, yX7_takesSemicolon, yX7_takesNumber, yX8_init, yX8_lay, yX8_isMissing, yX8_holds, yX8_at, yX8_set, yX8_cut, yX8_take, yX9_init, yX9_ownCell, yX9_clearSet, yX9_within]
def z_nm_6 : List (MethodName) := [yX9_comeSet, yX9_steps, yX9_onWay, yX9_first, yX9_greatestWant, yX9_fewestThorns, yX9_lowers, yX9_fewestCleared, yX9_whoComeToAll, yX10_init, yX10_fitting, yX10_isAsTold, yX10_inSet, yX10_bestAsked, yX10_mostWithOneCatch, yX11_init, yX11_status, yX11_top, yX11_bottom, yX11_tray]
def z_nm_7 : List (MethodName) := [yX11_write, yX11_read, yX11_pour, yX11_feed, yX11_school, yX11_autumns, yX11_fault, yX11_told, yX11_cell, yX11_lesson, yX11_pupil, yX11_catches, yX11_go, yX11_free, yX11_tear, yX11_pick, yX11_year, yX11_plant, yX11_wish, yX11_teach]
def z_nm_8 : List (MethodName) := [yX11_come, yX11_rule, yX11_reach, yX11_far, yX11_way, yX11_calm, yX11_pricks, yX11_opening, yX11_freed, yX11_helpers, yX11_learns, yX11_alone, yX11_together, yX11_orders, yX11_orderAt, yX11_left, yX11_fits, yX11_fitsAt, yX11_ask, yX11_whose]
def z_nm_9 : List (MethodName) := [yX11_game, yX11_moveOf, yX11_chance, yX11_slips, yX11_copyThorns, yX11_live, yX11_lived, yX11_mean, yX11_mark, yX11_undo, yX11_none, yX11_done, yX11_refused, yX11_granted, yX11_tellFraction, yX11_trayAt, yX11_troubleWith, yX11_troubleWithTwos, yX11_areTwo, yX11_get]
def z_nm_10 : List (MethodName) := [yX11_put, yX11_exchange, yX11_fill, yX11_copy, yX11_copy_, yX11_sum, yX11_bit, yX11_has, yX11_isIn, yX11_power, yX12_init, yX12_plain, yX12_status, yX12_top, yX12_bottom, yX12_is, yX12_refuse, yX12_gives, yX12_orNone, yX12_tellsBy]
def z_nm_11 : List (MethodName) := [yX12_isTray, yX12_cut, yX12_tray, yX12_wrongPlace, yX12_write, yX12_read, yX12_pour, yX12_isFrom, yX12_feed, yX12_four, yX12_byteAt, yX12_isSmall, yX12_isDigit, yX12_ahead, yX12_isSign, yX12_inWords, yX12_fails, yX12_begins, yX12_wantSign, yX12_wantWord]
def z_nm_12 : List (MethodName) := [yX12_number, yX12_isName, yX12_nameHere, yX12_findHere, yX12_fault, yX12_taken, yX12_lessonRow, yX12_pupilRow, yX12_cellsOf, yX12_isIn, yX12_isThere, yX12_perhaps, yX12_isFull, yX12_isOld, yX12_newOne, yX12_newCellTo, yX12_lessonsTo, yX12_aThicket, yX12_aPlant, yX12_aLesson]
def z_nm_13 : List (MethodName) := [yX12_aPupil, yX12_schoolPart, yX12_school, yX12_pupilTo, yX12_cellTo, yX12_sideTo, yX12_test, yX12_autumnOrder, yX12_autumnStep, yX12_autumns, yX12_isCell, yX12_isLesson, yX12_isPupil, yX12_bits, yX12_pupilOf, yX12_needsOf, yX12_catchBy, yX12_catchOf, yX12_isCaught, yX12_allOf]
def z_nm_14 : List (MethodName) := [yX12_together0, yX12_allCaught, yX12_told, yX12_whoIs, yX12_cell, yX12_lesson, yX12_pupil, yX12_catches, yX12_sideOf, yX12_isNear, yX12_goes, yX12_go, yX12_nextLesson, yX12_canFree, yX12_frees, yX12_free, yX12_tears, yX12_tear, yX12_picks, yX12_pick]
def z_nm_15 : List (MethodName) := [yX12_yearGoes, yX12_yearsGo, yX12_year, yX12_plant, yX12_wish, yX12_teach, yX12_come, yX12_rule, yX12_isClear, yX12_laysFar, yX12_stepsTo, yX12_reachOf, yX12_reach, yX12_far, yX12_nextOf, yX12_way, yX12_calm, yX12_stepCost, yX12_laysCost, yX12_pricks]
def z_nm_16 : List (MethodName) := [yX12_opening, yX12_nearTo, yX12_freed, yX12_helpers, yX12_learns, yX12_allNeeds, yX12_hoursOf, yX12_alone, yX12_together, yX12_orders, yX12_orderAt, yX12_left, yX12_wrongSeen, yX12_laysFits, yX12_fits, yX12_fitsAt, yX12_mostAlike, yX12_ask, yX12_whose, yX12_mayGo]
def z_nm_17 : List (MethodName) := [yX12_isSafe, yX12_keepsBy, yX12_laysKeeps, yX12_areTwo, yX12_game, yX12_moveOf, yX12_chance, yX12_slips, yX12_copyThorns, yX12_draw, yX12_goesBy, yX12_freesBy, yX12_yearsBy, yX12_doesAny, yX12_does, yX12_holds, yX12_behindEnds, yX12_lives, yX12_live, yX12_lived]
def z_nm_18 : List (MethodName) := [yX12_mean, yX12_copies, yX12_mark, yX12_undo, yJ6_bitCount_0f7a4, yL_law]
def z_nm_s : List (List (MethodName)) := [z_nm_0, z_nm_1, z_nm_2, z_nm_3, z_nm_4, z_nm_5, z_nm_6, z_nm_7, z_nm_8, z_nm_9, z_nm_10, z_nm_11, z_nm_12, z_nm_13, z_nm_14, z_nm_15, z_nm_16, z_nm_17, z_nm_18]
def z_nm (y : Nat) : MethodName := (z_nm_s.getD (y / 20) []).getD (y % 20) yL_law
def z_by_0 : List (ByteArray) := [cX0_init, cX0_clear, cX0_copyFrom, cX0_addStep, cX0_addEnd, cX1_init, cX1_readAll, cX1_readStep, cX1_beginsStep, cX1_readEnd, cX1_readPlain, cX1_readTest, cX1_takesPupil, cX1_takesSide, cX1_takesCompare, cX2_init, cX2_clearSet, cX2_isKeptFrom, cX2_look, cX2_goodToStepTo]
def z_by_1 : List (ByteArray) := [cX2_firstMove, cX3_init, cX3_allFor, cX3_hoursOf, cX3_atOnce, cX3_latest, cX3_countOrders, cX3_ordersOf, cX3_inLastOrder, cX3_lastThatCan, cX4_init, cX4_keepAsLived, cX4_run, cX4_pass, cX4_passEnd, cX4_holds, cX4_compares, cX4_does, cX4_goes, cX4_frees]
def z_by_2 : List (ByteArray) := [cX4_tears, cX4_picks, cX4_ages, cX4_doesAny, cX4_draw, cX5_init, cX5_clear, cX5_copyFrom, cX5_cells, cX5_hasCell, cX5_isCellNumber, cX5_hasLesson, cX5_hasPupil, cX5_lessonNamed, cX5_pupilNamed, cX5_addLesson, cX5_addPupil, cX5_beside, cX5_around, cX5_areNear]
def z_by_3 : List (ByteArray) := [cX5_pupilsAt, cX5_touch, cX5_catchOf, cX5_clearSet, cX5_isCaught, cX5_caughtSet, cX5_pupilsWhoKnow, cX5_canStep, cX5_step, cX5_canHelp, cX5_takeThorn, cX5_nextLesson, cX5_tearOff, cX5_canGather, cX5_gather, cX5_canAge, cX5_age, cX5_helperSet, cX5_freedSet, cX5_isNearSome]
def z_by_4 : List (ByteArray) := [cX6_init, cX6_readAll, cX6_readPart, cX6_readThicket, cX6_readOdds, cX6_readGrown, cX6_readLesson, cX6_readPupil, cX6_takesNewName, cX6_takesLessonsBehind, cX7_init, cX7_hasRoom, cX7_addInt, cX7_begin, cX7_advance, cX7_scanWord, cX7_wordNumber, cX7_scanNumber, cX7_isBlank, cX7_isLetter]
def z_by_5 : List (ByteArray) := [cX7_isDigit, cX7_isCompare, cX7_isWord, cX7_fails, cX7_strays, cX7_takesWord, cX7_takesSemicolon, cX7_takesNumber, cX8_init, cX8_lay, cX8_isMissing, cX8_holds, cX8_at, cX8_set, cX8_cut, cX8_take, cX9_init, cX9_ownCell, cX9_clearSet, cX9_within]
def z_by_6 : List (ByteArray) := [cX9_comeSet, cX9_steps, cX9_onWay, cX9_first, cX9_greatestWant, cX9_fewestThorns, cX9_lowers, cX9_fewestCleared, cX9_whoComeToAll, cX10_init, cX10_fitting, cX10_isAsTold, cX10_inSet, cX10_bestAsked, cX10_mostWithOneCatch, cX11_init, cX11_status, cX11_top, cX11_bottom, cX11_tray]
def z_by_7 : List (ByteArray) := [cX11_write, cX11_read, cX11_pour, cX11_feed, cX11_school, cX11_autumns, cX11_fault, cX11_told, cX11_cell, cX11_lesson, cX11_pupil, cX11_catches, cX11_go, cX11_free, cX11_tear, cX11_pick, cX11_year, cX11_plant, cX11_wish, cX11_teach]
def z_by_8 : List (ByteArray) := [cX11_come, cX11_rule, cX11_reach, cX11_far, cX11_way, cX11_calm, cX11_pricks, cX11_opening, cX11_freed, cX11_helpers, cX11_learns, cX11_alone, cX11_together, cX11_orders, cX11_orderAt, cX11_left, cX11_fits, cX11_fitsAt, cX11_ask, cX11_whose]
def z_by_9 : List (ByteArray) := [cX11_game, cX11_moveOf, cX11_chance, cX11_slips, cX11_copyThorns, cX11_live, cX11_lived, cX11_mean, cX11_mark, cX11_undo, cX11_none, cX11_done, cX11_refused, cX11_granted, cX11_tellFraction, cX11_trayAt, cX11_troubleWith, cX11_troubleWithTwos, cX11_areTwo, cX11_get]
def z_by_10 : List (ByteArray) := [cX11_put, cX11_exchange, cX11_fill, cX11_copy, cX11_copy_, cX11_sum, cX11_bit, cX11_has, cX11_isIn, cX11_power, cX12_init, cX12_plain, cX12_status, cX12_top, cX12_bottom, cX12_is, cX12_refuse, cX12_gives, cX12_orNone, cX12_tellsBy]
def z_by_11 : List (ByteArray) := [cX12_isTray, cX12_cut, cX12_tray, cX12_wrongPlace, cX12_write, cX12_read, cX12_pour, cX12_isFrom, cX12_feed, cX12_four, cX12_byteAt, cX12_isSmall, cX12_isDigit, cX12_ahead, cX12_isSign, cX12_inWords, cX12_fails, cX12_begins, cX12_wantSign, cX12_wantWord]
def z_by_12 : List (ByteArray) := [cX12_number, cX12_isName, cX12_nameHere, cX12_findHere, cX12_fault, cX12_taken, cX12_lessonRow, cX12_pupilRow, cX12_cellsOf, cX12_isIn, cX12_isThere, cX12_perhaps, cX12_isFull, cX12_isOld, cX12_newOne, cX12_newCellTo, cX12_lessonsTo, cX12_aThicket, cX12_aPlant, cX12_aLesson]
def z_by_13 : List (ByteArray) := [cX12_aPupil, cX12_schoolPart, cX12_school, cX12_pupilTo, cX12_cellTo, cX12_sideTo, cX12_test, cX12_autumnOrder, cX12_autumnStep, cX12_autumns, cX12_isCell, cX12_isLesson, cX12_isPupil, cX12_bits, cX12_pupilOf, cX12_needsOf, cX12_catchBy, cX12_catchOf, cX12_isCaught, cX12_allOf]
def z_by_14 : List (ByteArray) := [cX12_together0, cX12_allCaught, cX12_told, cX12_whoIs, cX12_cell, cX12_lesson, cX12_pupil, cX12_catches, cX12_sideOf, cX12_isNear, cX12_goes, cX12_go, cX12_nextLesson, cX12_canFree, cX12_frees, cX12_free, cX12_tears, cX12_tear, cX12_picks, cX12_pick]
def z_by_15 : List (ByteArray) := [cX12_yearGoes, cX12_yearsGo, cX12_year, cX12_plant, cX12_wish, cX12_teach, cX12_come, cX12_rule, cX12_isClear, cX12_laysFar, cX12_stepsTo, cX12_reachOf, cX12_reach, cX12_far, cX12_nextOf, cX12_way, cX12_calm, cX12_stepCost, cX12_laysCost, cX12_pricks]
def z_by_16 : List (ByteArray) := [cX12_opening, cX12_nearTo, cX12_freed, cX12_helpers, cX12_learns, cX12_allNeeds, cX12_hoursOf, cX12_alone, cX12_together, cX12_orders, cX12_orderAt, cX12_left, cX12_wrongSeen, cX12_laysFits, cX12_fits, cX12_fitsAt, cX12_mostAlike, cX12_ask, cX12_whose, cX12_mayGo]
def z_by_17 : List (ByteArray) := [cX12_isSafe, cX12_keepsBy, cX12_laysKeeps, cX12_areTwo, cX12_game, cX12_moveOf, cX12_chance, cX12_slips, cX12_copyThorns, cX12_draw, cX12_goesBy, cX12_freesBy, cX12_yearsBy, cX12_doesAny, cX12_does, cX12_holds, cX12_behindEnds, cX12_lives, cX12_live, cX12_lived]
def z_by_18 : List (ByteArray) := [cX12_mean, cX12_copies, cX12_mark, cX12_undo, cJ6_bitCount_0f7a4, cL_law]
def z_by_s : List (List (ByteArray)) := [z_by_0, z_by_1, z_by_2, z_by_3, z_by_4, z_by_5, z_by_6, z_by_7, z_by_8, z_by_9, z_by_10, z_by_11, z_by_12, z_by_13, z_by_14, z_by_15, z_by_16, z_by_17, z_by_18]
def z_by (y : Nat) : ByteArray := (z_by_s.getD (y / 20) []).getD (y % 20) cL_law
def z_rt_0 : List (Option FieldType) := [none, none, none, none, none, none, (some .boolean), (some .boolean), (some .boolean), (some .boolean), (some .boolean), (some .boolean), (some .boolean), (some .boolean), (some .boolean), none, (some .int), (some .boolean), none, (some .int)]
def z_rt_1 : List (Option FieldType) := [(some .int), none, (some .int), (some .int), (some .int), (some .int), (some .int), (some .int), (some .int), (some .int), none, none, none, (some .int), (some .int), (some .boolean), (some .boolean), (some .boolean), (some .boolean), (some .boolean)]
def z_rt_2 : List (Option FieldType) := [(some .boolean), (some .boolean), (some .boolean), (some .boolean), (some .int), none, none, none, (some .int), (some .boolean), (some .boolean), (some .boolean), (some .boolean), (some .int), (some .int), none, none, (some .int), (some .int), (some .boolean)]
def z_rt_3 : List (Option FieldType) := [(some .int), (some .int), (some .int), (some .int), (some .boolean), (some .int), (some .int), (some .boolean), (some .int), (some .boolean), (some .int), (some .int), (some .int), (some .boolean), (some .int), (some .boolean), none, (some .int), (some .int), (some .boolean)]
def z_rt_4 : List (Option FieldType) := [none, (some .boolean), (some .boolean), (some .boolean), (some .boolean), (some .boolean), (some .boolean), (some .boolean), (some .boolean), (some .boolean), none, (some .boolean), none, none, none, none, (some .int), none, (some .boolean), (some .boolean)]
def z_rt_5 : List (Option FieldType) := [(some .boolean), (some .boolean), (some .boolean), (some .boolean), (some .boolean), (some .boolean), (some .boolean), (some .boolean), none, none, (some .boolean), (some .boolean), (some .long), none, (some .long), none, none, (some .int), (some .int), (some .int)]
def z_rt_6 : List (Option FieldType) := [(some .int), (some .int), (some .int), (some .int), (some .int), (some .int), (some .boolean), (some .int), (some .int), none, (some .int), (some .boolean), (some .int), (some .int), (some .int), none, (some .int), (some .long), (some .long), (some .boolean)]
def z_rt_7 : List (Option FieldType) := [(some .boolean), (some .long), (some .boolean), (some .int), (some .int), (some .int), (some .int), (some .int), (some .int), (some .int), (some .int), (some .int), (some .int), (some .int), (some .int), (some .int), (some .int), (some .int), (some .int), (some .boolean)]
def z_rt_8 : List (Option FieldType) := [(some .int), (some .boolean), (some .int), (some .int), (some .int), (some .int), (some .int), (some .int), (some .int), (some .int), (some .int), (some .int), (some .int), (some .int), (some .int), (some .int), (some .int), (some .int), (some .int), (some .int)]
def z_rt_9 : List (Option FieldType) := [(some .int), (some .int), (some .boolean), (some .boolean), (some .int), (some .int), (some .int), (some .boolean), (some .int), (some .int), (some .int), (some .int), (some .boolean), (some .boolean), none, (some (.object "ThornSchool$Tray")), (some .int), (some .int), (some .boolean), (some .int)]
def z_rt_10 : List (Option FieldType) := [none, (some .int), none, none, none, (some .int), (some .int), (some .boolean), (some .boolean), (some .long), none, none, (some .int), (some .long), (some .long), (some .boolean), (some .int), (some .int), (some .int), (some .boolean)]
def z_rt_11 : List (Option FieldType) := [(some .boolean), (some .long), (some .boolean), (some .int), (some .boolean), (some .long), (some .boolean), (some .boolean), (some .int), none, (some .int), (some .boolean), (some .boolean), none, (some .boolean), (some .int), (some .boolean), (some .boolean), (some .boolean), (some .boolean)]
def z_rt_12 : List (Option FieldType) := [(some .boolean), (some .boolean), (some .long), (some .int), (some .int), (some .int), (some .int), (some .int), (some .int), (some .boolean), (some .boolean), (some .boolean), (some .boolean), (some .boolean), (some .boolean), (some .boolean), (some .boolean), (some .boolean), (some .boolean), (some .boolean)]
def z_rt_13 : List (Option FieldType) := [(some .boolean), (some .boolean), (some .int), (some .boolean), (some .boolean), (some .boolean), (some .boolean), (some .boolean), (some .boolean), (some .int), (some .boolean), (some .boolean), (some .boolean), (some .int), (some .int), (some .int), (some .int), (some .int), (some .boolean), (some .int)]
def z_rt_14 : List (Option FieldType) := [(some .int), (some .int), (some .int), (some .int), (some .int), (some .int), (some .int), (some .int), (some .int), (some .boolean), (some .int), (some .int), (some .int), (some .boolean), none, (some .int), (some .int), (some .int), (some .int), (some .int)]
def z_rt_15 : List (Option FieldType) := [none, none, (some .int), (some .int), (some .int), (some .boolean), (some .int), (some .boolean), (some .boolean), none, (some .int), (some .int), (some .int), (some .int), (some .int), (some .int), (some .int), (some .int), none, (some .int)]
def z_rt_16 : List (Option FieldType) := [(some .int), (some .int), (some .int), (some .int), (some .int), (some .int), (some .int), (some .int), (some .int), (some .int), (some .int), (some .int), (some .int), (some .int), (some .int), (some .int), (some .int), (some .int), (some .int), (some .int)]
def z_rt_17 : List (Option FieldType) := [(some .boolean), (some .int), none, (some .boolean), (some .int), (some .int), (some .boolean), (some .boolean), (some .int), (some .int), (some .boolean), (some .boolean), (some .boolean), (some .boolean), (some .boolean), (some .boolean), (some .int), none, (some .int), (some .int)]
def z_rt_18 : List (Option FieldType) := [(some .boolean), none, (some .int), (some .int), (some .int), (some .boolean)]
def z_rt_s : List (List (Option FieldType)) := [z_rt_0, z_rt_1, z_rt_2, z_rt_3, z_rt_4, z_rt_5, z_rt_6, z_rt_7, z_rt_8, z_rt_9, z_rt_10, z_rt_11, z_rt_12, z_rt_13, z_rt_14, z_rt_15, z_rt_16, z_rt_17, z_rt_18]
def z_rt (y : Nat) : Option FieldType := (z_rt_s.getD (y / 20) []).getD (y % 20) none
def z_fr_0 : List (Nat) := [1, 0, 1, 1, 1, 2, 9, 8, 1, 7, 7, 7, 6, 6, 6, 1, 3, 5, 4, 2]
def z_fr_1 : List (Nat) := [5, 1, 1, 1, 2, 1, 2, 1, 2, 1, 1, 1, 6, 5, 1, 2, 0, 4, 3, 3]
def z_fr_2 : List (Nat) := [3, 3, 2, 4, 0, 2, 1, 1, 0, 0, 1, 0, 0, 0, 0, 1, 1, 1, 1, 1]
def z_fr_3 : List (Nat) := [1, 1, 1, 2, 1, 2, 1, 2, 2, 2, 2, 1, 2, 2, 2, 0, 1, 3, 3, 2]
def z_fr_4 : List (Nat) := [3, 9, 8, 7, 7, 7, 7, 7, 6, 6, 1, 0, 1, 6, 5, 1, 4, 1, 0, 0]
def z_fr_5 : List (Nat) := [0, 0, 0, 0, 1, 6, 6, 6, 1, 0, 0, 0, 0, 1, 0, 2, 1, 1, 3, 2]
def z_fr_6 : List (Nat) := [4, 4, 4, 1, 3, 3, 2, 4, 5, 1, 3, 2, 1, 3, 2, 4, 0, 0, 0, 1]
def z_fr_7 : List (Nat) := [2, 2, 3, 2, 10, 10, 0, 3, 2, 2, 2, 2, 3, 3, 3, 3, 2, 2, 2, 1]
def z_fr_8 : List (Nat) := [2, 1, 5, 5, 5, 4, 4, 5, 4, 4, 2, 2, 3, 3, 3, 2, 4, 4, 4, 6]
def z_fr_9 : List (Nat) := [6, 6, 5, 1, 2, 7, 1, 7, 2, 2, 0, 0, 0, 0, 0, 0, 1, 2, 1, 0]
def z_fr_10 : List (Nat) := [0, 1, 0, 0, 0, 0, 0, 0, 0, 0, 1, 0, 0, 0, 0, 0, 0, 0, 1, 1]
def z_fr_11 : List (Nat) := [0, 0, 1, 1, 2, 2, 1, 0, 1, 0, 0, 0, 0, 1, 0, 4, 0, 2, 2, 5]
def z_fr_12 : List (Nat) := [2, 5, 1, 2, 0, 1, 0, 0, 0, 0, 5, 6, 0, 3, 6, 3, 6, 6, 4, 7]
def z_fr_13 : List (Nat) := [7, 8, 9, 6, 3, 5, 7, 8, 9, 10, 1, 0, 0, 0, 1, 1, 2, 3, 2, 1]
def z_fr_14 : List (Nat) := [2, 3, 4, 2, 3, 3, 2, 4, 1, 2, 4, 5, 2, 3, 3, 4, 1, 2, 3, 4]
def z_fr_15 : List (Nat) := [1, 2, 3, 2, 2, 2, 2, 1, 4, 5, 6, 7, 8, 7, 5, 7, 6, 4, 5, 6]
def z_fr_16 : List (Nat) := [6, 3, 4, 4, 3, 2, 1, 3, 2, 2, 2, 3, 1, 3, 4, 4, 3, 4, 8, 5]
def z_fr_17 : List (Nat) := [6, 7, 8, 1, 9, 9, 7, 2, 1, 0, 5, 4, 3, 6, 7, 3, 0, 8, 9, 1]
def z_fr_18 : List (Nat) := [9, 0, 1, 1, 0, 11]
def z_fr_s : List (List (Nat)) := [z_fr_0, z_fr_1, z_fr_2, z_fr_3, z_fr_4, z_fr_5, z_fr_6, z_fr_7, z_fr_8, z_fr_9, z_fr_10, z_fr_11, z_fr_12, z_fr_13, z_fr_14, z_fr_15, z_fr_16, z_fr_17, z_fr_18]
def z_fr (y : Nat) : Nat := (z_fr_s.getD (y / 20) []).getD (y % 20) 0
def z_lo_0 : List (Nat) := [21, 0, 22, 22, 22, 41, 200, 177, 22, 151, 153, 153, 131, 131, 131, 21, 69, 118, 90, 44]
def z_lo_1 : List (Nat) := [118, 21, 21, 21, 44, 21, 45, 21, 43, 21, 21, 22, 135, 113, 22, 42, 0, 91, 69, 67]
def z_lo_2 : List (Nat) := [67, 67, 44, 91, 0, 42, 22, 22, 0, 0, 20, 0, 0, 0, 0, 22, 22, 21, 20, 21]
def z_lo_3 : List (Nat) := [21, 21, 21, 45, 21, 42, 21, 44, 45, 45, 44, 21, 45, 42, 45, 0, 22, 67, 68, 45]
def z_lo_4 : List (Nat) := [62, 196, 176, 153, 153, 153, 154, 154, 131, 131, 21, 0, 22, 131, 110, 21, 85, 21, 0, 0]
def z_lo_5 : List (Nat) := [0, 0, 0, 0, 21, 131, 131, 131, 21, 0, 0, 0, 0, 22, 0, 45, 21, 21, 69, 44]
def z_lo_6 : List (Nat) := [90, 90, 90, 21, 70, 70, 45, 90, 112, 21, 70, 45, 21, 71, 45, 83, 0, 0, 0, 23]
def z_lo_7 : List (Nat) := [45, 45, 72, 44, 217, 221, 0, 64, 44, 44, 42, 45, 69, 67, 67, 67, 44, 45, 45, 22]
def z_lo_8 : List (Nat) := [47, 22, 112, 115, 118, 94, 95, 115, 92, 90, 44, 44, 66, 67, 67, 44, 95, 95, 97, 135]
def z_lo_9 : List (Nat) := [141, 147, 115, 31, 45, 158, 22, 158, 43, 43, 0, 0, 0, 0, 0, 0, 22, 45, 21, 0]
def z_lo_10 : List (Nat) := [0, 22, 0, 0, 0, 0, 0, 0, 0, 0, 22, 0, 0, 0, 0, 0, 0, 0, 21, 21]
def z_lo_11 : List (Nat) := [0, 0, 21, 20, 42, 42, 21, 0, 22, 0, 0, 0, 0, 21, 0, 85, 0, 42, 42, 111]
def z_lo_12 : List (Nat) := [42, 111, 21, 44, 0, 21, 0, 0, 0, 0, 111, 132, 0, 67, 132, 65, 132, 133, 86, 155]
def z_lo_13 : List (Nat) := [157, 178, 200, 132, 65, 111, 153, 176, 198, 223, 21, 0, 0, 0, 20, 20, 42, 66, 42, 21]
def z_lo_14 : List (Nat) := [42, 63, 85, 42, 67, 67, 42, 88, 21, 44, 88, 112, 42, 68, 65, 90, 21, 44, 63, 86]
def z_lo_15 : List (Nat) := [21, 42, 64, 42, 42, 42, 42, 25, 88, 110, 136, 158, 181, 158, 110, 158, 136, 88, 112, 138]
def z_lo_16 : List (Nat) := [138, 68, 92, 92, 65, 41, 22, 64, 41, 41, 41, 64, 25, 66, 93, 93, 66, 93, 181, 110]
def z_lo_17 : List (Nat) := [134, 161, 188, 21, 216, 216, 158, 51, 22, 0, 112, 90, 64, 135, 157, 63, 0, 179, 202, 21]
def z_lo_18 : List (Nat) := [202, 0, 23, 23, 0, 246]
def z_lo_s : List (List (Nat)) := [z_lo_0, z_lo_1, z_lo_2, z_lo_3, z_lo_4, z_lo_5, z_lo_6, z_lo_7, z_lo_8, z_lo_9, z_lo_10, z_lo_11, z_lo_12, z_lo_13, z_lo_14, z_lo_15, z_lo_16, z_lo_17, z_lo_18]
def z_lo (y : Nat) : Nat := (z_lo_s.getD (y / 20) []).getD (y % 20) 0
def z_na_0 : List (Nat) := [1, 1, 2, 5, 2, 3, 1, 1, 1, 1, 2, 1, 1, 1, 1, 2, 2, 4, 4, 3]
def z_na_1 : List (Nat) := [4, 2, 2, 2, 2, 2, 1, 2, 2, 2, 3, 1, 2, 2, 2, 2, 3, 2, 3, 3]
def z_na_2 : List (Nat) := [2, 2, 2, 1, 2, 1, 1, 2, 1, 2, 2, 2, 2, 2, 2, 4, 5, 3, 2, 3]
def z_na_3 : List (Nat) := [2, 2, 4, 3, 2, 1, 2, 3, 3, 3, 2, 2, 2, 2, 2, 2, 2, 2, 1, 3]
def z_na_4 : List (Nat) := [2, 1, 1, 1, 1, 2, 1, 1, 1, 2, 1, 1, 2, 2, 1, 1, 1, 1, 1, 1]
def z_na_5 : List (Nat) := [1, 1, 2, 2, 1, 2, 1, 3, 1, 3, 1, 3, 2, 3, 2, 5, 2, 2, 2, 4]
def z_na_6 : List (Nat) := [2, 3, 5, 2, 3, 3, 3, 3, 2, 2, 4, 5, 3, 3, 4, 1, 1, 1, 1, 4]
def z_na_7 : List (Nat) := [4, 3, 6, 6, 2, 2, 2, 2, 3, 3, 3, 3, 3, 3, 2, 2, 2, 4, 3, 4]
def z_na_8 : List (Nat) := [2, 2, 2, 3, 4, 3, 3, 3, 1, 2, 2, 2, 2, 1, 2, 3, 4, 5, 4, 3]
def z_na_9 : List (Nat) := [4, 4, 3, 3, 2, 2, 2, 3, 1, 1, 2, 2, 2, 1, 3, 2, 4, 4, 3, 2]
def z_na_10 : List (Nat) := [3, 3, 2, 2, 2, 1, 1, 2, 3, 2, 1, 2, 1, 1, 1, 2, 2, 2, 2, 3]
def z_na_11 : List (Nat) := [1, 2, 4, 3, 4, 3, 6, 3, 6, 2, 2, 1, 1, 1, 2, 2, 2, 3, 2, 3]
def z_na_12 : List (Nat) := [4, 2, 1, 3, 2, 2, 1, 1, 2, 3, 2, 6, 3, 1, 4, 2, 2, 1, 2, 1]
def z_na_13 : List (Nat) := [1, 1, 2, 2, 2, 2, 2, 3, 1, 2, 2, 2, 2, 1, 3, 2, 4, 3, 2, 2]
def z_na_14 : List (Nat) := [2, 1, 2, 3, 3, 3, 3, 3, 3, 3, 3, 3, 2, 3, 2, 3, 2, 2, 2, 2]
def z_na_15 : List (Nat) := [1, 2, 2, 4, 3, 4, 2, 2, 3, 3, 3, 2, 2, 3, 3, 4, 3, 4, 3, 3]
def z_na_16 : List (Nat) := [3, 3, 1, 2, 2, 2, 2, 2, 2, 1, 2, 3, 4, 4, 4, 5, 3, 4, 3, 4]
def z_na_17 : List (Nat) := [5, 6, 4, 3, 4, 4, 3, 3, 2, 2, 3, 3, 2, 1, 2, 2, 2, 2, 2, 2]
def z_na_18 : List (Nat) := [3, 3, 1, 1, 1, 1]
def z_na_s : List (List (Nat)) := [z_na_0, z_na_1, z_na_2, z_na_3, z_na_4, z_na_5, z_na_6, z_na_7, z_na_8, z_na_9, z_na_10, z_na_11, z_na_12, z_na_13, z_na_14, z_na_15, z_na_16, z_na_17, z_na_18]
def z_na (y : Nat) : Nat := (z_na_s.getD (y / 20) []).getD (y % 20) 0
def z_st_0 : List (Bool) := [false, false, false, false, false, false, false, false, true, false, false, false, false, false, false, false, false, false, false, false]
def z_st_1 : List (Bool) := [false, false, false, false, false, false, false, false, false, false, false, false, false, false, false, false, true, false, false, false]
def z_st_2 : List (Bool) := [false, false, false, false, false, false, false, false, false, false, false, false, false, false, false, false, false, false, false, false]
def z_st_3 : List (Bool) := [false, false, false, false, false, false, false, false, false, false, false, false, false, false, false, false, false, false, false, false]
def z_st_4 : List (Bool) := [false, false, false, false, false, false, false, false, false, false, false, false, false, false, false, false, false, false, true, true]
def z_st_5 : List (Bool) := [true, true, false, false, false, false, false, false, false, false, false, false, false, false, false, false, false, false, false, false]
def z_st_6 : List (Bool) := [false, false, false, false, false, false, false, false, false, false, false, false, false, false, false, false, false, false, false, false]
def z_st_7 : List (Bool) := [false, false, false, false, false, false, false, false, false, false, false, false, false, false, false, false, false, false, false, false]
def z_st_8 : List (Bool) := [false, false, false, false, false, false, false, false, false, false, false, false, false, false, false, false, false, false, false, false]
def z_st_9 : List (Bool) := [false, false, false, false, false, false, false, false, false, false, false, false, false, false, false, false, false, false, false, true]
def z_st_10 : List (Bool) := [true, true, true, true, true, true, true, true, true, true, false, false, false, false, false, false, false, false, false, false]
def z_st_11 : List (Bool) := [true, true, false, false, false, false, false, true, false, false, false, true, true, false, false, false, false, false, false, false]
def z_st_12 : List (Bool) := [false, false, false, false, false, false, true, true, false, false, false, false, false, false, false, false, false, false, false, false]
def z_st_13 : List (Bool) := [false, false, false, false, false, false, false, false, false, false, false, false, false, true, false, false, false, false, false, false]
def z_st_14 : List (Bool) := [false, false, false, false, false, false, false, false, false, false, false, false, false, false, false, false, false, false, false, false]
def z_st_15 : List (Bool) := [false, false, false, false, false, false, false, false, false, false, false, false, false, false, false, false, false, false, false, false]
def z_st_16 : List (Bool) := [false, false, false, false, false, false, false, false, false, false, false, false, false, false, false, false, false, false, false, false]
def z_st_17 : List (Bool) := [false, false, false, false, false, false, false, false, false, false, false, false, false, false, false, false, false, false, false, false]
def z_st_18 : List (Bool) := [false, false, false, false, true, true]
def z_st_s : List (List (Bool)) := [z_st_0, z_st_1, z_st_2, z_st_3, z_st_4, z_st_5, z_st_6, z_st_7, z_st_8, z_st_9, z_st_10, z_st_11, z_st_12, z_st_13, z_st_14, z_st_15, z_st_16, z_st_17, z_st_18]
def z_st (y : Nat) : Bool := (z_st_s.getD (y / 20) []).getD (y % 20) false
def z_p0 : List Nat := [0, 1, 4, 5, 7, 9, 12, 13, 15, 17, 20, 21, 23, 25, 28, 29, 31, 33, 36, 37, 39, 41, 44, 45]
def z_p1 : List Nat := [0, 1, 2, 5, 6, 7, 10, 11, 12, 15, 16]
def z_p2 : List Nat := [0, 1, 4, 5, 6, 7, 10, 13, 14, 15, 18, 21, 22, 23, 26, 29, 30, 33, 34, 37, 40, 41, 44, 45, 48, 51, 52, 55, 56, 59, 62, 63, 66, 67, 70, 73, 74, 77, 78, 81, 84, 85]
def z_p3 : List Nat := [0, 1, 4, 5, 8, 9, 12, 13, 16, 17, 20, 21, 24, 25, 28, 29, 32, 33, 36, 37, 40, 41, 44, 46, 49, 50, 51, 54, 55, 56, 59, 60, 61, 64, 65, 66, 69, 70]
def z_p4 : List Nat := [0, 1, 4, 5, 8, 10, 13, 14, 17, 18, 21, 22, 25, 26, 29, 30, 31, 34, 37, 38, 39, 42, 43, 44, 47, 48]
def z_p5 : List Nat := [0, 1, 4, 5, 8, 9, 12, 15, 16, 17, 19, 22, 23, 24, 27, 28, 29, 32, 33]
def z_p6 : List Nat := [0, 1, 4, 7, 8, 11, 12, 15, 16, 17, 20, 21, 22, 23, 26, 29, 30, 33, 36, 39, 40, 43, 46, 47, 50, 53, 54, 55, 58, 61, 62, 63]
def z_p7 : List Nat := [0, 1, 4, 7, 8, 11, 12, 15, 18, 19, 20, 23, 26, 27, 28, 30, 33, 34, 37, 38, 39, 42, 45, 46, 49, 52, 53, 54, 57, 60, 62, 65, 66, 69, 71, 74, 75, 76, 78, 81, 82, 84, 87, 88, 91, 92, 93, 94, 97, 98, 101, 102, 105, 106, 109, 111, 114, 115, 116, 119, 122, 123, 126, 129, 130, 131, 133, 136, 137, 140, 143, 146, 147, 148, 151, 154, 155, 156, 157, 160, 161, 164, 165, 168, 169, 172, 173, 174, 177, 178, 179, 182, 183, 186, 189, 190]
def z_p8 : List Nat := [0, 1, 3, 6, 7, 9, 12, 13, 15, 18, 19, 21, 23, 26, 29, 30, 33, 34, 35]
def z_p9 : List Nat := [0, 1, 4, 7, 8, 11, 14, 15, 16, 19, 22, 23, 24, 27, 28, 29, 32, 33, 36, 37, 40, 41, 44, 47, 50, 51, 54, 57, 58]
def z_p10 : List Nat := [0, 1, 2, 3, 4, 5, 72, 73, 76, 79, 80, 81, 82, 85, 86, 87, 89, 92, 93, 96, 99, 102, 103, 106, 109, 110, 111, 112, 115, 116, 119, 120, 123, 126, 127, 128, 129, 132, 133, 136, 137, 140, 141, 142, 144, 147, 149, 152, 154, 157, 160, 161, 162, 163, 166, 169, 170, 173, 174, 177, 178, 179, 180, 181, 184, 185, 186]
def z_p11 : List Nat := [0, 1, 4, 7, 8, 11, 12, 15, 18, 19, 20, 23, 26, 27, 28, 72, 73, 76, 79, 80, 83, 86, 87, 88, 89, 92, 93, 96, 97, 100, 103, 104, 107, 108, 109, 112, 115, 116, 117, 120, 123, 124, 125, 126, 129, 132, 133, 136, 137, 140, 143, 144, 145, 146, 147, 149, 152, 153, 154, 157, 158, 161, 164, 165, 166, 167, 170, 171, 172, 174, 175, 177, 180, 181, 184, 185, 186, 188, 191, 192, 195, 198, 199, 200, 203, 205, 208, 211, 212, 213, 214, 217, 220, 222, 223, 226, 227, 228, 229, 231, 234, 235, 236]
def z_p12 : List Nat := [0, 1, 4, 7, 8, 11, 12, 15, 18, 19, 20, 21, 24, 25, 28, 31, 34, 37, 38, 41, 42, 45, 46, 49, 50, 53, 54, 55, 58, 61, 62, 63]
def z_p13 : List Nat := [0, 1, 4, 7, 8, 11, 12, 15, 18, 20, 22, 25, 28, 29, 32, 35, 36, 37, 38, 41, 44, 46, 47, 50, 51, 54, 57, 58, 59]
def z_p14 : List Nat := [0, 1, 4, 7, 9, 12, 13, 16, 19, 22, 25, 26, 29, 32, 33, 34, 35, 38, 41, 44, 45, 48, 51, 52, 53]
def z_p15 : List Nat := [0, 1, 4, 5, 7, 9, 12, 13, 15, 17, 20, 21, 22, 25, 26]
def z_p16 : List Nat := [0, 1, 4, 5, 6, 9, 12, 13, 16, 19, 20]
def z_p17 : List Nat := [0, 1, 2, 3, 4, 7, 8, 11, 12, 15, 18, 19, 22, 25, 26, 29, 32, 33, 36, 39, 40]
def z_p18 : List Nat := [0, 1, 2, 5, 7, 8, 9, 12, 14, 15, 17, 19, 21, 24, 25, 28, 30, 32, 35, 36, 37, 40, 43, 46, 47, 49, 51, 52, 55, 56, 58, 60, 61, 64, 67, 70, 71, 73, 75, 78, 80, 81, 84, 86, 88, 89, 92, 94, 96, 97, 100, 101, 103, 106, 107, 108, 109, 112, 115, 118, 119, 122, 123, 126, 129, 132, 135, 136]
def z_p19 : List Nat := [0, 1, 4, 5, 8, 9, 12, 13, 14, 15, 16, 17, 20, 21, 24, 27, 28, 29, 31, 32, 34, 36, 37, 40, 43, 46, 48, 50, 53, 56, 57, 58, 61, 63, 66, 68, 71, 72, 73, 74, 75, 76, 79, 82, 83, 84]
def z_p20 : List Nat := [0, 1, 4, 7, 8, 11, 13, 14, 17, 20, 21, 24, 26, 28, 30, 33, 34, 35, 36, 37, 38, 39, 40, 41, 44, 45, 47, 48, 49, 52, 55, 57, 58, 59, 62, 64, 65, 67, 69, 70, 73, 74, 77, 79, 81, 84, 86, 88, 89, 92, 94, 96, 97, 99, 102, 105, 107, 108, 111, 114, 116, 118, 121, 124, 125, 128, 129, 130]
def z_p21 : List Nat := [0, 1, 4, 5, 7, 9, 12, 13, 16, 18, 21, 22, 23, 26, 27]
def z_p22 : List Nat := [0, 1, 4, 5, 6, 7, 8, 11, 12, 13, 16, 19, 20, 21, 24, 27, 28, 31, 32, 33, 36, 39, 40, 41]
def z_p23 : List Nat := [0, 1, 2, 3, 4, 5, 6, 9, 12, 15, 16, 17, 20, 23, 24, 25, 28, 31, 32, 35, 36, 37, 40, 43, 44, 45]
def z_p24 : List Nat := [0, 1, 2, 3, 4, 7, 8, 10, 13, 14, 17, 18, 19, 20, 23, 26, 27, 30, 33, 34, 37, 40, 41, 44, 45, 48, 51, 54, 55, 58, 59, 62, 63]
def z_p25 : List Nat := [0, 1, 2, 3, 4, 5, 7, 10, 11, 12, 15, 18, 19, 20, 23, 24, 27, 30, 31, 34, 37, 38, 39]
def z_p26 : List Nat := [0, 1, 4, 7, 10, 11, 12, 13, 14, 17, 18, 19, 22, 23, 24, 25, 26, 29, 30, 31, 34, 35, 38, 39, 42, 43, 44, 45, 48, 51, 54, 57, 58, 61, 62, 65, 66]
def z_p27 : List Nat := [0, 1, 2, 3, 4, 5, 6, 9, 12, 15, 16, 17, 20, 21, 22, 23, 25, 26, 27, 30, 33, 34, 37, 40, 41, 44, 46, 47, 48, 49, 52, 53, 54, 57, 59, 62, 63, 64, 67, 70, 71, 72]
def z_p28 : List Nat := [0, 1, 2, 3, 4, 5, 7, 9, 10, 13, 15, 17, 20, 21, 22, 25, 26, 27, 28, 31, 32, 33, 36, 39, 40, 41]
def z_p29 : List Nat := [0, 1, 4, 7, 8, 9, 10, 11, 14, 15, 16, 19, 22, 23, 26, 29, 30, 33, 34, 35, 36, 37, 40, 41, 42, 45, 48, 49, 50]
def z_p30 : List Nat := [0, 1, 4, 5, 7, 9, 12, 13, 14, 16, 19, 20, 21, 24, 25, 26, 29, 30]
def z_p31 : List Nat := [0, 1, 4, 5, 6, 9, 12, 13, 16, 17, 18, 21, 24, 25, 28, 29, 30, 33, 36, 37, 40, 41, 42, 45, 48, 49, 52, 53, 54, 57, 60, 61, 62, 65, 66]
def z_p32 : List Nat := [0, 1, 2, 5, 6, 7, 10, 11, 12, 15, 16, 17, 20, 21, 22, 25, 26, 27, 30, 31, 32, 35, 36, 37, 38, 39, 40, 42, 45, 46, 47, 50, 53, 56, 57, 58, 61, 62, 65, 68, 69]
def z_p33 : List Nat := [0, 1, 4, 7, 8, 11, 12, 13, 15, 18, 19, 20, 23, 24, 25, 28, 31, 34, 35, 36, 39, 40, 43, 46, 47, 48, 49, 52, 53, 54, 57, 58, 116, 117, 120, 123, 124, 125, 128, 129, 130, 133, 136, 137, 140, 143, 144, 145, 146, 147, 148, 149, 152, 155, 156, 159, 160, 163, 166, 167, 170, 171, 172, 173, 174, 176, 179, 180, 183, 186, 189, 190, 191, 194, 197, 198, 199, 202, 203, 204, 207, 208, 209, 210, 211]
def z_p34 : List Nat := [0, 1, 4, 7, 8, 11, 12, 13, 16, 19, 20, 23, 25, 28, 29, 30, 31, 32, 35, 36, 37, 38, 39, 40, 43, 44, 47, 48, 49, 50, 51, 54, 55, 56, 59, 60, 63, 64, 65, 66, 69, 70, 71, 72, 73]
def z_p35 : List Nat := [0, 1, 4, 7, 8, 11, 12, 13, 16, 19, 20, 23, 24, 25, 28, 31, 32, 35, 68, 69, 72, 73, 76, 77, 78, 81, 84, 85, 88, 89, 92, 93, 96, 97, 98, 99, 102, 103, 106, 107, 110, 113, 114, 117, 118, 121, 122, 123, 126, 129, 130, 133, 134, 137, 140, 141, 144, 145, 148, 149]
def z_p36 : List Nat := [0, 1, 3, 6, 7, 8, 11, 12, 15, 16, 19, 20, 22, 25, 26, 27, 30, 31, 34, 35, 38, 39, 40, 43, 44, 47, 48, 49]
def z_p37 : List Nat := [0, 1, 4, 7, 8, 11, 12, 13, 16, 19, 20, 23, 68, 69, 70, 71, 74, 77, 78, 81, 84, 85, 86, 87, 88, 91, 94, 95, 98, 101, 102, 103, 104, 107, 108, 109, 110, 113, 114, 115, 116, 119, 120]
def z_p38 : List Nat := [0, 1, 4, 5, 6, 9, 12, 13, 14, 15, 16, 19, 20, 21, 24, 25, 26, 29, 30, 33, 34, 35, 38, 39, 42, 43, 44]
def z_p39 : List Nat := [0, 1, 4, 5, 6, 9, 12, 13, 14, 15, 18, 19, 22, 23, 26, 27, 28, 31, 32, 33, 36, 37, 38]
def z_p40 : List Nat := [0, 1, 4, 5, 8, 11, 12, 13, 14, 17, 18, 21, 22, 23, 24]
def z_p41 : List Nat := [0, 1, 4, 5, 8, 11, 12, 13, 14, 17, 18, 21, 22, 23, 24]
def z_p42 : List Nat := [0, 1, 4, 5, 8, 11, 12, 13, 14, 17, 18, 21, 22, 23]
def z_p43 : List Nat := [0, 1, 4, 7, 8, 11, 12, 13, 14, 15, 18, 21, 24, 25, 26, 27, 30, 31, 32, 35, 36, 39, 42, 43, 44, 47, 50, 51, 52, 53, 56, 57]
def z_p44 : List Nat := [0, 1, 2, 5, 6, 7, 8, 9, 12, 15, 16, 19, 20, 22, 23, 26, 27, 30, 32, 33, 34, 35, 36]
def z_p45 : List Nat := [0, 1, 4, 5, 7, 9, 12, 13, 15, 17, 20, 21, 23, 25, 28, 29, 31, 33, 36, 37, 39, 41, 44, 45, 46, 48, 51, 52, 53, 55, 58, 59, 60, 62, 65, 66, 67, 69, 72, 73, 74, 76, 79, 80, 81, 83, 86, 87, 88, 90, 93, 94, 97, 98]
def z_p46 : List Nat := [0, 1, 2, 5, 6, 7, 10, 11, 12, 15, 16, 17, 20, 21, 22, 25, 26, 27, 30, 31, 34, 35, 38, 39, 42, 43, 46, 47, 50, 51, 54, 55, 58, 59, 62, 63]
def z_p47 : List Nat := [0, 1, 4, 5, 6, 7, 10, 13, 14, 15, 18, 21, 22, 23, 26, 29, 30, 31, 34, 37, 38, 39, 42, 45, 46, 47, 50, 53, 54, 57, 58, 61, 64, 65, 68, 69, 72, 75, 76, 79, 80, 83, 86, 87, 90, 91, 94, 97, 98, 101, 102, 105, 108, 109, 112, 113, 116, 119, 120, 123, 124, 127, 130, 131, 134, 135, 138, 141, 142, 145, 146, 149, 152, 153, 156, 157, 160, 163, 164, 167, 168, 171, 174, 175, 178, 179, 182, 185, 186]
def z_p48 : List Nat := [0, 1, 4, 5, 8, 9, 10]
def z_p49 : List Nat := [0, 1, 4, 5, 6, 9, 10, 13, 14, 17, 18, 21, 22, 23]
def z_p50 : List Nat := [0, 1, 2, 3, 6, 7, 8, 11, 12, 13, 16, 17, 20, 21, 22]
def z_p51 : List Nat := [0, 1, 4, 5, 6, 9, 12, 13, 16, 17, 18]
def z_p52 : List Nat := [0, 1, 4, 5, 6, 9, 12, 13, 16, 17, 18]
def z_p53 : List Nat := [0, 1, 2, 3, 4, 7, 10, 11, 12, 15, 16, 19, 20, 23, 24, 25, 26, 27, 30, 31, 32, 35, 38, 39, 40]
def z_p54 : List Nat := [0, 1, 2, 3, 4, 7, 10, 11, 12, 15, 16, 19, 20, 23, 24, 25, 26, 27, 30, 31, 32, 35, 38, 39, 40]
def z_p55 : List Nat := [0, 1, 4, 7, 8, 11, 12, 15, 16, 19, 20, 21, 24, 25, 28, 29, 32, 33, 36, 37, 40, 41, 44, 45, 48, 49, 52, 53, 54, 55, 56, 59, 60, 61, 64, 65]
def z_p56 : List Nat := [0, 1, 4, 7, 8, 11, 12, 15, 16, 19, 20, 21, 24, 25, 28, 29, 32, 33, 36, 37, 40, 41, 44, 45, 48, 49, 52, 53, 56, 57, 60, 61, 64, 65, 68, 69, 72, 73, 76, 77, 80, 81, 84, 85, 88, 89, 92, 93, 96, 97, 100, 102, 103, 104, 105, 108, 109, 110, 113, 114]
def z_p57 : List Nat := [0, 1, 2, 5, 8, 9, 12, 13, 16, 17, 18, 19, 20, 23, 24, 25, 26, 56, 57, 60, 61, 62, 63, 66, 67, 68, 69, 70, 73, 74, 75, 78, 79, 80, 81, 84, 85, 86, 87, 88, 91, 94, 95, 96, 99, 100, 103, 104, 105, 106, 107, 110, 111, 112, 115, 118, 119, 120, 123, 124, 127, 128, 129, 130, 131]
def z_p58 : List Nat := [0, 1, 2, 3, 4, 5, 6, 9, 12, 13, 14, 15, 18, 19, 22, 23, 24, 27, 30, 31, 32, 35, 36, 37, 38, 39, 40, 43, 46, 47, 48, 50, 51, 52, 53, 54, 55, 56, 57, 58, 59, 60, 61, 62, 63, 64, 65, 66, 67, 70, 71, 72, 73, 74, 77, 78, 79, 81, 82, 83]
def z_p59 : List Nat := [0, 1, 4, 5, 8, 9, 10, 11, 14, 15, 18, 19, 20, 23, 24, 27, 29, 30, 31, 34, 35, 37, 38, 41, 42, 43, 46, 47, 48, 51, 52, 54, 55, 58, 59, 60, 63, 64, 65, 68, 69, 72, 73, 74]
def z_p60 : List Nat := [0, 1, 2, 3, 4, 5, 6, 9, 12, 13, 16, 17, 20, 21, 24, 25, 26, 29, 30, 31, 34, 37, 38, 39]
def z_p61 : List Nat := [0, 1, 4, 5, 8, 11, 12]
def z_p62 : List Nat := [0, 1, 4, 5, 8, 10, 12, 15, 16, 19, 20, 22, 23, 24, 25, 28, 29, 32, 35, 36, 39, 40]
def z_p63 : List Nat := [0, 1, 2, 3, 5, 7, 8, 11, 14, 15, 16, 18, 19, 22, 25, 26, 28, 31, 32, 33, 36, 39, 40, 41]
def z_p64 : List Nat := [0, 1, 4, 5, 8, 11, 12, 15, 16, 17]
def z_p65 : List Nat := [0, 1, 2, 3, 4, 5, 6, 9, 12, 13, 14, 17, 20, 21, 22, 25, 26, 27, 30, 33, 34, 35]
def z_p66 : List Nat := [0, 1, 2, 3, 4, 5, 6, 9, 12, 13, 16, 17, 20, 21, 24, 27, 28, 29, 32, 33, 34, 37, 40, 41, 42]
def z_p67 : List Nat := [0, 1, 2, 5, 8, 9, 10, 13, 14, 17, 18, 21, 22, 25, 26, 29, 30, 31]
def z_p68 : List Nat := [0, 1, 2, 5, 6, 9, 10, 13, 14, 15, 16, 17, 18, 21, 22, 25, 28, 30, 31, 34, 35, 36, 39, 40, 43, 44, 46, 49, 51, 52]
def z_p69 : List Nat := [0, 1, 2, 5, 6, 7, 10, 13, 14, 15, 18, 21, 22, 23, 24, 27, 30, 31, 34, 35, 36]
def z_p70 : List Nat := [0, 1, 4, 5, 8, 9, 10, 11, 12, 15, 16, 17, 20, 21, 24, 25, 26, 29, 32, 33, 34, 35, 36, 39, 40, 43, 44, 45, 48, 49, 52, 53, 56, 57, 60, 61, 62]
def z_p71 : List Nat := [0, 1, 4, 5, 8, 9, 10, 11, 12, 13, 16, 19, 20, 21, 24, 27, 28, 31, 32, 35, 36, 37, 38, 39, 42, 43, 44, 47, 50, 51, 52]
def z_p72 : List Nat := [0, 1, 4, 5, 6, 9, 10, 11, 14, 15, 18, 19, 22, 23, 26, 27, 28, 31, 34, 35, 36]
def z_p73 : List Nat := [0, 1, 2, 5, 8, 9, 12, 13, 16, 17, 20, 23, 26, 27, 30, 31, 32]
def z_p74 : List Nat := [0, 1, 4, 5, 8, 9, 12, 13, 16, 17, 18, 21, 22, 25, 26, 29, 30, 33, 34, 35, 38, 41, 42, 43]
def z_p75 : List Nat := [0, 1, 4, 5, 6, 9, 12, 13, 16, 17, 18]
def z_p76 : List Nat := [0, 1, 2, 5, 6, 7, 10, 11, 12, 13, 14, 17, 20, 21, 24, 25, 28, 31, 34, 35, 38, 39, 41, 42, 45, 46, 49, 50, 51, 54, 57, 58, 61, 62, 64, 65, 68, 69, 72, 73, 74, 77, 80, 83, 86, 87]
def z_p77 : List Nat := [0, 1, 2, 3, 4, 5, 6, 9, 12, 13, 14, 15, 18, 21, 22, 23, 26, 27, 28, 31, 34, 35, 36]
def z_p78 : List Nat := [0, 1, 4, 7, 8, 9, 10, 11, 12, 15, 16, 17, 18, 19, 20, 21, 22, 23, 26, 29, 30, 32, 34, 35, 38, 41, 42, 44, 45, 48, 51, 52, 54, 57, 58, 59, 62, 65, 68, 71, 72, 73]
def z_p79 : List Nat := [0, 1, 2, 3, 4, 7, 10, 11, 12, 15, 18, 19, 20, 21, 24, 27, 28, 29, 32, 35, 36, 37]
def z_p80 : List Nat := [0, 1, 4, 5, 8, 9, 12, 15, 16, 17, 20, 21]
def z_p81 : List Nat := [0, 1, 4, 7, 8, 9, 12, 13, 14, 17, 18, 19, 22, 23, 24, 25, 28, 31, 32, 35, 38, 41, 42, 45, 48, 49, 50, 53, 56, 57, 58]
def z_p82 : List Nat := [0, 1, 4, 7, 8, 11, 12, 15, 18, 19, 20, 23, 26, 76, 77, 80, 81, 82, 85, 86, 87, 88, 91, 94, 97, 98, 99, 100, 103, 106, 109, 110, 111, 114, 115, 116, 119, 120, 121, 124, 127, 128]
def z_p83 : List Nat := [0, 1, 4, 7, 8, 11, 14, 15, 18, 19, 22, 23, 24, 25, 28, 29, 32, 35, 36, 39, 40, 41, 44, 47, 48, 49, 50, 53, 54, 57, 60, 63, 64, 67, 68, 71, 74, 75, 78, 79, 80, 83, 86, 87, 88, 89, 92, 93, 96, 99, 102, 103, 106, 109, 110]
def z_p84 : List Nat := [0, 1, 4, 7, 8, 11, 12, 15, 16, 17, 18, 21, 22, 25, 28, 29, 32, 33, 35, 38, 41, 42, 43, 44, 47, 48, 51, 54, 57, 58, 61, 64, 65]
def z_p85 : List Nat := [0, 1, 2, 5, 6, 9, 12, 13, 16, 17, 18, 21, 24, 25, 26, 29, 32, 33, 34, 35, 38, 41, 42, 43, 46, 47, 49, 52, 55, 56, 57, 58, 59, 60, 63, 66, 69, 70, 73, 76, 77]
def z_p86 : List Nat := [0, 1, 4, 7, 9, 12, 13, 16, 18, 21, 22, 23, 26, 29, 30, 33, 36, 37, 38, 39, 42, 44, 47, 50, 51, 54, 55, 57, 60, 63, 64, 65, 66, 69, 72, 73, 74, 76, 79, 82, 83, 86, 89, 92, 93, 94, 95, 98, 99, 100, 103, 104, 107, 110, 111, 112]
def z_p87 : List Nat := [0, 1, 4, 7, 8, 11, 12, 15, 17, 20, 21, 22, 23, 26, 27, 30, 33, 34, 37, 40, 41, 42, 43, 46, 48, 51, 54, 55, 58, 59, 60, 63, 66, 67, 68, 71, 74, 75, 76, 77, 80, 83, 84, 85, 86, 87, 90, 92, 95, 98, 99, 102, 105, 106, 109, 110, 112, 115, 118, 119, 120, 121, 124, 127, 128, 129, 131, 134, 137, 138, 141, 144, 147, 148, 149, 150, 153, 154, 155, 156, 159, 160, 163, 166, 167, 168]
def z_p88 : List Nat := [0, 1, 4, 7, 8, 11, 12, 15, 18, 19, 20, 23, 24, 27, 30, 33, 34, 37, 38, 41, 42, 45, 48, 51, 52, 55, 56, 59, 60, 63, 64, 65, 66, 69, 72, 75, 76, 79, 82, 83, 84]
def z_p89 : List Nat := [0, 1, 2, 5, 6, 9, 10, 13, 16, 17, 18, 19, 22, 25, 26, 27, 28, 30, 33, 34, 37, 40, 41, 44, 45, 48, 49, 52, 55, 58, 59, 60, 61, 64, 65, 68, 69, 72, 73, 74, 77, 78, 81, 84, 85, 88, 89, 92, 93, 94, 95, 98, 99, 102, 103, 106, 107, 110, 113, 116, 119, 120, 121]
def z_p90 : List Nat := [0, 1, 4, 5, 8, 10, 13, 14, 15, 18, 19, 20, 23, 24]
def z_p91 : List Nat := [0, 1, 4, 6, 7, 10, 13, 14, 17, 18, 19]
def z_p92 : List Nat := [0, 2, 3, 4, 7, 8, 11, 12, 15, 16, 17, 18, 21, 22, 25, 26, 27, 30, 31, 32, 35, 38, 41, 42]
def z_p93 : List Nat := [0, 1, 2, 5, 6, 7, 10, 11, 12, 15, 16, 17, 20, 21, 22, 25, 26, 29, 30]
def z_p94 : List Nat := [0, 1, 4, 5, 8, 11, 12, 15, 16, 19, 22, 25, 28, 29, 30, 33, 34, 35, 38, 41, 42, 43, 46, 49, 50, 53, 54, 57, 60, 61, 62, 65, 66, 69, 72, 73, 74, 77, 80, 81, 84, 87, 88, 91, 92, 93, 96, 97, 100, 101, 104, 107, 108, 111, 112, 115, 116, 119, 120, 121, 124, 127, 128, 131, 134, 135, 138, 141, 142, 143, 145, 148, 149, 152, 155, 157, 160, 161, 164, 165, 166, 169, 170, 171, 174, 175, 176, 179, 180]
def z_p95 : List Nat := [0, 1, 2, 3, 4, 7, 8, 11, 12, 15, 18, 19, 22, 23, 26, 29, 32, 35, 38, 39, 40, 43, 45, 46, 47, 50, 51, 54, 57, 58, 59, 62, 63, 64, 67, 68, 69, 72, 75, 76, 77, 79, 82, 83, 86, 87, 90, 91]
def z_p96 : List Nat := [0, 1, 2, 3, 4, 5, 7, 9, 11, 14, 17, 19, 21, 24, 26, 28, 30, 33, 34, 36, 37, 39, 40, 41, 42, 45, 46, 47, 50, 51, 54, 55, 56, 59, 60, 61, 64, 67, 68, 69]
def z_p97 : List Nat := [0, 1, 2, 3, 4, 7, 8, 11, 12, 15, 18, 19, 22, 23, 26, 29, 32, 35, 38, 39, 40, 43, 44, 45, 48, 50, 51, 52, 55, 56, 59, 62, 63, 65, 66, 69, 70, 71, 74, 75, 76, 79, 82, 83, 84, 85, 88, 89, 92, 93, 96, 97]
def z_p98 : List Nat := [0, 1, 3, 6, 7, 9, 12, 13, 16, 17, 18]
def z_p99 : List Nat := [0, 1, 3, 6, 7, 9, 12, 13, 16, 17, 18]
def z_p100 : List Nat := [0, 1, 3, 6, 7, 9, 12, 13, 16, 17, 18]
def z_p101 : List Nat := [0, 1, 3, 6, 7, 9, 12, 13, 15, 18, 19, 22, 23, 24]
def z_p102 : List Nat := [0, 1, 4, 5, 8, 9, 12, 13, 16, 17, 20, 21, 22]
def z_p103 : List Nat := [0, 1, 2, 5, 6, 7, 10, 13, 14, 15]
def z_p104 : List Nat := [0, 1, 2, 5, 6, 9, 10, 13, 14, 17, 18]
def z_p105 : List Nat := [0, 1, 2, 5, 8, 9, 12, 13, 14, 17, 18, 19]
def z_p106 : List Nat := [0, 1, 4, 6, 9, 10, 13, 15, 18, 19, 22, 23, 24, 27, 28, 29]
def z_p107 : List Nat := [0, 1, 4, 5, 8, 9, 12, 13, 14, 17, 18, 19, 22, 25, 26, 27, 30, 31, 32, 33, 36, 39, 40, 43, 44, 45]
def z_p108 : List Nat := [0, 1, 4, 5, 7, 9, 12, 13, 14, 17, 18]
def z_p109 : List Nat := [0, 1, 2, 5, 6, 7, 10, 11, 12, 13, 14, 17, 18, 21, 22, 25, 26, 27, 28, 31, 34, 35]
def z_p110 : List Nat := [0, 1, 4, 5, 8, 9, 12, 13, 14]
def z_p111 : List Nat := [0, 1, 4, 5, 8, 9, 10, 13, 16, 17, 18, 21, 22, 23, 26, 27, 30, 31, 32]
def z_p112 : List Nat := [0, 1, 4, 5, 6, 9, 10, 13, 14, 17, 18, 19, 22, 23, 24]
def z_p113 : List Nat := [0, 1, 4, 5, 6, 9, 10, 13, 14, 17, 18, 19, 20, 23, 24, 25]
def z_p114 : List Nat := [0, 1, 4, 32, 33, 34, 35, 36, 37, 38, 39, 40, 41, 42, 43, 44, 45, 46, 47, 48]
def z_p115 : List Nat := [0, 1, 4, 5, 6, 7, 10, 11, 14, 15, 17, 18, 20, 22, 24, 27, 29, 32, 34, 37, 39, 40, 41, 43, 44, 46, 47, 48, 50, 51, 52, 53, 55, 56, 59, 62, 65, 68, 69]
def z_p116 : List Nat := [0, 1, 4, 5, 7, 9, 12, 13, 14, 17, 18]
def z_p117 : List Nat := [0, 1, 4, 7, 8, 11, 12]
def z_p118 : List Nat := [0, 1, 4, 5, 6, 9, 12, 13, 16, 19, 20]
def z_p119 : List Nat := [0, 1, 3, 4, 6, 8, 9, 12, 14, 15, 18, 20, 23, 24, 25, 26, 28, 30, 32, 35, 37, 38, 40, 42, 45, 48, 50, 51]
def z_p120 : List Nat := [0, 1, 2, 5, 8, 9, 10, 13, 14, 17, 20, 21, 24, 25, 26, 27, 28, 31, 33, 36, 37]
def z_p121 : List Nat := [0, 1, 2, 5, 8, 9, 10, 13, 14, 17, 20, 21, 24, 25, 26, 29, 31, 32, 34, 36, 38, 41, 42, 43, 46, 49, 51, 52, 53, 54, 57, 58, 61, 63, 64, 65, 66, 69, 72, 73, 74]
def z_p122 : List Nat := [0, 1, 2, 5, 7, 8, 9, 12, 14, 15, 17, 19, 21, 24, 26, 27, 30, 31, 32, 35, 37, 38, 40, 41, 44, 46, 47, 48, 51, 53, 56, 59, 61, 62, 64, 65, 68, 70, 73, 76, 78, 79]
def z_p123 : List Nat := [0, 1, 2, 3, 5, 8, 9, 10, 13, 16, 17, 18, 21, 24, 25, 26]
def z_p124 : List Nat := [0, 1, 2, 5, 8, 9, 11, 13, 15, 18, 19, 20, 21, 24, 25, 27, 30, 32, 35, 36, 39, 42, 44, 45, 48, 51, 52, 53]
def z_p125 : List Nat := [0, 1, 2, 3, 6, 9, 10, 11, 12, 15, 17, 20, 21, 24, 25, 26, 29, 30, 33, 36, 37, 40, 43, 44, 45, 46, 48, 50, 52, 55, 56, 59, 60, 61, 62, 64, 66, 67, 70, 73, 76, 77, 78, 80, 83, 86, 87, 88, 91, 94, 97, 100, 101, 104, 105, 108, 109]
def z_p126 : List Nat := [0, 2, 3, 4, 6, 8, 9, 12, 13, 16, 17, 19, 22, 24, 26, 27, 30, 31, 32, 35, 37, 40, 43, 44, 47, 50, 51, 52, 55, 56, 57, 58, 61, 64, 65, 68, 71, 72, 73, 74, 75, 78, 79, 82, 85, 86, 87, 88, 91, 92, 93, 96, 97, 98]
def z_p127 : List Nat := [0, 1, 2, 5, 6, 7, 8, 9, 12, 15, 16, 18, 21, 23, 24, 26, 28, 30, 33, 35, 36, 39, 42, 43, 45, 46, 49, 51, 54, 55, 56, 58, 61, 63, 66, 69, 71, 72]
def z_p128 : List Nat := [0, 1, 2, 3, 4, 5, 6, 9, 12, 15, 16, 17, 18, 21, 22, 23, 24, 27, 28, 29, 32, 33, 34, 37, 40, 41, 42]
def z_p129 : List Nat := [0, 1, 4, 5, 7, 9, 12, 13, 14, 17, 18]
def z_p130 : List Nat := [0, 1, 3, 4, 6, 8, 10, 13, 14, 15, 16, 17, 19, 22, 25, 27, 29, 32, 33, 35, 38, 41, 43, 44]
def z_p131 : List Nat := [0, 1, 4, 5, 6, 7, 9, 11, 12, 15, 16, 19, 20, 21, 22, 24, 25, 28, 29, 31, 34, 35, 36, 37, 39, 40, 41, 42, 45, 46, 49, 50, 51, 54, 57, 58, 59]
def z_p132 : List Nat := [0, 1, 2, 3, 5, 7, 9, 12, 13, 15, 18, 21, 24, 25, 28, 30, 31, 34, 37, 40, 41, 42]
def z_p133 : List Nat := [0, 1, 2, 4, 6, 7, 9, 11, 12, 15, 18, 21, 22, 23, 24, 26, 29, 31, 33, 35, 38, 40, 41, 43, 45, 48, 51, 52, 53]
def z_p134 : List Nat := [0, 1, 3, 4, 7, 8, 11, 12, 14, 16, 18, 21, 22, 24, 27, 30, 33, 34, 37, 38, 39, 41, 44, 46, 47, 50, 52, 53, 56, 58, 61, 62, 63, 66, 68, 69, 72, 74, 77, 80, 82, 85, 88, 90, 91]
def z_p135 : List Nat := [0, 1, 4, 5, 6, 9, 12, 13, 16, 17, 20, 23, 24, 27, 28, 31, 34, 35, 38, 39, 42, 45, 46, 49, 50, 53, 56, 57, 60, 61, 62, 65, 68, 71, 72, 75, 76, 77, 80, 81, 84, 87, 90, 91, 92, 95, 98, 99, 100, 103, 106, 107, 110, 111, 112, 115, 116, 119, 122, 125, 126, 129, 130, 131, 134, 137, 140, 141, 144, 145, 146, 149, 152, 155, 156, 159, 160, 161, 164, 167, 170, 171, 174, 175, 176, 179, 182, 185, 186, 187, 190, 191, 192, 193, 194, 197, 198, 201, 202, 205, 206, 209, 210, 213, 214, 217, 220, 221, 222, 223, 224, 227, 228, 231, 232, 235, 236, 239, 240, 243, 244, 247, 250, 251, 252, 253, 254, 257, 258, 261, 262, 265, 266, 269, 270, 273, 274, 277, 280, 281]
def z_p136 : List Nat := [0, 1, 4, 5]
def z_p137 : List Nat := [0, 1, 4, 5]
def z_p138 : List Nat := [0, 1, 4, 5]
def z_p139 : List Nat := [0, 1, 2, 5, 7, 9, 12, 13, 14, 15, 18, 21, 22, 23, 25, 28, 31, 32, 33, 36, 37, 39, 40, 41, 44, 45, 48, 49]
def z_p140 : List Nat := [0, 1, 2, 5, 7, 8, 10, 11, 12, 15, 17, 19, 22, 24, 27, 28, 30, 33, 34, 36, 37, 38, 41, 42, 45, 46]
def z_p141 : List Nat := [0, 1, 2, 5, 6, 7, 8, 9, 10, 13, 15, 16, 19, 21, 24, 25, 27, 30, 31, 32, 33, 34, 37, 38, 39, 42, 43]
def z_p142 : List Nat := [0, 1, 2, 5, 7, 8, 9, 12, 14, 16, 19, 21, 24, 25, 26, 29, 30, 31, 34, 36, 39, 41, 44, 45, 46, 49, 50, 52, 55, 58, 60, 63, 66, 67, 68, 71, 72, 74, 77, 79, 82, 85, 86, 88, 91, 92, 94, 95, 97, 100, 103, 105, 107, 109, 112, 115, 116, 117, 120, 121, 123, 125, 126, 128, 130, 133, 134, 137, 138]
def z_p143 : List Nat := [0, 1, 4, 7, 10, 11, 12, 13, 16, 17, 20, 21, 24, 25, 28, 29, 32, 33, 36, 37, 40, 42, 45, 46, 49, 51, 54, 55, 58, 61, 62]
def z_p144 : List Nat := [0, 1, 2, 3, 6, 9, 12, 15, 16, 17, 20, 21, 22, 25, 26, 29, 30, 33, 36, 39, 40, 42, 45, 46, 47, 50, 51, 54, 57, 60, 61, 64, 67, 68, 69, 72, 75, 78, 79]
def z_p145 : List Nat := [0, 1, 2, 3, 6, 9, 12, 15, 16, 19, 22, 23, 24, 27, 28, 29, 32, 33, 36, 37, 40, 43, 46, 47, 49, 52, 53, 54, 57, 58, 61, 64, 67, 68, 69, 72, 75, 78, 79]
def z_p146 : List Nat := [0, 1, 4, 5, 8, 11, 12, 13, 14, 17, 18, 21, 24, 27, 28, 29]
def z_p147 : List Nat := [0, 1, 60, 61, 62, 65, 68, 71, 72, 73, 74, 77, 80, 83, 84, 85, 86, 89, 92, 95, 96, 97, 98, 101, 104, 107, 108, 109, 110, 113, 116, 119, 120, 121, 122, 125, 128, 131, 132, 133, 134, 137, 140, 143, 146, 147, 148, 149, 152, 155, 158, 161, 162, 163, 164, 167, 170, 173, 174, 175, 176, 179, 182, 185, 188, 189, 190, 191, 194, 197, 200, 203, 204, 205, 206, 209, 210]
def z_p148 : List Nat := [0, 1, 4, 5, 8, 11, 12, 13, 16, 17, 18, 44, 45, 46, 49, 52, 53, 56, 59, 60, 61, 62, 65, 68, 69, 72, 75, 76, 77, 78, 81, 82, 85, 88, 89, 90, 91, 94, 95]
def z_p149 : List Nat := [0, 1, 4, 5, 8, 11, 12, 13, 16, 17, 18, 44, 45, 46, 49, 52, 53, 56, 59, 60, 61, 62, 65, 68, 69, 72, 75, 76, 77, 78, 81, 82, 85, 88, 89, 90, 91, 94, 95]
def z_p150 : List Nat := [0, 1, 4, 5, 8, 11, 12, 13, 16, 17, 18, 60, 61, 62, 65, 68, 69, 72, 75, 76, 77, 78, 81, 84, 85, 88, 91, 92, 93, 94, 97, 100, 101, 104, 107, 108, 109, 110, 113, 116, 117, 120, 123, 124, 125, 126, 129, 132, 133, 136, 139, 140, 141, 142, 145, 148, 149, 152, 155, 156, 157, 158, 161, 162, 165, 168, 169, 170, 171, 174, 175]
def z_p151 : List Nat := [0, 1, 4, 5, 8, 11, 12, 15, 16, 19, 22, 23, 24, 27, 28, 29, 30, 33, 34, 35, 36, 39, 42, 43, 46, 49, 52, 53]
def z_p152 : List Nat := [0, 1, 4, 5, 8, 11, 12, 13, 14, 17, 20, 21, 22, 25, 26, 27, 30, 31, 32, 35, 38, 39, 41, 44, 45, 46, 47, 50, 51, 52, 55, 58, 59]
def z_p153 : List Nat := [0, 1, 2, 3, 6, 9, 10, 11, 14, 15, 16, 19, 20, 21, 24, 27, 28, 30, 33, 34, 35, 38, 39, 42, 43, 44, 45, 48, 51, 52, 55, 58, 59]
def z_p154 : List Nat := [0, 1, 4, 5, 8, 11, 12, 13, 16, 17, 18, 21, 22, 25, 28, 29, 31, 34, 35, 36, 37, 40, 41, 44, 47, 48]
def z_p155 : List Nat := [0, 1, 4, 5, 8, 11, 12, 13, 16, 17, 18, 21, 22, 25, 28, 29, 31, 34, 35, 36, 37, 40, 41, 44, 47, 48]
def z_p156 : List Nat := [0, 1, 2, 4, 7, 10, 11, 12, 15, 16, 17, 20, 21, 24, 27, 28, 29, 32, 33, 34, 37, 38, 41, 42, 43, 46, 49, 52, 55, 56]
def z_p157 : List Nat := [0, 1, 4, 5, 8, 11, 12, 13, 14, 17, 20, 21, 22, 24, 27, 30, 31, 32, 35, 36, 37, 38, 41, 42, 45, 48, 51, 52, 55, 58, 59, 60, 63, 66, 67]
def z_p158 : List Nat := [0, 1, 4, 5, 8, 11, 12, 13, 15, 18, 21, 22, 23, 26, 27, 28, 29, 32, 35, 36, 37, 40, 43, 44]
def z_p159 : List Nat := [0, 1, 4, 5, 8, 11, 12, 15, 16, 19, 22, 23, 24, 27, 28, 29, 32, 35, 36, 39, 41, 43, 44, 47, 48, 51, 52, 54, 57, 58, 59, 62, 65, 66, 68, 69, 72, 73, 76, 77, 80, 81]
def z_p160 : List Nat := [0, 1, 4, 5, 8, 11, 12, 13, 16, 17, 18, 21, 24, 25, 28, 29, 30, 33, 34, 35, 38, 39, 40, 41, 42, 45, 46, 47, 50, 53, 54, 55, 58, 59]
def z_p161 : List Nat := [0, 1, 2, 4, 7, 10, 11, 12, 15, 16, 17, 20, 21, 24, 25, 28, 29]
def z_p162 : List Nat := [0, 1, 4, 5, 8, 11, 12, 13, 16, 17, 18, 19, 22, 23, 26, 29, 30]
def z_p163 : List Nat := [0, 1, 4, 5, 8, 11, 12, 15, 16, 19, 22, 23, 24, 27, 28, 29, 32, 33, 34, 37, 38, 39, 40, 43, 44, 46, 49, 52, 53, 54, 57, 58]
def z_p164 : List Nat := [0, 1, 4, 5, 8, 11, 12, 15, 16, 19, 22, 23, 26, 27, 28, 31, 32, 33, 36, 37, 38, 41, 43, 45, 46, 49, 50, 52, 55, 56, 58, 61, 62, 63, 64, 67, 68, 69, 71, 72, 75, 78, 79]
def z_p165 : List Nat := [0, 1, 4, 5, 8, 11, 12, 15, 16, 19, 22, 23, 24, 27, 28, 29, 32, 33, 34, 37, 38, 39, 40, 43, 44, 46, 49, 52, 53, 54, 57, 58]
def z_p166 : List Nat := [0, 1, 4, 5, 8, 11, 12, 15, 16, 19, 22, 23, 24, 27, 28, 29, 30, 33, 34, 35, 38, 41, 42]
def z_p167 : List Nat := [0, 1, 4, 5, 8, 11, 12, 15, 16, 19, 22, 23, 24, 27, 28, 29, 30, 33, 34, 35, 38, 41, 42]
def z_p168 : List Nat := [0, 1, 2, 5, 8, 11, 12]
def z_p169 : List Nat := [0, 1, 4, 5, 8, 11, 12, 13, 16, 17, 18, 21, 22, 25, 28, 29, 31, 34, 35, 36, 37, 40, 41, 44, 47, 48]
def z_p170 : List Nat := [0, 1, 4, 5, 8, 11, 12, 13, 16, 17, 18, 21, 22, 25, 26, 27, 28, 31, 32, 34, 37, 40, 41, 42, 45, 46]
def z_p171 : List Nat := [0, 1, 4, 5, 8, 11, 12, 13, 16, 17, 18, 19, 22, 23, 26, 27, 30, 33, 36, 37]
def z_p172 : List Nat := [0, 1, 4, 5, 8, 11, 12, 13, 16, 17, 18, 19, 22, 23, 26, 29, 30]
def z_p173 : List Nat := [0, 1, 2, 5, 8, 11, 12]
def z_p174 : List Nat := [0, 1, 4, 5, 6, 9, 10, 11, 12, 15, 18, 21, 22, 24, 27, 28, 29, 30, 33, 34, 37, 40, 41]
def z_p175 : List Nat := [0, 1, 4, 5, 8, 11, 12, 15, 16, 19, 22, 23, 24, 27, 28, 29, 32, 35, 36, 39, 40, 41, 42, 45, 48, 49, 50, 53, 54, 55, 56, 59, 60, 63, 64, 67, 68, 69, 70, 71, 74, 77, 78]
def z_p176 : List Nat := [0, 1, 2, 5, 7, 8, 9, 11, 12, 15, 17, 19, 22, 24, 27, 28, 30, 33, 34, 35, 36, 39, 40, 42, 43, 46, 49, 52, 53]
def z_p177 : List Nat := [0, 1, 2, 5, 7, 9, 12, 13, 16, 17, 18, 20, 21, 24, 26, 28, 31, 33, 36, 37, 39, 42, 43, 44, 47, 48, 51, 52, 54, 55, 58, 60, 63, 65, 67, 68, 71, 72, 74, 77, 80, 81, 83, 86, 87]
def z_p178 : List Nat := [0, 1, 2, 5, 7, 8, 9, 11, 12, 15, 17, 19, 22, 24, 27, 28, 30, 33, 34, 35, 38, 39, 41, 42, 45, 47, 49, 52, 53, 56, 57, 59, 62, 63, 64, 65, 68, 69, 71, 74, 77, 78]
def z_p179 : List Nat := [0, 1, 2, 5, 6, 7, 8, 10, 13, 16, 17, 18, 19, 20, 23, 26, 27, 29, 30, 33, 35, 38, 39, 41, 44, 45, 46, 48, 49, 51, 53, 54, 57, 58, 61, 62, 64, 67, 70, 73, 74, 75, 78, 79, 81, 82, 84, 87, 88, 91, 92, 94, 97, 100, 101, 102, 105, 107, 110, 113, 114]
def z_p180 : List Nat := [0, 1, 2, 3, 6, 9, 10, 11, 12, 15, 18, 19, 20, 23, 24, 25, 26, 29, 30, 31, 32, 35, 38, 39, 42, 43, 46, 47]
def z_p181 : List Nat := [0, 1, 2, 3, 6, 9, 10, 11, 12, 15, 18, 19, 20, 23, 24, 25, 28, 29, 30, 31, 34, 36, 38, 39, 42, 43, 45, 48, 51, 52, 54, 57, 58]
def z_p182 : List Nat := [0, 1, 4, 5, 8, 11, 12, 15, 16, 19, 22, 23, 24, 27, 28, 29, 32, 33, 34, 37, 38, 39, 40, 43, 44, 46, 49, 50, 52, 55, 56, 57, 59, 60, 63, 66, 67, 68, 69, 72, 75, 76, 79, 82, 83, 86, 87]
def z_p183 : List Nat := [0, 1, 2, 4, 7, 10, 11, 12, 14, 17, 20, 21, 22, 25, 26, 27, 28, 29, 31, 32, 34, 36, 37, 40, 42, 43, 46, 48, 49, 50, 53, 56, 57, 59, 62, 63, 65, 66, 69, 72, 73, 74, 75, 77, 78, 81, 82, 83, 85, 86, 87, 89, 90, 91, 92, 94, 95, 96, 97, 98, 99, 102, 105, 106, 108, 111, 112, 115, 118, 119, 122, 123]
def z_p184 : List Nat := [0, 1, 2, 5, 6, 7, 8, 9, 10, 13, 16, 19, 20, 21, 24, 25, 28, 29, 30, 33, 34, 35, 37, 39, 40, 43, 46, 49, 50, 52, 53, 56, 59, 61, 64, 65, 68, 71, 74, 75, 76, 79, 82, 85, 86]
def z_p185 : List Nat := [0, 1, 2, 5, 8, 11, 12, 13, 16, 17, 18, 21, 24, 27, 28, 30, 33, 34, 35, 38, 39, 42, 43, 46, 49, 50, 51, 54, 57, 60, 61]
def z_p186 : List Nat := [0, 1, 2, 3, 6, 9, 10, 11, 14, 15, 16, 19, 22, 25, 26, 27, 30, 33, 34, 37, 40, 43, 44, 46, 49, 50]
def z_p187 : List Nat := [0, 1, 2, 4, 7, 10, 11, 12, 15, 16, 17, 20, 23, 24, 25, 28, 29, 30, 33, 36, 39, 40, 42, 45, 46, 47, 50, 51, 54, 57, 58, 59, 60, 62, 64, 65, 68, 69, 72, 73, 75, 76, 79, 80, 81, 84, 87, 90, 91, 92, 93, 94, 97, 98, 101, 104, 107, 110, 111, 112, 113, 114, 117, 118, 121, 122]
def z_p188 : List Nat := [0, 1, 4, 7, 8, 11, 12, 15, 16, 19, 20, 23, 24, 27, 28, 31, 32, 33, 36, 37, 38, 41, 42, 45, 46, 47, 48, 51, 52, 55, 56, 57, 58, 61, 62, 65, 66, 67, 70, 71, 72, 73, 76, 79, 80, 81, 84, 87, 88, 89, 92, 93, 94, 97, 98, 99, 102, 105, 106]
def z_p189 : List Nat := [0, 1, 4, 5, 8, 9, 12, 13, 16, 17, 20, 21, 24, 25, 28, 29, 32, 33, 35, 38, 39, 40, 43, 44, 47, 48, 49, 50, 51, 52, 55, 56, 59, 60, 61, 62, 63, 64, 67, 68, 71, 72, 74, 77, 78, 79, 80, 83, 84, 85, 88, 89, 92, 93, 96, 97, 100, 101, 104, 105, 106, 109, 112, 113]
def z_p190 : List Nat := [0, 1, 2, 5, 6, 7]
def z_p191 : List Nat := [0, 1, 2, 5, 6, 7]
def z_p192 : List Nat := [0, 1, 2, 5, 6, 7]
def z_p193 : List Nat := [0, 1, 2, 5, 6, 7]
def z_p194 : List Nat := [0, 1, 3, 4, 6, 7, 9, 11, 14, 17, 19, 20, 21, 24, 26, 28, 29, 31, 33, 35, 37, 39, 42, 45, 47, 48, 49, 52, 53, 54, 55, 57, 58, 61, 62, 63, 65, 66, 69, 70]
def z_p195 : List Nat := [0, 1, 4, 5, 6, 9, 10, 13, 14, 17, 18, 19, 22, 23, 24]
def z_p196 : List Nat := [0, 1, 4, 5, 6, 7, 10, 13, 14, 15, 16, 17, 18, 21, 24, 25, 28, 29, 30]
def z_p197 : List Nat := [0, 1, 4, 5, 8, 11, 12, 13, 15, 18, 21, 22, 23, 24, 25, 26, 27, 28, 29, 32, 34, 35, 38, 40, 43, 45, 46, 47, 49, 51, 52, 55, 56, 57, 59, 60, 61, 62, 65, 67, 68, 71, 72, 73, 75, 76, 79, 82, 85, 87, 88, 89, 92, 94, 97, 98, 101, 102, 103, 106, 109, 110, 111]
def z_p198 : List Nat := [0, 1, 4, 5, 8, 11, 12, 15, 16, 19, 22, 23, 24, 27, 28, 31, 32, 33]
def z_p199 : List Nat := [0, 1, 4, 5, 8, 9, 10, 11, 14, 15, 16, 17, 20, 21, 22]
def z_p200 : List Nat := [0, 1, 4, 5, 8, 9, 10, 11, 14, 15, 16, 17, 18, 19]
def z_p201 : List Nat := [0, 1, 2, 5, 6, 7, 8, 9, 12, 13, 14]
def z_p202 : List Nat := [0, 1, 4, 5, 6, 7, 8, 9, 10, 13, 14, 15, 16, 17, 20, 23, 24]
def z_p203 : List Nat := [0, 1, 4, 5, 8, 9, 10, 11, 12, 13, 14, 17, 18, 19, 20, 23, 24, 25, 26, 27, 28, 29, 32, 35, 36]
def z_p204 : List Nat := [0, 1, 4, 5, 8, 9, 10, 11, 12, 13, 14, 17, 18, 19, 20, 23, 24, 25, 26, 27, 28, 29, 32, 35, 36]
def z_p205 : List Nat := [0, 1, 2, 3, 4, 5, 8, 9, 10, 11, 14, 15, 16, 17, 18, 19, 20, 23, 26, 27, 28]
def z_p206 : List Nat := [0, 1, 2, 3, 4]
def z_p207 : List Nat := [0, 1, 2, 3, 4, 5, 6, 9, 10, 13, 14, 15]
def z_p208 : List Nat := [0, 1, 2, 5, 6, 7, 10, 11, 14, 15, 16]
def z_p209 : List Nat := [0, 1, 2, 3, 5, 7, 8, 11, 12, 13, 14, 15, 18, 21, 22, 23]
def z_p210 : List Nat := [0, 1, 4, 5, 8, 10, 13, 14, 16, 18, 21, 22, 23, 26, 27, 28, 30, 33, 34, 35, 37, 38, 39, 40, 41, 42, 43, 44, 45, 46, 47, 48, 49, 50, 51, 52, 53, 56, 57, 60, 62, 65, 66, 69, 71, 74, 75, 78, 80, 83, 84, 85, 88, 89, 90, 93, 94, 95, 97, 100, 101, 103, 105, 108, 109, 111, 113, 116, 117, 119, 121, 124, 125, 128, 130, 133, 134, 136, 138, 141, 142, 145, 147, 150, 151, 153, 155, 158, 159, 161, 163, 166, 167, 168, 170, 173, 174, 175, 177, 180, 181, 182, 185, 186]
def z_p211 : List Nat := [0, 1, 2, 3, 6, 9, 10, 13, 14, 15, 16, 17, 18, 21, 24, 25, 28, 29, 30, 31, 32, 33, 34, 37, 38, 39, 40, 41, 42, 43, 46, 47, 48, 49, 50, 51, 52, 55, 56, 58, 59, 60, 61, 62]
def z_p212 : List Nat := [0, 1, 4, 5]
def z_p213 : List Nat := [0, 1, 4, 5]
def z_p214 : List Nat := [0, 1, 4, 5]
def z_p215 : List Nat := [0, 1, 2, 5, 6, 9, 10, 13, 14, 15]
def z_p216 : List Nat := [0, 1, 2, 5, 6, 7]
def z_p217 : List Nat := [0, 1, 2, 5, 6, 7]
def z_p218 : List Nat := [0, 1, 2, 5, 6, 8, 11, 12, 13, 14, 17, 18]
def z_p219 : List Nat := [0, 1, 3, 4, 6, 8, 9, 10, 13, 15, 17, 18, 20, 22, 24, 26, 28, 31, 32, 33, 35, 36, 39, 40, 41, 43, 44, 47, 48, 49, 52, 53]
def z_p220 : List Nat := [0, 1, 4, 5, 6, 9, 10, 13, 14, 15]
def z_p221 : List Nat := [0, 1, 4, 5, 6, 7, 8, 11, 12, 13, 16, 17, 18, 19, 20, 23, 24, 25, 28, 29, 30, 31, 34, 35, 36]
def z_p222 : List Nat := [0, 1, 4, 7, 8, 11, 12, 13, 16, 17, 20, 21, 23, 26, 27, 28, 31, 32, 33, 36, 37, 38, 39, 40, 43, 44, 45, 46, 47, 49, 51, 52, 55, 56, 59, 61, 62, 63, 65, 66, 67, 68, 71, 74, 75, 76, 79, 80]
def z_p223 : List Nat := [0, 1, 4, 7, 8, 11, 12, 15, 16, 17, 18, 21, 22, 25, 26, 29, 30, 31, 34, 35, 36, 39, 40, 43, 44, 45]
def z_p224 : List Nat := [0, 1, 2, 3, 6, 8, 10, 13, 14, 17, 19, 20, 21, 22, 23, 24, 25, 28, 29, 30, 33, 34, 35, 37, 40, 41]
def z_p225 : List Nat := [0, 1, 2, 3, 4, 7, 10, 11, 14, 17, 20, 23, 24, 27, 29, 30, 31, 32, 33, 34, 35]
def z_p226 : List Nat := [0, 1, 4, 7, 8, 11, 14, 15, 18, 20, 23, 25, 28, 29, 30, 33, 34, 35, 38, 39, 40, 41, 44, 45, 48, 49, 50, 51, 54, 55, 56, 59, 60, 61, 64, 65, 66, 67, 70, 71, 72, 75, 76, 78, 81, 82, 84, 85, 88, 89, 90, 91, 92, 95, 97, 98, 101, 102, 103, 105, 106, 109, 110, 111, 114, 115, 116, 118, 120, 122, 125, 126, 128, 131, 133, 134, 135, 137, 138, 141, 143, 145, 146, 149, 151, 152, 153, 155, 156, 158, 159, 160, 163, 165, 166, 167, 168, 169, 171, 172, 173, 174, 177, 180, 181, 182, 185, 186]
def z_p227 : List Nat := [0, 1, 2, 3, 6, 7, 9, 10, 13, 14, 17, 18, 19]
def z_p228 : List Nat := [0, 1, 4, 6, 7, 10, 13, 14, 15, 16, 17, 20, 21, 22, 25, 26, 27, 30, 31, 33, 36, 37, 39, 42, 43, 46, 47]
def z_p229 : List Nat := [0, 2, 3, 4, 7, 8, 11, 12, 15, 16, 17, 18, 19, 20, 21, 22, 25, 26, 27, 30, 33, 36, 37]
def z_p230 : List Nat := [0, 1, 2, 5, 8, 9, 12, 13, 14, 17, 18, 21, 22, 23]
def z_p231 : List Nat := [0, 1, 3, 6, 7, 9, 12, 13, 16, 17, 18]
def z_p232 : List Nat := [0, 1, 3, 6, 7, 9, 12, 13, 16, 17, 18]
def z_p233 : List Nat := [0, 1, 2, 5, 8, 10, 13, 14, 15, 18, 21, 23, 26, 27, 28, 31, 32, 33, 36, 39, 40, 41, 44, 47, 48, 49, 52, 55, 56, 57, 58, 61, 62, 63, 66, 67, 68, 71, 74, 75, 78, 81, 82, 83, 86, 89, 92, 95, 96, 97, 100, 101, 102, 105, 108, 109, 110, 113, 116, 117, 120, 123, 124, 125, 128, 129, 130, 133, 136, 139, 142, 143, 145, 147, 148, 151, 152, 153, 154, 157, 160, 161, 163, 164, 167, 170, 171, 172, 175, 176, 177, 180, 183, 184, 185, 188, 189, 192, 193, 194, 197, 198, 201, 202, 205, 208, 209, 210, 213, 214, 215, 218, 219, 220, 222, 225, 226, 228, 231, 232, 234, 237, 238, 240, 243, 244, 247, 248, 251, 252]
def z_p234 : List Nat := [0, 1, 4, 5, 8, 9, 12, 13, 16, 17, 20, 21, 22]
def z_p235 : List Nat := [0, 1, 4, 5, 8, 9, 10, 11, 12, 13, 14, 15, 16, 19, 22, 23, 25, 26, 28, 31, 33, 36, 39, 42, 44, 45, 46, 47, 50, 51, 54, 55, 58, 59, 62, 63, 65, 66, 68, 70, 72, 75, 77, 80, 81, 83, 86, 87, 88, 91, 93, 94, 95, 96, 99, 102, 103, 106, 107, 109, 112, 115, 117, 120, 121, 122, 125, 127, 128, 129, 130, 133, 134, 135]
def z_p236 : List Nat := [0, 1, 4, 7, 8, 9, 12, 13, 16, 17, 20, 21, 24, 25, 26, 29, 32, 33, 34]
def z_p237 : List Nat := [0, 1, 4, 5, 6, 9, 12, 13, 14, 17, 18, 19, 20, 21, 24, 25, 26, 27, 28, 31, 32, 35, 36, 37, 40, 41, 42, 43, 46, 49, 50, 51, 54, 55, 56, 59, 60, 61, 64, 65, 66, 69, 70, 71, 74, 75, 78, 79, 80]
def z_p238 : List Nat := [0, 1, 2, 5, 8, 9, 10, 13, 14, 15, 18, 19, 20]
def z_p239 : List Nat := [0, 1, 2, 5, 6, 9, 10, 11, 14, 15, 16, 19, 20, 21]
def z_p240 : List Nat := [0, 1, 4, 5, 8, 9, 10, 13, 14, 15, 18, 19, 22, 23, 26, 27, 30, 31, 32, 35, 36, 37, 40, 41, 42, 45, 46, 47, 50, 51, 52]
def z_p241 : List Nat := [0, 1, 4, 5, 8, 9, 12, 13, 16, 17, 19, 22, 23, 24, 27, 28, 31, 32, 35, 36, 37]
def z_p242 : List Nat := [0, 1, 2, 3, 6, 7, 8, 9, 12, 15, 16, 18, 19, 20, 21, 24, 25, 26, 27, 30, 33, 34, 35]
def z_p243 : List Nat := [0, 1, 2, 3, 4, 7, 8, 11, 12, 13, 14, 15, 16, 19, 20, 23, 24, 25, 28, 31, 32, 33]
def z_p244 : List Nat := [0, 1, 4, 5, 8, 11, 12, 13, 16, 17, 20, 23, 24, 25]
def z_p245 : List Nat := [0, 1, 2, 5, 8, 9, 12, 15, 16, 18, 21, 24, 25, 26, 29, 30]
def z_p246 : List Nat := [0, 2, 3, 4, 5, 6, 7]
def z_p247 : List Nat := [0, 2, 4, 5, 6, 7, 8]
def z_p248 : List Nat := [0, 1, 4, 5, 6, 7, 8, 9, 12, 13, 14, 15, 16, 17, 18]
def z_p249 : List Nat := [0, 1, 2, 3, 4, 5, 6, 9, 10, 13, 14, 15]
def z_p250 : List Nat := [0, 1, 3, 6, 7, 10, 11, 12, 13, 16, 17, 18]
def z_p251 : List Nat := [0, 1, 2, 5, 8, 9, 10, 11, 13, 16, 17, 18, 21, 22, 24, 25, 26, 27]
def z_p252 : List Nat := [0, 1, 4, 7, 8, 9, 10, 11, 14, 15, 18, 19, 20]
def z_p253 : List Nat := [0, 1, 3, 4, 7, 10, 11, 14, 15, 18, 19, 21, 22, 25, 28, 29, 32, 33, 36, 37, 40, 41, 42]
def z_p254 : List Nat := [0, 1, 2, 3, 6, 9, 10, 12, 15, 16, 17, 20, 21, 23, 26, 29, 30, 31, 34, 35, 36, 39, 42, 43, 44, 47, 48, 49, 52, 54, 55, 56, 57, 60, 63, 64, 65, 66, 67, 68, 71, 72, 73, 76, 77, 78]
def z_p255 : List Nat := [0, 1, 2, 3, 4, 7, 10, 11, 12, 15, 16]
def z_p256 : List Nat := [0, 1, 3, 6, 9, 10, 12, 13, 16, 19, 20, 23, 24, 25, 26, 29, 30, 31, 34, 35, 36, 37, 40, 41, 42, 43, 46, 49, 50, 51, 54, 55, 56, 59, 60, 61, 62, 63, 64, 65, 66, 67, 68, 71, 74, 75, 76]
def z_p257 : List Nat := [0, 1, 4, 5, 6, 9, 12, 13, 15, 17, 20, 23, 24, 27, 28, 29, 32, 35, 36, 39, 40, 41]
def z_p258 : List Nat := [0, 3, 4, 5, 6, 9, 12, 13, 14, 15, 18, 19, 20, 21, 22, 24, 27, 30, 31, 34, 35, 36]
def z_p259 : List Nat := [0, 3, 4, 7, 10, 11, 14, 15, 16, 17, 18, 20, 21, 24, 27, 28, 30, 32, 35, 38, 39, 40, 41, 43, 46, 49, 50, 51, 52, 55, 56, 57, 58, 59, 60, 61, 63, 66, 69, 70, 71, 72, 73, 76, 79, 80, 81, 82, 85, 88, 89, 90, 91, 92, 93, 94, 95]
def z_p260 : List Nat := [0, 3, 4, 7, 10, 11, 14, 15, 16, 17, 18, 19, 21, 24, 27, 28, 30, 32, 35, 38, 39, 40, 43, 46, 47, 49, 50, 51, 52, 53, 55, 56, 59, 62, 63, 64, 65, 68, 69, 70, 71, 72, 73, 74, 76, 79, 82, 83, 84, 85, 86, 89, 92, 93, 94, 95, 98, 101, 102, 103, 104, 105, 106, 107, 108]
def z_p261 : List Nat := [0, 1, 3, 6, 7, 8, 11, 12, 13, 16, 17, 18, 21, 22, 23, 24, 27, 28, 31, 32, 33, 34, 35, 36, 39, 40, 41, 44, 45, 46, 47, 50, 51, 52, 53, 54, 55, 58, 59, 60, 63, 64, 65, 68, 69, 72, 73, 74, 75, 78, 79, 80, 83, 84, 87, 88, 124, 125, 128, 129, 132, 133, 136, 137, 139, 142, 143, 146, 147, 150, 153, 154, 157, 158, 161, 164, 165, 168, 169, 172, 173, 176, 177, 180, 181, 182, 185, 186, 188, 191, 194, 195, 198, 199, 200]
def z_p262 : List Nat := [0, 1, 2, 5, 8, 11, 12, 13, 16, 17, 18, 21, 24, 25, 26, 29, 30, 31, 32, 35, 36, 39, 42, 43, 46, 47, 50, 51, 54, 57, 58, 59, 60, 63, 66, 67, 70, 71, 72, 75, 78, 79, 80, 81, 82, 85, 88, 89, 90, 91, 93, 96, 97, 100, 101, 102, 105, 107, 108, 109, 110, 111, 114, 117, 118, 119, 122, 123, 124, 127, 128]
def z_p263 : List Nat := [0, 1, 3, 6, 9, 10, 11, 14, 15, 16, 19, 20, 21, 23, 24, 27, 28, 29, 32, 33, 34, 37, 38, 39, 40, 43, 44, 45, 48, 49, 50, 53, 54, 55]
def z_p264 : List Nat := [0, 1, 2, 3, 4, 5, 8, 9, 10, 13, 14]
def z_p265 : List Nat := [0, 1, 3, 6, 7, 8, 10, 13, 14, 16, 19, 20, 21, 24, 25, 26, 29, 30, 31, 33, 34, 35, 36, 39, 40, 41]
def z_p266 : List Nat := [0, 1, 3, 6, 7, 8, 9, 12, 13, 15, 18, 19, 21, 24, 25, 27, 30, 31, 32, 35, 36, 37, 40, 41, 44, 45, 46, 47, 48, 51, 52, 54, 57, 58, 59, 60, 61, 64, 65, 66, 68, 71, 72, 73, 74, 75, 78, 81, 82, 83, 84, 85, 88, 91, 92, 95, 96, 97, 98, 100, 103, 104, 105, 106, 107, 110, 113, 114, 115, 116, 117, 120, 121, 122, 125, 126, 127, 128, 130, 133, 136, 137, 139, 142, 145, 146, 148, 151, 154, 155, 156, 159, 160, 161, 164, 165, 166, 167, 168, 171, 172, 173, 176, 177, 178, 179, 180, 181, 183, 186, 187]
def z_p267 : List Nat := [0, 1, 48, 49, 50, 51, 52, 55, 58, 59, 60, 61, 62, 65, 68, 69, 72, 73, 74, 75, 76, 77, 78, 81, 84, 85, 86, 87, 88, 91, 94, 95, 98, 99, 100, 101, 102, 103, 104, 107, 108, 109, 110, 111, 112, 113, 115, 118, 119, 120, 121, 122, 123, 124, 126, 129, 130, 131, 132, 135, 136, 137, 138]
def z_p268 : List Nat := [0, 1, 3, 6, 7, 8, 11, 14, 15, 16, 19, 21, 22, 23, 24, 25, 26, 28, 31, 32, 34, 37, 38, 41, 42, 44, 45, 47, 50, 51, 53, 56, 57, 59, 62, 63, 66, 69, 70, 71, 74, 75, 76, 78, 81, 82, 85, 87, 90, 91, 93, 96, 97, 99, 102, 103, 106, 107, 110, 111, 113, 116, 117, 118, 119, 122, 123, 125, 128, 129, 132, 133, 134, 137, 138, 141, 142, 143, 144, 145, 147, 149, 151, 154, 155, 158, 159, 161, 162, 163, 164, 167, 170, 171, 174, 177, 178, 179, 180, 181, 182, 183, 186, 187, 188, 189, 192, 195, 196, 197, 199, 202, 203, 206, 207, 210, 211, 212, 213, 214, 217, 218, 219, 222, 223, 225, 228, 229, 230, 233, 234, 235, 238, 239, 242, 243, 244, 245, 246, 249, 250, 253, 254, 255, 256, 259, 262, 264, 265, 268, 269, 272, 273, 274, 275, 276, 277, 278, 279, 280, 282, 285, 286]
def z_p269 : List Nat := [0, 1, 2, 5, 8, 11, 12, 13, 16, 17, 18, 21, 24, 25, 26, 27, 28, 31, 32, 33, 36, 37, 38, 39, 42, 43, 46, 49, 50, 53, 54, 57, 58, 61, 64, 65, 68, 71, 72, 73, 76, 77, 78, 81, 84, 85, 88, 90, 91, 94, 97, 98, 99, 101, 102, 103, 106, 109, 110, 113, 114, 115, 118, 121, 122, 123, 124, 125, 128, 131, 132, 133, 136, 139, 140]
def z_p270 : List Nat := [0, 1, 4, 5, 6, 7, 10, 13, 14, 17, 18, 19]
def z_p271 : List Nat := [0, 1, 4, 5, 6, 9, 10, 11, 14, 15, 18, 19, 20]
def z_p272 : List Nat := [0, 1, 4, 5, 6, 9, 10, 11, 14, 15, 18, 19, 20]
def z_p273 : List Nat := [0, 1, 2, 3, 4, 5, 8, 11, 12, 13, 14, 15, 16, 17, 20, 21, 22]
def z_p274 : List Nat := [0, 1, 4, 5, 8, 9, 10, 11, 12]
def z_p275 : List Nat := [0, 1, 4, 5, 8, 9, 10, 11, 12]
def z_p276 : List Nat := [0, 1, 4, 6, 7, 8, 9, 11, 13, 16, 17, 20, 21, 23, 24, 25, 26, 27, 28, 31, 34, 35, 38, 39]
def z_p277 : List Nat := [0, 1, 2, 3, 4, 5, 6, 9, 12, 13]
def z_p278 : List Nat := [0, 1, 2, 3, 6, 9, 10, 13, 14, 15]
def z_p279 : List Nat := [0, 1, 2, 3, 4, 5, 6, 7, 10, 13, 14, 15, 18, 19, 20, 21, 22, 23, 24, 27, 30, 31, 32]
def z_p280 : List Nat := [0, 1, 2, 3, 4, 5, 6, 9, 10, 11, 14, 15, 16, 17, 18, 21, 22, 23, 26, 29, 30, 31]
def z_p281 : List Nat := [0, 1, 2, 3, 4, 5, 6, 9, 10, 11, 14, 15, 16, 17, 20, 23, 24, 25, 26, 29, 30, 31, 32, 35, 38, 39, 40]
def z_p282 : List Nat := [0, 1, 60, 61, 62, 65, 66, 67, 70, 71, 72, 73, 75, 78, 81, 82, 83, 84, 86, 89, 92, 93, 94, 95, 98, 101, 102, 103, 104, 105, 108, 111, 112, 113, 114, 115, 118, 121, 122, 123, 124, 127, 128]
def z_p283 : List Nat := [0, 1, 2, 3, 5, 7, 8, 11, 12, 13, 16, 17, 20, 21, 23, 24, 27, 28, 31, 32, 35, 36, 39, 40, 41, 43, 44, 47, 48, 51, 53, 54, 56, 59, 60, 62, 63, 66, 67, 68, 69, 72, 75, 76, 77]
def z_p284 : List Nat := [0, 1, 2, 5, 8, 9, 10, 13, 14, 15, 40, 41, 42, 45, 47, 48, 49, 50, 53, 54, 55, 56, 59, 61, 62, 63, 64, 67, 68, 69, 70, 71, 72, 75, 78, 79, 80, 81, 84, 85]
def z_p285 : List Nat := [0, 1, 2, 5, 8, 9, 12, 13, 14, 17, 18, 19, 22, 23, 24, 25, 26, 29, 30, 31, 32, 35, 38, 39, 42, 43, 46, 47, 48, 49, 52, 53]
def z_p286 : List Nat := [0, 1, 2, 5, 8, 9, 12, 13, 15, 18, 19, 20, 23, 24, 25, 26, 28, 31, 32, 33, 34, 37, 40, 43, 44, 45, 46, 49, 52, 53]
def z_p287 : List Nat := [0, 1, 2, 5, 8, 9, 10, 13, 16, 17, 18, 21, 22, 23, 24, 25, 26, 29, 32, 33]
def z_p288 : List Nat := [0, 1, 4, 5, 6, 7, 8, 36, 37, 38, 39, 42, 43, 44, 45, 48, 49, 50, 51, 52, 53, 54, 55, 56, 59, 60, 61, 62, 65, 66, 67, 68, 69, 72, 73, 74, 75, 78, 79, 80, 81, 82, 83, 84, 85, 88, 91, 92, 93, 94, 97, 98, 99]
def z_p289 : List Nat := [0, 1, 2, 5, 6, 9, 10, 11, 12, 14, 16, 17, 20, 21, 24, 25, 26, 28, 31, 32, 35, 36, 39, 40, 41, 44, 47, 48, 49]
def z_p290 : List Nat := [0, 1, 2, 3, 4, 7, 8, 11, 12, 13, 14, 17, 20, 21, 22, 25, 26, 27, 28, 29, 30, 33, 35, 36, 39, 40, 43, 44, 45, 46, 49, 50, 53, 54, 55, 57, 58, 60, 61]
def z_p291 : List Nat := [0, 1, 2, 5, 8, 9, 10, 11, 14, 17, 20, 21, 22, 25, 26, 27, 28, 29, 32, 33, 34, 35, 38, 39, 41, 44, 47, 48, 49, 52, 53]
def z_p292 : List Nat := [0, 1, 2, 3, 6, 7, 8, 9, 10, 11, 14, 15, 16, 19, 20, 21, 22, 25, 28, 29, 30, 33, 34, 35, 36, 37, 40, 41, 42, 45, 48, 49, 50]
def z_p293 : List Nat := [0, 1, 2, 5, 6, 7, 10, 13, 14, 15, 18, 21, 22, 23, 24, 25, 28, 29, 30, 31, 34, 37, 40, 41, 44, 45, 46]
def z_p294 : List Nat := [0, 1, 4, 5, 6, 9, 10, 11, 12, 13, 14, 15, 16, 17, 18, 21, 22, 23, 24, 25, 28, 29, 30, 33, 36, 37, 38, 39, 40, 43, 44, 45, 48, 49, 50, 51, 52, 53, 54, 55, 56, 57, 58, 59, 60, 63, 64, 65, 68, 69]
def z_p295 : List Nat := [0, 1, 2, 5, 8, 9, 10, 13, 16, 17, 18, 21, 22, 23, 26, 27, 28, 29, 30, 33, 36, 37, 39, 42, 43, 44, 45, 48, 49, 50, 51, 52, 55, 58, 59]
def z_p296 : List Nat := [0, 1, 4, 5, 6, 9, 10, 11, 12, 13, 14, 15, 18, 19, 20, 21, 22, 23, 24, 27, 28, 29, 30, 33, 34, 37, 38, 39, 40, 41, 42, 43, 46, 47, 48, 49]
def z_p297 : List Nat := [0, 1, 2, 5, 8, 9, 10, 13, 14, 15, 16, 19, 20, 21, 24, 25, 27, 30, 33, 34, 35, 38, 39]
def z_p298 : List Nat := [0, 1, 2, 3, 6, 7, 8, 9, 12, 15, 16, 17, 18, 21, 23, 24, 25, 26, 27, 28, 31, 33, 34, 35, 36, 37, 38, 41, 42, 45, 46, 47, 50, 51, 52, 53, 56, 57, 58, 61, 62, 63, 64]
def z_p299 : List Nat := [0, 1, 2, 5, 8, 9, 10, 13, 14, 15, 16, 19, 20, 21, 24, 25, 27, 30, 33, 34, 35, 38, 39]
def z_p300 : List Nat := [0, 1, 2, 3, 4, 5, 8, 11, 12, 15, 17, 18, 19, 20, 23, 26, 27, 30, 32, 33, 34, 36, 37, 40, 42, 43, 44, 45, 46, 47, 50, 51, 52, 55, 57, 58, 59, 61, 62, 65, 67, 68, 69, 70, 71, 72, 75, 76, 79, 82, 83, 86, 87, 88, 89, 90, 91, 92, 93]
def z_p301 : List Nat := [0, 1, 2, 3, 4, 7, 8, 11, 14, 17, 18]
def z_p302 : List Nat := [0, 1, 2, 3, 6, 9, 12, 13, 14, 17, 18, 19, 22, 23, 24, 25, 26, 29, 32, 33, 34, 37, 38, 39, 40, 43, 44, 45, 47, 50, 53, 54]
def z_p303 : List Nat := [0, 1, 2, 5, 8, 9, 12, 13, 14, 17, 18, 19, 20, 23, 26, 29, 30, 31, 34, 35, 36, 39, 41, 44, 46, 47, 48, 50, 51, 54, 56, 57, 59, 60, 63, 65, 66, 67, 68, 70, 73, 74]
def z_p304 : List Nat := [0, 1, 2, 5, 8, 9, 10, 11, 14, 17, 20, 21, 22, 25, 26, 27, 28, 29, 32, 33, 34, 37, 38, 41, 42, 43, 44, 45, 46, 47, 50, 51]
def z_p305 : List Nat := [0, 1, 2, 5, 8, 9, 10, 13, 16, 17, 18, 21, 22, 23, 24, 25, 26, 29, 30, 33, 34, 37, 38, 40, 43, 44, 45, 48, 49, 52, 53, 54, 55, 56, 57, 58, 59, 60, 61, 62, 63, 66, 67]
def z_p306 : List Nat := [0, 1, 2, 5, 8, 9, 10, 13, 14, 15, 18, 19, 20, 21, 22, 23, 26, 27, 28, 31, 32, 33, 36, 37, 38, 39, 40, 41, 42, 43, 44, 45, 47, 50, 51, 54, 55, 58, 59, 60, 61, 62, 65, 68, 69, 72, 73, 76, 77, 78, 79, 82, 84, 85, 86, 87, 88, 89, 90, 93, 94]
def z_p307 : List Nat := [0, 1, 2, 3, 6, 9, 12, 13, 14, 17, 18, 19, 22, 23, 24, 25, 26, 27, 30, 31]
def z_p308 : List Nat := [0, 1, 2, 3, 6, 9, 10, 13, 14, 15]
def z_p309 : List Nat := [0, 1, 2, 3, 5, 8, 9, 12, 13, 14, 15, 18, 19, 22, 25, 26, 29, 32, 33, 34, 35, 38, 39, 40, 41, 43, 45, 46, 47, 48, 51, 52, 55, 57, 58, 59, 61, 62, 64, 66, 67, 68, 71, 73, 75, 76, 79, 80, 81, 83, 86, 89, 90, 93, 95, 96, 97, 98, 99, 102, 104, 105, 108, 111, 112, 115, 117, 118, 121, 123, 124, 125, 126, 127, 128, 129, 132, 135, 138, 139]
def z_p310 : List Nat := [0, 1, 2, 3, 6, 7, 8, 11, 14, 15, 16, 17, 20, 21, 24, 27, 30, 31, 34, 35, 36, 37, 40, 41, 42]
def z_p311 : List Nat := [0, 1, 2, 3, 4, 5, 6, 7, 10, 13, 14, 15, 16, 17, 20, 23, 26, 27, 28, 29, 32, 33, 34, 35, 38, 41, 42, 43]
def z_p312 : List Nat := [0, 1, 2, 5, 8, 9, 10, 11, 14, 17, 20, 21, 22, 25, 26]
def z_p313 : List Nat := [0, 1, 2, 5, 8, 9, 10, 13, 16, 17, 18, 21, 22, 23, 24, 25, 28, 29, 30, 33, 36, 37, 39, 42, 45, 46, 47, 50, 51]
def z_p314 : List Nat := [0, 3, 4, 5, 7, 9, 10, 13, 14, 15, 17, 20, 22, 24, 25, 28, 29, 30, 32, 35, 38, 39, 42, 44, 45, 46, 49, 50, 51, 52, 53, 56, 57, 59, 62, 63, 66, 69, 70, 71]
def z_p315 : List Nat := [0, 1, 2, 5, 8, 9, 10, 13, 16, 17, 20, 21, 22, 25, 26, 27, 28, 29, 32, 34, 36, 39, 42, 43, 45, 48, 49, 51, 54, 55, 56, 57, 58, 61, 63, 64, 66, 68, 69, 72, 73, 74, 76, 79, 81, 84, 87, 88, 90, 93, 94]
def z_p316 : List Nat := [0, 1, 2, 5, 8, 9, 10, 13, 16, 17, 18, 21, 22, 23, 26, 27, 28, 29, 30, 33, 34, 35, 37, 38, 40, 41, 43, 45, 47, 50, 51, 54, 55, 57, 58, 59, 60, 61, 64, 65, 68, 69, 70, 71, 74, 75, 78, 81, 83, 85, 88, 91, 92, 95, 96, 98, 99, 100, 102, 105, 106]
def z_p317 : List Nat := [0, 1, 2, 3, 6, 8, 9, 12, 14, 17, 18, 20, 23, 24]
def z_p318 : List Nat := [0, 1, 2, 3, 5, 8, 9, 12, 13, 14, 15, 16, 17, 20, 23, 24, 27, 30, 31, 34, 37, 38, 39, 40, 43, 44, 45, 46, 48, 50, 51, 52, 53, 56, 57, 60, 61, 63, 64, 65, 67, 68, 69, 72, 74, 76, 77, 80, 83, 84, 87, 89, 90, 91, 92, 93, 94, 96, 97, 100, 101, 103, 105, 106, 109, 111, 112, 115, 118, 119, 122, 124, 126, 127, 128, 129, 132, 135, 138, 139]
def z_p319 : List Nat := [0, 1, 2, 5, 8, 9, 10, 13, 16, 17, 18, 21, 22, 23, 24, 25, 28, 29, 30, 31, 32, 33, 36, 39, 40, 43, 44, 45, 46, 49, 50, 53, 54, 55, 56, 59, 60]
def z_p320 : List Nat := [0, 1, 2, 5, 8, 9, 10, 13, 16, 17, 18, 21, 22, 23, 24, 25, 28, 29, 30, 33, 34, 35, 38, 39]
def z_p321 : List Nat := [0, 1, 2, 3, 5, 7, 8, 11, 12, 13, 16, 17, 18, 19, 21, 24, 27, 28, 29, 31, 32, 35, 36, 39, 42, 43, 45, 46, 49, 50, 51, 52, 55, 58, 59, 60]
def z_p322 : List Nat := [0, 1, 2, 5, 6, 7, 8, 9, 10, 11, 14, 15, 16, 17, 18, 19, 20, 21, 22, 25, 26, 27, 30, 31, 32, 33, 34, 37, 38, 39, 42, 43, 44, 45, 46, 47, 50, 51, 54, 57, 58, 59, 60, 63, 64, 65, 66, 69, 72, 75, 78, 79, 80, 83, 84]
def z_p323 : List Nat := [0, 1, 2, 5, 8, 9, 10, 13, 14, 15, 16, 19, 22, 23, 25, 28, 29, 30, 31, 32, 33, 34, 37, 38, 41, 42, 43, 46, 49, 50]
def z_p324 : List Nat := [0, 1, 2, 5, 8, 9, 10, 11, 14, 17, 20, 21, 22, 25, 26]
def z_p325 : List Nat := [0, 1, 2, 3, 4, 5, 6, 7, 10, 11, 12, 13, 14, 17, 20, 21, 22, 25, 28, 29, 30, 31, 34, 37, 38, 39]
def z_p326 : List Nat := [0, 1, 2, 3, 4, 5, 6, 9, 10, 11, 14, 15, 16, 17, 18, 21, 24, 25, 28, 29, 32, 33, 36, 37, 38, 39, 42, 45, 46, 47]
def z_p327 : List Nat := [0, 1, 2, 5, 8, 9, 10, 11, 12, 15, 18, 21, 24, 25, 26, 29, 30]
def z_p328 : List Nat := [0, 1, 2, 5, 8, 9, 10, 13, 14, 15, 16, 17, 18, 21, 22, 23, 24, 26, 28, 29, 32, 33, 34, 35, 38, 40, 43, 46, 47, 48, 51, 53, 54, 57, 60, 61, 62, 65, 68, 69, 72, 73, 74, 75, 78, 79, 82, 83, 84, 85, 88, 91, 92, 93, 96, 97, 98, 101, 102]
def z_p329 : List Nat := [0, 1, 2, 5, 6, 7, 8, 9, 10, 11, 12, 15, 16, 17, 18, 19, 20, 21, 22, 25, 26, 29, 30, 31, 32, 33, 34, 35, 36, 39, 40, 41, 44, 45, 46, 47, 50, 53, 54, 55, 58, 59, 60, 61, 62, 65, 66, 69, 70, 72, 74, 77, 78, 81, 82, 83, 84, 85, 88, 89, 90, 91, 92, 93, 94, 95, 96, 97, 98, 101, 104, 107, 110, 111, 112, 115, 116, 117, 120, 121]
def z_p330 : List Nat := [0, 1, 4, 5, 6, 9, 10, 11, 12, 13, 14, 15, 17, 19, 20, 23, 25, 26, 29, 30, 31, 34, 35, 38, 39, 40, 41, 42, 43, 44, 45, 46, 49, 52, 53, 54, 57, 58, 59, 60, 61, 64, 67, 70, 71, 72, 73, 74, 75, 76, 79, 82, 83, 84, 87, 88, 89, 92, 93, 95, 98, 101, 102, 103, 106, 107]
def z_p331 : List Nat := [0, 1, 2, 5, 8, 9, 10, 13, 16, 17, 18, 21, 22, 23, 24, 25, 28, 29, 30, 31, 32, 33, 36, 39, 40, 43, 44, 45, 46, 49, 50, 51, 52, 53, 56, 59, 60]
def z_p332 : List Nat := [0, 1, 2, 5, 8, 9, 12, 15, 16, 17, 18, 21, 24, 27, 28, 29, 30, 33, 34, 35, 36, 39, 40, 41, 42, 45, 46, 47, 48, 49, 50, 53, 54, 55, 56, 58, 60, 61, 64, 66, 67, 68, 69, 71, 72, 73, 75, 76, 79, 81, 82, 83, 84, 85, 88, 89, 90, 91, 94, 97, 98, 101, 103, 104, 105, 106, 107, 110, 113, 116, 117, 118, 121, 124, 125, 126]
def z_p333 : List Nat := [0, 1, 3, 4, 6, 8, 10, 13, 14, 17, 19, 20, 21, 22, 24, 26, 27, 30, 32, 33, 34, 35, 37, 38, 39, 41, 42, 43, 44, 47, 49, 50, 51, 53, 56, 57, 58, 61, 63, 64, 65, 66, 67, 70, 71, 74, 76, 77, 78, 81, 84, 86, 87, 90, 92, 93, 96, 97, 100, 101, 102, 104, 107, 110, 112, 113]
def z_p334 : List Nat := [0, 1, 2, 3, 4, 7, 9, 11, 14, 15, 17, 20, 23, 24, 25, 26, 27, 28, 31, 34, 35]
def z_p335 : List Nat := [0, 2, 5, 6, 9, 10, 11, 12, 13, 16, 18, 20, 23, 24, 26, 29, 30, 31, 32, 33, 34, 37, 38, 40, 42, 43, 45, 47, 49, 52, 53, 56, 58, 59, 62, 65, 67, 70, 71, 73, 76, 77, 80, 83, 86, 87, 89, 92, 93]
def z_p336 : List Nat := [0, 1, 2, 3, 5, 7, 9, 12, 13, 15, 16, 18, 20, 22, 25, 27, 28, 31, 33, 34, 37, 38, 41, 43, 44, 47, 48, 49, 50, 52, 55, 56, 57, 58, 60, 63, 66, 67, 70, 71, 72, 74, 77, 80, 81, 83, 86, 87, 90, 93, 94, 95]
def z_p337 : List Nat := [0, 1, 2, 3, 4, 7, 9, 11, 14, 15, 17, 20, 21, 22, 23, 24, 25, 28, 29, 32, 33, 35, 38, 39, 40, 42, 43, 45, 47, 48, 49, 52, 55, 56, 57, 59, 62, 63, 64, 66, 69, 72, 74, 76, 79, 82, 83, 85, 88, 89]
def z_p338 : List Nat := [0, 1, 4, 7, 8, 9, 10, 13, 16, 19, 20, 21, 24, 25, 26, 29, 30, 31, 32, 35, 36, 37, 40, 41, 42, 45, 46, 47, 48, 51, 52, 53, 56, 57, 58, 59, 60, 61, 64, 65, 68, 70, 71, 72, 73, 74, 75, 76, 77, 78, 81, 82, 83, 84, 87, 90, 91, 92, 95, 96, 99, 102, 103, 104, 105, 107, 109, 110, 113, 114, 115, 118, 119, 121, 124, 126, 127, 129, 130, 132, 134, 135, 138, 140, 143, 144, 146, 147, 150, 152, 153, 154, 156, 157, 158, 159, 162, 165, 166, 169, 170, 172, 175, 178, 179, 181, 184, 185, 187, 188, 191, 192, 193, 194, 197, 200, 201, 202, 205, 206]
def z_p339 : List Nat := [0, 1, 2, 5, 6, 7, 8, 9, 10, 13, 15, 17, 18, 21, 22, 23, 25, 28, 31, 33, 36, 37, 38]
def z_p340 : List Nat := [0, 1, 2, 5, 6, 7, 8, 10, 11, 13, 15, 16, 19, 20, 21, 22, 24, 27, 29, 31, 32, 35, 36, 39, 42, 44, 45, 47, 48, 49, 50, 52, 53, 54, 57, 58, 60, 63, 66, 68, 69]
def z_p341 : List Nat := [0, 1, 3, 5, 6, 9, 10, 11, 12, 14, 17, 19, 21, 22, 25, 26, 27, 29, 31, 33, 34, 35, 38, 41, 43, 44, 47, 50, 51, 52]
def z_p342 : List Nat := [0, 1, 2, 5, 7, 8, 10, 12, 13, 16, 17, 19, 21, 23, 25, 26, 29, 31, 33, 34, 36, 38, 40, 41, 43, 44, 47, 50, 52, 53, 55, 57, 58, 59, 61, 62, 64, 66, 69, 71, 74, 75, 76, 77, 79, 81, 83, 86, 87, 90, 91, 94, 95, 96, 99, 102, 105, 108, 109]
def z_p343 : List Nat := [0, 1, 2, 5, 8, 9, 10, 13, 16, 17, 18, 21, 22, 25, 26, 27]
def z_p344 : List Nat := [0, 1, 2, 3, 6, 9, 10, 11, 12, 15, 18, 21, 22, 23, 26, 27, 28, 29, 30, 31, 34, 35, 36, 39, 42, 43, 44, 46, 47, 48, 49, 52, 53, 54, 55, 56, 57, 60, 61, 62, 65, 66, 69, 70, 73, 74]
def z_p345 : List Nat := [0, 1, 2, 3, 6, 9, 10, 11, 12, 15, 18, 21, 22, 23, 26, 27, 28, 29, 30, 31, 34, 35, 38, 41, 42, 43, 45, 46, 47, 48, 51, 52, 53, 54, 55, 56, 59, 60, 61, 64, 65, 67, 70, 71, 72, 73, 74, 75, 76, 77, 78, 81, 82, 83, 84, 87, 88, 91, 94, 95]
def z_p346 : List Nat := [0, 1, 2, 5, 8, 9, 10, 13, 16, 17, 18, 21, 22, 23, 24, 25, 28, 29, 30, 32, 35, 36, 38, 41, 42, 43, 45, 46, 48, 49, 51, 53, 54, 57, 59, 61, 62, 65, 66, 67, 68, 69, 70, 72, 74, 77, 78, 80, 83, 86, 87, 89, 91, 94, 95]
def z_p347 : List Nat := [0, 1, 2, 3, 6, 9, 12, 13, 14, 15, 18, 21, 24, 25, 26, 29, 30, 31, 32, 33, 35, 37, 39, 42, 43, 46, 48, 50, 53, 54, 57, 58, 59, 62, 65, 66, 68, 70, 71, 74, 76, 78, 80, 83, 84, 87, 89, 90, 93, 95, 96, 98, 99, 102, 103, 104, 105, 106, 107, 109, 112, 113, 116, 117, 120, 122, 123, 124, 125, 126, 129, 130, 131, 132, 133, 134, 135, 138, 141, 142, 145, 146, 147, 150, 153, 154, 156, 157, 159, 161, 163, 166, 168, 169, 172, 174, 175, 176, 178, 181, 184, 185, 187, 188, 191, 192]
def z_p348 : List Nat := [0, 1, 4, 7, 8, 9, 12, 13, 14, 17, 18, 19, 20, 23, 24, 25, 28, 29, 30, 33, 34, 35, 36, 37, 40, 43, 44, 45, 48, 49, 50, 51, 52, 53, 54, 57, 60, 61, 64, 66, 67, 68, 69, 70, 71, 74, 76, 77, 78, 79, 80, 81, 84, 85, 86, 89, 90, 93, 96, 97, 98, 99, 102, 105, 106]
def z_p349 : List Nat := [0, 1, 2, 5, 8, 9, 12, 13, 16, 17, 20, 21, 24, 26, 27, 28, 29, 30]
def z_p350 : List Nat := [0, 1, 2, 3, 6, 7, 8, 9, 12, 13, 14, 15, 18, 19, 20, 21, 22, 23, 24, 25, 28, 29, 30, 31, 32, 33, 34, 35, 36]
def z_p351 : List Nat := [0, 1, 2, 3, 6, 9, 10, 11, 12, 13, 16, 17, 18]
def z_p352 : List Nat := [0, 1, 4, 5, 6, 7, 8, 11, 14, 15, 16, 17, 18, 21, 22, 23]
def z_p353 : List Nat := [0, 1, 4, 5, 6, 9, 10, 11, 12, 13, 16, 17, 18, 21, 22, 23, 24, 27, 28, 29, 30, 33, 36, 37, 38, 41, 44, 45, 48, 49, 52, 53, 54, 55, 58, 59]
def z_p354 : List Nat := [0, 1, 4, 5, 6, 7, 8, 9, 10, 13, 14, 15, 52, 53, 54, 55, 58, 59, 60, 61, 62, 65, 66, 67, 68, 69, 72, 73, 74, 75, 76, 79, 80, 81, 82, 85, 88, 89, 92, 93, 94, 95, 96, 99, 102, 103, 106, 107, 108, 109, 110, 113, 114, 115, 118, 119, 120, 121]
def z_p355 : List Nat := [0, 1, 4, 5, 6, 9, 10, 11, 12, 15, 16, 17, 18, 19, 20, 21, 23, 26, 27, 28, 31, 32, 33, 35, 38, 39, 40, 41, 44, 45, 48, 49, 50, 51, 52, 55, 56, 59, 60, 61, 62, 63, 66, 67, 70, 72, 73, 74, 75, 78, 79, 80, 81, 84, 87, 89, 90, 93, 94, 95, 96, 97, 99, 102, 104, 105, 108, 109, 110, 111, 112, 115, 116, 119, 120, 123, 124, 127, 128, 129, 130, 131, 133, 136, 138, 139, 142, 143, 144, 145, 146, 149, 150, 153, 154, 157, 159, 160, 163, 164, 165, 166, 167, 170, 171, 174, 175, 176]
def z_p356 : List Nat := [0, 1, 2, 3, 4, 7, 9, 10, 13, 14, 17, 19, 21, 22, 23, 24, 25, 27, 30, 31, 34, 36, 38, 39, 40, 41, 42, 43, 44, 45, 46, 49, 51, 53, 54, 55, 56, 57, 59, 62, 63, 66, 67, 68, 71, 72, 75, 76, 78, 79, 82, 83, 84, 85, 87, 90, 91, 94, 95, 96, 97, 99, 102, 103, 104, 105, 108, 109, 110, 111, 112, 115, 116, 117]
def z_p357 : List Nat := [0, 1, 2, 5, 6, 7, 10, 11, 12, 15, 16, 17, 18, 19, 22, 23, 26, 27, 28, 29, 32, 35, 36, 37, 38, 39, 42, 44, 45, 48, 49, 52, 53, 54, 57, 59, 61, 62, 63, 64, 65, 66, 69, 72, 75, 76, 79, 80, 81, 82, 85, 86, 87, 90, 91, 92, 95, 96, 99, 100, 101, 103, 106, 109, 110, 113, 114, 115, 116, 117, 118, 121, 124, 125, 128, 129, 130, 131, 132, 135, 136, 137, 139, 142, 143, 146, 147, 148, 151, 152, 153, 154, 155, 156, 157, 158, 159, 160, 163, 164, 165, 168, 171, 172, 173, 176, 179, 180, 183, 184, 185, 186, 187, 188, 189, 192, 193, 194, 195, 198, 199, 202, 203, 206, 207, 208, 211, 212, 213]
def z_p358 : List Nat := [0, 1, 2, 3, 6, 9, 12, 13, 14, 17, 18, 19, 22, 24, 25, 26, 29, 30, 32, 35, 36, 37, 38, 41, 42, 43, 44, 45, 48, 49, 52, 53, 54, 57, 58, 59, 60, 63, 66, 67, 68, 71, 72, 73, 76, 79, 80]
def z_p359 : List Nat := [0, 1, 4, 5, 6, 9, 10, 11, 14, 17, 18, 21, 24, 25, 26, 29, 30, 31, 34, 37, 38, 40, 43, 44]
def z_p360 : List Nat := [0, 1, 2, 3, 6, 9, 12, 13, 14, 15, 18, 21, 24, 25, 26, 27, 28, 29, 32, 35, 36, 37, 40, 41, 42, 45, 47, 48, 49, 52, 53, 55, 58, 59, 60, 61, 62, 64, 67, 68, 71, 74, 75, 76, 77, 80, 81, 82, 83, 86, 89, 90, 91, 92, 94, 96, 97, 100, 101, 102, 104, 105, 108, 109, 110, 111, 114, 115, 116, 117, 118, 120, 122, 124, 127, 128, 131, 133, 134, 137, 140, 142, 143, 144, 145, 148, 151, 154, 157, 158, 159, 160, 161, 164, 165]
def z_p361 : List Nat := [0, 1, 2, 3, 6, 9, 10, 13, 16, 17, 18, 19, 20, 21, 24, 27, 28, 29, 30, 31, 32, 33, 36, 39, 40, 41, 42, 44, 47, 48, 51, 53, 54, 55, 56, 57, 58, 61, 63, 64, 65, 66, 67, 68, 69, 72, 75, 76]
def z_p362 : List Nat := [0, 1, 4, 5, 8, 9, 10, 13, 14, 15, 16, 19, 20, 21, 24, 25, 26, 27, 30, 33, 34, 35, 38, 41, 42]
def z_p363 : List Nat := [0, 1, 4, 7, 8, 10, 13, 14, 15, 16, 19, 20, 23, 24, 25, 28, 29, 30, 33, 34, 35, 38, 41, 42]
def z_p364 : List Nat := [0, 1, 2, 3, 4, 7, 8, 9, 10, 11, 14, 15, 16, 17, 18, 21, 22, 23, 24, 25, 26, 27, 28, 29, 32, 33, 34, 35, 36, 38, 39, 40, 41, 42, 43, 45, 46, 47, 48, 49, 51, 52, 53]
def z_p365 : List Nat := [0, 3, 4, 7, 8, 11, 12, 15, 16, 17, 18, 19, 20, 21, 23, 24, 27, 28, 29, 30, 32, 33, 264, 265, 268, 269, 272, 275, 276, 277, 278, 281, 282, 285, 286, 289, 290, 291, 292, 295, 296, 299, 300, 303, 304, 305, 306, 307, 308, 309, 310, 311, 312, 313, 314, 315, 316, 317, 318, 319, 320, 321, 324, 325, 326, 327, 328, 329, 330, 331, 332, 333, 334, 335, 336, 337, 338, 339, 340, 343, 346, 347, 348, 349, 350, 351, 352, 353, 354, 355, 356, 357, 358, 359, 360, 361, 362, 363, 364, 365, 367, 368, 369, 370, 371, 372, 373, 374, 377, 378, 379, 382, 383, 384, 385, 386, 387, 388, 389, 390, 391, 392, 393, 394, 395, 396, 397, 398, 399, 401, 402, 403, 404, 405, 406, 407, 408, 411, 412, 413, 416, 419, 420, 421, 422, 423, 424, 425, 426, 427, 428, 429, 430, 431, 432, 435, 436, 437, 438, 439, 440, 441, 442, 443, 444, 445, 446, 449, 450, 453, 454, 455, 456, 457, 458, 459, 460, 461, 462, 463, 464, 465, 466, 467, 468, 469, 470, 471, 472, 473, 474, 475, 476, 477, 478, 479, 480, 481, 484, 485, 486, 487, 488, 489, 490, 491, 492, 493, 494, 495, 496, 497, 498, 499, 500, 501, 502, 503, 504, 505, 506, 507, 508, 509, 510, 513, 516, 517, 518, 519, 520, 521, 522, 523, 524, 525, 526, 527, 528, 529, 530, 531, 532, 533, 534, 535, 536, 537, 538, 539, 540, 541, 542, 543, 544, 547, 548, 549, 550, 551, 552, 553, 554, 555, 556, 557, 558, 559, 560, 561, 562, 563, 564, 565, 566, 567, 568, 569, 570, 571, 572, 573, 576, 579, 580, 581, 582, 583, 584, 585, 586, 587, 590, 591, 592, 593, 594, 595, 596, 599, 602, 603, 604, 605, 606, 607, 608, 609, 610, 613, 614, 615, 616, 617, 618, 619, 622, 625, 626, 627, 628, 629, 630, 631, 632, 633, 636, 637, 638, 639, 640, 641, 642, 645, 648, 649, 650, 651, 652, 653, 654, 655, 656, 659, 660, 661, 662, 663, 664, 665, 668, 671, 672, 673, 674, 675, 676, 677, 678, 679, 680, 681, 682, 683, 684, 687, 688, 689, 690, 691, 692, 693, 694, 695, 696, 697, 698, 701, 704, 705, 706, 707, 708, 709, 710, 711, 712, 713, 714, 715, 716, 717, 720, 721, 722, 723, 724, 725, 726, 727, 728, 729, 730, 731, 734, 737, 738, 739, 740, 741, 742, 743, 744, 745, 746, 747, 748, 749, 750, 753, 754, 755, 756, 757, 758, 759, 760, 761, 762, 763, 764, 767, 770, 771, 772, 773, 774, 775, 776, 777, 778, 779, 780, 781, 782, 783, 786, 787, 788, 789, 790, 791, 792, 793, 794, 795, 796, 797, 800, 803, 804, 805, 806, 807, 808, 809, 810, 811, 812, 813, 814, 815, 816, 819, 820, 821, 822, 823, 824, 825, 826, 827, 828, 829, 830, 833, 836, 837, 838, 839, 840, 841, 842, 843, 844, 845, 846, 847, 848, 849, 852, 853, 854, 855, 856, 857, 858, 859, 860, 861, 862, 863, 866, 869, 870, 871, 872, 873, 874, 875, 876, 877, 880, 881, 882, 883, 884, 885, 886, 889, 892, 893, 894, 895, 896, 897, 898, 899, 900, 903, 904, 905, 906, 907, 908, 909, 912, 915, 916, 917, 918, 919, 920, 921, 922, 923, 926, 927, 928, 929, 930, 931, 932, 935, 938, 939, 940, 941, 942, 943, 944, 945, 946, 947, 948, 949, 950, 951, 952, 953, 954, 955, 956, 959, 960, 961, 962, 963, 964, 965, 966, 967, 968, 969, 970, 971, 972, 973, 974, 975, 978, 981, 982, 983, 984, 985, 986, 987, 988, 989, 990, 991, 992, 993, 994, 997, 998, 999, 1000, 1001, 1002, 1003, 1004, 1005, 1006, 1007, 1008, 1011, 1014, 1015, 1016, 1017, 1018, 1019, 1020, 1021, 1022, 1023, 1024, 1025, 1026, 1027, 1028, 1029, 1030, 1031, 1032, 1035, 1036, 1039, 1040, 1043, 1044, 1045, 1046, 1047, 1048, 1049, 1050, 1051, 1052, 1053, 1054, 1055, 1056, 1057, 1058, 1059, 1062, 1063, 1066, 1067, 1070, 1073, 1074, 1075, 1076, 1077, 1078, 1079, 1080, 1081, 1084, 1085, 1086, 1087, 1088, 1089, 1090, 1093, 1096, 1097, 1098, 1099, 1100, 1101, 1102, 1103, 1104, 1107, 1108, 1109, 1110, 1111, 1112, 1113, 1116, 1119, 1120, 1121, 1122, 1123, 1124, 1125, 1126, 1127, 1130, 1131, 1132, 1133, 1134, 1135, 1136, 1139, 1142, 1143, 1144, 1145, 1146, 1147, 1148, 1149, 1150, 1151, 1152, 1153, 1154, 1155, 1158, 1159, 1160, 1161, 1162, 1163, 1164, 1165, 1166, 1167, 1168, 1169, 1172, 1175, 1176, 1177, 1178, 1179, 1180, 1181, 1182, 1183, 1184, 1185, 1186, 1187, 1188, 1189, 1190, 1191, 1192, 1193, 1196, 1197, 1198, 1199, 1200, 1201, 1202, 1203, 1204, 1205, 1206, 1207, 1208, 1209, 1210, 1211, 1212, 1215, 1218, 1219, 1220, 1221, 1222, 1223, 1224, 1225, 1226, 1227, 1228, 1229, 1230, 1231, 1234, 1235, 1236, 1237, 1238, 1239, 1240, 1241, 1242, 1243, 1244, 1245, 1248, 1251, 1252, 1253, 1254, 1255, 1256, 1257, 1258, 1259, 1260, 1261, 1262, 1263, 1264, 1267, 1268, 1269, 1270, 1271, 1272, 1273, 1274, 1275, 1276, 1277, 1278, 1281, 1284, 1285, 1286, 1287, 1288, 1289, 1290, 1291, 1292, 1293, 1294, 1295, 1296, 1297, 1300, 1301, 1302, 1303, 1304, 1305, 1306, 1307, 1308, 1309, 1310, 1311, 1314, 1317, 1318, 1319, 1320, 1323, 1324, 1327, 1330, 1331, 1332, 1333, 1334, 1335, 1336, 1337, 1338, 1341, 1342, 1343, 1344, 1345, 1346, 1347, 1350, 1353, 1354, 1355, 1356, 1357, 1358, 1359, 1360, 1361, 1364, 1365, 1366, 1367, 1368, 1369, 1370, 1373, 1376, 1377, 1378, 1379, 1380, 1381, 1382, 1383, 1384, 1387, 1388, 1389, 1390, 1391, 1392, 1393, 1396, 1399, 1400, 1401, 1402, 1403, 1404, 1405, 1406, 1407, 1410, 1411, 1412, 1413, 1414, 1415, 1416, 1419, 1422, 1423, 1424, 1425, 1428, 1429, 1432, 1435, 1436, 1437, 1438, 1439, 1440, 1441, 1442, 1443, 1446, 1447, 1448, 1449, 1450, 1451, 1452, 1455, 1458, 1459, 1460, 1461, 1462, 1463, 1464, 1465, 1466, 1467, 1468, 1469, 1470, 1471, 1474, 1475, 1476, 1477, 1478, 1479, 1480, 1481, 1482, 1483, 1484, 1485, 1488, 1491, 1492, 1493, 1494, 1495, 1496, 1497, 1498, 1499, 1500, 1501, 1502, 1503, 1504, 1505, 1506, 1507, 1508, 1509, 1512, 1513, 1514, 1515, 1516, 1517, 1518, 1519, 1520, 1521, 1522, 1523, 1524, 1525, 1526, 1527, 1528, 1531, 1534, 1535, 1536, 1537, 1538, 1539, 1540, 1541, 1542, 1543, 1544, 1545, 1546, 1547, 1548, 1549, 1550, 1551, 1552, 1553, 1554, 1555, 1556, 1557, 1560, 1561, 1562, 1563, 1564, 1565, 1566, 1567, 1568, 1569, 1570, 1571, 1572, 1573, 1574, 1575, 1576, 1577, 1578, 1579, 1580, 1581, 1584, 1587, 1588, 1589, 1590, 1591, 1592, 1593, 1594, 1595, 1596, 1597, 1598, 1599, 1600, 1601, 1602, 1603, 1604, 1605, 1608, 1609, 1610, 1611, 1612, 1613, 1614, 1615, 1616, 1617, 1618, 1619, 1620, 1621, 1622, 1623, 1624, 1627, 1630, 1631, 1632, 1633, 1634, 1635, 1636, 1637, 1638, 1639, 1640, 1641, 1642, 1643, 1646, 1647, 1648, 1649, 1650, 1651, 1652, 1653, 1654, 1655, 1656, 1657, 1660, 1663, 1664, 1665, 1666, 1667, 1668, 1669, 1670, 1671, 1672, 1673, 1674, 1675, 1676, 1677, 1678, 1679, 1680, 1681, 1684, 1685, 1686, 1687, 1688, 1689, 1690, 1691, 1692, 1693, 1694, 1695, 1696, 1697, 1698, 1699, 1700, 1703, 1706, 1707, 1708, 1709, 1710, 1711, 1712, 1713, 1714, 1715, 1716, 1717, 1718, 1719, 1720, 1721, 1722, 1723, 1724, 1727, 1728, 1729, 1730, 1731, 1732, 1733, 1734, 1735, 1736, 1737, 1738, 1739, 1740, 1741, 1742, 1743, 1746, 1749, 1750, 1751, 1752, 1753, 1754, 1755, 1756, 1757, 1758, 1759, 1760, 1761, 1762, 1765, 1766, 1767, 1768, 1769, 1770, 1771, 1772, 1773, 1774, 1775, 1776, 1779, 1782, 1783, 1784, 1785, 1786, 1787, 1788, 1789, 1790, 1791, 1792, 1793, 1794, 1795, 1798, 1799, 1800, 1801, 1802, 1803, 1804, 1805, 1806, 1807, 1808, 1809, 1812, 1815, 1816, 1817, 1818, 1819, 1820, 1821, 1822, 1823, 1826, 1827, 1828, 1829, 1830, 1831, 1832, 1835, 1838, 1839, 1840, 1841, 1842, 1843, 1844, 1845, 1846, 1849, 1850, 1851, 1852, 1853, 1854, 1855, 1858, 1861, 1862, 1863, 1864, 1865, 1866, 1867, 1868, 1869, 1872, 1873, 1874, 1875, 1876, 1877, 1878, 1881, 1884, 1885, 1886, 1887, 1888, 1889, 1890, 1891, 1892, 1893, 1894, 1895, 1896, 1897, 1900, 1901, 1902, 1903, 1904, 1905, 1906, 1907, 1908, 1909, 1910, 1911, 1914, 1917, 1918, 1919, 1920, 1923, 1924, 1927, 1930, 1931, 1932, 1933, 1936, 1937, 1940, 1943, 1944, 1945, 1948, 1951, 1952, 1953]
def z_pl_0 : List (List Nat) := [z_p0, z_p1, z_p2, z_p3, z_p4, z_p5, z_p6, z_p7, z_p8, z_p9, z_p10, z_p11, z_p12, z_p13, z_p14, z_p15, z_p16, z_p17, z_p18, z_p19]
def z_pl_1 : List (List Nat) := [z_p20, z_p21, z_p22, z_p23, z_p24, z_p25, z_p26, z_p27, z_p28, z_p29, z_p30, z_p31, z_p32, z_p33, z_p34, z_p35, z_p36, z_p37, z_p38, z_p39]
def z_pl_2 : List (List Nat) := [z_p40, z_p41, z_p42, z_p43, z_p44, z_p45, z_p46, z_p47, z_p48, z_p49, z_p50, z_p51, z_p52, z_p53, z_p54, z_p55, z_p56, z_p57, z_p58, z_p59]
def z_pl_3 : List (List Nat) := [z_p60, z_p61, z_p62, z_p63, z_p64, z_p65, z_p66, z_p67, z_p68, z_p69, z_p70, z_p71, z_p72, z_p73, z_p74, z_p75, z_p76, z_p77, z_p78, z_p79]
def z_pl_4 : List (List Nat) := [z_p80, z_p81, z_p82, z_p83, z_p84, z_p85, z_p86, z_p87, z_p88, z_p89, z_p90, z_p91, z_p92, z_p93, z_p94, z_p95, z_p96, z_p97, z_p98, z_p99]
def z_pl_5 : List (List Nat) := [z_p100, z_p101, z_p102, z_p103, z_p104, z_p105, z_p106, z_p107, z_p108, z_p109, z_p110, z_p111, z_p112, z_p113, z_p114, z_p115, z_p116, z_p117, z_p118, z_p119]
def z_pl_6 : List (List Nat) := [z_p120, z_p121, z_p122, z_p123, z_p124, z_p125, z_p126, z_p127, z_p128, z_p129, z_p130, z_p131, z_p132, z_p133, z_p134, z_p135, z_p136, z_p137, z_p138, z_p139]
def z_pl_7 : List (List Nat) := [z_p140, z_p141, z_p142, z_p143, z_p144, z_p145, z_p146, z_p147, z_p148, z_p149, z_p150, z_p151, z_p152, z_p153, z_p154, z_p155, z_p156, z_p157, z_p158, z_p159]
def z_pl_8 : List (List Nat) := [z_p160, z_p161, z_p162, z_p163, z_p164, z_p165, z_p166, z_p167, z_p168, z_p169, z_p170, z_p171, z_p172, z_p173, z_p174, z_p175, z_p176, z_p177, z_p178, z_p179]
def z_pl_9 : List (List Nat) := [z_p180, z_p181, z_p182, z_p183, z_p184, z_p185, z_p186, z_p187, z_p188, z_p189, z_p190, z_p191, z_p192, z_p193, z_p194, z_p195, z_p196, z_p197, z_p198, z_p199]
def z_pl_10 : List (List Nat) := [z_p200, z_p201, z_p202, z_p203, z_p204, z_p205, z_p206, z_p207, z_p208, z_p209, z_p210, z_p211, z_p212, z_p213, z_p214, z_p215, z_p216, z_p217, z_p218, z_p219]
def z_pl_11 : List (List Nat) := [z_p220, z_p221, z_p222, z_p223, z_p224, z_p225, z_p226, z_p227, z_p228, z_p229, z_p230, z_p231, z_p232, z_p233, z_p234, z_p235, z_p236, z_p237, z_p238, z_p239]
def z_pl_12 : List (List Nat) := [z_p240, z_p241, z_p242, z_p243, z_p244, z_p245, z_p246, z_p247, z_p248, z_p249, z_p250, z_p251, z_p252, z_p253, z_p254, z_p255, z_p256, z_p257, z_p258, z_p259]
def z_pl_13 : List (List Nat) := [z_p260, z_p261, z_p262, z_p263, z_p264, z_p265, z_p266, z_p267, z_p268, z_p269, z_p270, z_p271, z_p272, z_p273, z_p274, z_p275, z_p276, z_p277, z_p278, z_p279]
def z_pl_14 : List (List Nat) := [z_p280, z_p281, z_p282, z_p283, z_p284, z_p285, z_p286, z_p287, z_p288, z_p289, z_p290, z_p291, z_p292, z_p293, z_p294, z_p295, z_p296, z_p297, z_p298, z_p299]
def z_pl_15 : List (List Nat) := [z_p300, z_p301, z_p302, z_p303, z_p304, z_p305, z_p306, z_p307, z_p308, z_p309, z_p310, z_p311, z_p312, z_p313, z_p314, z_p315, z_p316, z_p317, z_p318, z_p319]
def z_pl_16 : List (List Nat) := [z_p320, z_p321, z_p322, z_p323, z_p324, z_p325, z_p326, z_p327, z_p328, z_p329, z_p330, z_p331, z_p332, z_p333, z_p334, z_p335, z_p336, z_p337, z_p338, z_p339]
def z_pl_17 : List (List Nat) := [z_p340, z_p341, z_p342, z_p343, z_p344, z_p345, z_p346, z_p347, z_p348, z_p349, z_p350, z_p351, z_p352, z_p353, z_p354, z_p355, z_p356, z_p357, z_p358, z_p359]
def z_pl_18 : List (List Nat) := [z_p360, z_p361, z_p362, z_p363, z_p364, z_p365]
def z_pl_s : List (List (List Nat)) := [z_pl_0, z_pl_1, z_pl_2, z_pl_3, z_pl_4, z_pl_5, z_pl_6, z_pl_7, z_pl_8, z_pl_9, z_pl_10, z_pl_11, z_pl_12, z_pl_13, z_pl_14, z_pl_15, z_pl_16, z_pl_17, z_pl_18]
def z_pl (y : Nat) : List Nat := (z_pl_s.getD (y / 20) []).getD (y % 20) []
def z_flds_1 : List (Nat × Nat × Nat × Nat) := [(0, 9, 0, 3), (0, 13, 0, 4), (0, 16, 0, 5), (0, 19, 0, 6), (0, 22, 0, 7), (0, 25, 0, 0), (0, 29, 0, 1), (0, 33, 0, 2), (1, 33, 0, 0), (1, 41, 7, 5), (1, 53, 7, 6), (1, 63, 0, 1), (1, 72, 0, 2), (1, 113, 7, 8), (1, 129, 7, 7), (2, 22, 5, 12), (2, 39, 5, 11), (3, 30, 5, 8), (3, 39, 5, 6), (3, 43, 5, 7), (4, 59, 0, 2), (4, 66, 0, 3), (4, 78, 0, 4), (4, 85, 0, 7), (4, 95, 0, 6), (4, 103, 5, 11), (4, 109, 0, 5), (4, 116, 5, 4), (4, 164, 5, 10), (5, 9, 5, 4), (5, 15, 5, 5), (5, 18, 5, 7), (5, 21, 5, 8), (5, 24, 5, 9), (5, 28, 5, 11), (5, 31, 5, 12), (5, 34, 5, 13), (5, 37, 5, 14), (5, 40, 5, 15), (5, 43, 5, 16), (5, 46, 5, 17), (5, 52, 5, 0), (5, 56, 5, 1), (5, 59, 5, 2), (5, 62, 5, 3), (5, 65, 5, 6), (5, 68, 5, 10), (6, 12, 6, 1), (6, 18, 6, 0), (6, 25, 6, 2), (6, 35, 7, 5), (6, 48, 7, 6), (6, 57, 5, 4), (6, 65, 5, 5), (6, 85, 7, 8), (6, 88, 5, 0), (6, 94, 5, 1), (6, 100, 5, 2), (6, 111, 5, 6), (6, 131, 5, 10), (6, 141, 7, 7), (7, 9, 7, 0), (7, 15, 7, 9), (7, 19, 7, 10), (7, 22, 7, 4), (7, 29, 7, 1), (7, 32, 7, 2), (7, 46, 7, 3), (7, 49, 7, 5), (7, 62, 7, 6), (7, 74, 7, 7), (7, 103, 7, 8), (9, 19, 5, 11), (9, 28, 5, 12), (9, 67, 5, 14), (9, 92, 5, 10), (11, 173, 7, 4), (11, 182, 6, 1), (11, 191, 5, 10), (11, 203, 0, 1), (11, 206, 7, 9), (11, 209, 7, 10), (11, 212, 5, 0), (11, 215, 5, 1), (11, 218, 5, 6), (11, 220, 5, 2), (11, 223, 5, 3), (11, 226, 5, 4), (11, 234, 5, 5), (11, 241, 5, 15), (11, 244, 5, 16), (11, 260, 5, 7), (11, 263, 5, 8), (11, 272, 5, 11), (11, 274, 5, 12), (11, 277, 5, 13), (11, 280, 5, 14), (11, 428, 0, 0)]
set_option maxRecDepth 20000 in
theorem zw_flds_1 : ∀ w ∈ z_flds_1.map (fun e => (.fieldLink (z_cn e.1) e.2.1 (zT e.2.2.1 e.2.2.2).1 (zT e.2.2.1 e.2.2.2).2.1 (zT e.2.2.1 e.2.2.2).2.2.1 : Cond)), w ∈ zTs := z_ch (big := tables_1_1) zin_1 _ [201, 203, 205, 207, 209, 192, 195, 198, 193, 42, 46, 196, 200, 52, 49, 135, 131, 121, 114, 118, 199, 202, 204, 210, 208, 132, 206, 108, 128, 106, 110, 117, 120, 123, 129, 134, 138, 140, 143, 145, 147, 95, 98, 101, 104, 113, 124, 237, 236, 239, 43, 45, 107, 111, 51, 96, 99, 102, 115, 125, 50, 36, 54, 56, 40, 37, 38, 39, 44, 47, 48, 53, 130, 136, 141, 127, 41, 238, 126, 197, 55, 57, 97, 100, 116, 103, 105, 109, 112, 144, 146, 119, 122, 133, 137, 139, 142, 194] (by decide +kernel) (by decide +kernel)
def z_flds_2 : List (Nat × Nat × Nat × Nat) := [(1, 12, 1, 2), (1, 18, 1, 3), (1, 22, 1, 0), (1, 26, 1, 1), (1, 37, 1, 4), (1, 103, 1, 5), (2, 9, 2, 1), (2, 15, 2, 2), (2, 18, 2, 0), (3, 9, 3, 1), (3, 15, 3, 2), (3, 18, 3, 0), (4, 11, 4, 2), (4, 17, 4, 3), (4, 20, 4, 0), (4, 24, 4, 1), (4, 28, 4, 6), (4, 36, 4, 7), (4, 39, 4, 8), (4, 42, 4, 9), (4, 45, 4, 10), (4, 48, 4, 4), (4, 52, 4, 5), (4, 55, 4, 11), (6, 29, 6, 3), (6, 32, 6, 4), (6, 120, 6, 6), (6, 123, 6, 5), (8, 11, 8, 0), (8, 15, 8, 2), (8, 19, 8, 1), (9, 9, 9, 1), (9, 15, 9, 0), (10, 9, 10, 1), (10, 15, 10, 0), (11, 9, 11, 0), (11, 18, 11, 1), (11, 25, 11, 2), (11, 29, 11, 3), (11, 35, 11, 4), (11, 44, 11, 5), (11, 53, 11, 6), (11, 57, 11, 7), (11, 61, 11, 8), (11, 70, 11, 9), (11, 79, 11, 10), (11, 86, 11, 11), (11, 93, 11, 12), (11, 100, 11, 13), (11, 104, 11, 17), (11, 109, 11, 15), (11, 113, 11, 16), (11, 155, 8, 1), (11, 198, 1, 2), (11, 438, 4, 5), (11, 441, 4, 4), (11, 444, 4, 3), (11, 447, 11, 14)]
set_option maxRecDepth 20000 in
theorem zw_flds_2 : ∀ w ∈ z_flds_2.map (fun e => (.fieldLink (z_cn e.1) e.2.1 (zT e.2.2.1 e.2.2.2).1 (zT e.2.2.1 e.2.2.2).2.1 (zT e.2.2.1 e.2.2.2).2.2.1 : Cond)), w ∈ zTs := z_ch (big := tables_1_2) zin_2 _ [29, 31, 27, 28, 32, 33, 131, 132, 130, 115, 116, 114, 57, 58, 55, 56, 64, 65, 66, 67, 68, 60, 62, 69, 0, 1, 3, 2, 158, 161, 159, 102, 101, 147, 146, 169, 170, 171, 172, 173, 174, 175, 176, 177, 178, 179, 180, 181, 182, 186, 184, 185, 160, 30, 63, 61, 59, 183] (by decide +kernel) (by decide +kernel)
def z_flds_6 : List (Nat × Nat × Nat × Nat) := [(12, 7, 12, 0), (12, 13, 12, 1), (12, 17, 12, 4), (12, 21, 12, 5), (12, 24, 12, 6), (12, 27, 12, 7), (12, 30, 12, 8), (12, 34, 12, 9), (12, 37, 12, 16), (12, 41, 12, 17), (12, 44, 12, 21), (12, 47, 12, 25), (12, 50, 12, 26), (12, 53, 12, 27), (12, 56, 12, 28), (12, 59, 12, 29), (12, 63, 12, 30), (12, 66, 12, 31), (12, 69, 12, 34), (12, 72, 12, 35), (12, 75, 12, 36), (12, 82, 12, 2), (12, 85, 12, 3), (12, 112, 12, 10), (12, 118, 12, 11), (12, 121, 12, 14), (12, 127, 12, 13), (12, 130, 12, 15), (12, 133, 12, 12), (12, 158, 12, 18), (12, 161, 12, 19), (12, 234, 12, 20), (12, 273, 12, 22), (12, 276, 12, 23), (12, 346, 12, 24), (12, 447, 12, 32), (12, 466, 12, 33), (12, 483, 12, 37), (12, 487, 12, 38)]
set_option maxRecDepth 20000 in
theorem zw_flds_6 : ∀ w ∈ z_flds_6.map (fun e => (.fieldLink (z_cn e.1) e.2.1 (zT e.2.2.1 e.2.2.2).1 (zT e.2.2.1 e.2.2.2).2.1 (zT e.2.2.1 e.2.2.2).2.2.1 : Cond)), w ∈ zTs := z_ch (big := tables_1_6) zin_6 _ [201, 202, 205, 206, 207, 208, 209, 210, 217, 218, 222, 226, 227, 228, 229, 230, 231, 232, 235, 236, 237, 203, 204, 211, 212, 215, 214, 216, 213, 219, 220, 221, 223, 224, 225, 233, 234, 238, 239] (by decide +kernel) (by decide +kernel)
def z_flds : List (Nat × Nat × Nat × Nat) := z_flds_1 ++ (z_flds_2 ++ (z_flds_6))
theorem zw_flds : ∀ w ∈ z_flds.map (fun e => (.fieldLink (z_cn e.1) e.2.1 (zT e.2.2.1 e.2.2.2).1 (zT e.2.2.1 e.2.2.2).2.1 (zT e.2.2.1 e.2.2.2).2.2.1 : Cond)), w ∈ zTs := z_app zw_flds_1 (z_app zw_flds_2 (zw_flds_6))
def z_calls : List (Nat × Nat × Nat × Nat) := [(0, 36, 203, 1), (0, 42, 200, 1), (1, 11, 0, 4), (1, 30, 1, 2), (1, 46, 7, 2), (1, 50, 104, 2), (1, 56, 9, 2), (1, 59, 8, 0), (1, 66, 103, 2), (1, 69, 94, 2), (1, 75, 11, 2), (1, 78, 10, 2), (1, 81, 200, 1), (1, 85, 106, 2), (1, 88, 208, 1), (1, 92, 199, 1), (1, 96, 4, 2), (1, 100, 12, 2), (1, 106, 13, 2), (1, 109, 107, 2), (1, 116, 3, 2), (1, 120, 48, 2), (1, 126, 14, 2), (1, 133, 54, 2), (1, 137, 101, 0), (2, 27, 199, 1), (2, 31, 63, 2), (2, 35, 18, 2), (2, 42, 207, 1), (2, 46, 16, 2), (2, 49, 206, 1), (2, 52, 200, 1), (2, 56, 48, 2), (2, 60, 19, 2), (2, 63, 58, 2), (2, 66, 203, 1), (2, 70, 57, 2), (3, 22, 206, 1), (3, 26, 207, 1), (3, 35, 199, 1), (3, 46, 25, 2), (3, 49, 200, 1), (3, 59, 27, 2), (3, 62, 29, 2), (4, 32, 200, 1), (4, 62, 33, 2), (4, 69, 199, 1), (4, 75, 34, 2), (4, 81, 35, 2), (4, 88, 43, 2), (4, 92, 37, 2), (4, 98, 64, 2), (4, 106, 61, 2), (4, 112, 36, 0), (4, 119, 38, 2), (4, 123, 39, 2), (4, 126, 40, 2), (4, 129, 41, 2), (4, 132, 42, 2), (4, 135, 67, 2), (4, 138, 68, 2), (4, 142, 69, 2), (4, 145, 70, 2), (4, 148, 72, 2), (4, 151, 73, 2), (4, 154, 74, 2), (4, 157, 75, 2), (4, 160, 76, 2), (4, 167, 44, 2), (5, 49, 46, 2), (5, 71, 202, 1), (5, 75, 203, 1), (5, 79, 204, 1), (5, 82, 48, 2), (5, 86, 200, 1), (5, 90, 49, 2), (5, 94, 206, 1), (5, 98, 199, 1), (5, 107, 364, 0), (5, 116, 62, 2), (5, 120, 64, 2), (5, 123, 207, 1), (5, 127, 57, 2), (5, 130, 59, 2), (5, 133, 71, 2), (5, 136, 201, 1), (5, 143, 69, 2), (5, 146, 65, 2), (5, 149, 79, 2), (6, 11, 45, 3), (6, 22, 46, 2), (6, 41, 82, 2), (6, 45, 104, 2), (6, 51, 83, 2), (6, 54, 84, 2), (6, 61, 85, 2), (6, 68, 86, 2), (6, 71, 87, 2), (6, 74, 103, 2), (6, 78, 94, 2), (6, 81, 107, 2), (6, 91, 105, 2), (6, 97, 106, 2), (6, 103, 48, 2), (6, 107, 200, 1), (6, 114, 88, 2), (6, 117, 89, 2), (6, 127, 55, 2), (6, 134, 102, 2), (6, 137, 56, 2), (6, 144, 53, 2), (6, 148, 54, 2), (6, 151, 207, 1), (6, 154, 206, 1), (7, 25, 200, 1), (7, 35, 94, 2), (7, 38, 199, 1), (7, 42, 98, 0), (7, 52, 99, 0), (7, 55, 95, 2), (7, 58, 96, 2), (7, 65, 100, 0), (7, 68, 97, 2), (7, 71, 101, 0), (7, 89, 103, 2), (7, 92, 102, 2), (7, 95, 104, 2), (7, 99, 208, 1), (8, 22, 114, 2), (8, 26, 112, 2), (8, 30, 113, 2), (9, 24, 199, 1), (9, 31, 63, 2), (9, 35, 58, 2), (9, 39, 117, 2), (9, 42, 206, 1), (9, 45, 64, 2), (9, 49, 118, 2), (9, 51, 119, 2), (9, 55, 207, 1), (9, 59, 123, 2), (9, 63, 202, 1), (9, 70, 200, 1), (9, 74, 48, 2), (9, 78, 126, 2), (9, 81, 57, 2), (9, 89, 62, 2), (9, 96, 120, 2), (10, 19, 131, 2), (10, 23, 206, 1), (10, 27, 112, 2), (10, 33, 62, 2), (10, 39, 207, 1), (10, 43, 48, 2), (10, 47, 134, 2), (10, 50, 202, 1), (10, 54, 199, 1), (10, 58, 200, 1), (11, 17, 90, 4), (11, 24, 45, 3), (11, 34, 0, 4), (11, 41, 80, 3), (11, 50, 5, 3), (11, 67, 30, 3), (11, 76, 116, 3), (11, 85, 21, 3), (11, 92, 15, 3), (11, 99, 129, 3), (11, 108, 108, 4), (11, 116, 195, 2), (11, 120, 208, 0), (11, 124, 192, 2), (11, 128, 109, 2), (11, 132, 193, 2), (11, 136, 196, 2), (11, 140, 113, 2), (11, 144, 190, 2), (11, 148, 112, 2), (11, 152, 110, 2), (11, 158, 111, 2), (11, 162, 115, 2), (11, 166, 91, 2), (11, 169, 92, 2), (11, 176, 93, 2), (11, 179, 81, 2), (11, 185, 47, 2), (11, 188, 1, 2), (11, 194, 191, 2), (11, 197, 6, 2), (11, 200, 2, 2), (11, 230, 205, 0), (11, 237, 65, 2), (11, 247, 49, 2), (11, 250, 199, 0), (11, 254, 60, 2), (11, 257, 51, 2), (11, 266, 66, 2), (11, 269, 52, 2), (11, 283, 61, 2), (11, 286, 62, 2), (11, 290, 67, 2), (11, 293, 68, 2), (11, 297, 198, 2), (11, 300, 69, 2), (11, 303, 70, 2), (11, 306, 64, 2), (11, 309, 72, 2), (11, 312, 73, 2), (11, 315, 74, 2), (11, 318, 75, 2), (11, 321, 76, 2), (11, 324, 201, 0), (11, 328, 207, 0), (11, 331, 206, 0), (11, 334, 200, 0), (11, 338, 56, 2), (11, 342, 120, 2), (11, 345, 121, 2), (11, 347, 122, 2), (11, 351, 124, 2), (11, 354, 125, 2), (11, 357, 127, 2), (11, 360, 78, 2), (11, 363, 77, 2), (11, 366, 71, 2), (11, 369, 22, 2), (11, 372, 23, 2), (11, 375, 24, 2), (11, 378, 26, 2), (11, 381, 28, 2), (11, 384, 197, 2), (11, 388, 130, 2), (11, 391, 364, 0), (11, 396, 132, 2), (11, 399, 133, 2), (11, 402, 50, 2), (11, 406, 128, 2), (11, 409, 17, 2), (11, 412, 20, 2), (11, 415, 209, 0), (11, 421, 194, 2), (11, 425, 48, 2), (11, 432, 32, 2), (11, 435, 31, 2), (12, 78, 211, 2), (12, 88, 216, 2), (12, 92, 217, 2), (12, 95, 215, 2), (12, 99, 220, 0), (12, 102, 223, 2), (12, 106, 221, 0), (12, 115, 229, 2), (12, 124, 230, 2), (12, 136, 231, 0), (12, 139, 232, 0), (12, 164, 233, 2), (12, 167, 234, 2), (12, 170, 236, 2), (12, 173, 235, 2), (12, 177, 242, 2), (12, 183, 250, 2), (12, 186, 240, 2), (12, 190, 243, 2), (12, 193, 252, 2), (12, 197, 241, 2), (12, 201, 253, 2), (12, 205, 248, 2), (12, 208, 249, 2), (12, 211, 239, 2), (12, 215, 255, 2), (12, 218, 246, 0), (12, 221, 254, 2), (12, 224, 256, 2), (12, 227, 247, 0), (12, 230, 251, 2), (12, 237, 257, 2), (12, 240, 258, 2), (12, 243, 259, 2), (12, 246, 260, 2), (12, 249, 238, 2), (12, 252, 237, 2), (12, 255, 261, 2), (12, 258, 245, 2), (12, 261, 263, 2), (12, 264, 264, 2), (12, 267, 265, 2), (12, 270, 266, 2), (12, 279, 267, 2), (12, 282, 268, 2), (12, 285, 274, 2), (12, 288, 273, 0), (12, 294, 276, 2), (12, 298, 278, 2), (12, 301, 279, 2), (12, 304, 281, 2), (12, 307, 280, 2), (12, 310, 270, 2), (12, 313, 283, 2), (12, 316, 271, 2), (12, 319, 272, 2), (12, 322, 277, 2), (12, 325, 288, 2), (12, 330, 227, 0), (12, 334, 290, 2), (12, 337, 275, 2), (12, 340, 289, 2), (12, 343, 292, 2), (12, 349, 293, 2), (12, 352, 294, 2), (12, 355, 296, 2), (12, 358, 298, 2), (12, 361, 300, 2), (12, 366, 301, 2), (12, 374, 308, 2), (12, 377, 309, 2), (12, 381, 310, 2), (12, 384, 311, 2), (12, 387, 314, 2), (12, 390, 218, 2), (12, 393, 317, 2), (12, 396, 318, 2), (12, 399, 321, 2), (12, 402, 325, 2), (12, 405, 326, 2), (12, 412, 332, 2), (12, 415, 333, 2), (12, 418, 336, 2), (12, 421, 339, 2), (12, 424, 340, 2), (12, 428, 341, 2), (12, 432, 343, 2), (12, 437, 342, 2), (12, 441, 219, 2), (12, 451, 349, 2), (12, 454, 350, 2), (12, 457, 351, 2), (12, 460, 352, 2), (12, 463, 353, 2), (12, 469, 354, 2), (12, 472, 355, 2), (12, 475, 356, 2), (12, 480, 357, 2), (12, 490, 361, 2), (14, 9, 135, 3), (14, 12, 210, 3), (14, 13, 136, 2), (14, 17, 212, 2), (14, 18, 137, 2), (14, 22, 213, 2), (14, 23, 138, 2), (14, 26, 214, 2), (14, 27, 139, 2), (14, 31, 222, 2), (14, 34, 140, 2), (14, 38, 224, 2), (14, 39, 141, 2), (14, 43, 225, 2), (14, 44, 142, 2), (14, 48, 226, 2), (14, 49, 143, 2), (14, 53, 228, 2), (14, 54, 144, 2), (14, 58, 262, 2), (14, 59, 145, 2), (14, 62, 269, 2), (14, 63, 146, 2), (14, 66, 244, 2), (14, 67, 147, 2), (14, 70, 282, 2), (14, 71, 148, 2), (14, 75, 284, 2), (14, 76, 149, 2), (14, 79, 285, 2), (14, 80, 150, 2), (14, 83, 286, 2), (14, 84, 151, 2), (14, 87, 287, 2), (14, 88, 152, 2), (14, 91, 291, 2), (14, 92, 153, 2), (14, 95, 295, 2), (14, 96, 154, 2), (14, 99, 297, 2), (14, 100, 155, 2), (14, 103, 299, 2), (14, 104, 156, 2), (14, 107, 302, 2), (14, 108, 157, 2), (14, 112, 303, 2), (14, 113, 158, 2), (14, 116, 304, 2), (14, 117, 159, 2), (14, 121, 305, 2), (14, 122, 160, 2), (14, 125, 306, 2), (14, 126, 161, 2), (14, 130, 307, 2), (14, 131, 162, 2), (14, 134, 312, 2), (14, 135, 163, 2), (14, 138, 313, 2), (14, 139, 164, 2), (14, 142, 315, 2), (14, 143, 165, 2), (14, 146, 316, 2), (14, 147, 166, 2), (14, 150, 319, 2), (14, 151, 167, 2), (14, 154, 320, 2), (14, 155, 168, 2), (14, 158, 322, 2), (14, 159, 169, 2), (14, 162, 323, 2), (14, 163, 170, 2), (14, 166, 324, 2), (14, 167, 171, 2), (14, 170, 327, 2), (14, 171, 172, 2), (14, 174, 328, 2), (14, 175, 173, 2), (14, 178, 329, 2), (14, 179, 174, 2), (14, 182, 330, 2), (14, 183, 175, 2), (14, 186, 331, 2), (14, 187, 176, 2), (14, 190, 334, 2), (14, 191, 177, 2), (14, 195, 335, 2), (14, 196, 178, 2), (14, 199, 337, 2), (14, 200, 179, 2), (14, 203, 338, 2), (14, 204, 180, 2), (14, 207, 344, 2), (14, 208, 181, 2), (14, 211, 345, 2), (14, 212, 182, 2), (14, 216, 346, 2), (14, 217, 183, 2), (14, 220, 347, 2), (14, 221, 184, 2), (14, 224, 348, 2), (14, 225, 185, 2), (14, 228, 358, 2), (14, 229, 186, 2), (14, 232, 359, 2), (14, 233, 187, 2), (14, 236, 360, 2), (14, 237, 188, 2), (14, 240, 362, 2), (14, 241, 189, 2), (14, 244, 363, 2)]
def z_links_1 : List (Nat × Nat × Nat) := [(5, 49, 46), (6, 11, 45), (11, 24, 45), (11, 41, 80), (14, 9, 135)]
set_option maxRecDepth 20000 in
theorem zw_links_1 : ∀ w ∈ z_links_1.map (fun e => (.methodLink (z_cn e.1) e.2.1 (z_nm e.2.2) : Cond)), w ∈ zTs := z_ch (big := tables_1_1) zin_1 _ [88, 235, 84, 230, 22] (by decide +kernel) (by decide +kernel)
def z_links_2 : List (Nat × Nat × Nat) := [(11, 50, 5), (11, 67, 30), (11, 76, 116), (11, 85, 21), (11, 92, 15), (11, 99, 129), (14, 13, 136), (14, 18, 137), (14, 23, 138), (14, 27, 139)]
set_option maxRecDepth 20000 in
theorem zw_links_2 : ∀ w ∈ z_links_2.map (fun e => (.methodLink (z_cn e.1) e.2.1 (z_nm e.2.2) : Cond)), w ∈ zTs := z_ch (big := tables_1_2) zin_2 _ [21, 51, 97, 110, 126, 142, 224, 228, 232, 236] (by decide +kernel) (by decide +kernel)
def z_links_3 : List (Nat × Nat × Nat) := [(6, 22, 46), (6, 41, 82), (6, 45, 104), (6, 51, 83), (6, 54, 84), (6, 61, 85), (6, 68, 86), (6, 74, 103), (6, 78, 94), (6, 81, 107), (6, 91, 105), (6, 97, 106), (6, 103, 48), (6, 114, 88), (6, 117, 89), (6, 144, 53), (6, 148, 54), (7, 35, 94), (7, 42, 98), (7, 52, 99), (7, 55, 95), (7, 58, 96), (7, 65, 100), (7, 68, 97), (7, 71, 101), (7, 89, 103), (7, 92, 102), (7, 95, 104), (8, 22, 114), (8, 26, 112), (8, 30, 113), (11, 116, 195), (11, 120, 208), (11, 124, 192), (11, 128, 109), (11, 132, 193), (11, 136, 196), (11, 140, 113), (11, 144, 190), (11, 148, 112), (11, 152, 110), (11, 158, 111), (11, 162, 115), (11, 166, 91), (11, 169, 92), (11, 176, 93), (11, 179, 81), (14, 34, 140), (14, 39, 141), (14, 44, 142), (14, 49, 143), (14, 54, 144)]
set_option maxRecDepth 20000 in
theorem zw_links_3 : ∀ w ∈ z_links_3.map (fun e => (.methodLink (z_cn e.1) e.2.1 (z_nm e.2.2) : Cond)), w ∈ zTs := z_ch (big := tables_1_3) zin_3 _ [172, 173, 177, 185, 209, 213, 222, 189, 190, 191, 197, 205, 217, 226, 238, 230, 234, 88, 95, 98, 101, 105, 158, 161, 165, 181, 201, 195, 39, 63, 64, 0, 4, 7, 11, 15, 23, 35, 47, 51, 27, 31, 59, 69, 73, 84, 168, 19, 43, 55, 65, 80] (by decide +kernel) (by decide +kernel)
def z_links_4 : List (Nat × Nat × Nat) := [(1, 30, 1), (1, 46, 7), (1, 50, 104), (1, 56, 9), (1, 59, 8), (1, 66, 103), (1, 69, 94), (1, 75, 11), (1, 78, 10), (1, 85, 106), (1, 96, 4), (1, 100, 12), (1, 106, 13), (1, 109, 107), (1, 116, 3), (1, 120, 48), (1, 126, 14), (1, 133, 54), (1, 137, 101), (5, 82, 48), (5, 90, 49), (5, 107, 364), (5, 116, 62), (5, 120, 64), (5, 127, 57), (5, 130, 59), (5, 133, 71), (6, 71, 87), (6, 127, 55), (6, 134, 102), (6, 137, 56), (11, 185, 47), (11, 188, 1), (11, 194, 191), (11, 197, 6), (11, 200, 2), (11, 230, 205), (11, 237, 65), (11, 247, 49), (11, 250, 199), (11, 254, 60), (11, 257, 51), (11, 266, 66), (11, 269, 52), (11, 283, 61), (11, 286, 62), (11, 290, 67), (11, 293, 68), (11, 297, 198), (11, 300, 69), (11, 303, 70), (11, 306, 64), (11, 309, 72), (14, 59, 145), (14, 63, 146), (14, 67, 147), (14, 71, 148), (14, 76, 149), (14, 80, 150), (14, 84, 151), (14, 88, 152), (14, 92, 153), (14, 96, 154)]
set_option maxRecDepth 20000 in
theorem zw_links_4 : ∀ w ∈ z_links_4.map (fun e => (.methodLink (z_cn e.1) e.2.1 (z_nm e.2.2) : Cond)), w ∈ zTs := z_ch (big := tables_1_4) zin_4 _ [49, 50, 54, 55, 67, 71, 59, 72, 92, 66, 61, 76, 96, 82, 88, 81, 83, 80, 87, 195, 194, 165, 200, 121, 190, 213, 224, 14, 9, 2, 18, 22, 32, 36, 45, 101, 114, 117, 131, 135, 136, 144, 148, 157, 161, 175, 186, 196, 205, 209, 220, 232, 233, 41, 106, 110, 127, 140, 153, 171, 182, 201, 228] (by decide +kernel) (by decide +kernel)
def z_links_5 : List (Nat × Nat × Nat) := [(3, 46, 25), (3, 59, 27), (3, 62, 29), (5, 143, 69), (5, 146, 65), (5, 149, 79), (9, 31, 63), (9, 35, 58), (9, 39, 117), (9, 45, 64), (9, 49, 118), (9, 51, 119), (9, 59, 123), (9, 74, 48), (9, 78, 126), (9, 81, 57), (9, 89, 62), (11, 312, 73), (11, 315, 74), (11, 318, 75), (11, 321, 76), (11, 324, 201), (11, 328, 207), (11, 331, 206), (11, 334, 200), (11, 338, 56), (11, 342, 120), (11, 345, 121), (11, 347, 122), (11, 351, 124), (11, 354, 125), (11, 357, 127), (11, 360, 78), (11, 363, 77), (11, 366, 71), (11, 369, 22), (11, 372, 23), (11, 375, 24), (11, 378, 26), (11, 381, 28), (11, 384, 197), (11, 388, 130), (11, 402, 50), (14, 100, 155), (14, 104, 156), (14, 108, 157), (14, 113, 158), (14, 117, 159), (14, 122, 160), (14, 126, 161), (14, 131, 162), (14, 135, 163), (14, 139, 164), (14, 143, 165), (14, 147, 166), (14, 151, 167), (14, 155, 168), (14, 159, 169), (14, 163, 170), (14, 167, 171), (14, 171, 172), (14, 175, 173), (14, 179, 174), (14, 183, 175), (14, 187, 176)]
set_option maxRecDepth 20000 in
theorem zw_links_5 : ∀ w ∈ z_links_5.map (fun e => (.methodLink (z_cn e.1) e.2.1 (z_nm e.2.2) : Cond)), w ∈ zTs := z_ch (big := tables_1_5) zin_5 _ [189, 203, 215, 160, 147, 148, 71, 79, 60, 66, 67, 75, 100, 123, 124, 128, 130, 8, 12, 20, 24, 32, 41, 42, 0, 47, 56, 87, 96, 108, 116, 135, 143, 156, 165, 170, 177, 185, 199, 211, 227, 236, 231, 4, 16, 28, 33, 37, 43, 48, 52, 83, 92, 104, 112, 131, 139, 152, 161, 166, 181, 195, 207, 219, 223] (by decide +kernel) (by decide +kernel)
def z_links_6 : List (Nat × Nat × Nat) := [(2, 31, 63), (2, 35, 18), (2, 46, 16), (2, 56, 48), (2, 60, 19), (2, 63, 58), (2, 70, 57), (4, 62, 33), (4, 75, 34), (4, 81, 35), (4, 88, 43), (4, 92, 37), (4, 98, 64), (4, 106, 61), (4, 112, 36), (4, 119, 38), (4, 123, 39), (4, 126, 40), (4, 129, 41), (4, 132, 42), (4, 135, 67), (4, 138, 68), (4, 142, 69), (4, 145, 70), (4, 148, 72), (4, 151, 73), (4, 154, 74), (4, 157, 75), (4, 160, 76), (4, 167, 44), (9, 96, 120), (10, 19, 131), (10, 27, 112), (10, 33, 62), (10, 43, 48), (10, 47, 134), (11, 391, 364), (11, 396, 132), (11, 399, 133), (11, 406, 128), (11, 409, 17), (11, 412, 20), (11, 415, 209), (11, 421, 194), (11, 425, 48), (11, 432, 32), (11, 435, 31), (12, 78, 211), (14, 12, 210), (14, 191, 177), (14, 196, 178), (14, 200, 179), (14, 204, 180), (14, 208, 181), (14, 212, 182), (14, 217, 183), (14, 221, 184), (14, 225, 185), (14, 229, 186), (14, 233, 187), (14, 237, 188), (14, 241, 189)]
set_option maxRecDepth 20000 in
theorem zw_links_6 : ∀ w ∈ z_links_6.map (fun e => (.methodLink (z_cn e.1) e.2.1 (z_nm e.2.2) : Cond)), w ∈ zTs := z_ch (big := tables_1_6) zin_6 _ [60, 51, 55, 63, 64, 68, 79, 110, 115, 120, 129, 149, 124, 125, 126, 143, 153, 138, 159, 165, 147, 148, 157, 158, 142, 163, 164, 169, 170, 133, 42, 0, 4, 5, 25, 26, 7, 12, 21, 38, 47, 75, 84, 88, 100, 105, 171, 197, 193, 8, 17, 34, 43, 71, 80, 92, 96, 101, 175, 179, 183, 187] (by decide +kernel) (by decide +kernel)
def z_links_7 : List (Nat × Nat × Nat) := [(12, 88, 216), (12, 95, 215), (12, 99, 220), (12, 102, 223), (12, 106, 221), (12, 115, 229), (12, 124, 230), (12, 136, 231), (12, 139, 232), (12, 164, 233), (12, 170, 236), (12, 173, 235), (12, 177, 242), (12, 183, 250), (12, 186, 240), (12, 190, 243), (12, 193, 252), (12, 197, 241), (12, 201, 253), (12, 205, 248), (12, 211, 239), (12, 215, 255), (12, 218, 246), (12, 221, 254), (12, 224, 256), (12, 237, 257), (12, 240, 258), (12, 243, 259), (12, 252, 237), (12, 255, 261), (14, 17, 212), (14, 22, 213), (14, 26, 214), (14, 31, 222), (14, 38, 224), (14, 43, 225), (14, 48, 226), (14, 53, 228), (14, 58, 262), (14, 66, 244)]
set_option maxRecDepth 20000 in
theorem zw_links_7 : ∀ w ∈ z_links_7.map (fun e => (.methodLink (z_cn e.1) e.2.1 (z_nm e.2.2) : Cond)), w ∈ zTs := z_ch (big := tables_1_7) zin_7 _ [159, 99, 96, 107, 111, 127, 147, 151, 154, 143, 174, 168, 229, 233, 182, 225, 213, 217, 221, 198, 186, 194, 206, 209, 237, 178, 190, 202, 139, 163, 80, 84, 88, 92, 103, 114, 119, 123, 135, 131] (by decide +kernel) (by decide +kernel)
def z_links_8 : List (Nat × Nat × Nat) := [(12, 92, 217), (12, 167, 234), (12, 208, 249), (12, 227, 247), (12, 230, 251), (12, 246, 260), (12, 249, 238), (12, 258, 245), (12, 261, 263), (12, 264, 264), (12, 267, 265), (12, 270, 266), (12, 279, 267), (12, 282, 268), (12, 285, 274), (12, 288, 273), (12, 294, 276), (12, 298, 278), (12, 301, 279), (12, 304, 281), (12, 307, 280), (12, 310, 270), (12, 313, 283), (12, 316, 271), (12, 319, 272), (12, 322, 277), (12, 325, 288), (12, 330, 227), (12, 334, 290), (12, 337, 275), (12, 340, 289), (12, 343, 292), (12, 349, 293), (12, 352, 294), (12, 355, 296), (12, 358, 298), (12, 361, 300), (12, 366, 301), (12, 374, 308), (12, 377, 309), (12, 381, 310), (12, 384, 311), (14, 62, 269), (14, 70, 282), (14, 75, 284), (14, 79, 285), (14, 83, 286), (14, 87, 287), (14, 91, 291), (14, 95, 295), (14, 99, 297), (14, 103, 299), (14, 107, 302), (14, 112, 303), (14, 116, 304), (14, 121, 305), (14, 125, 306), (14, 130, 307), (14, 134, 312)]
set_option maxRecDepth 20000 in
theorem zw_links_8 : ∀ w ∈ z_links_8.map (fun e => (.methodLink (z_cn e.1) e.2.1 (z_nm e.2.2) : Cond)), w ∈ zTs := z_ch (big := tables_1_8) zin_8 _ [28, 20, 1, 9, 12, 5, 16, 24, 44, 56, 48, 52, 40, 36, 76, 112, 123, 72, 64, 68, 80, 88, 92, 100, 108, 119, 140, 133, 136, 164, 152, 160, 148, 156, 172, 180, 193, 189, 236, 231, 227, 223, 32, 60, 84, 96, 104, 115, 128, 144, 168, 176, 184, 197, 202, 206, 210, 214, 219] (by decide +kernel) (by decide +kernel)
def z_links_9 : List (Nat × Nat × Nat) := [(12, 387, 314), (12, 390, 218), (12, 393, 317), (12, 396, 318), (12, 399, 321), (12, 402, 325), (12, 405, 326), (12, 412, 332), (12, 415, 333), (12, 418, 336), (12, 421, 339), (12, 424, 340), (12, 428, 341), (12, 432, 343), (12, 437, 342), (12, 441, 219), (12, 451, 349), (12, 454, 350), (12, 457, 351), (12, 460, 352), (12, 463, 353), (12, 469, 354), (12, 472, 355), (12, 475, 356), (12, 480, 357), (12, 490, 361), (14, 138, 313), (14, 142, 315), (14, 146, 316), (14, 150, 319), (14, 154, 320), (14, 158, 322), (14, 162, 323), (14, 166, 324), (14, 170, 327), (14, 174, 328), (14, 178, 329), (14, 182, 330), (14, 186, 331), (14, 190, 334), (14, 195, 335), (14, 199, 337), (14, 203, 338), (14, 207, 344), (14, 211, 345), (14, 216, 346), (14, 220, 347), (14, 224, 348), (14, 228, 358), (14, 232, 359), (14, 236, 360), (14, 240, 362), (14, 244, 363)]
set_option maxRecDepth 20000 in
theorem zw_links_9 : ∀ w ∈ z_links_9.map (fun e => (.methodLink (z_cn e.1) e.2.1 (z_nm e.2.2) : Cond)), w ∈ zTs := z_ch (big := tables_1_9) zin_9 _ [8, 16, 28, 24, 40, 56, 60, 84, 90, 102, 127, 131, 123, 114, 119, 143, 185, 169, 173, 177, 181, 165, 190, 194, 161, 210, 0, 4, 12, 20, 32, 36, 44, 48, 52, 64, 68, 72, 76, 80, 94, 98, 106, 110, 135, 139, 147, 152, 156, 198, 202, 206, 214] (by decide +kernel) (by decide +kernel)
def z_links : List (Nat × Nat × Nat) := z_links_1 ++ (z_links_2 ++ (z_links_3 ++ (z_links_4 ++ (z_links_5 ++ (z_links_6 ++ (z_links_7 ++ (z_links_8 ++ (z_links_9))))))))
theorem zw_links : ∀ w ∈ z_links.map (fun e => (.methodLink (z_cn e.1) e.2.1 (z_nm e.2.2) : Cond)), w ∈ zTs := z_app zw_links_1 (z_app zw_links_2 (z_app zw_links_3 (z_app zw_links_4 (z_app zw_links_5 (z_app zw_links_6 (z_app zw_links_7 (z_app zw_links_8 (zw_links_9))))))))
def z_nests : List (Nat × Nat × Nat) := [(0, 36, 203), (0, 42, 200), (1, 11, 0), (1, 81, 200), (1, 88, 208), (1, 92, 199), (2, 27, 199), (2, 42, 207), (2, 49, 206), (2, 52, 200), (2, 66, 203), (3, 22, 206), (3, 26, 207), (3, 35, 199), (3, 49, 200), (4, 32, 200), (4, 69, 199), (5, 71, 202), (5, 75, 203), (5, 79, 204), (5, 86, 200), (5, 94, 206), (5, 98, 199), (5, 123, 207), (5, 136, 201), (6, 107, 200), (6, 151, 207), (6, 154, 206), (7, 25, 200), (7, 38, 199), (7, 99, 208), (9, 24, 199), (9, 42, 206), (9, 55, 207), (9, 63, 202), (9, 70, 200), (10, 23, 206), (10, 39, 207), (10, 50, 202), (10, 54, 199), (10, 58, 200), (11, 17, 90), (11, 34, 0), (11, 108, 108)]
def z_news_1 : List (Nat × Nat × Nat) := [(6, 9, 5), (11, 7, 8), (11, 15, 7), (11, 22, 5), (11, 32, 0), (11, 39, 6), (14, 7, 11)]
set_option maxRecDepth 20000 in
theorem zw_news_1 : ∀ w ∈ z_news_1.map (fun e => (.classLink (z_cn e.1) e.2.1 (z_cn e.2.2) : Cond)), w ∈ zTs := z_ch (big := tables_1_1) zin_1 _ [234, 28, 30, 82, 186, 228, 20] (by decide +kernel) (by decide +kernel)
def z_news_2 : List (Nat × Nat × Nat) := [(1, 9, 0), (11, 48, 1), (11, 65, 4), (11, 74, 9), (11, 83, 3), (11, 90, 2), (11, 97, 10)]
set_option maxRecDepth 20000 in
theorem zw_news_2 : ∀ w ∈ z_news_2.map (fun e => (.classLink (z_cn e.1) e.2.1 (z_cn e.2.2) : Cond)), w ∈ zTs := z_ch (big := tables_1_2) zin_2 _ [25, 19, 49, 95, 108, 124, 140] (by decide +kernel) (by decide +kernel)
def z_news_6 : List (Nat × Nat × Nat) := [(14, 10, 12)]
set_option maxRecDepth 20000 in
theorem zw_news_6 : ∀ w ∈ z_news_6.map (fun e => (.classLink (z_cn e.1) e.2.1 (z_cn e.2.2) : Cond)), w ∈ zTs := z_ch (big := tables_1_6) zin_6 _ [191] (by decide +kernel) (by decide +kernel)
def z_news : List (Nat × Nat × Nat) := z_news_1 ++ (z_news_2 ++ (z_news_6))
theorem zw_news : ∀ w ∈ z_news.map (fun e => (.classLink (z_cn e.1) e.2.1 (z_cn e.2.2) : Cond)), w ∈ zTs := z_app zw_news_1 (z_app zw_news_2 (zw_news_6))
def z_cons_4 : List (Nat × Nat × Int) := [(13, 265, 1431655765), (13, 266, 858993459), (13, 267, 252645135)]
set_option maxRecDepth 20000 in
theorem zw_cons_4 : ∀ w ∈ z_cons_4.map (fun e => (.constant (z_cn e.1) e.2.1 (Int32.ofInt e.2.2) : Cond)), w ∈ zTs := z_ch (big := tables_1_4) zin_4 _ [168, 169, 170] (by decide +kernel) (by decide +kernel)
def z_cons_5 : List (Nat × Nat × Int) := [(9, 62, 1000000)]
set_option maxRecDepth 20000 in
theorem zw_cons_5 : ∀ w ∈ z_cons_5.map (fun e => (.constant (z_cn e.1) e.2.1 (Int32.ofInt e.2.2) : Cond)), w ∈ zTs := z_ch (big := tables_1_5) zin_5 _ [120] (by decide +kernel) (by decide +kernel)
def z_cons_6 : List (Nat × Nat × Int) := [(4, 58, 100000), (4, 170, 65536)]
set_option maxRecDepth 20000 in
theorem zw_cons_6 : ∀ w ∈ z_cons_6.map (fun e => (.constant (z_cn e.1) e.2.1 (Int32.ofInt e.2.2) : Cond)), w ∈ zTs := z_ch (big := tables_1_6) zin_6 _ [109, 137] (by decide +kernel) (by decide +kernel)
def z_cons_7 : List (Nat × Nat × Int) := [(12, 142, 100000)]
set_option maxRecDepth 20000 in
theorem zw_cons_7 : ∀ w ∈ z_cons_7.map (fun e => (.constant (z_cn e.1) e.2.1 (Int32.ofInt e.2.2) : Cond)), w ∈ zTs := z_ch (big := tables_1_7) zin_7 _ [157] (by decide +kernel) (by decide +kernel)
def z_cons_8 : List (Nat × Nat × Int) := [(12, 373, 1000000)]
set_option maxRecDepth 20000 in
theorem zw_cons_8 : ∀ w ∈ z_cons_8.map (fun e => (.constant (z_cn e.1) e.2.1 (Int32.ofInt e.2.2) : Cond)), w ∈ zTs := z_ch (big := tables_1_8) zin_8 _ [235] (by decide +kernel) (by decide +kernel)
def z_cons_9 : List (Nat × Nat × Int) := [(12, 450, 65536)]
set_option maxRecDepth 20000 in
theorem zw_cons_9 : ∀ w ∈ z_cons_9.map (fun e => (.constant (z_cn e.1) e.2.1 (Int32.ofInt e.2.2) : Cond)), w ∈ zTs := z_ch (big := tables_1_9) zin_9 _ [189] (by decide +kernel) (by decide +kernel)
def z_cons : List (Nat × Nat × Int) := z_cons_4 ++ (z_cons_5 ++ (z_cons_6 ++ (z_cons_7 ++ (z_cons_8 ++ (z_cons_9)))))
theorem zw_cons : ∀ w ∈ z_cons.map (fun e => (.constant (z_cn e.1) e.2.1 (Int32.ofInt e.2.2) : Cond)), w ∈ zTs := z_app zw_cons_4 (z_app zw_cons_5 (z_app zw_cons_6 (z_app zw_cons_7 (z_app zw_cons_8 (zw_cons_9)))))
def z_conl_5 : List (Nat × Nat × Int) := [(11, 449, 18)]
set_option maxRecDepth 20000 in
theorem zw_conl_5 : ∀ w ∈ z_conl_5.map (fun e => (.constantLong (z_cn e.1) e.2.1 (Int64.ofInt e.2.2) : Cond)), w ∈ zTs := z_ch (big := tables_1_5) zin_5 _ [235] (by decide +kernel) (by decide +kernel)
def z_conl_6 : List (Nat × Nat × Int) := [(11, 419, 16)]
set_option maxRecDepth 20000 in
theorem zw_conl_6 : ∀ w ∈ z_conl_6.map (fun e => (.constantLong (z_cn e.1) e.2.1 (Int64.ofInt e.2.2) : Cond)), w ∈ zTs := z_ch (big := tables_1_6) zin_6 _ [87] (by decide +kernel) (by decide +kernel)
def z_conl_7 : List (Nat × Nat × Int) := [(12, 110, -1)]
set_option maxRecDepth 20000 in
theorem zw_conl_7 : ∀ w ∈ z_conl_7.map (fun e => (.constantLong (z_cn e.1) e.2.1 (Int64.ofInt e.2.2) : Cond)), w ∈ zTs := z_ch (big := tables_1_7) zin_7 _ [118] (by decide +kernel) (by decide +kernel)
def z_conl_8 : List (Nat × Nat × Int) := [(12, 328, 3), (12, 364, 99), (12, 369, 9), (12, 371, 16)]
set_option maxRecDepth 20000 in
theorem zw_conl_8 : ∀ w ∈ z_conl_8.map (fun e => (.constantLong (z_cn e.1) e.2.1 (Int64.ofInt e.2.2) : Cond)), w ∈ zTs := z_ch (big := tables_1_8) zin_8 _ [132, 188, 201, 218] (by decide +kernel) (by decide +kernel)
def z_conl_9 : List (Nat × Nat × Int) := [(12, 408, 20), (12, 410, 18), (12, 435, 4), (12, 445, 12), (12, 478, 9999), (14, 32, 4294967295)]
set_option maxRecDepth 20000 in
theorem zw_conl_9 : ∀ w ∈ z_conl_9.map (fun e => (.constantLong (z_cn e.1) e.2.1 (Int64.ofInt e.2.2) : Cond)), w ∈ zTs := z_ch (big := tables_1_9) zin_9 _ [88, 89, 118, 151, 160, 218] (by decide +kernel) (by decide +kernel)
def z_conl : List (Nat × Nat × Int) := z_conl_5 ++ (z_conl_6 ++ (z_conl_7 ++ (z_conl_8 ++ (z_conl_9))))
theorem zw_conl : ∀ w ∈ z_conl.map (fun e => (.constantLong (z_cn e.1) e.2.1 (Int64.ofInt e.2.2) : Cond)), w ∈ zTs := z_app zw_conl_5 (z_app zw_conl_6 (z_app zw_conl_7 (z_app zw_conl_8 (zw_conl_9))))
def z_math_4 : List (Nat × Nat × Nat) := [(5, 102, 2), (5, 112, 0)]
set_option maxRecDepth 20000 in
theorem zw_math_4 : ∀ w ∈ z_math_4.map (fun e => (.methodLink (z_cn e.1) e.2.1 (if e.2.2 = 0 then Lib.Math.max.name else if e.2.2 = 1 then Lib.Math.min.name else Lib.Math.abs.name) : Cond)), w ∈ zTs := z_ch (big := tables_1_4) zin_4 _ [217, 179] (by decide +kernel) (by decide +kernel)
def z_math_5 : List (Nat × Nat × Nat) := [(3, 53, 0), (5, 140, 1), (9, 84, 1)]
set_option maxRecDepth 20000 in
theorem zw_math_5 : ∀ w ∈ z_math_5.map (fun e => (.methodLink (z_cn e.1) e.2.1 (if e.2.2 = 0 then Lib.Math.max.name else if e.2.2 = 1 then Lib.Math.min.name else Lib.Math.abs.name) : Cond)), w ∈ zTs := z_ch (big := tables_1_5) zin_5 _ [193, 1, 129] (by decide +kernel) (by decide +kernel)
def z_math_6 : List (Nat × Nat × Nat) := [(10, 62, 0)]
set_option maxRecDepth 20000 in
theorem zw_math_6 : ∀ w ∈ z_math_6.map (fun e => (.methodLink (z_cn e.1) e.2.1 (if e.2.2 = 0 then Lib.Math.max.name else if e.2.2 = 1 then Lib.Math.min.name else Lib.Math.abs.name) : Cond)), w ∈ zTs := z_ch (big := tables_1_6) zin_6 _ [33] (by decide +kernel) (by decide +kernel)
def z_math_7 : List (Nat × Nat × Nat) := [(12, 143, 1)]
set_option maxRecDepth 20000 in
theorem zw_math_7 : ∀ w ∈ z_math_7.map (fun e => (.methodLink (z_cn e.1) e.2.1 (if e.2.2 = 0 then Lib.Math.max.name else if e.2.2 = 1 then Lib.Math.min.name else Lib.Math.abs.name) : Cond)), w ∈ zTs := z_ch (big := tables_1_7) zin_7 _ [158] (by decide +kernel) (by decide +kernel)
def z_math_8 : List (Nat × Nat × Nat) := [(12, 291, 0)]
set_option maxRecDepth 20000 in
theorem zw_math_8 : ∀ w ∈ z_math_8.map (fun e => (.methodLink (z_cn e.1) e.2.1 (if e.2.2 = 0 then Lib.Math.max.name else if e.2.2 = 1 then Lib.Math.min.name else Lib.Math.abs.name) : Cond)), w ∈ zTs := z_ch (big := tables_1_8) zin_8 _ [127] (by decide +kernel) (by decide +kernel)
def z_math : List (Nat × Nat × Nat) := z_math_4 ++ (z_math_5 ++ (z_math_6 ++ (z_math_7 ++ (z_math_8))))
theorem zw_math : ∀ w ∈ z_math.map (fun e => (.methodLink (z_cn e.1) e.2.1 (if e.2.2 = 0 then Lib.Math.max.name else if e.2.2 = 1 then Lib.Math.min.name else Lib.Math.abs.name) : Cond)), w ∈ zTs := z_app zw_math_4 (z_app zw_math_5 (z_app zw_math_6 (z_app zw_math_7 (zw_math_8))))
def z_strm_3 : List (Nat × Nat × Nat) := [(7, 80, 0), (7, 85, 1)]
set_option maxRecDepth 20000 in
theorem zw_strm_3 : ∀ w ∈ z_strm_3.map (fun e => (.methodLink (z_cn e.1) e.2.1 (if e.2.2 = 0 then yJ0_length_8abf5 else yJ0_charAt_5068e) : Cond)), w ∈ zTs := z_ch (big := tables_1_3) zin_3 _ [110, 120] (by decide +kernel) (by decide +kernel)
def z_strm_7 : List (Nat × Nat × Nat) := [(12, 148, 0), (12, 154, 1)]
set_option maxRecDepth 20000 in
theorem zw_strm_7 : ∀ w ∈ z_strm_7.map (fun e => (.methodLink (z_cn e.1) e.2.1 (if e.2.2 = 0 then yJ0_length_8abf5 else yJ0_charAt_5068e) : Cond)), w ∈ zTs := z_ch (big := tables_1_7) zin_7 _ [172, 173] (by decide +kernel) (by decide +kernel)
def z_strm : List (Nat × Nat × Nat) := z_strm_3 ++ (z_strm_7)
theorem zw_strm : ∀ w ∈ z_strm.map (fun e => (.methodLink (z_cn e.1) e.2.1 (if e.2.2 = 0 then yJ0_length_8abf5 else yJ0_charAt_5068e) : Cond)), w ∈ zTs := z_app zw_strm_3 (zw_strm_7)
def z_oin_1 : List (Nat × Nat) := [(0, 1), (5, 3), (6, 3), (7, 3), (11, 1)]
set_option maxRecDepth 20000 in
theorem zw_oin_1 : ∀ w ∈ z_oin_1.map (fun e => (.methodLink (z_cn e.1) e.2 objectInit : Cond)), w ∈ zTs := z_ch (big := tables_1_1) zin_1 _ [191, 87, 233, 35, 25] (by decide +kernel) (by decide +kernel)
def z_oin_2 : List (Nat × Nat) := [(1, 3), (2, 3), (3, 3), (4, 3), (8, 3), (9, 3), (10, 3)]
set_option maxRecDepth 20000 in
theorem zw_oin_2 : ∀ w ∈ z_oin_2.map (fun e => (.methodLink (z_cn e.1) e.2 objectInit : Cond)), w ∈ zTs := z_ch (big := tables_1_2) zin_2 _ [24, 129, 113, 54, 157, 100, 145] (by decide +kernel) (by decide +kernel)
def z_oin_6 : List (Nat × Nat) := [(12, 1)]
set_option maxRecDepth 20000 in
theorem zw_oin_6 : ∀ w ∈ z_oin_6.map (fun e => (.methodLink (z_cn e.1) e.2 objectInit : Cond)), w ∈ zTs := z_ch (big := tables_1_6) zin_6 _ [196] (by decide +kernel) (by decide +kernel)
def z_oin : List (Nat × Nat) := z_oin_1 ++ (z_oin_2 ++ (z_oin_6))
theorem zw_oin : ∀ w ∈ z_oin.map (fun e => (.methodLink (z_cn e.1) e.2 objectInit : Cond)), w ∈ zTs := z_app zw_oin_1 (z_app zw_oin_2 (zw_oin_6))
def z_anews_1 : List (Nat × Nat × Nat) := [(11, 7, 18), (11, 22, 15), (11, 32, 10)]
set_option maxRecDepth 20000 in
theorem zw_anews_1 : ∀ w ∈ z_anews_1.map (fun e => (.classLink (z_cn e.1) e.2.1 (z_cn (e.2.2 - 10)) : Cond)), w ∈ zTs := z_ch (big := tables_1_1) zin_1 _ [28, 82, 186] (by decide +kernel) (by decide +kernel)
def z_anews : List (Nat × Nat × Nat) := z_anews_1
theorem zw_anews : ∀ w ∈ z_anews.map (fun e => (.classLink (z_cn e.1) e.2.1 (z_cn (e.2.2 - 10)) : Cond)), w ∈ zTs := zw_anews_1
def z_strc : List (Nat × Nat × Nat) := [(7, 78, 0), (12, 181, 1)]
def z_mstat_1 : List (Nat) := [(202)]
set_option maxRecDepth 20000 in
theorem zw_mstat_1 : ∀ w ∈ z_mstat_1.map (fun e => (.static (z_nm e) : Cond)), w ∈ zTs := z_ch (big := tables_1_1) zin_1 _ [93] (by decide +kernel) (by decide +kernel)
def z_mstat_3 : List (Nat) := [(98), (99), (100), (101), (199), (200), (208)]
set_option maxRecDepth 20000 in
theorem zw_mstat_3 : ∀ w ∈ z_mstat_3.map (fun e => (.static (z_nm e) : Cond)), w ∈ zTs := z_ch (big := tables_1_3) zin_3 _ [96, 99, 159, 166, 93, 78, 5] (by decide +kernel) (by decide +kernel)
def z_mstat_4 : List (Nat) := [(8), (201), (203), (204), (205), (206), (207), (364)]
set_option maxRecDepth 20000 in
theorem zw_mstat_4 : ∀ w ∈ z_mstat_4.map (fun e => (.static (z_nm e) : Cond)), w ∈ zTs := z_ch (big := tables_1_4) zin_4 _ [68, 238, 27, 30, 115, 7, 4, 166] (by decide +kernel) (by decide +kernel)
def z_mstat_6 : List (Nat) := [(36), (209)]
set_option maxRecDepth 20000 in
theorem zw_mstat_6 : ∀ w ∈ z_mstat_6.map (fun e => (.static (z_nm e) : Cond)), w ∈ zTs := z_ch (big := tables_1_6) zin_6 _ [127, 85] (by decide +kernel) (by decide +kernel)
def z_mstat_7 : List (Nat) := [(220), (221), (231), (232), (246)]
set_option maxRecDepth 20000 in
theorem zw_mstat_7 : ∀ w ∈ z_mstat_7.map (fun e => (.static (z_nm e) : Cond)), w ∈ zTs := z_ch (big := tables_1_7) zin_7 _ [97, 112, 152, 155, 207] (by decide +kernel) (by decide +kernel)
def z_mstat_8 : List (Nat) := [(227), (247), (273)]
set_option maxRecDepth 20000 in
theorem zw_mstat_8 : ∀ w ∈ z_mstat_8.map (fun e => (.static (z_nm e) : Cond)), w ∈ zTs := z_ch (big := tables_1_8) zin_8 _ [134, 10, 113] (by decide +kernel) (by decide +kernel)
def z_mstat : List (Nat) := z_mstat_1 ++ (z_mstat_3 ++ (z_mstat_4 ++ (z_mstat_6 ++ (z_mstat_7 ++ (z_mstat_8)))))
theorem zw_mstat : ∀ w ∈ z_mstat.map (fun e => (.static (z_nm e) : Cond)), w ∈ zTs := z_app zw_mstat_1 (z_app zw_mstat_3 (z_app zw_mstat_4 (z_app zw_mstat_6 (z_app zw_mstat_7 (zw_mstat_8)))))
def z_minst_1 : List (Nat) := [(0), (45), (46), (80), (90), (135)]
set_option maxRecDepth 20000 in
theorem zw_minst_1 : ∀ w ∈ z_minst_1.map (fun e => (.instanceMethod (z_nm e) : Cond)), w ∈ zTs := z_ch (big := tables_1_1) zin_1 _ [189, 85, 89, 231, 33, 23] (by decide +kernel) (by decide +kernel)
def z_minst_2 : List (Nat) := [(5), (15), (21), (30), (108), (116), (129), (136), (137), (138), (139)]
set_option maxRecDepth 20000 in
theorem zw_minst_2 : ∀ w ∈ z_minst_2.map (fun e => (.instanceMethod (z_nm e) : Cond)), w ∈ zTs := z_ch (big := tables_1_2) zin_2 _ [22, 127, 111, 52, 155, 98, 143, 225, 229, 233, 237] (by decide +kernel) (by decide +kernel)
def z_minst_3 : List (Nat) := [(48), (53), (54), (81), (82), (83), (84), (85), (86), (88), (91), (92), (93), (94), (95), (96), (97), (102), (103), (104), (105), (106), (107), (109), (110), (111), (112), (113), (114), (115), (140), (141), (142), (143), (144), (190), (192), (193), (195), (196)]
set_option maxRecDepth 20000 in
theorem zw_minst_3 : ∀ w ∈ z_minst_3.map (fun e => (.instanceMethod (z_nm e) : Cond)), w ∈ zTs := z_ch (big := tables_1_3) zin_3 _ [218, 231, 235, 169, 175, 187, 211, 215, 224, 228, 70, 74, 85, 89, 103, 107, 163, 202, 182, 178, 198, 206, 192, 12, 28, 32, 52, 36, 41, 60, 20, 44, 56, 66, 81, 49, 9, 17, 2, 25] (by decide +kernel) (by decide +kernel)
def z_minst_4 : List (Nat) := [(1), (2), (3), (4), (6), (7), (9), (10), (11), (12), (13), (14), (47), (49), (51), (52), (55), (56), (57), (59), (60), (61), (62), (64), (65), (66), (67), (68), (69), (70), (71), (72), (87), (89), (145), (146), (147), (148), (149), (150), (151), (152), (153), (154), (191), (198)]
set_option maxRecDepth 20000 in
theorem zw_minst_4 : ∀ w ∈ z_minst_4.map (fun e => (.instanceMethod (z_nm e) : Cond)), w ∈ zTs := z_ch (big := tables_1_4) zin_4 _ [33, 102, 89, 62, 46, 52, 57, 94, 74, 78, 98, 85, 23, 132, 145, 158, 10, 19, 191, 214, 137, 162, 176, 122, 118, 149, 187, 197, 210, 221, 225, 234, 16, 0, 42, 107, 111, 128, 141, 154, 172, 183, 202, 229, 38, 207] (by decide +kernel) (by decide +kernel)
def z_minst_5 : List (Nat) := [(22), (23), (24), (25), (26), (27), (28), (29), (50), (58), (63), (73), (74), (75), (76), (77), (78), (79), (117), (118), (119), (120), (121), (122), (123), (124), (125), (126), (127), (130), (155), (156), (157), (158), (159), (160), (161), (162), (163), (164), (165), (166), (167), (168), (169), (170), (171), (172), (173), (174), (175), (176), (197)]
set_option maxRecDepth 20000 in
theorem zw_minst_5 : ∀ w ∈ z_minst_5.map (fun e => (.instanceMethod (z_nm e) : Cond)), w ∈ zTs := z_ch (big := tables_1_5) zin_5 _ [171, 178, 186, 191, 200, 205, 212, 217, 232, 80, 72, 9, 13, 21, 25, 157, 144, 150, 62, 69, 77, 57, 88, 97, 102, 109, 117, 126, 136, 237, 5, 17, 29, 34, 38, 44, 49, 53, 84, 93, 105, 113, 132, 140, 153, 162, 167, 182, 196, 208, 220, 224, 229] (by decide +kernel) (by decide +kernel)
def z_minst_6 : List (Nat) := [(16), (17), (18), (19), (20), (31), (32), (33), (34), (35), (37), (38), (39), (40), (41), (42), (43), (44), (128), (131), (132), (133), (134), (177), (178), (179), (180), (181), (182), (183), (184), (185), (186), (187), (188), (189), (194), (210), (211)]
set_option maxRecDepth 20000 in
theorem zw_minst_6 : ∀ w ∈ z_minst_6.map (fun e => (.instanceMethod (z_nm e) : Cond)), w ∈ zTs := z_ch (big := tables_1_6) zin_6 _ [57, 48, 53, 66, 76, 172, 106, 112, 117, 122, 151, 145, 155, 140, 161, 167, 131, 135, 39, 2, 13, 22, 28, 9, 18, 35, 44, 72, 81, 93, 97, 102, 176, 180, 184, 188, 90, 194, 199] (by decide +kernel) (by decide +kernel)
def z_minst_7 : List (Nat) := [(212), (213), (214), (215), (216), (222), (223), (224), (225), (226), (228), (229), (230), (233), (235), (236), (237), (239), (240), (241), (242), (243), (244), (248), (250), (252), (253), (254), (255), (256), (257), (258), (259), (261), (262)]
set_option maxRecDepth 20000 in
theorem zw_minst_7 : ∀ w ∈ z_minst_7.map (fun e => (.instanceMethod (z_nm e) : Cond)), w ∈ zTs := z_ch (big := tables_1_7) zin_7 _ [81, 85, 89, 101, 161, 93, 109, 104, 115, 120, 124, 129, 149, 145, 170, 176, 141, 188, 184, 219, 231, 227, 132, 200, 235, 215, 223, 211, 196, 239, 180, 192, 204, 165, 136] (by decide +kernel) (by decide +kernel)
def z_minst_8 : List (Nat) := [(217), (234), (238), (245), (249), (251), (260), (263), (264), (265), (266), (267), (268), (269), (270), (271), (272), (274), (275), (276), (277), (278), (279), (280), (281), (282), (283), (284), (285), (286), (287), (288), (289), (290), (291), (292), (293), (294), (295), (296), (297), (298), (299), (300), (301), (302), (303), (304), (305), (306), (307), (308), (309), (310), (311), (312)]
set_option maxRecDepth 20000 in
theorem zw_minst_8 : ∀ w ∈ z_minst_8.map (fun e => (.instanceMethod (z_nm e) : Cond)), w ∈ zTs := z_ch (big := tables_1_8) zin_8 _ [30, 22, 18, 26, 3, 14, 7, 46, 58, 50, 54, 42, 38, 33, 90, 102, 110, 78, 166, 125, 121, 74, 66, 82, 70, 61, 94, 85, 97, 105, 116, 142, 154, 138, 129, 162, 150, 158, 145, 174, 169, 182, 177, 195, 191, 185, 198, 203, 207, 211, 215, 238, 233, 229, 225, 220] (by decide +kernel) (by decide +kernel)
def z_minst_9 : List (Nat) := [(218), (219), (313), (314), (315), (316), (317), (318), (319), (320), (321), (322), (323), (324), (325), (326), (327), (328), (329), (330), (331), (332), (333), (334), (335), (336), (337), (338), (339), (340), (341), (342), (343), (344), (345), (346), (347), (348), (349), (350), (351), (352), (353), (354), (355), (356), (357), (358), (359), (360), (361), (362), (363)]
set_option maxRecDepth 20000 in
theorem zw_minst_9 : ∀ w ∈ z_minst_9.map (fun e => (.instanceMethod (z_nm e) : Cond)), w ∈ zTs := z_ch (big := tables_1_9) zin_9 _ [18, 145, 1, 10, 5, 13, 30, 26, 21, 33, 42, 37, 45, 49, 58, 62, 53, 65, 69, 73, 77, 86, 92, 81, 95, 104, 99, 107, 129, 133, 125, 121, 116, 111, 136, 140, 148, 153, 187, 171, 175, 179, 183, 167, 192, 196, 163, 157, 199, 203, 212, 207, 215] (by decide +kernel) (by decide +kernel)
def z_minst : List (Nat) := z_minst_1 ++ (z_minst_2 ++ (z_minst_3 ++ (z_minst_4 ++ (z_minst_5 ++ (z_minst_6 ++ (z_minst_7 ++ (z_minst_8 ++ (z_minst_9))))))))
theorem zw_minst : ∀ w ∈ z_minst.map (fun e => (.instanceMethod (z_nm e) : Cond)), w ∈ zTs := z_app zw_minst_1 (z_app zw_minst_2 (z_app zw_minst_3 (z_app zw_minst_4 (z_app zw_minst_5 (z_app zw_minst_6 (z_app zw_minst_7 (z_app zw_minst_8 (zw_minst_9))))))))
def z_msel_1 : List (Nat) := [(46)]
set_option maxRecDepth 20000 in
theorem zw_msel_1 : ∀ w ∈ z_msel_1.map (fun e => (.selects (z_cn (z_oc e)) (z_nm e) (z_nm e) : Cond)), w ∈ zTs := z_ch (big := tables_1_1) zin_1 _ [90] (by decide +kernel) (by decide +kernel)
def z_msel_2 : List (Nat) := [(136), (137), (138), (139)]
set_option maxRecDepth 20000 in
theorem zw_msel_2 : ∀ w ∈ z_msel_2.map (fun e => (.selects (z_cn (z_oc e)) (z_nm e) (z_nm e) : Cond)), w ∈ zTs := z_ch (big := tables_1_2) zin_2 _ [226, 230, 234, 238] (by decide +kernel) (by decide +kernel)
def z_msel_3 : List (Nat) := [(48), (53), (54), (81), (91), (92), (93), (94), (102), (103), (104), (105), (106), (107), (109), (110), (111), (112), (113), (115), (140), (141), (142), (143), (144)]
set_option maxRecDepth 20000 in
theorem zw_msel_3 : ∀ w ∈ z_msel_3.map (fun e => (.selects (z_cn (z_oc e)) (z_nm e) (z_nm e) : Cond)), w ∈ zTs := z_ch (big := tables_1_3) zin_3 _ [219, 232, 236, 170, 71, 75, 86, 90, 203, 183, 179, 199, 207, 193, 13, 29, 33, 53, 37, 61, 21, 45, 57, 67, 82] (by decide +kernel) (by decide +kernel)
def z_msel_4 : List (Nat) := [(1), (2), (3), (4), (6), (47), (49), (51), (52), (55), (56), (57), (59), (60), (61), (62), (64), (65), (66), (67), (68), (69), (70), (71), (72), (145), (146), (147), (148), (149), (150), (151), (152), (153), (154)]
set_option maxRecDepth 20000 in
theorem zw_msel_4 : ∀ w ∈ z_msel_4.map (fun e => (.selects (z_cn (z_oc e)) (z_nm e) (z_nm e) : Cond)), w ∈ zTs := z_ch (big := tables_1_4) zin_4 _ [34, 103, 90, 63, 47, 24, 133, 146, 159, 11, 20, 192, 215, 138, 163, 177, 123, 119, 150, 188, 198, 211, 222, 226, 235, 43, 108, 112, 129, 142, 155, 173, 184, 203, 230] (by decide +kernel) (by decide +kernel)
def z_msel_5 : List (Nat) := [(22), (23), (24), (26), (28), (50), (58), (63), (73), (74), (75), (76), (77), (78), (120), (121), (122), (124), (125), (127), (130), (155), (156), (157), (158), (159), (160), (161), (162), (163), (164), (165), (166), (167), (168), (169), (170), (171), (172), (173), (174), (175), (176)]
set_option maxRecDepth 20000 in
theorem zw_msel_5 : ∀ w ∈ z_msel_5.map (fun e => (.selects (z_cn (z_oc e)) (z_nm e) (z_nm e) : Cond)), w ∈ zTs := z_ch (big := tables_1_5) zin_5 _ [172, 179, 187, 201, 213, 233, 81, 73, 10, 14, 22, 26, 158, 145, 58, 89, 98, 110, 118, 137, 238, 6, 18, 30, 35, 39, 45, 50, 54, 85, 94, 106, 114, 133, 141, 154, 163, 168, 183, 197, 209, 221, 225] (by decide +kernel) (by decide +kernel)
def z_msel_6 : List (Nat) := [(17), (20), (31), (32), (128), (132), (133), (177), (178), (179), (180), (181), (182), (183), (184), (185), (186), (187), (188), (189)]
set_option maxRecDepth 20000 in
theorem zw_msel_6 : ∀ w ∈ z_msel_6.map (fun e => (.selects (z_cn (z_oc e)) (z_nm e) (z_nm e) : Cond)), w ∈ zTs := z_ch (big := tables_1_6) zin_6 _ [49, 77, 173, 107, 40, 14, 23, 10, 19, 36, 45, 73, 82, 94, 98, 103, 177, 181, 185, 189] (by decide +kernel) (by decide +kernel)
def z_msel_7 : List (Nat) := [(212), (213), (214), (222), (224), (225), (226), (228), (244), (262)]
set_option maxRecDepth 20000 in
theorem zw_msel_7 : ∀ w ∈ z_msel_7.map (fun e => (.selects (z_cn (z_oc e)) (z_nm e) (z_nm e) : Cond)), w ∈ zTs := z_ch (big := tables_1_7) zin_7 _ [82, 86, 90, 94, 105, 116, 121, 125, 133, 137] (by decide +kernel) (by decide +kernel)
def z_msel_8 : List (Nat) := [(269), (282), (284), (285), (286), (287), (291), (295), (297), (299), (302), (303), (304), (305), (306), (307), (312)]
set_option maxRecDepth 20000 in
theorem zw_msel_8 : ∀ w ∈ z_msel_8.map (fun e => (.selects (z_cn (z_oc e)) (z_nm e) (z_nm e) : Cond)), w ∈ zTs := z_ch (big := tables_1_8) zin_8 _ [34, 62, 86, 98, 106, 117, 130, 146, 170, 178, 186, 199, 204, 208, 212, 216, 221] (by decide +kernel) (by decide +kernel)
def z_msel_9 : List (Nat) := [(313), (315), (316), (319), (320), (322), (323), (324), (327), (328), (329), (330), (331), (334), (335), (337), (338), (344), (345), (346), (347), (348), (358), (359), (360), (362), (363)]
set_option maxRecDepth 20000 in
theorem zw_msel_9 : ∀ w ∈ z_msel_9.map (fun e => (.selects (z_cn (z_oc e)) (z_nm e) (z_nm e) : Cond)), w ∈ zTs := z_ch (big := tables_1_9) zin_9 _ [2, 6, 14, 22, 34, 38, 46, 50, 54, 66, 70, 74, 78, 82, 96, 100, 108, 112, 137, 141, 149, 154, 158, 200, 204, 208, 216] (by decide +kernel) (by decide +kernel)
def z_msel_10 : List (Nat) := [(82), (83), (84), (85), (86), (88), (89), (95), (96), (97), (114), (190), (192), (193), (195), (196)]
set_option maxRecDepth 20000 in
theorem zw_msel_10 : ∀ w ∈ z_msel_10.map (fun e => (.selects (z_cn (z_oc e)) (z_nm e) (z_nm e) : Cond)), w ∈ zTs := z_ch (big := k2_sels lw_privs_1) zin_10 _ [9, 10, 11, 12, 13, 14, 15, 6, 7, 8, 4, 5, 1, 2, 0, 3] (by decide +kernel) (by decide +kernel)
def z_msel_11 : List (Nat) := [(7), (9), (10), (11), (12), (13), (14), (79), (87), (117), (118), (119), (123), (126), (191), (198)]
set_option maxRecDepth 20000 in
theorem zw_msel_11 : ∀ w ∈ z_msel_11.map (fun e => (.selects (z_cn (z_oc e)) (z_nm e) (z_nm e) : Cond)), w ∈ zTs := z_ch (big := k2_sels lw_privs_2) zin_11 _ [2, 3, 7, 4, 5, 8, 6, 15, 0, 10, 11, 12, 13, 14, 1, 9] (by decide +kernel) (by decide +kernel)
def z_msel_12 : List (Nat) := [(16), (18), (19), (25), (27), (29), (33), (34), (35), (40), (43), (44), (131), (134), (194), (197)]
set_option maxRecDepth 20000 in
theorem zw_msel_12 : ∀ w ∈ z_msel_12.map (fun e => (.selects (z_cn (z_oc e)) (z_nm e) (z_nm e) : Cond)), w ∈ zTs := z_ch (big := k2_sels lw_privs_3) zin_12 _ [7, 6, 8, 0, 1, 2, 10, 11, 12, 15, 13, 14, 4, 5, 9, 3] (by decide +kernel) (by decide +kernel)
def z_msel_13 : List (Nat) := [(37), (38), (39), (41), (42), (211), (215), (216), (223), (229), (230), (233), (235), (236), (237), (261)]
set_option maxRecDepth 20000 in
theorem zw_msel_13 : ∀ w ∈ z_msel_13.map (fun e => (.selects (z_cn (z_oc e)) (z_nm e) (z_nm e) : Cond)), w ∈ zTs := z_ch (big := k2_sels lw_privs_4) zin_13 _ [1, 0, 2, 3, 4, 5, 6, 12, 7, 8, 11, 10, 14, 15, 9, 13] (by decide +kernel) (by decide +kernel)
def z_msel_14 : List (Nat) := [(239), (240), (241), (242), (243), (248), (249), (250), (252), (253), (254), (255), (256), (257), (258), (259)]
set_option maxRecDepth 20000 in
theorem zw_msel_14 : ∀ w ∈ z_msel_14.map (fun e => (.selects (z_cn (z_oc e)) (z_nm e) (z_nm e) : Cond)), w ∈ zTs := z_ch (big := k2_sels lw_privs_5) zin_14 _ [2, 1, 9, 12, 11, 5, 15, 13, 8, 10, 7, 4, 14, 0, 3, 6] (by decide +kernel) (by decide +kernel)
def z_msel_15 : List (Nat) := [(217), (234), (238), (245), (251), (260), (263), (264), (265), (266), (267), (268), (274), (278), (279), (281)]
set_option maxRecDepth 20000 in
theorem zw_msel_15 : ∀ w ∈ z_msel_15.map (fun e => (.selects (z_cn (z_oc e)) (z_nm e) (z_nm e) : Cond)), w ∈ zTs := z_ch (big := k2_sels lw_privs_6) zin_15 _ [5, 3, 2, 4, 1, 0, 8, 11, 9, 10, 7, 6, 15, 14, 12, 13] (by decide +kernel) (by decide +kernel)
def z_msel_16 : List (Nat) := [(270), (271), (272), (275), (276), (277), (280), (283), (288), (289), (290), (292), (293), (294), (296), (298)]
set_option maxRecDepth 20000 in
theorem zw_msel_16 : ∀ w ∈ z_msel_16.map (fun e => (.selects (z_cn (z_oc e)) (z_nm e) (z_nm e) : Cond)), w ∈ zTs := z_ch (big := k2_sels lw_privs_7) zin_16 _ [1, 3, 4, 13, 6, 5, 0, 2, 8, 10, 7, 12, 9, 11, 14, 15] (by decide +kernel) (by decide +kernel)
def z_msel_17 : List (Nat) := [(218), (300), (301), (308), (309), (310), (311), (314), (317), (318), (321), (325), (326), (332), (333), (336)]
set_option maxRecDepth 20000 in
theorem zw_msel_17 : ∀ w ∈ z_msel_17.map (fun e => (.selects (z_cn (z_oc e)) (z_nm e) (z_nm e) : Cond)), w ∈ zTs := z_ch (big := k2_sels lw_privs_8) zin_17 _ [7, 1, 0, 5, 4, 3, 2, 6, 9, 8, 10, 11, 12, 13, 14, 15] (by decide +kernel) (by decide +kernel)
def z_msel_18 : List (Nat) := [(219), (339), (340), (341), (342), (343), (349), (350), (351), (352), (353), (354), (355), (356), (357), (361)]
set_option maxRecDepth 20000 in
theorem zw_msel_18 : ∀ w ∈ z_msel_18.map (fun e => (.selects (z_cn (z_oc e)) (z_nm e) (z_nm e) : Cond)), w ∈ zTs := z_ch (big := k2_sels lw_privs_9) zin_18 _ [5, 3, 4, 2, 1, 0, 12, 8, 9, 10, 11, 7, 13, 14, 6, 15] (by decide +kernel) (by decide +kernel)
def z_msel : List (Nat) := z_msel_1 ++ (z_msel_2 ++ (z_msel_3 ++ (z_msel_4 ++ (z_msel_5 ++ (z_msel_6 ++ (z_msel_7 ++ (z_msel_8 ++ (z_msel_9 ++ (z_msel_10 ++ (z_msel_11 ++ (z_msel_12 ++ (z_msel_13 ++ (z_msel_14 ++ (z_msel_15 ++ (z_msel_16 ++ (z_msel_17 ++ (z_msel_18)))))))))))))))))
theorem zw_msel : ∀ w ∈ z_msel.map (fun e => (.selects (z_cn (z_oc e)) (z_nm e) (z_nm e) : Cond)), w ∈ zTs := z_app zw_msel_1 (z_app zw_msel_2 (z_app zw_msel_3 (z_app zw_msel_4 (z_app zw_msel_5 (z_app zw_msel_6 (z_app zw_msel_7 (z_app zw_msel_8 (z_app zw_msel_9 (z_app zw_msel_10 (z_app zw_msel_11 (z_app zw_msel_12 (z_app zw_msel_13 (z_app zw_msel_14 (z_app zw_msel_15 (z_app zw_msel_16 (z_app zw_msel_17 (zw_msel_18)))))))))))))))))
def z_cini_1 : List (Nat) := [(0), (1), (2), (3), (4), (5), (6), (7), (8), (9), (10), (11), (12), (13)]
set_option maxRecDepth 20000 in
theorem zw_cini_1 : ∀ w ∈ z_cini_1.map (fun e => (.initialized (z_cn e) : Cond)), w ∈ zTs := z_ch (big := tables_1_1) zin_1 _ [4, 6, 10, 9, 7, 3, 5, 2, 12, 8, 11, 1, 13, 19] (by decide +kernel) (by decide +kernel)
def z_cini : List (Nat) := z_cini_1
theorem zw_cini : ∀ w ∈ z_cini.map (fun e => (.initialized (z_cn e) : Cond)), w ∈ zTs := zw_cini_1
def z_cinst_1 : List (Nat) := [(0), (5), (6), (7), (11)]
set_option maxRecDepth 20000 in
theorem zw_cinst_1 : ∀ w ∈ z_cinst_1.map (fun e => (.instantiable (z_cn e) (z_N e) : Cond)), w ∈ zTs := z_ch (big := tables_1_1) zin_1 _ [187, 83, 229, 31, 21] (by decide +kernel) (by decide +kernel)
def z_cinst_2 : List (Nat) := [(1), (2), (3), (4), (8), (9), (10)]
set_option maxRecDepth 20000 in
theorem zw_cinst_2 : ∀ w ∈ z_cinst_2.map (fun e => (.instantiable (z_cn e) (z_N e) : Cond)), w ∈ zTs := z_ch (big := tables_1_2) zin_2 _ [20, 125, 109, 50, 153, 96, 141] (by decide +kernel) (by decide +kernel)
def z_cinst_6 : List (Nat) := [(12)]
set_option maxRecDepth 20000 in
theorem zw_cinst_6 : ∀ w ∈ z_cinst_6.map (fun e => (.instantiable (z_cn e) (z_N e) : Cond)), w ∈ zTs := z_ch (big := tables_1_6) zin_6 _ [192] (by decide +kernel) (by decide +kernel)
def z_cinst : List (Nat) := z_cinst_1 ++ (z_cinst_2 ++ (z_cinst_6))
theorem zw_cinst : ∀ w ∈ z_cinst.map (fun e => (.instantiable (z_cn e) (z_N e) : Cond)), w ∈ zTs := z_app zw_cinst_1 (z_app zw_cinst_2 (zw_cinst_6))
def z_lay_1 : List (Nat × Nat) := [(0, 0), (0, 1), (0, 2), (0, 3), (0, 4), (0, 5), (0, 6), (0, 7), (5, 0), (5, 1), (5, 2), (5, 3), (5, 4), (5, 5), (5, 6), (5, 7), (5, 8), (5, 9), (5, 10), (5, 11), (5, 12), (5, 13), (5, 14), (5, 15), (5, 16), (5, 17), (7, 0), (7, 1), (7, 2), (7, 3), (7, 4), (7, 5), (7, 6), (7, 7), (7, 8), (7, 9), (7, 10)]
set_option maxRecDepth 20000 in
theorem zw_lay_1 : ∀ w ∈ z_lay_1.map (fun e => (u_lay (z_cn e.1) (zT e.1) e.2 : Cond)), w ∈ zTs := z_ch (big := tables_1_1) zin_1 _ [211, 213, 215, 217, 219, 221, 223, 225, 148, 150, 152, 154, 156, 158, 160, 162, 164, 166, 168, 170, 172, 174, 176, 178, 180, 182, 58, 60, 62, 64, 66, 68, 70, 72, 74, 76, 78] (by decide +kernel) (by decide +kernel)
def z_lay_2 : List (Nat × Nat) := [(1, 0), (1, 1), (1, 2), (1, 3), (1, 4), (1, 5), (2, 0), (2, 1), (2, 2), (3, 0), (3, 1), (3, 2), (4, 0), (4, 1), (4, 2), (4, 3), (4, 4), (4, 5), (4, 6), (4, 7), (4, 8), (4, 9), (4, 10), (4, 11), (6, 0), (6, 1), (6, 2), (6, 3), (6, 4), (6, 5), (6, 6), (8, 0), (8, 1), (8, 2), (9, 0), (9, 1), (10, 0), (10, 1), (11, 0), (11, 1), (11, 2), (11, 3), (11, 4), (11, 5), (11, 6), (11, 7), (11, 8), (11, 9), (11, 10), (11, 11), (11, 12), (11, 13), (11, 14), (11, 15), (11, 16), (11, 17)]
set_option maxRecDepth 20000 in
theorem zw_lay_2 : ∀ w ∈ z_lay_2.map (fun e => (u_lay (z_cn e.1) (zT e.1) e.2 : Cond)), w ∈ zTs := z_ch (big := tables_1_2) zin_2 _ [34, 36, 38, 40, 42, 44, 133, 135, 137, 117, 119, 121, 70, 72, 74, 76, 78, 80, 82, 84, 86, 88, 90, 92, 4, 6, 8, 10, 12, 14, 16, 162, 164, 166, 103, 105, 148, 150, 187, 189, 191, 193, 195, 197, 199, 201, 203, 205, 207, 209, 211, 213, 215, 217, 219, 221] (by decide +kernel) (by decide +kernel)
def z_lay_7 : List (Nat × Nat) := [(12, 0), (12, 1), (12, 2), (12, 3), (12, 4), (12, 5), (12, 6), (12, 7), (12, 8), (12, 9), (12, 10), (12, 11), (12, 12), (12, 13), (12, 14), (12, 15), (12, 16), (12, 17), (12, 18), (12, 19), (12, 20), (12, 21), (12, 22), (12, 23), (12, 24), (12, 25), (12, 26), (12, 27), (12, 28), (12, 29), (12, 30), (12, 31), (12, 32), (12, 33), (12, 34), (12, 35), (12, 36), (12, 37), (12, 38)]
set_option maxRecDepth 20000 in
theorem zw_lay_7 : ∀ w ∈ z_lay_7.map (fun e => (u_lay (z_cn e.1) (zT e.1) e.2 : Cond)), w ∈ zTs := z_ch (big := tables_1_7) zin_7 _ [0, 2, 4, 6, 8, 10, 12, 14, 16, 18, 20, 22, 24, 26, 28, 30, 32, 34, 36, 38, 40, 42, 44, 46, 48, 50, 52, 54, 56, 58, 60, 62, 64, 66, 68, 70, 72, 74, 76] (by decide +kernel) (by decide +kernel)
def z_lay : List (Nat × Nat) := z_lay_1 ++ (z_lay_2 ++ (z_lay_7))
theorem zw_lay : ∀ w ∈ z_lay.map (fun e => (u_lay (z_cn e.1) (zT e.1) e.2 : Cond)), w ∈ zTs := z_app zw_lay_1 (z_app zw_lay_2 (zw_lay_7))
