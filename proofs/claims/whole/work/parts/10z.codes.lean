/-! printed by wip/whole/gen/facts.py: the code words -/
theorem zc_0 : (Cond.code yX0_init cX0_init 1 none) ∈ zTs := List.mem_filter.mpr ⟨zin_1 _ (List.mem_of_getElem? (i := 190) rfl), rfl⟩
theorem zc_1 : (Cond.code yX0_clear cX0_clear 1 none) ∈ zTs := List.mem_filter.mpr ⟨zin_4 _ (List.mem_of_getElem? (i := 35) rfl), rfl⟩
theorem zc_2 : (Cond.code yX0_copyFrom cX0_copyFrom 2 none) ∈ zTs := List.mem_filter.mpr ⟨zin_4 _ (List.mem_of_getElem? (i := 104) rfl), rfl⟩
theorem zc_3 : (Cond.code yX0_addStep cX0_addStep 5 none) ∈ zTs := List.mem_filter.mpr ⟨zin_4 _ (List.mem_of_getElem? (i := 91) rfl), rfl⟩
theorem zc_4 : (Cond.code yX0_addEnd cX0_addEnd 2 none) ∈ zTs := List.mem_filter.mpr ⟨zin_4 _ (List.mem_of_getElem? (i := 64) rfl), rfl⟩
theorem zc_5 : (Cond.code yX1_init cX1_init 3 none) ∈ zTs := List.mem_filter.mpr ⟨zin_2 _ (List.mem_of_getElem? (i := 23) rfl), rfl⟩
theorem zc_6 : (Cond.code yX1_readAll cX1_readAll 2 (some .boolean)) ∈ zTs := List.mem_filter.mpr ⟨zin_4 _ (List.mem_of_getElem? (i := 48) rfl), rfl⟩
theorem zc_7 : (Cond.code yX1_readStep cX1_readStep 4 (some .boolean)) ∈ zTs := List.mem_filter.mpr ⟨zin_4 _ (List.mem_of_getElem? (i := 53) rfl), rfl⟩
theorem zc_8 : (Cond.code yX1_beginsStep cX1_beginsStep 1 (some .boolean)) ∈ zTs := List.mem_filter.mpr ⟨zin_4 _ (List.mem_of_getElem? (i := 69) rfl), rfl⟩
theorem zc_9 : (Cond.code yX1_readEnd cX1_readEnd 1 (some .boolean)) ∈ zTs := List.mem_filter.mpr ⟨zin_4 _ (List.mem_of_getElem? (i := 58) rfl), rfl⟩
theorem zc_10 : (Cond.code yX1_readPlain cX1_readPlain 4 (some .boolean)) ∈ zTs := List.mem_filter.mpr ⟨zin_4 _ (List.mem_of_getElem? (i := 95) rfl), rfl⟩
theorem zc_11 : (Cond.code yX1_readTest cX1_readTest 5 (some .boolean)) ∈ zTs := List.mem_filter.mpr ⟨zin_4 _ (List.mem_of_getElem? (i := 75) rfl), rfl⟩
theorem zc_12 : (Cond.code yX1_takesPupil cX1_takesPupil 1 (some .boolean)) ∈ zTs := List.mem_filter.mpr ⟨zin_4 _ (List.mem_of_getElem? (i := 79) rfl), rfl⟩
theorem zc_13 : (Cond.code yX1_takesSide cX1_takesSide 1 (some .boolean)) ∈ zTs := List.mem_filter.mpr ⟨zin_4 _ (List.mem_of_getElem? (i := 99) rfl), rfl⟩
theorem zc_14 : (Cond.code yX1_takesCompare cX1_takesCompare 1 (some .boolean)) ∈ zTs := List.mem_filter.mpr ⟨zin_4 _ (List.mem_of_getElem? (i := 86) rfl), rfl⟩
theorem zc_15 : (Cond.code yX2_init cX2_init 2 none) ∈ zTs := List.mem_filter.mpr ⟨zin_2 _ (List.mem_of_getElem? (i := 128) rfl), rfl⟩
theorem zc_16 : (Cond.code yX2_clearSet cX2_clearSet 2 (some .int)) ∈ zTs := List.mem_filter.mpr ⟨zin_6 _ (List.mem_of_getElem? (i := 58) rfl), rfl⟩
theorem zc_17 : (Cond.code yX2_isKeptFrom cX2_isKeptFrom 4 (some .boolean)) ∈ zTs := List.mem_filter.mpr ⟨zin_6 _ (List.mem_of_getElem? (i := 50) rfl), rfl⟩
theorem zc_18 : (Cond.code yX2_look cX2_look 9 none) ∈ zTs := List.mem_filter.mpr ⟨zin_6 _ (List.mem_of_getElem? (i := 54) rfl), rfl⟩
theorem zc_19 : (Cond.code yX2_goodToStepTo cX2_goodToStepTo 6 (some .int)) ∈ zTs := List.mem_filter.mpr ⟨zin_6 _ (List.mem_of_getElem? (i := 67) rfl), rfl⟩
theorem zc_20 : (Cond.code yX2_firstMove cX2_firstMove 10 (some .int)) ∈ zTs := List.mem_filter.mpr ⟨zin_6 _ (List.mem_of_getElem? (i := 78) rfl), rfl⟩
theorem zc_21 : (Cond.code yX3_init cX3_init 2 none) ∈ zTs := List.mem_filter.mpr ⟨zin_2 _ (List.mem_of_getElem? (i := 112) rfl), rfl⟩
theorem zc_22 : (Cond.code yX3_allFor cX3_allFor 4 (some .int)) ∈ zTs := List.mem_filter.mpr ⟨zin_5 _ (List.mem_of_getElem? (i := 173) rfl), rfl⟩
theorem zc_23 : (Cond.code yX3_hoursOf cX3_hoursOf 4 (some .int)) ∈ zTs := List.mem_filter.mpr ⟨zin_5 _ (List.mem_of_getElem? (i := 180) rfl), rfl⟩
theorem zc_24 : (Cond.code yX3_atOnce cX3_atOnce 3 (some .int)) ∈ zTs := List.mem_filter.mpr ⟨zin_5 _ (List.mem_of_getElem? (i := 188) rfl), rfl⟩
theorem zc_25 : (Cond.code yX3_latest cX3_latest 4 (some .int)) ∈ zTs := List.mem_filter.mpr ⟨zin_5 _ (List.mem_of_getElem? (i := 192) rfl), rfl⟩
theorem zc_26 : (Cond.code yX3_countOrders cX3_countOrders 3 (some .int)) ∈ zTs := List.mem_filter.mpr ⟨zin_5 _ (List.mem_of_getElem? (i := 202) rfl), rfl⟩
theorem zc_27 : (Cond.code yX3_ordersOf cX3_ordersOf 5 (some .int)) ∈ zTs := List.mem_filter.mpr ⟨zin_5 _ (List.mem_of_getElem? (i := 206) rfl), rfl⟩
theorem zc_28 : (Cond.code yX3_inLastOrder cX3_inLastOrder 5 (some .int)) ∈ zTs := List.mem_filter.mpr ⟨zin_5 _ (List.mem_of_getElem? (i := 214) rfl), rfl⟩
theorem zc_29 : (Cond.code yX3_lastThatCan cX3_lastThatCan 3 (some .int)) ∈ zTs := List.mem_filter.mpr ⟨zin_5 _ (List.mem_of_getElem? (i := 218) rfl), rfl⟩
theorem zc_30 : (Cond.code yX4_init cX4_init 3 none) ∈ zTs := List.mem_filter.mpr ⟨zin_2 _ (List.mem_of_getElem? (i := 53) rfl), rfl⟩
theorem zc_31 : (Cond.code yX4_keepAsLived cX4_keepAsLived 1 none) ∈ zTs := List.mem_filter.mpr ⟨zin_6 _ (List.mem_of_getElem? (i := 174) rfl), rfl⟩
theorem zc_32 : (Cond.code yX4_run cX4_run 4 none) ∈ zTs := List.mem_filter.mpr ⟨zin_6 _ (List.mem_of_getElem? (i := 108) rfl), rfl⟩
theorem zc_33 : (Cond.code yX4_pass cX4_pass 3 (some .int)) ∈ zTs := List.mem_filter.mpr ⟨zin_6 _ (List.mem_of_getElem? (i := 113) rfl), rfl⟩
theorem zc_34 : (Cond.code yX4_passEnd cX4_passEnd 4 (some .int)) ∈ zTs := List.mem_filter.mpr ⟨zin_6 _ (List.mem_of_getElem? (i := 118) rfl), rfl⟩
theorem zc_35 : (Cond.code yX4_holds cX4_holds 4 (some .boolean)) ∈ zTs := List.mem_filter.mpr ⟨zin_6 _ (List.mem_of_getElem? (i := 123) rfl), rfl⟩
theorem zc_36 : (Cond.code yX4_compares cX4_compares 3 (some .boolean)) ∈ zTs := List.mem_filter.mpr ⟨zin_6 _ (List.mem_of_getElem? (i := 128) rfl), rfl⟩
theorem zc_37 : (Cond.code yX4_does cX4_does 3 (some .boolean)) ∈ zTs := List.mem_filter.mpr ⟨zin_6 _ (List.mem_of_getElem? (i := 152) rfl), rfl⟩
theorem zc_38 : (Cond.code yX4_goes cX4_goes 3 (some .boolean)) ∈ zTs := List.mem_filter.mpr ⟨zin_6 _ (List.mem_of_getElem? (i := 146) rfl), rfl⟩
theorem zc_39 : (Cond.code yX4_frees cX4_frees 3 (some .boolean)) ∈ zTs := List.mem_filter.mpr ⟨zin_6 _ (List.mem_of_getElem? (i := 156) rfl), rfl⟩
theorem zc_40 : (Cond.code yX4_tears cX4_tears 2 (some .boolean)) ∈ zTs := List.mem_filter.mpr ⟨zin_6 _ (List.mem_of_getElem? (i := 141) rfl), rfl⟩
theorem zc_41 : (Cond.code yX4_picks cX4_picks 2 (some .boolean)) ∈ zTs := List.mem_filter.mpr ⟨zin_6 _ (List.mem_of_getElem? (i := 162) rfl), rfl⟩
theorem zc_42 : (Cond.code yX4_ages cX4_ages 2 (some .boolean)) ∈ zTs := List.mem_filter.mpr ⟨zin_6 _ (List.mem_of_getElem? (i := 168) rfl), rfl⟩
theorem zc_43 : (Cond.code yX4_doesAny cX4_doesAny 3 (some .boolean)) ∈ zTs := List.mem_filter.mpr ⟨zin_6 _ (List.mem_of_getElem? (i := 132) rfl), rfl⟩
theorem zc_44 : (Cond.code yX4_draw cX4_draw 2 (some .int)) ∈ zTs := List.mem_filter.mpr ⟨zin_6 _ (List.mem_of_getElem? (i := 136) rfl), rfl⟩
theorem zc_45 : (Cond.code yX5_init cX5_init 1 none) ∈ zTs := List.mem_filter.mpr ⟨zin_1 _ (List.mem_of_getElem? (i := 86) rfl), rfl⟩
theorem zc_46 : (Cond.code yX5_clear cX5_clear 1 none) ∈ zTs := List.mem_filter.mpr ⟨zin_1 _ (List.mem_of_getElem? (i := 91) rfl), rfl⟩
theorem zc_47 : (Cond.code yX5_copyFrom cX5_copyFrom 2 none) ∈ zTs := List.mem_filter.mpr ⟨zin_4 _ (List.mem_of_getElem? (i := 25) rfl), rfl⟩
theorem zc_48 : (Cond.code yX5_cells cX5_cells 1 (some .int)) ∈ zTs := List.mem_filter.mpr ⟨zin_3 _ (List.mem_of_getElem? (i := 220) rfl), rfl⟩
theorem zc_49 : (Cond.code yX5_hasCell cX5_hasCell 2 (some .boolean)) ∈ zTs := List.mem_filter.mpr ⟨zin_4 _ (List.mem_of_getElem? (i := 134) rfl), rfl⟩
theorem zc_50 : (Cond.code yX5_isCellNumber cX5_isCellNumber 3 (some .boolean)) ∈ zTs := List.mem_filter.mpr ⟨zin_5 _ (List.mem_of_getElem? (i := 234) rfl), rfl⟩
theorem zc_51 : (Cond.code yX5_hasLesson cX5_hasLesson 2 (some .boolean)) ∈ zTs := List.mem_filter.mpr ⟨zin_4 _ (List.mem_of_getElem? (i := 147) rfl), rfl⟩
theorem zc_52 : (Cond.code yX5_hasPupil cX5_hasPupil 2 (some .boolean)) ∈ zTs := List.mem_filter.mpr ⟨zin_4 _ (List.mem_of_getElem? (i := 160) rfl), rfl⟩
theorem zc_53 : (Cond.code yX5_lessonNamed cX5_lessonNamed 4 (some .int)) ∈ zTs := List.mem_filter.mpr ⟨zin_3 _ (List.mem_of_getElem? (i := 233) rfl), rfl⟩
theorem zc_54 : (Cond.code yX5_pupilNamed cX5_pupilNamed 4 (some .int)) ∈ zTs := List.mem_filter.mpr ⟨zin_3 _ (List.mem_of_getElem? (i := 237) rfl), rfl⟩
theorem zc_55 : (Cond.code yX5_addLesson cX5_addLesson 5 none) ∈ zTs := List.mem_filter.mpr ⟨zin_4 _ (List.mem_of_getElem? (i := 12) rfl), rfl⟩
theorem zc_56 : (Cond.code yX5_addPupil cX5_addPupil 6 none) ∈ zTs := List.mem_filter.mpr ⟨zin_4 _ (List.mem_of_getElem? (i := 21) rfl), rfl⟩
theorem zc_57 : (Cond.code yX5_beside cX5_beside 4 (some .int)) ∈ zTs := List.mem_filter.mpr ⟨zin_4 _ (List.mem_of_getElem? (i := 193) rfl), rfl⟩
theorem zc_58 : (Cond.code yX5_around cX5_around 5 (some .int)) ∈ zTs := List.mem_filter.mpr ⟨zin_5 _ (List.mem_of_getElem? (i := 82) rfl), rfl⟩
theorem zc_59 : (Cond.code yX5_areNear cX5_areNear 5 (some .boolean)) ∈ zTs := List.mem_filter.mpr ⟨zin_4 _ (List.mem_of_getElem? (i := 216) rfl), rfl⟩
theorem zc_60 : (Cond.code yX5_pupilsAt cX5_pupilsAt 4 (some .int)) ∈ zTs := List.mem_filter.mpr ⟨zin_4 _ (List.mem_of_getElem? (i := 139) rfl), rfl⟩
theorem zc_61 : (Cond.code yX5_touch cX5_touch 2 (some .int)) ∈ zTs := List.mem_filter.mpr ⟨zin_4 _ (List.mem_of_getElem? (i := 164) rfl), rfl⟩
theorem zc_62 : (Cond.code yX5_catchOf cX5_catchOf 5 (some .int)) ∈ zTs := List.mem_filter.mpr ⟨zin_4 _ (List.mem_of_getElem? (i := 178) rfl), rfl⟩
theorem zc_63 : (Cond.code yX5_clearSet cX5_clearSet 5 (some .int)) ∈ zTs := List.mem_filter.mpr ⟨zin_5 _ (List.mem_of_getElem? (i := 74) rfl), rfl⟩
theorem zc_64 : (Cond.code yX5_isCaught cX5_isCaught 2 (some .boolean)) ∈ zTs := List.mem_filter.mpr ⟨zin_4 _ (List.mem_of_getElem? (i := 124) rfl), rfl⟩
theorem zc_65 : (Cond.code yX5_caughtSet cX5_caughtSet 3 (some .int)) ∈ zTs := List.mem_filter.mpr ⟨zin_4 _ (List.mem_of_getElem? (i := 120) rfl), rfl⟩
theorem zc_66 : (Cond.code yX5_pupilsWhoKnow cX5_pupilsWhoKnow 4 (some .int)) ∈ zTs := List.mem_filter.mpr ⟨zin_4 _ (List.mem_of_getElem? (i := 151) rfl), rfl⟩
theorem zc_67 : (Cond.code yX5_canStep cX5_canStep 3 (some .boolean)) ∈ zTs := List.mem_filter.mpr ⟨zin_4 _ (List.mem_of_getElem? (i := 189) rfl), rfl⟩
theorem zc_68 : (Cond.code yX5_step cX5_step 5 (some .int)) ∈ zTs := List.mem_filter.mpr ⟨zin_4 _ (List.mem_of_getElem? (i := 199) rfl), rfl⟩
theorem zc_69 : (Cond.code yX5_canHelp cX5_canHelp 3 (some .boolean)) ∈ zTs := List.mem_filter.mpr ⟨zin_4 _ (List.mem_of_getElem? (i := 212) rfl), rfl⟩
theorem zc_70 : (Cond.code yX5_takeThorn cX5_takeThorn 4 (some .int)) ∈ zTs := List.mem_filter.mpr ⟨zin_4 _ (List.mem_of_getElem? (i := 223) rfl), rfl⟩
theorem zc_71 : (Cond.code yX5_nextLesson cX5_nextLesson 4 (some .int)) ∈ zTs := List.mem_filter.mpr ⟨zin_4 _ (List.mem_of_getElem? (i := 227) rfl), rfl⟩
theorem zc_72 : (Cond.code yX5_tearOff cX5_tearOff 3 (some .int)) ∈ zTs := List.mem_filter.mpr ⟨zin_4 _ (List.mem_of_getElem? (i := 236) rfl), rfl⟩
theorem zc_73 : (Cond.code yX5_canGather cX5_canGather 2 (some .boolean)) ∈ zTs := List.mem_filter.mpr ⟨zin_5 _ (List.mem_of_getElem? (i := 11) rfl), rfl⟩
theorem zc_74 : (Cond.code yX5_gather cX5_gather 3 (some .int)) ∈ zTs := List.mem_filter.mpr ⟨zin_5 _ (List.mem_of_getElem? (i := 15) rfl), rfl⟩
theorem zc_75 : (Cond.code yX5_canAge cX5_canAge 2 (some .boolean)) ∈ zTs := List.mem_filter.mpr ⟨zin_5 _ (List.mem_of_getElem? (i := 23) rfl), rfl⟩
theorem zc_76 : (Cond.code yX5_age cX5_age 3 none) ∈ zTs := List.mem_filter.mpr ⟨zin_5 _ (List.mem_of_getElem? (i := 27) rfl), rfl⟩
theorem zc_77 : (Cond.code yX5_helperSet cX5_helperSet 4 (some .int)) ∈ zTs := List.mem_filter.mpr ⟨zin_5 _ (List.mem_of_getElem? (i := 159) rfl), rfl⟩
theorem zc_78 : (Cond.code yX5_freedSet cX5_freedSet 5 (some .int)) ∈ zTs := List.mem_filter.mpr ⟨zin_5 _ (List.mem_of_getElem? (i := 146) rfl), rfl⟩
theorem zc_79 : (Cond.code yX5_isNearSome cX5_isNearSome 4 (some .boolean)) ∈ zTs := List.mem_filter.mpr ⟨zin_5 _ (List.mem_of_getElem? (i := 151) rfl), rfl⟩
theorem zc_80 : (Cond.code yX6_init cX6_init 2 none) ∈ zTs := List.mem_filter.mpr ⟨zin_1 _ (List.mem_of_getElem? (i := 232) rfl), rfl⟩
theorem zc_81 : (Cond.code yX6_readAll cX6_readAll 2 (some .boolean)) ∈ zTs := List.mem_filter.mpr ⟨zin_3 _ (List.mem_of_getElem? (i := 171) rfl), rfl⟩
theorem zc_82 : (Cond.code yX6_readPart cX6_readPart 1 (some .boolean)) ∈ zTs := List.mem_filter.mpr ⟨zin_3 _ (List.mem_of_getElem? (i := 176) rfl), rfl⟩
theorem zc_83 : (Cond.code yX6_readThicket cX6_readThicket 1 (some .boolean)) ∈ zTs := List.mem_filter.mpr ⟨zin_3 _ (List.mem_of_getElem? (i := 188) rfl), rfl⟩
theorem zc_84 : (Cond.code yX6_readOdds cX6_readOdds 1 (some .boolean)) ∈ zTs := List.mem_filter.mpr ⟨zin_3 _ (List.mem_of_getElem? (i := 212) rfl), rfl⟩
theorem zc_85 : (Cond.code yX6_readGrown cX6_readGrown 3 (some .boolean)) ∈ zTs := List.mem_filter.mpr ⟨zin_3 _ (List.mem_of_getElem? (i := 216) rfl), rfl⟩
theorem zc_86 : (Cond.code yX6_readLesson cX6_readLesson 2 (some .boolean)) ∈ zTs := List.mem_filter.mpr ⟨zin_3 _ (List.mem_of_getElem? (i := 225) rfl), rfl⟩
theorem zc_87 : (Cond.code yX6_readPupil cX6_readPupil 3 (some .boolean)) ∈ zTs := List.mem_filter.mpr ⟨zin_4 _ (List.mem_of_getElem? (i := 17) rfl), rfl⟩
theorem zc_88 : (Cond.code yX6_takesNewName cX6_takesNewName 1 (some .boolean)) ∈ zTs := List.mem_filter.mpr ⟨zin_3 _ (List.mem_of_getElem? (i := 229) rfl), rfl⟩
theorem zc_89 : (Cond.code yX6_takesLessonsBehind cX6_takesLessonsBehind 4 (some .boolean)) ∈ zTs := List.mem_filter.mpr ⟨zin_4 _ (List.mem_of_getElem? (i := 1) rfl), rfl⟩
theorem zc_90 : (Cond.code yX7_init cX7_init 1 none) ∈ zTs := List.mem_filter.mpr ⟨zin_1 _ (List.mem_of_getElem? (i := 34) rfl), rfl⟩
theorem zc_91 : (Cond.code yX7_hasRoom cX7_hasRoom 1 (some .boolean)) ∈ zTs := List.mem_filter.mpr ⟨zin_3 _ (List.mem_of_getElem? (i := 72) rfl), rfl⟩
theorem zc_92 : (Cond.code yX7_addInt cX7_addInt 3 none) ∈ zTs := List.mem_filter.mpr ⟨zin_3 _ (List.mem_of_getElem? (i := 76) rfl), rfl⟩
theorem zc_93 : (Cond.code yX7_begin cX7_begin 2 none) ∈ zTs := List.mem_filter.mpr ⟨zin_3 _ (List.mem_of_getElem? (i := 87) rfl), rfl⟩
theorem zc_94 : (Cond.code yX7_advance cX7_advance 2 none) ∈ zTs := List.mem_filter.mpr ⟨zin_3 _ (List.mem_of_getElem? (i := 91) rfl), rfl⟩
theorem zc_95 : (Cond.code yX7_scanWord cX7_scanWord 2 none) ∈ zTs := List.mem_filter.mpr ⟨zin_3 _ (List.mem_of_getElem? (i := 104) rfl), rfl⟩
theorem zc_96 : (Cond.code yX7_wordNumber cX7_wordNumber 6 (some .int)) ∈ zTs := List.mem_filter.mpr ⟨zin_3 _ (List.mem_of_getElem? (i := 108) rfl), rfl⟩
theorem zc_97 : (Cond.code yX7_scanNumber cX7_scanNumber 2 none) ∈ zTs := List.mem_filter.mpr ⟨zin_3 _ (List.mem_of_getElem? (i := 164) rfl), rfl⟩
theorem zc_98 : (Cond.code yX7_isBlank cX7_isBlank 1 (some .boolean)) ∈ zTs := List.mem_filter.mpr ⟨zin_3 _ (List.mem_of_getElem? (i := 97) rfl), rfl⟩
theorem zc_99 : (Cond.code yX7_isLetter cX7_isLetter 1 (some .boolean)) ∈ zTs := List.mem_filter.mpr ⟨zin_3 _ (List.mem_of_getElem? (i := 100) rfl), rfl⟩
theorem zc_100 : (Cond.code yX7_isDigit cX7_isDigit 1 (some .boolean)) ∈ zTs := List.mem_filter.mpr ⟨zin_3 _ (List.mem_of_getElem? (i := 160) rfl), rfl⟩
theorem zc_101 : (Cond.code yX7_isCompare cX7_isCompare 1 (some .boolean)) ∈ zTs := List.mem_filter.mpr ⟨zin_3 _ (List.mem_of_getElem? (i := 167) rfl), rfl⟩
theorem zc_102 : (Cond.code yX7_isWord cX7_isWord 2 (some .boolean)) ∈ zTs := List.mem_filter.mpr ⟨zin_3 _ (List.mem_of_getElem? (i := 204) rfl), rfl⟩
theorem zc_103 : (Cond.code yX7_fails cX7_fails 2 (some .boolean)) ∈ zTs := List.mem_filter.mpr ⟨zin_3 _ (List.mem_of_getElem? (i := 184) rfl), rfl⟩
theorem zc_104 : (Cond.code yX7_strays cX7_strays 1 (some .boolean)) ∈ zTs := List.mem_filter.mpr ⟨zin_3 _ (List.mem_of_getElem? (i := 180) rfl), rfl⟩
theorem zc_105 : (Cond.code yX7_takesWord cX7_takesWord 2 (some .boolean)) ∈ zTs := List.mem_filter.mpr ⟨zin_3 _ (List.mem_of_getElem? (i := 200) rfl), rfl⟩
theorem zc_106 : (Cond.code yX7_takesSemicolon cX7_takesSemicolon 1 (some .boolean)) ∈ zTs := List.mem_filter.mpr ⟨zin_3 _ (List.mem_of_getElem? (i := 208) rfl), rfl⟩
theorem zc_107 : (Cond.code yX7_takesNumber cX7_takesNumber 3 (some .boolean)) ∈ zTs := List.mem_filter.mpr ⟨zin_3 _ (List.mem_of_getElem? (i := 194) rfl), rfl⟩
theorem zc_108 : (Cond.code yX8_init cX8_init 1 none) ∈ zTs := List.mem_filter.mpr ⟨zin_2 _ (List.mem_of_getElem? (i := 156) rfl), rfl⟩
theorem zc_109 : (Cond.code yX8_lay cX8_lay 4 none) ∈ zTs := List.mem_filter.mpr ⟨zin_3 _ (List.mem_of_getElem? (i := 14) rfl), rfl⟩
theorem zc_110 : (Cond.code yX8_isMissing cX8_isMissing 1 (some .boolean)) ∈ zTs := List.mem_filter.mpr ⟨zin_3 _ (List.mem_of_getElem? (i := 30) rfl), rfl⟩
theorem zc_111 : (Cond.code yX8_holds cX8_holds 3 (some .boolean)) ∈ zTs := List.mem_filter.mpr ⟨zin_3 _ (List.mem_of_getElem? (i := 34) rfl), rfl⟩
theorem zc_112 : (Cond.code yX8_at cX8_at 2 (some .long)) ∈ zTs := List.mem_filter.mpr ⟨zin_3 _ (List.mem_of_getElem? (i := 54) rfl), rfl⟩
theorem zc_113 : (Cond.code yX8_set cX8_set 4 none) ∈ zTs := List.mem_filter.mpr ⟨zin_3 _ (List.mem_of_getElem? (i := 38) rfl), rfl⟩
theorem zc_114 : (Cond.code yX8_cut cX8_cut 3 (some .long)) ∈ zTs := List.mem_filter.mpr ⟨zin_3 _ (List.mem_of_getElem? (i := 42) rfl), rfl⟩
theorem zc_115 : (Cond.code yX8_take cX8_take 8 none) ∈ zTs := List.mem_filter.mpr ⟨zin_3 _ (List.mem_of_getElem? (i := 62) rfl), rfl⟩
theorem zc_116 : (Cond.code yX9_init cX9_init 2 none) ∈ zTs := List.mem_filter.mpr ⟨zin_2 _ (List.mem_of_getElem? (i := 99) rfl), rfl⟩
theorem zc_117 : (Cond.code yX9_ownCell cX9_ownCell 2 (some .int)) ∈ zTs := List.mem_filter.mpr ⟨zin_5 _ (List.mem_of_getElem? (i := 63) rfl), rfl⟩
theorem zc_118 : (Cond.code yX9_clearSet cX9_clearSet 2 (some .int)) ∈ zTs := List.mem_filter.mpr ⟨zin_5 _ (List.mem_of_getElem? (i := 70) rfl), rfl⟩
theorem zc_119 : (Cond.code yX9_within cX9_within 7 (some .int)) ∈ zTs := List.mem_filter.mpr ⟨zin_5 _ (List.mem_of_getElem? (i := 78) rfl), rfl⟩
theorem zc_120 : (Cond.code yX9_comeSet cX9_comeSet 3 (some .int)) ∈ zTs := List.mem_filter.mpr ⟨zin_5 _ (List.mem_of_getElem? (i := 59) rfl), rfl⟩
theorem zc_121 : (Cond.code yX9_steps cX9_steps 6 (some .int)) ∈ zTs := List.mem_filter.mpr ⟨zin_5 _ (List.mem_of_getElem? (i := 90) rfl), rfl⟩
theorem zc_122 : (Cond.code yX9_onWay cX9_onWay 9 (some .int)) ∈ zTs := List.mem_filter.mpr ⟨zin_5 _ (List.mem_of_getElem? (i := 99) rfl), rfl⟩
theorem zc_123 : (Cond.code yX9_first cX9_first 3 (some .int)) ∈ zTs := List.mem_filter.mpr ⟨zin_5 _ (List.mem_of_getElem? (i := 103) rfl), rfl⟩
theorem zc_124 : (Cond.code yX9_greatestWant cX9_greatestWant 5 (some .int)) ∈ zTs := List.mem_filter.mpr ⟨zin_5 _ (List.mem_of_getElem? (i := 111) rfl), rfl⟩
theorem zc_125 : (Cond.code yX9_fewestThorns cX9_fewestThorns 6 (some .int)) ∈ zTs := List.mem_filter.mpr ⟨zin_5 _ (List.mem_of_getElem? (i := 119) rfl), rfl⟩
theorem zc_126 : (Cond.code yX9_lowers cX9_lowers 6 (some .boolean)) ∈ zTs := List.mem_filter.mpr ⟨zin_5 _ (List.mem_of_getElem? (i := 127) rfl), rfl⟩
theorem zc_127 : (Cond.code yX9_fewestCleared cX9_fewestCleared 6 (some .int)) ∈ zTs := List.mem_filter.mpr ⟨zin_5 _ (List.mem_of_getElem? (i := 138) rfl), rfl⟩
theorem zc_128 : (Cond.code yX9_whoComeToAll cX9_whoComeToAll 4 (some .int)) ∈ zTs := List.mem_filter.mpr ⟨zin_6 _ (List.mem_of_getElem? (i := 41) rfl), rfl⟩
theorem zc_129 : (Cond.code yX10_init cX10_init 2 none) ∈ zTs := List.mem_filter.mpr ⟨zin_2 _ (List.mem_of_getElem? (i := 144) rfl), rfl⟩
theorem zc_130 : (Cond.code yX10_fitting cX10_fitting 6 (some .int)) ∈ zTs := List.mem_filter.mpr ⟨zin_5 _ (List.mem_of_getElem? (i := 239) rfl), rfl⟩
theorem zc_131 : (Cond.code yX10_isAsTold cX10_isAsTold 6 (some .boolean)) ∈ zTs := List.mem_filter.mpr ⟨zin_6 _ (List.mem_of_getElem? (i := 3) rfl), rfl⟩
theorem zc_132 : (Cond.code yX10_inSet cX10_inSet 5 (some .int)) ∈ zTs := List.mem_filter.mpr ⟨zin_6 _ (List.mem_of_getElem? (i := 15) rfl), rfl⟩
theorem zc_133 : (Cond.code yX10_bestAsked cX10_bestAsked 7 (some .int)) ∈ zTs := List.mem_filter.mpr ⟨zin_6 _ (List.mem_of_getElem? (i := 24) rfl), rfl⟩
theorem zc_134 : (Cond.code yX10_mostWithOneCatch cX10_mostWithOneCatch 7 (some .int)) ∈ zTs := List.mem_filter.mpr ⟨zin_6 _ (List.mem_of_getElem? (i := 29) rfl), rfl⟩
theorem zc_135 : (Cond.code yX11_init cX11_init 2 none) ∈ zTs := List.mem_filter.mpr ⟨zin_1 _ (List.mem_of_getElem? (i := 24) rfl), rfl⟩
theorem zc_136 : (Cond.code yX11_status cX11_status 1 (some .int)) ∈ zTs := List.mem_filter.mpr ⟨zin_2 _ (List.mem_of_getElem? (i := 227) rfl), rfl⟩
theorem zc_137 : (Cond.code yX11_top cX11_top 1 (some .long)) ∈ zTs := List.mem_filter.mpr ⟨zin_2 _ (List.mem_of_getElem? (i := 231) rfl), rfl⟩
theorem zc_138 : (Cond.code yX11_bottom cX11_bottom 1 (some .long)) ∈ zTs := List.mem_filter.mpr ⟨zin_2 _ (List.mem_of_getElem? (i := 235) rfl), rfl⟩
theorem zc_139 : (Cond.code yX11_tray cX11_tray 5 (some .boolean)) ∈ zTs := List.mem_filter.mpr ⟨zin_2 _ (List.mem_of_getElem? (i := 239) rfl), rfl⟩
theorem zc_140 : (Cond.code yX11_write cX11_write 7 (some .boolean)) ∈ zTs := List.mem_filter.mpr ⟨zin_3 _ (List.mem_of_getElem? (i := 22) rfl), rfl⟩
theorem zc_141 : (Cond.code yX11_read cX11_read 5 (some .long)) ∈ zTs := List.mem_filter.mpr ⟨zin_3 _ (List.mem_of_getElem? (i := 46) rfl), rfl⟩
theorem zc_142 : (Cond.code yX11_pour cX11_pour 8 (some .boolean)) ∈ zTs := List.mem_filter.mpr ⟨zin_3 _ (List.mem_of_getElem? (i := 58) rfl), rfl⟩
theorem zc_143 : (Cond.code yX11_feed cX11_feed 6 (some .int)) ∈ zTs := List.mem_filter.mpr ⟨zin_3 _ (List.mem_of_getElem? (i := 68) rfl), rfl⟩
theorem zc_144 : (Cond.code yX11_school cX11_school 2 (some .int)) ∈ zTs := List.mem_filter.mpr ⟨zin_3 _ (List.mem_of_getElem? (i := 83) rfl), rfl⟩
theorem zc_145 : (Cond.code yX11_autumns cX11_autumns 2 (some .int)) ∈ zTs := List.mem_filter.mpr ⟨zin_4 _ (List.mem_of_getElem? (i := 44) rfl), rfl⟩
theorem zc_146 : (Cond.code yX11_fault cX11_fault 2 (some .int)) ∈ zTs := List.mem_filter.mpr ⟨zin_4 _ (List.mem_of_getElem? (i := 109) rfl), rfl⟩
theorem zc_147 : (Cond.code yX11_told cX11_told 2 (some .int)) ∈ zTs := List.mem_filter.mpr ⟨zin_4 _ (List.mem_of_getElem? (i := 113) rfl), rfl⟩
theorem zc_148 : (Cond.code yX11_cell cX11_cell 3 (some .int)) ∈ zTs := List.mem_filter.mpr ⟨zin_4 _ (List.mem_of_getElem? (i := 130) rfl), rfl⟩
theorem zc_149 : (Cond.code yX11_lesson cX11_lesson 3 (some .int)) ∈ zTs := List.mem_filter.mpr ⟨zin_4 _ (List.mem_of_getElem? (i := 143) rfl), rfl⟩
theorem zc_150 : (Cond.code yX11_pupil cX11_pupil 3 (some .int)) ∈ zTs := List.mem_filter.mpr ⟨zin_4 _ (List.mem_of_getElem? (i := 156) rfl), rfl⟩
theorem zc_151 : (Cond.code yX11_catches cX11_catches 3 (some .int)) ∈ zTs := List.mem_filter.mpr ⟨zin_4 _ (List.mem_of_getElem? (i := 174) rfl), rfl⟩
theorem zc_152 : (Cond.code yX11_go cX11_go 3 (some .int)) ∈ zTs := List.mem_filter.mpr ⟨zin_4 _ (List.mem_of_getElem? (i := 185) rfl), rfl⟩
theorem zc_153 : (Cond.code yX11_free cX11_free 3 (some .int)) ∈ zTs := List.mem_filter.mpr ⟨zin_4 _ (List.mem_of_getElem? (i := 204) rfl), rfl⟩
theorem zc_154 : (Cond.code yX11_tear cX11_tear 2 (some .int)) ∈ zTs := List.mem_filter.mpr ⟨zin_4 _ (List.mem_of_getElem? (i := 231) rfl), rfl⟩
theorem zc_155 : (Cond.code yX11_pick cX11_pick 2 (some .int)) ∈ zTs := List.mem_filter.mpr ⟨zin_5 _ (List.mem_of_getElem? (i := 7) rfl), rfl⟩
theorem zc_156 : (Cond.code yX11_year cX11_year 2 (some .int)) ∈ zTs := List.mem_filter.mpr ⟨zin_5 _ (List.mem_of_getElem? (i := 19) rfl), rfl⟩
theorem zc_157 : (Cond.code yX11_plant cX11_plant 4 (some .int)) ∈ zTs := List.mem_filter.mpr ⟨zin_5 _ (List.mem_of_getElem? (i := 31) rfl), rfl⟩
theorem zc_158 : (Cond.code yX11_wish cX11_wish 3 (some .int)) ∈ zTs := List.mem_filter.mpr ⟨zin_5 _ (List.mem_of_getElem? (i := 36) rfl), rfl⟩
theorem zc_159 : (Cond.code yX11_teach cX11_teach 5 (some .boolean)) ∈ zTs := List.mem_filter.mpr ⟨zin_5 _ (List.mem_of_getElem? (i := 40) rfl), rfl⟩
theorem zc_160 : (Cond.code yX11_come cX11_come 2 (some .int)) ∈ zTs := List.mem_filter.mpr ⟨zin_5 _ (List.mem_of_getElem? (i := 46) rfl), rfl⟩
theorem zc_161 : (Cond.code yX11_rule cX11_rule 2 (some .boolean)) ∈ zTs := List.mem_filter.mpr ⟨zin_5 _ (List.mem_of_getElem? (i := 51) rfl), rfl⟩
theorem zc_162 : (Cond.code yX11_reach cX11_reach 2 (some .int)) ∈ zTs := List.mem_filter.mpr ⟨zin_5 _ (List.mem_of_getElem? (i := 55) rfl), rfl⟩
theorem zc_163 : (Cond.code yX11_far cX11_far 4 (some .int)) ∈ zTs := List.mem_filter.mpr ⟨zin_5 _ (List.mem_of_getElem? (i := 86) rfl), rfl⟩
theorem zc_164 : (Cond.code yX11_way cX11_way 5 (some .int)) ∈ zTs := List.mem_filter.mpr ⟨zin_5 _ (List.mem_of_getElem? (i := 95) rfl), rfl⟩
theorem zc_165 : (Cond.code yX11_calm cX11_calm 4 (some .int)) ∈ zTs := List.mem_filter.mpr ⟨zin_5 _ (List.mem_of_getElem? (i := 107) rfl), rfl⟩
theorem zc_166 : (Cond.code yX11_pricks cX11_pricks 3 (some .int)) ∈ zTs := List.mem_filter.mpr ⟨zin_5 _ (List.mem_of_getElem? (i := 115) rfl), rfl⟩
theorem zc_167 : (Cond.code yX11_opening cX11_opening 3 (some .int)) ∈ zTs := List.mem_filter.mpr ⟨zin_5 _ (List.mem_of_getElem? (i := 134) rfl), rfl⟩
theorem zc_168 : (Cond.code yX11_freed cX11_freed 1 (some .int)) ∈ zTs := List.mem_filter.mpr ⟨zin_5 _ (List.mem_of_getElem? (i := 142) rfl), rfl⟩
theorem zc_169 : (Cond.code yX11_helpers cX11_helpers 2 (some .int)) ∈ zTs := List.mem_filter.mpr ⟨zin_5 _ (List.mem_of_getElem? (i := 155) rfl), rfl⟩
theorem zc_170 : (Cond.code yX11_learns cX11_learns 3 (some .int)) ∈ zTs := List.mem_filter.mpr ⟨zin_5 _ (List.mem_of_getElem? (i := 164) rfl), rfl⟩
theorem zc_171 : (Cond.code yX11_alone cX11_alone 2 (some .int)) ∈ zTs := List.mem_filter.mpr ⟨zin_5 _ (List.mem_of_getElem? (i := 169) rfl), rfl⟩
theorem zc_172 : (Cond.code yX11_together cX11_together 2 (some .int)) ∈ zTs := List.mem_filter.mpr ⟨zin_5 _ (List.mem_of_getElem? (i := 184) rfl), rfl⟩
theorem zc_173 : (Cond.code yX11_orders cX11_orders 1 (some .int)) ∈ zTs := List.mem_filter.mpr ⟨zin_5 _ (List.mem_of_getElem? (i := 198) rfl), rfl⟩
theorem zc_174 : (Cond.code yX11_orderAt cX11_orderAt 2 (some .int)) ∈ zTs := List.mem_filter.mpr ⟨zin_5 _ (List.mem_of_getElem? (i := 210) rfl), rfl⟩
theorem zc_175 : (Cond.code yX11_left cX11_left 4 (some .int)) ∈ zTs := List.mem_filter.mpr ⟨zin_5 _ (List.mem_of_getElem? (i := 222) rfl), rfl⟩
theorem zc_176 : (Cond.code yX11_fits cX11_fits 6 (some .int)) ∈ zTs := List.mem_filter.mpr ⟨zin_5 _ (List.mem_of_getElem? (i := 226) rfl), rfl⟩
theorem zc_177 : (Cond.code yX11_fitsAt cX11_fitsAt 8 (some .int)) ∈ zTs := List.mem_filter.mpr ⟨zin_6 _ (List.mem_of_getElem? (i := 11) rfl), rfl⟩
theorem zc_178 : (Cond.code yX11_ask cX11_ask 7 (some .int)) ∈ zTs := List.mem_filter.mpr ⟨zin_6 _ (List.mem_of_getElem? (i := 20) rfl), rfl⟩
theorem zc_179 : (Cond.code yX11_whose cX11_whose 7 (some .int)) ∈ zTs := List.mem_filter.mpr ⟨zin_6 _ (List.mem_of_getElem? (i := 37) rfl), rfl⟩
theorem zc_180 : (Cond.code yX11_game cX11_game 4 (some .int)) ∈ zTs := List.mem_filter.mpr ⟨zin_6 _ (List.mem_of_getElem? (i := 46) rfl), rfl⟩
theorem zc_181 : (Cond.code yX11_moveOf cX11_moveOf 5 (some .int)) ∈ zTs := List.mem_filter.mpr ⟨zin_6 _ (List.mem_of_getElem? (i := 74) rfl), rfl⟩
theorem zc_182 : (Cond.code yX11_chance cX11_chance 4 (some .boolean)) ∈ zTs := List.mem_filter.mpr ⟨zin_6 _ (List.mem_of_getElem? (i := 83) rfl), rfl⟩
theorem zc_183 : (Cond.code yX11_slips cX11_slips 8 (some .boolean)) ∈ zTs := List.mem_filter.mpr ⟨zin_6 _ (List.mem_of_getElem? (i := 95) rfl), rfl⟩
theorem zc_184 : (Cond.code yX11_copyThorns cX11_copyThorns 5 (some .int)) ∈ zTs := List.mem_filter.mpr ⟨zin_6 _ (List.mem_of_getElem? (i := 99) rfl), rfl⟩
theorem zc_185 : (Cond.code yX11_live cX11_live 2 (some .int)) ∈ zTs := List.mem_filter.mpr ⟨zin_6 _ (List.mem_of_getElem? (i := 104) rfl), rfl⟩
theorem zc_186 : (Cond.code yX11_lived cX11_lived 2 (some .int)) ∈ zTs := List.mem_filter.mpr ⟨zin_6 _ (List.mem_of_getElem? (i := 178) rfl), rfl⟩
theorem zc_187 : (Cond.code yX11_mean cX11_mean 6 (some .boolean)) ∈ zTs := List.mem_filter.mpr ⟨zin_6 _ (List.mem_of_getElem? (i := 182) rfl), rfl⟩
theorem zc_188 : (Cond.code yX11_mark cX11_mark 3 (some .int)) ∈ zTs := List.mem_filter.mpr ⟨zin_6 _ (List.mem_of_getElem? (i := 186) rfl), rfl⟩
theorem zc_189 : (Cond.code yX11_undo cX11_undo 3 (some .int)) ∈ zTs := List.mem_filter.mpr ⟨zin_6 _ (List.mem_of_getElem? (i := 190) rfl), rfl⟩
theorem zc_190 : (Cond.code yX11_none cX11_none 2 (some .int)) ∈ zTs := List.mem_filter.mpr ⟨zin_3 _ (List.mem_of_getElem? (i := 50) rfl), rfl⟩
theorem zc_191 : (Cond.code yX11_done cX11_done 2 (some .int)) ∈ zTs := List.mem_filter.mpr ⟨zin_4 _ (List.mem_of_getElem? (i := 39) rfl), rfl⟩
theorem zc_192 : (Cond.code yX11_refused cX11_refused 2 (some .boolean)) ∈ zTs := List.mem_filter.mpr ⟨zin_3 _ (List.mem_of_getElem? (i := 10) rfl), rfl⟩
theorem zc_193 : (Cond.code yX11_granted cX11_granted 1 (some .boolean)) ∈ zTs := List.mem_filter.mpr ⟨zin_3 _ (List.mem_of_getElem? (i := 18) rfl), rfl⟩
theorem zc_194 : (Cond.code yX11_tellFraction cX11_tellFraction 12 none) ∈ zTs := List.mem_filter.mpr ⟨zin_6 _ (List.mem_of_getElem? (i := 91) rfl), rfl⟩
theorem zc_195 : (Cond.code yX11_trayAt cX11_trayAt 2 (some (.object "ThornSchool$Tray"))) ∈ zTs := List.mem_filter.mpr ⟨zin_3 _ (List.mem_of_getElem? (i := 3) rfl), rfl⟩
theorem zc_196 : (Cond.code yX11_troubleWith cX11_troubleWith 4 (some .int)) ∈ zTs := List.mem_filter.mpr ⟨zin_3 _ (List.mem_of_getElem? (i := 26) rfl), rfl⟩
theorem zc_197 : (Cond.code yX11_troubleWithTwos cX11_troubleWithTwos 8 (some .int)) ∈ zTs := List.mem_filter.mpr ⟨zin_5 _ (List.mem_of_getElem? (i := 230) rfl), rfl⟩
theorem zc_198 : (Cond.code yX11_areTwo cX11_areTwo 3 (some .boolean)) ∈ zTs := List.mem_filter.mpr ⟨zin_4 _ (List.mem_of_getElem? (i := 208) rfl), rfl⟩
theorem zc_199 : (Cond.code yX11_get cX11_get 2 (some .int)) ∈ zTs := List.mem_filter.mpr ⟨zin_3 _ (List.mem_of_getElem? (i := 94) rfl), rfl⟩
theorem zc_200 : (Cond.code yX11_put cX11_put 3 none) ∈ zTs := List.mem_filter.mpr ⟨zin_3 _ (List.mem_of_getElem? (i := 79) rfl), rfl⟩
theorem zc_201 : (Cond.code yX11_exchange cX11_exchange 4 (some .int)) ∈ zTs := List.mem_filter.mpr ⟨zin_4 _ (List.mem_of_getElem? (i := 239) rfl), rfl⟩
theorem zc_202 : (Cond.code yX11_fill cX11_fill 3 none) ∈ zTs := List.mem_filter.mpr ⟨zin_1 _ (List.mem_of_getElem? (i := 94) rfl), rfl⟩
theorem zc_203 : (Cond.code yX11_copy cX11_copy 3 none) ∈ zTs := List.mem_filter.mpr ⟨zin_4 _ (List.mem_of_getElem? (i := 28) rfl), rfl⟩
theorem zc_204 : (Cond.code yX11_copy_ cX11_copy_ 3 none) ∈ zTs := List.mem_filter.mpr ⟨zin_4 _ (List.mem_of_getElem? (i := 31) rfl), rfl⟩
theorem zc_205 : (Cond.code yX11_sum cX11_sum 3 (some .int)) ∈ zTs := List.mem_filter.mpr ⟨zin_4 _ (List.mem_of_getElem? (i := 116) rfl), rfl⟩
theorem zc_206 : (Cond.code yX11_bit cX11_bit 1 (some .int)) ∈ zTs := List.mem_filter.mpr ⟨zin_4 _ (List.mem_of_getElem? (i := 8) rfl), rfl⟩
theorem zc_207 : (Cond.code yX11_has cX11_has 2 (some .boolean)) ∈ zTs := List.mem_filter.mpr ⟨zin_4 _ (List.mem_of_getElem? (i := 5) rfl), rfl⟩
theorem zc_208 : (Cond.code yX11_isIn cX11_isIn 3 (some .boolean)) ∈ zTs := List.mem_filter.mpr ⟨zin_3 _ (List.mem_of_getElem? (i := 6) rfl), rfl⟩
theorem zc_209 : (Cond.code yX11_power cX11_power 6 (some .long)) ∈ zTs := List.mem_filter.mpr ⟨zin_6 _ (List.mem_of_getElem? (i := 86) rfl), rfl⟩
theorem zc_210 : (Cond.code yX12_init cX12_init 1 none) ∈ zTs := List.mem_filter.mpr ⟨zin_6 _ (List.mem_of_getElem? (i := 195) rfl), rfl⟩
theorem zc_211 : (Cond.code yX12_plain cX12_plain 3 none) ∈ zTs := List.mem_filter.mpr ⟨zin_6 _ (List.mem_of_getElem? (i := 200) rfl), rfl⟩
theorem zc_212 : (Cond.code yX12_status cX12_status 1 (some .int)) ∈ zTs := List.mem_filter.mpr ⟨zin_7 _ (List.mem_of_getElem? (i := 83) rfl), rfl⟩
theorem zc_213 : (Cond.code yX12_top cX12_top 1 (some .long)) ∈ zTs := List.mem_filter.mpr ⟨zin_7 _ (List.mem_of_getElem? (i := 87) rfl), rfl⟩
theorem zc_214 : (Cond.code yX12_bottom cX12_bottom 1 (some .long)) ∈ zTs := List.mem_filter.mpr ⟨zin_7 _ (List.mem_of_getElem? (i := 91) rfl), rfl⟩
theorem zc_215 : (Cond.code yX12_is cX12_is 2 (some .boolean)) ∈ zTs := List.mem_filter.mpr ⟨zin_7 _ (List.mem_of_getElem? (i := 102) rfl), rfl⟩
theorem zc_216 : (Cond.code yX12_refuse cX12_refuse 2 (some .int)) ∈ zTs := List.mem_filter.mpr ⟨zin_7 _ (List.mem_of_getElem? (i := 162) rfl), rfl⟩
theorem zc_217 : (Cond.code yX12_gives cX12_gives 2 (some .int)) ∈ zTs := List.mem_filter.mpr ⟨zin_8 _ (List.mem_of_getElem? (i := 31) rfl), rfl⟩
theorem zc_218 : (Cond.code yX12_orNone cX12_orNone 2 (some .int)) ∈ zTs := List.mem_filter.mpr ⟨zin_9 _ (List.mem_of_getElem? (i := 19) rfl), rfl⟩
theorem zc_219 : (Cond.code yX12_tellsBy cX12_tellsBy 11 (some .boolean)) ∈ zTs := List.mem_filter.mpr ⟨zin_9 _ (List.mem_of_getElem? (i := 146) rfl), rfl⟩
theorem zc_220 : (Cond.code yX12_isTray cX12_isTray 1 (some .boolean)) ∈ zTs := List.mem_filter.mpr ⟨zin_7 _ (List.mem_of_getElem? (i := 98) rfl), rfl⟩
theorem zc_221 : (Cond.code yX12_cut cX12_cut 3 (some .long)) ∈ zTs := List.mem_filter.mpr ⟨zin_7 _ (List.mem_of_getElem? (i := 113) rfl), rfl⟩
theorem zc_222 : (Cond.code yX12_tray cX12_tray 5 (some .boolean)) ∈ zTs := List.mem_filter.mpr ⟨zin_7 _ (List.mem_of_getElem? (i := 95) rfl), rfl⟩
theorem zc_223 : (Cond.code yX12_wrongPlace cX12_wrongPlace 3 (some .int)) ∈ zTs := List.mem_filter.mpr ⟨zin_7 _ (List.mem_of_getElem? (i := 110) rfl), rfl⟩
theorem zc_224 : (Cond.code yX12_write cX12_write 6 (some .boolean)) ∈ zTs := List.mem_filter.mpr ⟨zin_7 _ (List.mem_of_getElem? (i := 106) rfl), rfl⟩
theorem zc_225 : (Cond.code yX12_read cX12_read 3 (some .long)) ∈ zTs := List.mem_filter.mpr ⟨zin_7 _ (List.mem_of_getElem? (i := 117) rfl), rfl⟩
theorem zc_226 : (Cond.code yX12_pour cX12_pour 8 (some .boolean)) ∈ zTs := List.mem_filter.mpr ⟨zin_7 _ (List.mem_of_getElem? (i := 122) rfl), rfl⟩
theorem zc_227 : (Cond.code yX12_isFrom cX12_isFrom 6 (some .boolean)) ∈ zTs := List.mem_filter.mpr ⟨zin_8 _ (List.mem_of_getElem? (i := 135) rfl), rfl⟩
theorem zc_228 : (Cond.code yX12_feed cX12_feed 6 (some .int)) ∈ zTs := List.mem_filter.mpr ⟨zin_7 _ (List.mem_of_getElem? (i := 126) rfl), rfl⟩
theorem zc_229 : (Cond.code yX12_four cX12_four 3 none) ∈ zTs := List.mem_filter.mpr ⟨zin_7 _ (List.mem_of_getElem? (i := 130) rfl), rfl⟩
theorem zc_230 : (Cond.code yX12_byteAt cX12_byteAt 2 (some .int)) ∈ zTs := List.mem_filter.mpr ⟨zin_7 _ (List.mem_of_getElem? (i := 150) rfl), rfl⟩
theorem zc_231 : (Cond.code yX12_isSmall cX12_isSmall 1 (some .boolean)) ∈ zTs := List.mem_filter.mpr ⟨zin_7 _ (List.mem_of_getElem? (i := 153) rfl), rfl⟩
theorem zc_232 : (Cond.code yX12_isDigit cX12_isDigit 1 (some .boolean)) ∈ zTs := List.mem_filter.mpr ⟨zin_7 _ (List.mem_of_getElem? (i := 156) rfl), rfl⟩
theorem zc_233 : (Cond.code yX12_ahead cX12_ahead 2 none) ∈ zTs := List.mem_filter.mpr ⟨zin_7 _ (List.mem_of_getElem? (i := 146) rfl), rfl⟩
theorem zc_234 : (Cond.code yX12_isSign cX12_isSign 2 (some .boolean)) ∈ zTs := List.mem_filter.mpr ⟨zin_8 _ (List.mem_of_getElem? (i := 23) rfl), rfl⟩
theorem zc_235 : (Cond.code yX12_inWords cX12_inWords 7 (some .int)) ∈ zTs := List.mem_filter.mpr ⟨zin_7 _ (List.mem_of_getElem? (i := 171) rfl), rfl⟩
theorem zc_236 : (Cond.code yX12_fails cX12_fails 2 (some .boolean)) ∈ zTs := List.mem_filter.mpr ⟨zin_7 _ (List.mem_of_getElem? (i := 177) rfl), rfl⟩
theorem zc_237 : (Cond.code yX12_begins cX12_begins 4 (some .boolean)) ∈ zTs := List.mem_filter.mpr ⟨zin_7 _ (List.mem_of_getElem? (i := 142) rfl), rfl⟩
theorem zc_238 : (Cond.code yX12_wantSign cX12_wantSign 2 (some .boolean)) ∈ zTs := List.mem_filter.mpr ⟨zin_8 _ (List.mem_of_getElem? (i := 19) rfl), rfl⟩
theorem zc_239 : (Cond.code yX12_wantWord cX12_wantWord 3 (some .boolean)) ∈ zTs := List.mem_filter.mpr ⟨zin_7 _ (List.mem_of_getElem? (i := 189) rfl), rfl⟩
theorem zc_240 : (Cond.code yX12_number cX12_number 4 (some .boolean)) ∈ zTs := List.mem_filter.mpr ⟨zin_7 _ (List.mem_of_getElem? (i := 185) rfl), rfl⟩
theorem zc_241 : (Cond.code yX12_isName cX12_isName 2 (some .boolean)) ∈ zTs := List.mem_filter.mpr ⟨zin_7 _ (List.mem_of_getElem? (i := 220) rfl), rfl⟩
theorem zc_242 : (Cond.code yX12_nameHere cX12_nameHere 4 (some .long)) ∈ zTs := List.mem_filter.mpr ⟨zin_7 _ (List.mem_of_getElem? (i := 232) rfl), rfl⟩
theorem zc_243 : (Cond.code yX12_findHere cX12_findHere 4 (some .int)) ∈ zTs := List.mem_filter.mpr ⟨zin_7 _ (List.mem_of_getElem? (i := 228) rfl), rfl⟩
theorem zc_244 : (Cond.code yX12_fault cX12_fault 2 (some .int)) ∈ zTs := List.mem_filter.mpr ⟨zin_7 _ (List.mem_of_getElem? (i := 134) rfl), rfl⟩
theorem zc_245 : (Cond.code yX12_taken cX12_taken 2 (some .int)) ∈ zTs := List.mem_filter.mpr ⟨zin_8 _ (List.mem_of_getElem? (i := 27) rfl), rfl⟩
theorem zc_246 : (Cond.code yX12_lessonRow cX12_lessonRow 1 (some .int)) ∈ zTs := List.mem_filter.mpr ⟨zin_7 _ (List.mem_of_getElem? (i := 208) rfl), rfl⟩
theorem zc_247 : (Cond.code yX12_pupilRow cX12_pupilRow 1 (some .int)) ∈ zTs := List.mem_filter.mpr ⟨zin_8 _ (List.mem_of_getElem? (i := 11) rfl), rfl⟩
theorem zc_248 : (Cond.code yX12_cellsOf cX12_cellsOf 2 (some .int)) ∈ zTs := List.mem_filter.mpr ⟨zin_7 _ (List.mem_of_getElem? (i := 201) rfl), rfl⟩
theorem zc_249 : (Cond.code yX12_isIn cX12_isIn 3 (some .boolean)) ∈ zTs := List.mem_filter.mpr ⟨zin_8 _ (List.mem_of_getElem? (i := 4) rfl), rfl⟩
theorem zc_250 : (Cond.code yX12_isThere cX12_isThere 2 (some .boolean)) ∈ zTs := List.mem_filter.mpr ⟨zin_7 _ (List.mem_of_getElem? (i := 236) rfl), rfl⟩
theorem zc_251 : (Cond.code yX12_perhaps cX12_perhaps 6 (some .boolean)) ∈ zTs := List.mem_filter.mpr ⟨zin_8 _ (List.mem_of_getElem? (i := 15) rfl), rfl⟩
theorem zc_252 : (Cond.code yX12_isFull cX12_isFull 3 (some .boolean)) ∈ zTs := List.mem_filter.mpr ⟨zin_7 _ (List.mem_of_getElem? (i := 216) rfl), rfl⟩
theorem zc_253 : (Cond.code yX12_isOld cX12_isOld 1 (some .boolean)) ∈ zTs := List.mem_filter.mpr ⟨zin_7 _ (List.mem_of_getElem? (i := 224) rfl), rfl⟩
theorem zc_254 : (Cond.code yX12_newOne cX12_newOne 4 (some .boolean)) ∈ zTs := List.mem_filter.mpr ⟨zin_7 _ (List.mem_of_getElem? (i := 212) rfl), rfl⟩
theorem zc_255 : (Cond.code yX12_newCellTo cX12_newCellTo 2 (some .boolean)) ∈ zTs := List.mem_filter.mpr ⟨zin_7 _ (List.mem_of_getElem? (i := 197) rfl), rfl⟩
theorem zc_256 : (Cond.code yX12_lessonsTo cX12_lessonsTo 3 (some .boolean)) ∈ zTs := List.mem_filter.mpr ⟨zin_8 _ (List.mem_of_getElem? (i := 0) rfl), rfl⟩
theorem zc_257 : (Cond.code yX12_aThicket cX12_aThicket 1 (some .boolean)) ∈ zTs := List.mem_filter.mpr ⟨zin_7 _ (List.mem_of_getElem? (i := 181) rfl), rfl⟩
theorem zc_258 : (Cond.code yX12_aPlant cX12_aPlant 3 (some .boolean)) ∈ zTs := List.mem_filter.mpr ⟨zin_7 _ (List.mem_of_getElem? (i := 193) rfl), rfl⟩
theorem zc_259 : (Cond.code yX12_aLesson cX12_aLesson 2 (some .boolean)) ∈ zTs := List.mem_filter.mpr ⟨zin_7 _ (List.mem_of_getElem? (i := 205) rfl), rfl⟩
theorem zc_260 : (Cond.code yX12_aPupil cX12_aPupil 2 (some .boolean)) ∈ zTs := List.mem_filter.mpr ⟨zin_8 _ (List.mem_of_getElem? (i := 8) rfl), rfl⟩
theorem zc_261 : (Cond.code yX12_schoolPart cX12_schoolPart 3 (some .boolean)) ∈ zTs := List.mem_filter.mpr ⟨zin_7 _ (List.mem_of_getElem? (i := 166) rfl), rfl⟩
theorem zc_262 : (Cond.code yX12_school cX12_school 4 (some .int)) ∈ zTs := List.mem_filter.mpr ⟨zin_7 _ (List.mem_of_getElem? (i := 138) rfl), rfl⟩
theorem zc_263 : (Cond.code yX12_pupilTo cX12_pupilTo 2 (some .boolean)) ∈ zTs := List.mem_filter.mpr ⟨zin_8 _ (List.mem_of_getElem? (i := 47) rfl), rfl⟩
theorem zc_264 : (Cond.code yX12_cellTo cX12_cellTo 2 (some .boolean)) ∈ zTs := List.mem_filter.mpr ⟨zin_8 _ (List.mem_of_getElem? (i := 59) rfl), rfl⟩
theorem zc_265 : (Cond.code yX12_sideTo cX12_sideTo 3 (some .boolean)) ∈ zTs := List.mem_filter.mpr ⟨zin_8 _ (List.mem_of_getElem? (i := 51) rfl), rfl⟩
theorem zc_266 : (Cond.code yX12_test cX12_test 4 (some .boolean)) ∈ zTs := List.mem_filter.mpr ⟨zin_8 _ (List.mem_of_getElem? (i := 55) rfl), rfl⟩
theorem zc_267 : (Cond.code yX12_autumnOrder cX12_autumnOrder 3 (some .boolean)) ∈ zTs := List.mem_filter.mpr ⟨zin_8 _ (List.mem_of_getElem? (i := 43) rfl), rfl⟩
theorem zc_268 : (Cond.code yX12_autumnStep cX12_autumnStep 6 (some .boolean)) ∈ zTs := List.mem_filter.mpr ⟨zin_8 _ (List.mem_of_getElem? (i := 39) rfl), rfl⟩
theorem zc_269 : (Cond.code yX12_autumns cX12_autumns 4 (some .int)) ∈ zTs := List.mem_filter.mpr ⟨zin_8 _ (List.mem_of_getElem? (i := 35) rfl), rfl⟩
theorem zc_270 : (Cond.code yX12_isCell cX12_isCell 2 (some .boolean)) ∈ zTs := List.mem_filter.mpr ⟨zin_8 _ (List.mem_of_getElem? (i := 91) rfl), rfl⟩
theorem zc_271 : (Cond.code yX12_isLesson cX12_isLesson 2 (some .boolean)) ∈ zTs := List.mem_filter.mpr ⟨zin_8 _ (List.mem_of_getElem? (i := 103) rfl), rfl⟩
theorem zc_272 : (Cond.code yX12_isPupil cX12_isPupil 2 (some .boolean)) ∈ zTs := List.mem_filter.mpr ⟨zin_8 _ (List.mem_of_getElem? (i := 111) rfl), rfl⟩
theorem zc_273 : (Cond.code yX12_bits cX12_bits 3 (some .int)) ∈ zTs := List.mem_filter.mpr ⟨zin_8 _ (List.mem_of_getElem? (i := 114) rfl), rfl⟩
theorem zc_274 : (Cond.code yX12_pupilOf cX12_pupilOf 3 (some .int)) ∈ zTs := List.mem_filter.mpr ⟨zin_8 _ (List.mem_of_getElem? (i := 79) rfl), rfl⟩
theorem zc_275 : (Cond.code yX12_needsOf cX12_needsOf 2 (some .int)) ∈ zTs := List.mem_filter.mpr ⟨zin_8 _ (List.mem_of_getElem? (i := 167) rfl), rfl⟩
theorem zc_276 : (Cond.code yX12_catchBy cX12_catchBy 5 (some .int)) ∈ zTs := List.mem_filter.mpr ⟨zin_8 _ (List.mem_of_getElem? (i := 126) rfl), rfl⟩
theorem zc_277 : (Cond.code yX12_catchOf cX12_catchOf 3 (some .int)) ∈ zTs := List.mem_filter.mpr ⟨zin_8 _ (List.mem_of_getElem? (i := 122) rfl), rfl⟩
theorem zc_278 : (Cond.code yX12_isCaught cX12_isCaught 2 (some .boolean)) ∈ zTs := List.mem_filter.mpr ⟨zin_8 _ (List.mem_of_getElem? (i := 75) rfl), rfl⟩
theorem zc_279 : (Cond.code yX12_allOf cX12_allOf 4 (some .int)) ∈ zTs := List.mem_filter.mpr ⟨zin_8 _ (List.mem_of_getElem? (i := 67) rfl), rfl⟩
theorem zc_280 : (Cond.code yX12_together0 cX12_together0 4 (some .int)) ∈ zTs := List.mem_filter.mpr ⟨zin_8 _ (List.mem_of_getElem? (i := 83) rfl), rfl⟩
theorem zc_281 : (Cond.code yX12_allCaught cX12_allCaught 3 (some .int)) ∈ zTs := List.mem_filter.mpr ⟨zin_8 _ (List.mem_of_getElem? (i := 71) rfl), rfl⟩
theorem zc_282 : (Cond.code yX12_told cX12_told 2 (some .int)) ∈ zTs := List.mem_filter.mpr ⟨zin_8 _ (List.mem_of_getElem? (i := 63) rfl), rfl⟩
theorem zc_283 : (Cond.code yX12_whoIs cX12_whoIs 6 (some .int)) ∈ zTs := List.mem_filter.mpr ⟨zin_8 _ (List.mem_of_getElem? (i := 95) rfl), rfl⟩
theorem zc_284 : (Cond.code yX12_cell cX12_cell 3 (some .int)) ∈ zTs := List.mem_filter.mpr ⟨zin_8 _ (List.mem_of_getElem? (i := 87) rfl), rfl⟩
theorem zc_285 : (Cond.code yX12_lesson cX12_lesson 3 (some .int)) ∈ zTs := List.mem_filter.mpr ⟨zin_8 _ (List.mem_of_getElem? (i := 99) rfl), rfl⟩
theorem zc_286 : (Cond.code yX12_pupil cX12_pupil 3 (some .int)) ∈ zTs := List.mem_filter.mpr ⟨zin_8 _ (List.mem_of_getElem? (i := 107) rfl), rfl⟩
theorem zc_287 : (Cond.code yX12_catches cX12_catches 3 (some .int)) ∈ zTs := List.mem_filter.mpr ⟨zin_8 _ (List.mem_of_getElem? (i := 118) rfl), rfl⟩
theorem zc_288 : (Cond.code yX12_sideOf cX12_sideOf 4 (some .int)) ∈ zTs := List.mem_filter.mpr ⟨zin_8 _ (List.mem_of_getElem? (i := 143) rfl), rfl⟩
theorem zc_289 : (Cond.code yX12_isNear cX12_isNear 5 (some .boolean)) ∈ zTs := List.mem_filter.mpr ⟨zin_8 _ (List.mem_of_getElem? (i := 155) rfl), rfl⟩
theorem zc_290 : (Cond.code yX12_goes cX12_goes 5 (some .int)) ∈ zTs := List.mem_filter.mpr ⟨zin_8 _ (List.mem_of_getElem? (i := 139) rfl), rfl⟩
theorem zc_291 : (Cond.code yX12_go cX12_go 4 (some .int)) ∈ zTs := List.mem_filter.mpr ⟨zin_8 _ (List.mem_of_getElem? (i := 131) rfl), rfl⟩
theorem zc_292 : (Cond.code yX12_nextLesson cX12_nextLesson 4 (some .int)) ∈ zTs := List.mem_filter.mpr ⟨zin_8 _ (List.mem_of_getElem? (i := 163) rfl), rfl⟩
theorem zc_293 : (Cond.code yX12_canFree cX12_canFree 3 (some .boolean)) ∈ zTs := List.mem_filter.mpr ⟨zin_8 _ (List.mem_of_getElem? (i := 151) rfl), rfl⟩
theorem zc_294 : (Cond.code yX12_frees cX12_frees 4 none) ∈ zTs := List.mem_filter.mpr ⟨zin_8 _ (List.mem_of_getElem? (i := 159) rfl), rfl⟩
theorem zc_295 : (Cond.code yX12_free cX12_free 3 (some .int)) ∈ zTs := List.mem_filter.mpr ⟨zin_8 _ (List.mem_of_getElem? (i := 147) rfl), rfl⟩
theorem zc_296 : (Cond.code yX12_tears cX12_tears 4 (some .int)) ∈ zTs := List.mem_filter.mpr ⟨zin_8 _ (List.mem_of_getElem? (i := 175) rfl), rfl⟩
theorem zc_297 : (Cond.code yX12_tear cX12_tear 3 (some .int)) ∈ zTs := List.mem_filter.mpr ⟨zin_8 _ (List.mem_of_getElem? (i := 171) rfl), rfl⟩
theorem zc_298 : (Cond.code yX12_picks cX12_picks 4 (some .int)) ∈ zTs := List.mem_filter.mpr ⟨zin_8 _ (List.mem_of_getElem? (i := 183) rfl), rfl⟩
theorem zc_299 : (Cond.code yX12_pick cX12_pick 3 (some .int)) ∈ zTs := List.mem_filter.mpr ⟨zin_8 _ (List.mem_of_getElem? (i := 179) rfl), rfl⟩
theorem zc_300 : (Cond.code yX12_yearGoes cX12_yearGoes 2 none) ∈ zTs := List.mem_filter.mpr ⟨zin_8 _ (List.mem_of_getElem? (i := 196) rfl), rfl⟩
theorem zc_301 : (Cond.code yX12_yearsGo cX12_yearsGo 3 none) ∈ zTs := List.mem_filter.mpr ⟨zin_8 _ (List.mem_of_getElem? (i := 192) rfl), rfl⟩
theorem zc_302 : (Cond.code yX12_year cX12_year 2 (some .int)) ∈ zTs := List.mem_filter.mpr ⟨zin_8 _ (List.mem_of_getElem? (i := 187) rfl), rfl⟩
theorem zc_303 : (Cond.code yX12_plant cX12_plant 6 (some .int)) ∈ zTs := List.mem_filter.mpr ⟨zin_8 _ (List.mem_of_getElem? (i := 200) rfl), rfl⟩
theorem zc_304 : (Cond.code yX12_wish cX12_wish 4 (some .int)) ∈ zTs := List.mem_filter.mpr ⟨zin_8 _ (List.mem_of_getElem? (i := 205) rfl), rfl⟩
theorem zc_305 : (Cond.code yX12_teach cX12_teach 4 (some .boolean)) ∈ zTs := List.mem_filter.mpr ⟨zin_8 _ (List.mem_of_getElem? (i := 209) rfl), rfl⟩
theorem zc_306 : (Cond.code yX12_come cX12_come 4 (some .int)) ∈ zTs := List.mem_filter.mpr ⟨zin_8 _ (List.mem_of_getElem? (i := 213) rfl), rfl⟩
theorem zc_307 : (Cond.code yX12_rule cX12_rule 2 (some .boolean)) ∈ zTs := List.mem_filter.mpr ⟨zin_8 _ (List.mem_of_getElem? (i := 217) rfl), rfl⟩
theorem zc_308 : (Cond.code yX12_isClear cX12_isClear 3 (some .boolean)) ∈ zTs := List.mem_filter.mpr ⟨zin_8 _ (List.mem_of_getElem? (i := 239) rfl), rfl⟩
theorem zc_309 : (Cond.code yX12_laysFar cX12_laysFar 7 none) ∈ zTs := List.mem_filter.mpr ⟨zin_8 _ (List.mem_of_getElem? (i := 234) rfl), rfl⟩
theorem zc_310 : (Cond.code yX12_stepsTo cX12_stepsTo 3 (some .int)) ∈ zTs := List.mem_filter.mpr ⟨zin_8 _ (List.mem_of_getElem? (i := 230) rfl), rfl⟩
theorem zc_311 : (Cond.code yX12_reachOf cX12_reachOf 4 (some .int)) ∈ zTs := List.mem_filter.mpr ⟨zin_8 _ (List.mem_of_getElem? (i := 226) rfl), rfl⟩
theorem zc_312 : (Cond.code yX12_reach cX12_reach 2 (some .int)) ∈ zTs := List.mem_filter.mpr ⟨zin_8 _ (List.mem_of_getElem? (i := 222) rfl), rfl⟩
theorem zc_313 : (Cond.code yX12_far cX12_far 4 (some .int)) ∈ zTs := List.mem_filter.mpr ⟨zin_9 _ (List.mem_of_getElem? (i := 3) rfl), rfl⟩
theorem zc_314 : (Cond.code yX12_nextOf cX12_nextOf 6 (some .int)) ∈ zTs := List.mem_filter.mpr ⟨zin_9 _ (List.mem_of_getElem? (i := 11) rfl), rfl⟩
theorem zc_315 : (Cond.code yX12_way cX12_way 7 (some .int)) ∈ zTs := List.mem_filter.mpr ⟨zin_9 _ (List.mem_of_getElem? (i := 7) rfl), rfl⟩
theorem zc_316 : (Cond.code yX12_calm cX12_calm 7 (some .int)) ∈ zTs := List.mem_filter.mpr ⟨zin_9 _ (List.mem_of_getElem? (i := 15) rfl), rfl⟩
theorem zc_317 : (Cond.code yX12_stepCost cX12_stepCost 5 (some .int)) ∈ zTs := List.mem_filter.mpr ⟨zin_9 _ (List.mem_of_getElem? (i := 31) rfl), rfl⟩
theorem zc_318 : (Cond.code yX12_laysCost cX12_laysCost 7 none) ∈ zTs := List.mem_filter.mpr ⟨zin_9 _ (List.mem_of_getElem? (i := 27) rfl), rfl⟩
theorem zc_319 : (Cond.code yX12_pricks cX12_pricks 3 (some .int)) ∈ zTs := List.mem_filter.mpr ⟨zin_9 _ (List.mem_of_getElem? (i := 23) rfl), rfl⟩
theorem zc_320 : (Cond.code yX12_opening cX12_opening 3 (some .int)) ∈ zTs := List.mem_filter.mpr ⟨zin_9 _ (List.mem_of_getElem? (i := 35) rfl), rfl⟩
theorem zc_321 : (Cond.code yX12_nearTo cX12_nearTo 5 (some .int)) ∈ zTs := List.mem_filter.mpr ⟨zin_9 _ (List.mem_of_getElem? (i := 43) rfl), rfl⟩
theorem zc_322 : (Cond.code yX12_freed cX12_freed 4 (some .int)) ∈ zTs := List.mem_filter.mpr ⟨zin_9 _ (List.mem_of_getElem? (i := 39) rfl), rfl⟩
theorem zc_323 : (Cond.code yX12_helpers cX12_helpers 2 (some .int)) ∈ zTs := List.mem_filter.mpr ⟨zin_9 _ (List.mem_of_getElem? (i := 47) rfl), rfl⟩
theorem zc_324 : (Cond.code yX12_learns cX12_learns 2 (some .int)) ∈ zTs := List.mem_filter.mpr ⟨zin_9 _ (List.mem_of_getElem? (i := 51) rfl), rfl⟩
theorem zc_325 : (Cond.code yX12_allNeeds cX12_allNeeds 4 (some .int)) ∈ zTs := List.mem_filter.mpr ⟨zin_9 _ (List.mem_of_getElem? (i := 59) rfl), rfl⟩
theorem zc_326 : (Cond.code yX12_hoursOf cX12_hoursOf 4 (some .int)) ∈ zTs := List.mem_filter.mpr ⟨zin_9 _ (List.mem_of_getElem? (i := 63) rfl), rfl⟩
theorem zc_327 : (Cond.code yX12_alone cX12_alone 2 (some .int)) ∈ zTs := List.mem_filter.mpr ⟨zin_9 _ (List.mem_of_getElem? (i := 55) rfl), rfl⟩
theorem zc_328 : (Cond.code yX12_together cX12_together 5 (some .int)) ∈ zTs := List.mem_filter.mpr ⟨zin_9 _ (List.mem_of_getElem? (i := 67) rfl), rfl⟩
theorem zc_329 : (Cond.code yX12_orders cX12_orders 5 (some .int)) ∈ zTs := List.mem_filter.mpr ⟨zin_9 _ (List.mem_of_getElem? (i := 71) rfl), rfl⟩
theorem zc_330 : (Cond.code yX12_orderAt cX12_orderAt 5 (some .int)) ∈ zTs := List.mem_filter.mpr ⟨zin_9 _ (List.mem_of_getElem? (i := 75) rfl), rfl⟩
theorem zc_331 : (Cond.code yX12_left cX12_left 4 (some .int)) ∈ zTs := List.mem_filter.mpr ⟨zin_9 _ (List.mem_of_getElem? (i := 79) rfl), rfl⟩
theorem zc_332 : (Cond.code yX12_wrongSeen cX12_wrongSeen 6 (some .int)) ∈ zTs := List.mem_filter.mpr ⟨zin_9 _ (List.mem_of_getElem? (i := 87) rfl), rfl⟩
theorem zc_333 : (Cond.code yX12_laysFits cX12_laysFits 8 (some .int)) ∈ zTs := List.mem_filter.mpr ⟨zin_9 _ (List.mem_of_getElem? (i := 93) rfl), rfl⟩
theorem zc_334 : (Cond.code yX12_fits cX12_fits 5 (some .int)) ∈ zTs := List.mem_filter.mpr ⟨zin_9 _ (List.mem_of_getElem? (i := 83) rfl), rfl⟩
theorem zc_335 : (Cond.code yX12_fitsAt cX12_fitsAt 8 (some .int)) ∈ zTs := List.mem_filter.mpr ⟨zin_9 _ (List.mem_of_getElem? (i := 97) rfl), rfl⟩
theorem zc_336 : (Cond.code yX12_mostAlike cX12_mostAlike 7 (some .int)) ∈ zTs := List.mem_filter.mpr ⟨zin_9 _ (List.mem_of_getElem? (i := 105) rfl), rfl⟩
theorem zc_337 : (Cond.code yX12_ask cX12_ask 7 (some .int)) ∈ zTs := List.mem_filter.mpr ⟨zin_9 _ (List.mem_of_getElem? (i := 101) rfl), rfl⟩
theorem zc_338 : (Cond.code yX12_whose cX12_whose 8 (some .int)) ∈ zTs := List.mem_filter.mpr ⟨zin_9 _ (List.mem_of_getElem? (i := 109) rfl), rfl⟩
theorem zc_339 : (Cond.code yX12_mayGo cX12_mayGo 5 (some .int)) ∈ zTs := List.mem_filter.mpr ⟨zin_9 _ (List.mem_of_getElem? (i := 130) rfl), rfl⟩
theorem zc_340 : (Cond.code yX12_isSafe cX12_isSafe 8 (some .boolean)) ∈ zTs := List.mem_filter.mpr ⟨zin_9 _ (List.mem_of_getElem? (i := 134) rfl), rfl⟩
theorem zc_341 : (Cond.code yX12_keepsBy cX12_keepsBy 8 (some .int)) ∈ zTs := List.mem_filter.mpr ⟨zin_9 _ (List.mem_of_getElem? (i := 126) rfl), rfl⟩
theorem zc_342 : (Cond.code yX12_laysKeeps cX12_laysKeeps 9 none) ∈ zTs := List.mem_filter.mpr ⟨zin_9 _ (List.mem_of_getElem? (i := 122) rfl), rfl⟩
theorem zc_343 : (Cond.code yX12_areTwo cX12_areTwo 3 (some .boolean)) ∈ zTs := List.mem_filter.mpr ⟨zin_9 _ (List.mem_of_getElem? (i := 117) rfl), rfl⟩
theorem zc_344 : (Cond.code yX12_game cX12_game 4 (some .int)) ∈ zTs := List.mem_filter.mpr ⟨zin_9 _ (List.mem_of_getElem? (i := 113) rfl), rfl⟩
theorem zc_345 : (Cond.code yX12_moveOf cX12_moveOf 4 (some .int)) ∈ zTs := List.mem_filter.mpr ⟨zin_9 _ (List.mem_of_getElem? (i := 138) rfl), rfl⟩
theorem zc_346 : (Cond.code yX12_chance cX12_chance 9 (some .boolean)) ∈ zTs := List.mem_filter.mpr ⟨zin_9 _ (List.mem_of_getElem? (i := 142) rfl), rfl⟩
theorem zc_347 : (Cond.code yX12_slips cX12_slips 8 (some .boolean)) ∈ zTs := List.mem_filter.mpr ⟨zin_9 _ (List.mem_of_getElem? (i := 150) rfl), rfl⟩
theorem zc_348 : (Cond.code yX12_copyThorns cX12_copyThorns 3 (some .int)) ∈ zTs := List.mem_filter.mpr ⟨zin_9 _ (List.mem_of_getElem? (i := 155) rfl), rfl⟩
theorem zc_349 : (Cond.code yX12_draw cX12_draw 2 (some .int)) ∈ zTs := List.mem_filter.mpr ⟨zin_9 _ (List.mem_of_getElem? (i := 188) rfl), rfl⟩
theorem zc_350 : (Cond.code yX12_goesBy cX12_goesBy 4 (some .boolean)) ∈ zTs := List.mem_filter.mpr ⟨zin_9 _ (List.mem_of_getElem? (i := 172) rfl), rfl⟩
theorem zc_351 : (Cond.code yX12_freesBy cX12_freesBy 3 (some .boolean)) ∈ zTs := List.mem_filter.mpr ⟨zin_9 _ (List.mem_of_getElem? (i := 176) rfl), rfl⟩
theorem zc_352 : (Cond.code yX12_yearsBy cX12_yearsBy 2 (some .boolean)) ∈ zTs := List.mem_filter.mpr ⟨zin_9 _ (List.mem_of_getElem? (i := 180) rfl), rfl⟩
theorem zc_353 : (Cond.code yX12_doesAny cX12_doesAny 3 (some .boolean)) ∈ zTs := List.mem_filter.mpr ⟨zin_9 _ (List.mem_of_getElem? (i := 184) rfl), rfl⟩
theorem zc_354 : (Cond.code yX12_does cX12_does 3 (some .boolean)) ∈ zTs := List.mem_filter.mpr ⟨zin_9 _ (List.mem_of_getElem? (i := 168) rfl), rfl⟩
theorem zc_355 : (Cond.code yX12_holds cX12_holds 5 (some .boolean)) ∈ zTs := List.mem_filter.mpr ⟨zin_9 _ (List.mem_of_getElem? (i := 193) rfl), rfl⟩
theorem zc_356 : (Cond.code yX12_behindEnds cX12_behindEnds 5 (some .int)) ∈ zTs := List.mem_filter.mpr ⟨zin_9 _ (List.mem_of_getElem? (i := 197) rfl), rfl⟩
theorem zc_357 : (Cond.code yX12_lives cX12_lives 4 none) ∈ zTs := List.mem_filter.mpr ⟨zin_9 _ (List.mem_of_getElem? (i := 164) rfl), rfl⟩
theorem zc_358 : (Cond.code yX12_live cX12_live 3 (some .int)) ∈ zTs := List.mem_filter.mpr ⟨zin_9 _ (List.mem_of_getElem? (i := 159) rfl), rfl⟩
theorem zc_359 : (Cond.code yX12_lived cX12_lived 2 (some .int)) ∈ zTs := List.mem_filter.mpr ⟨zin_9 _ (List.mem_of_getElem? (i := 201) rfl), rfl⟩
theorem zc_360 : (Cond.code yX12_mean cX12_mean 7 (some .boolean)) ∈ zTs := List.mem_filter.mpr ⟨zin_9 _ (List.mem_of_getElem? (i := 205) rfl), rfl⟩
theorem zc_361 : (Cond.code yX12_copies cX12_copies 4 none) ∈ zTs := List.mem_filter.mpr ⟨zin_9 _ (List.mem_of_getElem? (i := 213) rfl), rfl⟩
theorem zc_362 : (Cond.code yX12_mark cX12_mark 1 (some .int)) ∈ zTs := List.mem_filter.mpr ⟨zin_9 _ (List.mem_of_getElem? (i := 209) rfl), rfl⟩
theorem zc_363 : (Cond.code yX12_undo cX12_undo 1 (some .int)) ∈ zTs := List.mem_filter.mpr ⟨zin_9 _ (List.mem_of_getElem? (i := 217) rfl), rfl⟩
theorem zc_364 : (Cond.code yJ6_bitCount_0f7a4 cJ6_bitCount_0f7a4 1 (some .int)) ∈ zTs := List.mem_filter.mpr ⟨zin_4 _ (List.mem_of_getElem? (i := 167) rfl), rfl⟩
theorem zcs_0 : ∀ w ∈ [0, 1, 2, 3, 4, 5, 6, 7, 8, 9, 10, 11, 12, 13, 14, 15, 16, 17, 18, 19].map (fun e : Nat => (.code (z_nm e) (z_by e) (z_ml e) (z_rt e) : Cond)), w ∈ zTs := List.forall_mem_cons.mpr ⟨zc_0, List.forall_mem_cons.mpr ⟨zc_1, List.forall_mem_cons.mpr ⟨zc_2, List.forall_mem_cons.mpr ⟨zc_3, List.forall_mem_cons.mpr ⟨zc_4, List.forall_mem_cons.mpr ⟨zc_5, List.forall_mem_cons.mpr ⟨zc_6, List.forall_mem_cons.mpr ⟨zc_7, List.forall_mem_cons.mpr ⟨zc_8, List.forall_mem_cons.mpr ⟨zc_9, List.forall_mem_cons.mpr ⟨zc_10, List.forall_mem_cons.mpr ⟨zc_11, List.forall_mem_cons.mpr ⟨zc_12, List.forall_mem_cons.mpr ⟨zc_13, List.forall_mem_cons.mpr ⟨zc_14, List.forall_mem_cons.mpr ⟨zc_15, List.forall_mem_cons.mpr ⟨zc_16, List.forall_mem_cons.mpr ⟨zc_17, List.forall_mem_cons.mpr ⟨zc_18, List.forall_mem_cons.mpr ⟨zc_19, fun _ h => absurd h List.not_mem_nil⟩⟩⟩⟩⟩⟩⟩⟩⟩⟩⟩⟩⟩⟩⟩⟩⟩⟩⟩⟩
theorem zcs_1 : ∀ w ∈ [20, 21, 22, 23, 24, 25, 26, 27, 28, 29, 30, 31, 32, 33, 34, 35, 36, 37, 38, 39].map (fun e : Nat => (.code (z_nm e) (z_by e) (z_ml e) (z_rt e) : Cond)), w ∈ zTs := List.forall_mem_cons.mpr ⟨zc_20, List.forall_mem_cons.mpr ⟨zc_21, List.forall_mem_cons.mpr ⟨zc_22, List.forall_mem_cons.mpr ⟨zc_23, List.forall_mem_cons.mpr ⟨zc_24, List.forall_mem_cons.mpr ⟨zc_25, List.forall_mem_cons.mpr ⟨zc_26, List.forall_mem_cons.mpr ⟨zc_27, List.forall_mem_cons.mpr ⟨zc_28, List.forall_mem_cons.mpr ⟨zc_29, List.forall_mem_cons.mpr ⟨zc_30, List.forall_mem_cons.mpr ⟨zc_31, List.forall_mem_cons.mpr ⟨zc_32, List.forall_mem_cons.mpr ⟨zc_33, List.forall_mem_cons.mpr ⟨zc_34, List.forall_mem_cons.mpr ⟨zc_35, List.forall_mem_cons.mpr ⟨zc_36, List.forall_mem_cons.mpr ⟨zc_37, List.forall_mem_cons.mpr ⟨zc_38, List.forall_mem_cons.mpr ⟨zc_39, fun _ h => absurd h List.not_mem_nil⟩⟩⟩⟩⟩⟩⟩⟩⟩⟩⟩⟩⟩⟩⟩⟩⟩⟩⟩⟩
theorem zcs_2 : ∀ w ∈ [40, 41, 42, 43, 44, 45, 46, 47, 48, 49, 50, 51, 52, 53, 54, 55, 56, 57, 58, 59].map (fun e : Nat => (.code (z_nm e) (z_by e) (z_ml e) (z_rt e) : Cond)), w ∈ zTs := List.forall_mem_cons.mpr ⟨zc_40, List.forall_mem_cons.mpr ⟨zc_41, List.forall_mem_cons.mpr ⟨zc_42, List.forall_mem_cons.mpr ⟨zc_43, List.forall_mem_cons.mpr ⟨zc_44, List.forall_mem_cons.mpr ⟨zc_45, List.forall_mem_cons.mpr ⟨zc_46, List.forall_mem_cons.mpr ⟨zc_47, List.forall_mem_cons.mpr ⟨zc_48, List.forall_mem_cons.mpr ⟨zc_49, List.forall_mem_cons.mpr ⟨zc_50, List.forall_mem_cons.mpr ⟨zc_51, List.forall_mem_cons.mpr ⟨zc_52, List.forall_mem_cons.mpr ⟨zc_53, List.forall_mem_cons.mpr ⟨zc_54, List.forall_mem_cons.mpr ⟨zc_55, List.forall_mem_cons.mpr ⟨zc_56, List.forall_mem_cons.mpr ⟨zc_57, List.forall_mem_cons.mpr ⟨zc_58, List.forall_mem_cons.mpr ⟨zc_59, fun _ h => absurd h List.not_mem_nil⟩⟩⟩⟩⟩⟩⟩⟩⟩⟩⟩⟩⟩⟩⟩⟩⟩⟩⟩⟩
theorem zcs_3 : ∀ w ∈ [60, 61, 62, 63, 64, 65, 66, 67, 68, 69, 70, 71, 72, 73, 74, 75, 76, 77, 78, 79].map (fun e : Nat => (.code (z_nm e) (z_by e) (z_ml e) (z_rt e) : Cond)), w ∈ zTs := List.forall_mem_cons.mpr ⟨zc_60, List.forall_mem_cons.mpr ⟨zc_61, List.forall_mem_cons.mpr ⟨zc_62, List.forall_mem_cons.mpr ⟨zc_63, List.forall_mem_cons.mpr ⟨zc_64, List.forall_mem_cons.mpr ⟨zc_65, List.forall_mem_cons.mpr ⟨zc_66, List.forall_mem_cons.mpr ⟨zc_67, List.forall_mem_cons.mpr ⟨zc_68, List.forall_mem_cons.mpr ⟨zc_69, List.forall_mem_cons.mpr ⟨zc_70, List.forall_mem_cons.mpr ⟨zc_71, List.forall_mem_cons.mpr ⟨zc_72, List.forall_mem_cons.mpr ⟨zc_73, List.forall_mem_cons.mpr ⟨zc_74, List.forall_mem_cons.mpr ⟨zc_75, List.forall_mem_cons.mpr ⟨zc_76, List.forall_mem_cons.mpr ⟨zc_77, List.forall_mem_cons.mpr ⟨zc_78, List.forall_mem_cons.mpr ⟨zc_79, fun _ h => absurd h List.not_mem_nil⟩⟩⟩⟩⟩⟩⟩⟩⟩⟩⟩⟩⟩⟩⟩⟩⟩⟩⟩⟩
theorem zcs_4 : ∀ w ∈ [80, 81, 82, 83, 84, 85, 86, 87, 88, 89, 90, 91, 92, 93, 94, 95, 96, 97, 98, 99].map (fun e : Nat => (.code (z_nm e) (z_by e) (z_ml e) (z_rt e) : Cond)), w ∈ zTs := List.forall_mem_cons.mpr ⟨zc_80, List.forall_mem_cons.mpr ⟨zc_81, List.forall_mem_cons.mpr ⟨zc_82, List.forall_mem_cons.mpr ⟨zc_83, List.forall_mem_cons.mpr ⟨zc_84, List.forall_mem_cons.mpr ⟨zc_85, List.forall_mem_cons.mpr ⟨zc_86, List.forall_mem_cons.mpr ⟨zc_87, List.forall_mem_cons.mpr ⟨zc_88, List.forall_mem_cons.mpr ⟨zc_89, List.forall_mem_cons.mpr ⟨zc_90, List.forall_mem_cons.mpr ⟨zc_91, List.forall_mem_cons.mpr ⟨zc_92, List.forall_mem_cons.mpr ⟨zc_93, List.forall_mem_cons.mpr ⟨zc_94, List.forall_mem_cons.mpr ⟨zc_95, List.forall_mem_cons.mpr ⟨zc_96, List.forall_mem_cons.mpr ⟨zc_97, List.forall_mem_cons.mpr ⟨zc_98, List.forall_mem_cons.mpr ⟨zc_99, fun _ h => absurd h List.not_mem_nil⟩⟩⟩⟩⟩⟩⟩⟩⟩⟩⟩⟩⟩⟩⟩⟩⟩⟩⟩⟩
theorem zcs_5 : ∀ w ∈ [100, 101, 102, 103, 104, 105, 106, 107, 108, 109, 110, 111, 112, 113, 114, 115, 116, 117, 118, 119].map (fun e : Nat => (.code (z_nm e) (z_by e) (z_ml e) (z_rt e) : Cond)), w ∈ zTs := List.forall_mem_cons.mpr ⟨zc_100, List.forall_mem_cons.mpr ⟨zc_101, List.forall_mem_cons.mpr ⟨zc_102, List.forall_mem_cons.mpr ⟨zc_103, List.forall_mem_cons.mpr ⟨zc_104, List.forall_mem_cons.mpr ⟨zc_105, List.forall_mem_cons.mpr ⟨zc_106, List.forall_mem_cons.mpr ⟨zc_107, List.forall_mem_cons.mpr ⟨zc_108, List.forall_mem_cons.mpr ⟨zc_109, List.forall_mem_cons.mpr ⟨zc_110, List.forall_mem_cons.mpr ⟨zc_111, List.forall_mem_cons.mpr ⟨zc_112, List.forall_mem_cons.mpr ⟨zc_113, List.forall_mem_cons.mpr ⟨zc_114, List.forall_mem_cons.mpr ⟨zc_115, List.forall_mem_cons.mpr ⟨zc_116, List.forall_mem_cons.mpr ⟨zc_117, List.forall_mem_cons.mpr ⟨zc_118, List.forall_mem_cons.mpr ⟨zc_119, fun _ h => absurd h List.not_mem_nil⟩⟩⟩⟩⟩⟩⟩⟩⟩⟩⟩⟩⟩⟩⟩⟩⟩⟩⟩⟩
theorem zcs_6 : ∀ w ∈ [120, 121, 122, 123, 124, 125, 126, 127, 128, 129, 130, 131, 132, 133, 134, 135, 136, 137, 138, 139].map (fun e : Nat => (.code (z_nm e) (z_by e) (z_ml e) (z_rt e) : Cond)), w ∈ zTs := List.forall_mem_cons.mpr ⟨zc_120, List.forall_mem_cons.mpr ⟨zc_121, List.forall_mem_cons.mpr ⟨zc_122, List.forall_mem_cons.mpr ⟨zc_123, List.forall_mem_cons.mpr ⟨zc_124, List.forall_mem_cons.mpr ⟨zc_125, List.forall_mem_cons.mpr ⟨zc_126, List.forall_mem_cons.mpr ⟨zc_127, List.forall_mem_cons.mpr ⟨zc_128, List.forall_mem_cons.mpr ⟨zc_129, List.forall_mem_cons.mpr ⟨zc_130, List.forall_mem_cons.mpr ⟨zc_131, List.forall_mem_cons.mpr ⟨zc_132, List.forall_mem_cons.mpr ⟨zc_133, List.forall_mem_cons.mpr ⟨zc_134, List.forall_mem_cons.mpr ⟨zc_135, List.forall_mem_cons.mpr ⟨zc_136, List.forall_mem_cons.mpr ⟨zc_137, List.forall_mem_cons.mpr ⟨zc_138, List.forall_mem_cons.mpr ⟨zc_139, fun _ h => absurd h List.not_mem_nil⟩⟩⟩⟩⟩⟩⟩⟩⟩⟩⟩⟩⟩⟩⟩⟩⟩⟩⟩⟩
theorem zcs_7 : ∀ w ∈ [140, 141, 142, 143, 144, 145, 146, 147, 148, 149, 150, 151, 152, 153, 154, 155, 156, 157, 158, 159].map (fun e : Nat => (.code (z_nm e) (z_by e) (z_ml e) (z_rt e) : Cond)), w ∈ zTs := List.forall_mem_cons.mpr ⟨zc_140, List.forall_mem_cons.mpr ⟨zc_141, List.forall_mem_cons.mpr ⟨zc_142, List.forall_mem_cons.mpr ⟨zc_143, List.forall_mem_cons.mpr ⟨zc_144, List.forall_mem_cons.mpr ⟨zc_145, List.forall_mem_cons.mpr ⟨zc_146, List.forall_mem_cons.mpr ⟨zc_147, List.forall_mem_cons.mpr ⟨zc_148, List.forall_mem_cons.mpr ⟨zc_149, List.forall_mem_cons.mpr ⟨zc_150, List.forall_mem_cons.mpr ⟨zc_151, List.forall_mem_cons.mpr ⟨zc_152, List.forall_mem_cons.mpr ⟨zc_153, List.forall_mem_cons.mpr ⟨zc_154, List.forall_mem_cons.mpr ⟨zc_155, List.forall_mem_cons.mpr ⟨zc_156, List.forall_mem_cons.mpr ⟨zc_157, List.forall_mem_cons.mpr ⟨zc_158, List.forall_mem_cons.mpr ⟨zc_159, fun _ h => absurd h List.not_mem_nil⟩⟩⟩⟩⟩⟩⟩⟩⟩⟩⟩⟩⟩⟩⟩⟩⟩⟩⟩⟩
theorem zcs_8 : ∀ w ∈ [160, 161, 162, 163, 164, 165, 166, 167, 168, 169, 170, 171, 172, 173, 174, 175, 176, 177, 178, 179].map (fun e : Nat => (.code (z_nm e) (z_by e) (z_ml e) (z_rt e) : Cond)), w ∈ zTs := List.forall_mem_cons.mpr ⟨zc_160, List.forall_mem_cons.mpr ⟨zc_161, List.forall_mem_cons.mpr ⟨zc_162, List.forall_mem_cons.mpr ⟨zc_163, List.forall_mem_cons.mpr ⟨zc_164, List.forall_mem_cons.mpr ⟨zc_165, List.forall_mem_cons.mpr ⟨zc_166, List.forall_mem_cons.mpr ⟨zc_167, List.forall_mem_cons.mpr ⟨zc_168, List.forall_mem_cons.mpr ⟨zc_169, List.forall_mem_cons.mpr ⟨zc_170, List.forall_mem_cons.mpr ⟨zc_171, List.forall_mem_cons.mpr ⟨zc_172, List.forall_mem_cons.mpr ⟨zc_173, List.forall_mem_cons.mpr ⟨zc_174, List.forall_mem_cons.mpr ⟨zc_175, List.forall_mem_cons.mpr ⟨zc_176, List.forall_mem_cons.mpr ⟨zc_177, List.forall_mem_cons.mpr ⟨zc_178, List.forall_mem_cons.mpr ⟨zc_179, fun _ h => absurd h List.not_mem_nil⟩⟩⟩⟩⟩⟩⟩⟩⟩⟩⟩⟩⟩⟩⟩⟩⟩⟩⟩⟩
theorem zcs_9 : ∀ w ∈ [180, 181, 182, 183, 184, 185, 186, 187, 188, 189, 190, 191, 192, 193, 194, 195, 196, 197, 198, 199].map (fun e : Nat => (.code (z_nm e) (z_by e) (z_ml e) (z_rt e) : Cond)), w ∈ zTs := List.forall_mem_cons.mpr ⟨zc_180, List.forall_mem_cons.mpr ⟨zc_181, List.forall_mem_cons.mpr ⟨zc_182, List.forall_mem_cons.mpr ⟨zc_183, List.forall_mem_cons.mpr ⟨zc_184, List.forall_mem_cons.mpr ⟨zc_185, List.forall_mem_cons.mpr ⟨zc_186, List.forall_mem_cons.mpr ⟨zc_187, List.forall_mem_cons.mpr ⟨zc_188, List.forall_mem_cons.mpr ⟨zc_189, List.forall_mem_cons.mpr ⟨zc_190, List.forall_mem_cons.mpr ⟨zc_191, List.forall_mem_cons.mpr ⟨zc_192, List.forall_mem_cons.mpr ⟨zc_193, List.forall_mem_cons.mpr ⟨zc_194, List.forall_mem_cons.mpr ⟨zc_195, List.forall_mem_cons.mpr ⟨zc_196, List.forall_mem_cons.mpr ⟨zc_197, List.forall_mem_cons.mpr ⟨zc_198, List.forall_mem_cons.mpr ⟨zc_199, fun _ h => absurd h List.not_mem_nil⟩⟩⟩⟩⟩⟩⟩⟩⟩⟩⟩⟩⟩⟩⟩⟩⟩⟩⟩⟩
theorem zcs_10 : ∀ w ∈ [200, 201, 202, 203, 204, 205, 206, 207, 208, 209, 210, 211, 212, 213, 214, 215, 216, 217, 218, 219].map (fun e : Nat => (.code (z_nm e) (z_by e) (z_ml e) (z_rt e) : Cond)), w ∈ zTs := List.forall_mem_cons.mpr ⟨zc_200, List.forall_mem_cons.mpr ⟨zc_201, List.forall_mem_cons.mpr ⟨zc_202, List.forall_mem_cons.mpr ⟨zc_203, List.forall_mem_cons.mpr ⟨zc_204, List.forall_mem_cons.mpr ⟨zc_205, List.forall_mem_cons.mpr ⟨zc_206, List.forall_mem_cons.mpr ⟨zc_207, List.forall_mem_cons.mpr ⟨zc_208, List.forall_mem_cons.mpr ⟨zc_209, List.forall_mem_cons.mpr ⟨zc_210, List.forall_mem_cons.mpr ⟨zc_211, List.forall_mem_cons.mpr ⟨zc_212, List.forall_mem_cons.mpr ⟨zc_213, List.forall_mem_cons.mpr ⟨zc_214, List.forall_mem_cons.mpr ⟨zc_215, List.forall_mem_cons.mpr ⟨zc_216, List.forall_mem_cons.mpr ⟨zc_217, List.forall_mem_cons.mpr ⟨zc_218, List.forall_mem_cons.mpr ⟨zc_219, fun _ h => absurd h List.not_mem_nil⟩⟩⟩⟩⟩⟩⟩⟩⟩⟩⟩⟩⟩⟩⟩⟩⟩⟩⟩⟩
theorem zcs_11 : ∀ w ∈ [220, 221, 222, 223, 224, 225, 226, 227, 228, 229, 230, 231, 232, 233, 234, 235, 236, 237, 238, 239].map (fun e : Nat => (.code (z_nm e) (z_by e) (z_ml e) (z_rt e) : Cond)), w ∈ zTs := List.forall_mem_cons.mpr ⟨zc_220, List.forall_mem_cons.mpr ⟨zc_221, List.forall_mem_cons.mpr ⟨zc_222, List.forall_mem_cons.mpr ⟨zc_223, List.forall_mem_cons.mpr ⟨zc_224, List.forall_mem_cons.mpr ⟨zc_225, List.forall_mem_cons.mpr ⟨zc_226, List.forall_mem_cons.mpr ⟨zc_227, List.forall_mem_cons.mpr ⟨zc_228, List.forall_mem_cons.mpr ⟨zc_229, List.forall_mem_cons.mpr ⟨zc_230, List.forall_mem_cons.mpr ⟨zc_231, List.forall_mem_cons.mpr ⟨zc_232, List.forall_mem_cons.mpr ⟨zc_233, List.forall_mem_cons.mpr ⟨zc_234, List.forall_mem_cons.mpr ⟨zc_235, List.forall_mem_cons.mpr ⟨zc_236, List.forall_mem_cons.mpr ⟨zc_237, List.forall_mem_cons.mpr ⟨zc_238, List.forall_mem_cons.mpr ⟨zc_239, fun _ h => absurd h List.not_mem_nil⟩⟩⟩⟩⟩⟩⟩⟩⟩⟩⟩⟩⟩⟩⟩⟩⟩⟩⟩⟩
theorem zcs_12 : ∀ w ∈ [240, 241, 242, 243, 244, 245, 246, 247, 248, 249, 250, 251, 252, 253, 254, 255, 256, 257, 258, 259].map (fun e : Nat => (.code (z_nm e) (z_by e) (z_ml e) (z_rt e) : Cond)), w ∈ zTs := List.forall_mem_cons.mpr ⟨zc_240, List.forall_mem_cons.mpr ⟨zc_241, List.forall_mem_cons.mpr ⟨zc_242, List.forall_mem_cons.mpr ⟨zc_243, List.forall_mem_cons.mpr ⟨zc_244, List.forall_mem_cons.mpr ⟨zc_245, List.forall_mem_cons.mpr ⟨zc_246, List.forall_mem_cons.mpr ⟨zc_247, List.forall_mem_cons.mpr ⟨zc_248, List.forall_mem_cons.mpr ⟨zc_249, List.forall_mem_cons.mpr ⟨zc_250, List.forall_mem_cons.mpr ⟨zc_251, List.forall_mem_cons.mpr ⟨zc_252, List.forall_mem_cons.mpr ⟨zc_253, List.forall_mem_cons.mpr ⟨zc_254, List.forall_mem_cons.mpr ⟨zc_255, List.forall_mem_cons.mpr ⟨zc_256, List.forall_mem_cons.mpr ⟨zc_257, List.forall_mem_cons.mpr ⟨zc_258, List.forall_mem_cons.mpr ⟨zc_259, fun _ h => absurd h List.not_mem_nil⟩⟩⟩⟩⟩⟩⟩⟩⟩⟩⟩⟩⟩⟩⟩⟩⟩⟩⟩⟩
theorem zcs_13 : ∀ w ∈ [260, 261, 262, 263, 264, 265, 266, 267, 268, 269, 270, 271, 272, 273, 274, 275, 276, 277, 278, 279].map (fun e : Nat => (.code (z_nm e) (z_by e) (z_ml e) (z_rt e) : Cond)), w ∈ zTs := List.forall_mem_cons.mpr ⟨zc_260, List.forall_mem_cons.mpr ⟨zc_261, List.forall_mem_cons.mpr ⟨zc_262, List.forall_mem_cons.mpr ⟨zc_263, List.forall_mem_cons.mpr ⟨zc_264, List.forall_mem_cons.mpr ⟨zc_265, List.forall_mem_cons.mpr ⟨zc_266, List.forall_mem_cons.mpr ⟨zc_267, List.forall_mem_cons.mpr ⟨zc_268, List.forall_mem_cons.mpr ⟨zc_269, List.forall_mem_cons.mpr ⟨zc_270, List.forall_mem_cons.mpr ⟨zc_271, List.forall_mem_cons.mpr ⟨zc_272, List.forall_mem_cons.mpr ⟨zc_273, List.forall_mem_cons.mpr ⟨zc_274, List.forall_mem_cons.mpr ⟨zc_275, List.forall_mem_cons.mpr ⟨zc_276, List.forall_mem_cons.mpr ⟨zc_277, List.forall_mem_cons.mpr ⟨zc_278, List.forall_mem_cons.mpr ⟨zc_279, fun _ h => absurd h List.not_mem_nil⟩⟩⟩⟩⟩⟩⟩⟩⟩⟩⟩⟩⟩⟩⟩⟩⟩⟩⟩⟩
theorem zcs_14 : ∀ w ∈ [280, 281, 282, 283, 284, 285, 286, 287, 288, 289, 290, 291, 292, 293, 294, 295, 296, 297, 298, 299].map (fun e : Nat => (.code (z_nm e) (z_by e) (z_ml e) (z_rt e) : Cond)), w ∈ zTs := List.forall_mem_cons.mpr ⟨zc_280, List.forall_mem_cons.mpr ⟨zc_281, List.forall_mem_cons.mpr ⟨zc_282, List.forall_mem_cons.mpr ⟨zc_283, List.forall_mem_cons.mpr ⟨zc_284, List.forall_mem_cons.mpr ⟨zc_285, List.forall_mem_cons.mpr ⟨zc_286, List.forall_mem_cons.mpr ⟨zc_287, List.forall_mem_cons.mpr ⟨zc_288, List.forall_mem_cons.mpr ⟨zc_289, List.forall_mem_cons.mpr ⟨zc_290, List.forall_mem_cons.mpr ⟨zc_291, List.forall_mem_cons.mpr ⟨zc_292, List.forall_mem_cons.mpr ⟨zc_293, List.forall_mem_cons.mpr ⟨zc_294, List.forall_mem_cons.mpr ⟨zc_295, List.forall_mem_cons.mpr ⟨zc_296, List.forall_mem_cons.mpr ⟨zc_297, List.forall_mem_cons.mpr ⟨zc_298, List.forall_mem_cons.mpr ⟨zc_299, fun _ h => absurd h List.not_mem_nil⟩⟩⟩⟩⟩⟩⟩⟩⟩⟩⟩⟩⟩⟩⟩⟩⟩⟩⟩⟩
theorem zcs_15 : ∀ w ∈ [300, 301, 302, 303, 304, 305, 306, 307, 308, 309, 310, 311, 312, 313, 314, 315, 316, 317, 318, 319].map (fun e : Nat => (.code (z_nm e) (z_by e) (z_ml e) (z_rt e) : Cond)), w ∈ zTs := List.forall_mem_cons.mpr ⟨zc_300, List.forall_mem_cons.mpr ⟨zc_301, List.forall_mem_cons.mpr ⟨zc_302, List.forall_mem_cons.mpr ⟨zc_303, List.forall_mem_cons.mpr ⟨zc_304, List.forall_mem_cons.mpr ⟨zc_305, List.forall_mem_cons.mpr ⟨zc_306, List.forall_mem_cons.mpr ⟨zc_307, List.forall_mem_cons.mpr ⟨zc_308, List.forall_mem_cons.mpr ⟨zc_309, List.forall_mem_cons.mpr ⟨zc_310, List.forall_mem_cons.mpr ⟨zc_311, List.forall_mem_cons.mpr ⟨zc_312, List.forall_mem_cons.mpr ⟨zc_313, List.forall_mem_cons.mpr ⟨zc_314, List.forall_mem_cons.mpr ⟨zc_315, List.forall_mem_cons.mpr ⟨zc_316, List.forall_mem_cons.mpr ⟨zc_317, List.forall_mem_cons.mpr ⟨zc_318, List.forall_mem_cons.mpr ⟨zc_319, fun _ h => absurd h List.not_mem_nil⟩⟩⟩⟩⟩⟩⟩⟩⟩⟩⟩⟩⟩⟩⟩⟩⟩⟩⟩⟩
theorem zcs_16 : ∀ w ∈ [320, 321, 322, 323, 324, 325, 326, 327, 328, 329, 330, 331, 332, 333, 334, 335, 336, 337, 338, 339].map (fun e : Nat => (.code (z_nm e) (z_by e) (z_ml e) (z_rt e) : Cond)), w ∈ zTs := List.forall_mem_cons.mpr ⟨zc_320, List.forall_mem_cons.mpr ⟨zc_321, List.forall_mem_cons.mpr ⟨zc_322, List.forall_mem_cons.mpr ⟨zc_323, List.forall_mem_cons.mpr ⟨zc_324, List.forall_mem_cons.mpr ⟨zc_325, List.forall_mem_cons.mpr ⟨zc_326, List.forall_mem_cons.mpr ⟨zc_327, List.forall_mem_cons.mpr ⟨zc_328, List.forall_mem_cons.mpr ⟨zc_329, List.forall_mem_cons.mpr ⟨zc_330, List.forall_mem_cons.mpr ⟨zc_331, List.forall_mem_cons.mpr ⟨zc_332, List.forall_mem_cons.mpr ⟨zc_333, List.forall_mem_cons.mpr ⟨zc_334, List.forall_mem_cons.mpr ⟨zc_335, List.forall_mem_cons.mpr ⟨zc_336, List.forall_mem_cons.mpr ⟨zc_337, List.forall_mem_cons.mpr ⟨zc_338, List.forall_mem_cons.mpr ⟨zc_339, fun _ h => absurd h List.not_mem_nil⟩⟩⟩⟩⟩⟩⟩⟩⟩⟩⟩⟩⟩⟩⟩⟩⟩⟩⟩⟩
theorem zcs_17 : ∀ w ∈ [340, 341, 342, 343, 344, 345, 346, 347, 348, 349, 350, 351, 352, 353, 354, 355, 356, 357, 358, 359].map (fun e : Nat => (.code (z_nm e) (z_by e) (z_ml e) (z_rt e) : Cond)), w ∈ zTs := List.forall_mem_cons.mpr ⟨zc_340, List.forall_mem_cons.mpr ⟨zc_341, List.forall_mem_cons.mpr ⟨zc_342, List.forall_mem_cons.mpr ⟨zc_343, List.forall_mem_cons.mpr ⟨zc_344, List.forall_mem_cons.mpr ⟨zc_345, List.forall_mem_cons.mpr ⟨zc_346, List.forall_mem_cons.mpr ⟨zc_347, List.forall_mem_cons.mpr ⟨zc_348, List.forall_mem_cons.mpr ⟨zc_349, List.forall_mem_cons.mpr ⟨zc_350, List.forall_mem_cons.mpr ⟨zc_351, List.forall_mem_cons.mpr ⟨zc_352, List.forall_mem_cons.mpr ⟨zc_353, List.forall_mem_cons.mpr ⟨zc_354, List.forall_mem_cons.mpr ⟨zc_355, List.forall_mem_cons.mpr ⟨zc_356, List.forall_mem_cons.mpr ⟨zc_357, List.forall_mem_cons.mpr ⟨zc_358, List.forall_mem_cons.mpr ⟨zc_359, fun _ h => absurd h List.not_mem_nil⟩⟩⟩⟩⟩⟩⟩⟩⟩⟩⟩⟩⟩⟩⟩⟩⟩⟩⟩⟩
theorem zcs_18 : ∀ w ∈ [360, 361, 362, 363, 364].map (fun e : Nat => (.code (z_nm e) (z_by e) (z_ml e) (z_rt e) : Cond)), w ∈ zTs := List.forall_mem_cons.mpr ⟨zc_360, List.forall_mem_cons.mpr ⟨zc_361, List.forall_mem_cons.mpr ⟨zc_362, List.forall_mem_cons.mpr ⟨zc_363, List.forall_mem_cons.mpr ⟨zc_364, fun _ h => absurd h List.not_mem_nil⟩⟩⟩⟩⟩
theorem zw_code {y : Nat} (h : y < 365) : (Cond.code (z_nm y) (z_by y) (z_ml y) (z_rt y)) ∈ zTs := by
  by_cases h0 : y < 20
  · exact zcs_0 _ (List.mem_map_of_mem (f := fun e : Nat => (Cond.code (z_nm e) (z_by e) (z_ml e) (z_rt e))) (by simp only [List.mem_cons, List.not_mem_nil, or_false]; omega))
  by_cases h1 : y < 40
  · exact zcs_1 _ (List.mem_map_of_mem (f := fun e : Nat => (Cond.code (z_nm e) (z_by e) (z_ml e) (z_rt e))) (by simp only [List.mem_cons, List.not_mem_nil, or_false]; omega))
  by_cases h2 : y < 60
  · exact zcs_2 _ (List.mem_map_of_mem (f := fun e : Nat => (Cond.code (z_nm e) (z_by e) (z_ml e) (z_rt e))) (by simp only [List.mem_cons, List.not_mem_nil, or_false]; omega))
  by_cases h3 : y < 80
  · exact zcs_3 _ (List.mem_map_of_mem (f := fun e : Nat => (Cond.code (z_nm e) (z_by e) (z_ml e) (z_rt e))) (by simp only [List.mem_cons, List.not_mem_nil, or_false]; omega))
  by_cases h4 : y < 100
  · exact zcs_4 _ (List.mem_map_of_mem (f := fun e : Nat => (Cond.code (z_nm e) (z_by e) (z_ml e) (z_rt e))) (by simp only [List.mem_cons, List.not_mem_nil, or_false]; omega))
  by_cases h5 : y < 120
  · exact zcs_5 _ (List.mem_map_of_mem (f := fun e : Nat => (Cond.code (z_nm e) (z_by e) (z_ml e) (z_rt e))) (by simp only [List.mem_cons, List.not_mem_nil, or_false]; omega))
  by_cases h6 : y < 140
  · exact zcs_6 _ (List.mem_map_of_mem (f := fun e : Nat => (Cond.code (z_nm e) (z_by e) (z_ml e) (z_rt e))) (by simp only [List.mem_cons, List.not_mem_nil, or_false]; omega))
  by_cases h7 : y < 160
  · exact zcs_7 _ (List.mem_map_of_mem (f := fun e : Nat => (Cond.code (z_nm e) (z_by e) (z_ml e) (z_rt e))) (by simp only [List.mem_cons, List.not_mem_nil, or_false]; omega))
  by_cases h8 : y < 180
  · exact zcs_8 _ (List.mem_map_of_mem (f := fun e : Nat => (Cond.code (z_nm e) (z_by e) (z_ml e) (z_rt e))) (by simp only [List.mem_cons, List.not_mem_nil, or_false]; omega))
  by_cases h9 : y < 200
  · exact zcs_9 _ (List.mem_map_of_mem (f := fun e : Nat => (Cond.code (z_nm e) (z_by e) (z_ml e) (z_rt e))) (by simp only [List.mem_cons, List.not_mem_nil, or_false]; omega))
  by_cases h10 : y < 220
  · exact zcs_10 _ (List.mem_map_of_mem (f := fun e : Nat => (Cond.code (z_nm e) (z_by e) (z_ml e) (z_rt e))) (by simp only [List.mem_cons, List.not_mem_nil, or_false]; omega))
  by_cases h11 : y < 240
  · exact zcs_11 _ (List.mem_map_of_mem (f := fun e : Nat => (Cond.code (z_nm e) (z_by e) (z_ml e) (z_rt e))) (by simp only [List.mem_cons, List.not_mem_nil, or_false]; omega))
  by_cases h12 : y < 260
  · exact zcs_12 _ (List.mem_map_of_mem (f := fun e : Nat => (Cond.code (z_nm e) (z_by e) (z_ml e) (z_rt e))) (by simp only [List.mem_cons, List.not_mem_nil, or_false]; omega))
  by_cases h13 : y < 280
  · exact zcs_13 _ (List.mem_map_of_mem (f := fun e : Nat => (Cond.code (z_nm e) (z_by e) (z_ml e) (z_rt e))) (by simp only [List.mem_cons, List.not_mem_nil, or_false]; omega))
  by_cases h14 : y < 300
  · exact zcs_14 _ (List.mem_map_of_mem (f := fun e : Nat => (Cond.code (z_nm e) (z_by e) (z_ml e) (z_rt e))) (by simp only [List.mem_cons, List.not_mem_nil, or_false]; omega))
  by_cases h15 : y < 320
  · exact zcs_15 _ (List.mem_map_of_mem (f := fun e : Nat => (Cond.code (z_nm e) (z_by e) (z_ml e) (z_rt e))) (by simp only [List.mem_cons, List.not_mem_nil, or_false]; omega))
  by_cases h16 : y < 340
  · exact zcs_16 _ (List.mem_map_of_mem (f := fun e : Nat => (Cond.code (z_nm e) (z_by e) (z_ml e) (z_rt e))) (by simp only [List.mem_cons, List.not_mem_nil, or_false]; omega))
  by_cases h17 : y < 360
  · exact zcs_17 _ (List.mem_map_of_mem (f := fun e : Nat => (Cond.code (z_nm e) (z_by e) (z_ml e) (z_rt e))) (by simp only [List.mem_cons, List.not_mem_nil, or_false]; omega))
  by_cases h18 : y < 365
  · exact zcs_18 _ (List.mem_map_of_mem (f := fun e : Nat => (Cond.code (z_nm e) (z_by e) (z_ml e) (z_rt e))) (by simp only [List.mem_cons, List.not_mem_nil, or_false]; omega))
  omega
