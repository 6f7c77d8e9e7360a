/-! what is seen in a tray: fits, fitsAt, ask -/
def okD (S D : Int → Int) (l : Int) : Prop := 0 ≤ D (2 * l) ∧ D (2 * l) < ncl S ∧ 0 ≤ D (2 * l + 1) ∧ D (2 * l + 1) ≤ 18
/-- class and reference read the same numbers -/
def RD (s : mS) (q : Nat) (D : Int → Int) (m : Int) : Prop := ∀ j, 0 ≤ j → j < m → s.2 (q + 1) j = D j
def RE (t : mS) (a : Int) (D : Int → Int) (m : Int) : Prop := ∀ j, 0 ≤ j → j < m → t.2 146 (60 * a + j) = D j
theorem lp_twos {s : mS} {S N : Int → Int} (h : CS s 7 S N) (hw : WF S) (Z : mX) {q : Nat} (qa : isT q) (D : Int → Int) (n a : Int) (n1 : n ≤ 20) (hD : RD s q D (2 * n)) (a0 : 0 ≤ a) (a1 : a < 4) : ∀ i : Int, i ≤ n → 0 ≤ i →
    ∃ v, (v = 0 ∧ (∀ l, i ≤ l → l < n → okD S D l) ∨ v = 5) ∧ mm_at (zP Z) 197 28 [some (.inr (.inr (some 3))), none, some (.inr (.inr (some q))), some (.inl n), none, some (.inl i), none, none] [] (mk s) = some (some (.inl v), mk s) ∧
      ∀ t : mS, t.2 142 = S → RE t a D (2 * n) → mm_at (zP Z) 332 35 [some (.inr (.inr (some 141))), none, some (.inl a), some (.inl n), some (.inl i), none] [] (mk t) = some (some (.inl v), mk t) := by
  have nn := wf_n hw
  refine up ?_ ?_
  · intro i0
    refine ⟨0, Or.inl ⟨rfl, fun l h0 h1 => by omega⟩, ?_, fun t e hE => ?_⟩
    · rw [B_X11_troubleWithTwos_28]
      simp (disch := first | assumption | omega) only [↓sm, ↓reduceIte, ↓if_pos, ↓if_neg, kI, kJ, kR, kV, w32_eq, w64_eq, reduceCtorEq, Int.reduceAdd, Int.reduceMul, Int.reduceSub]
    · rw [B_X12_wrongSeen_35]
      simp (disch := first | assumption | omega) only [↓sm, ↓reduceIte, ↓if_pos, ↓if_neg, kI, kJ, kR, kV, w32_eq, w64_eq, reduceCtorEq, Int.reduceAdd, Int.reduceMul, Int.reduceSub]
  · intro i hi ih i0
    have d0 := hD (2 * i) (by omega) (by omega)
    have d1 := hD (2 * i + 1) (by omega) (by omega)
    by_cases h1 : 0 ≤ D (2 * i) ∧ D (2 * i) < ncl S
    · by_cases h2 : 0 ≤ D (2 * i + 1) ∧ D (2 * i + 1) ≤ 18
      · obtain ⟨v, g1, g2, g3⟩ := ih (by omega)
        refine ⟨v, ?_, ?_, fun t e hE => ?_⟩
        · rcases g1 with ⟨g1, g4⟩ | g1
          · refine Or.inl ⟨g1, fun l h0 h1' => ?_⟩
            by_cases hl : l = i
            · rw [hl]; exact ⟨h1.1, h1.2, h2.1, h2.2⟩
            · exact g4 l (by omega) h1'
          · exact Or.inr g1
        · rw [B_X11_troubleWithTwos_28]
          simp (disch := first | assumption | omega) only [↓sm, ↓reduceIte, ↓if_pos, ↓if_neg, kI, kJ, kR, kV, w32_eq, w64_eq, reduceCtorEq, Int.reduceAdd, Int.reduceMul, Int.reduceSub, o_c3, ↓o_g3_0, ↓o_g3_1, ↓o_g3_2, ↓o_g3_3, ↓o_g3_4, ↓o_g3_5, ↓o_g3_6, ↓o_g3_7, ↓o_g3_8, ↓o_g3_9, ↓o_g3_10, ↓o_g3_11, ↓o_g3_12, ↓o_g3_13, ↓o_g3_14, ↓o_g3_15, ↓o_g3_16, ↓o_g3_17, ↓a_ln4, ↓a_ld4, ↓a_ln61, ↓a_ld61, ↓a_ln62, ↓a_ld62, o_c7, t_c qa, ↓c8_at Z s qa, c8_at Z s qa, d0, d1, ↓c_isCellNumber_t h hw Z, lcmpl, lcmpg, g2]
        · have e0 := hE (2 * i) (by omega) (by omega)
          have e1 := hE (2 * i + 1) (by omega) (by omega)
          rw [← Int.add_assoc] at e1
          have g3 := g3 t e hE
          rw [B_X12_wrongSeen_35]
          simp (disch := first | assumption | omega) only [↓sm, ↓reduceIte, ↓if_pos, ↓if_neg, kI, kJ, kR, kV, w32_eq, w64_eq, reduceCtorEq, Int.reduceAdd, Int.reduceMul, Int.reduceSub, o_c141, ↓o_g141_0, ↓o_g141_1, ↓o_g141_5, ↓o_g141_6, ↓o_g141_7, ↓o_g141_8, ↓o_g141_9, ↓o_g141_21, ↓o_g141_25, ↓o_g141_26, ↓o_g141_27, ↓o_g141_28, ↓o_g141_29, ↓o_g141_30, ↓o_g141_31, ↓o_g141_34, ↓o_g141_35, ↓o_g141_36, ↓r_pupilAt e hw Z, ↓r_at e, ↓r_atw e, ↓r_cellsOf e hw Z, ↓r_isCell_t e hw Z, ↓r_isCell_f e hw Z, ↓r_isLesson_t e hw Z, ↓r_isLesson_f e hw Z, ↓r_isPupil_t e hw Z, ↓r_isPupil_f e hw Z, ↓r_pupilOf e hw Z, ↓r_needsOf e hw Z, ↓r_catchBy e hw Z, ↓r_catchOf e hw Z, ↓r_isCaught_t e hw Z, ↓r_isCaught_f e hw Z, ↓r_allCaught e hw Z, ↓r_whoIs0 e hw Z, ↓r_whoIs1 e hw Z, ↓r_sideOf e hw Z, ↓r_isNear e hw Z, ↓r_nextLesson e hw Z, ↓r_canFree e hw Z, ↓r_nearTo e hw Z, ↓r_isIn Z, ↓r_pupilRow Z, ↓r_lessonRow Z, ↓k_bits Z, ↓a_ld146, a_ld146, e0, e1, ↓d_isFrom_t Z, g3]
      · refine ⟨5, Or.inr rfl, ?_, fun t e hE => ?_⟩
        · rw [B_X11_troubleWithTwos_28]
          by_cases h3 : D (2 * i + 1) < 0
          · simp (disch := first | assumption | omega) only [↓sm, ↓reduceIte, ↓if_pos, ↓if_neg, kI, kJ, kR, kV, w32_eq, w64_eq, reduceCtorEq, Int.reduceAdd, Int.reduceMul, Int.reduceSub, o_c3, ↓o_g3_0, ↓o_g3_1, ↓o_g3_2, ↓o_g3_3, ↓o_g3_4, ↓o_g3_5, ↓o_g3_6, ↓o_g3_7, ↓o_g3_8, ↓o_g3_9, ↓o_g3_10, ↓o_g3_11, ↓o_g3_12, ↓o_g3_13, ↓o_g3_14, ↓o_g3_15, ↓o_g3_16, ↓o_g3_17, ↓a_ln4, ↓a_ld4, ↓a_ln61, ↓a_ld61, ↓a_ln62, ↓a_ld62, o_c7, t_c qa, ↓c8_at Z s qa, c8_at Z s qa, d0, d1, ↓c_isCellNumber_t h hw Z, lcmpl, lcmpg]
          · simp (disch := first | assumption | omega) only [↓sm, ↓reduceIte, ↓if_pos, ↓if_neg, kI, kJ, kR, kV, w32_eq, w64_eq, reduceCtorEq, Int.reduceAdd, Int.reduceMul, Int.reduceSub, o_c3, ↓o_g3_0, ↓o_g3_1, ↓o_g3_2, ↓o_g3_3, ↓o_g3_4, ↓o_g3_5, ↓o_g3_6, ↓o_g3_7, ↓o_g3_8, ↓o_g3_9, ↓o_g3_10, ↓o_g3_11, ↓o_g3_12, ↓o_g3_13, ↓o_g3_14, ↓o_g3_15, ↓o_g3_16, ↓o_g3_17, ↓a_ln4, ↓a_ld4, ↓a_ln61, ↓a_ld61, ↓a_ln62, ↓a_ld62, o_c7, t_c qa, ↓c8_at Z s qa, c8_at Z s qa, d0, d1, ↓c_isCellNumber_t h hw Z, lcmpl, lcmpg]
        · have e0 := hE (2 * i) (by omega) (by omega)
          have e1 := hE (2 * i + 1) (by omega) (by omega)
          rw [← Int.add_assoc] at e1
          rw [B_X12_wrongSeen_35]
          simp (disch := first | assumption | omega) only [↓sm, ↓reduceIte, ↓if_pos, ↓if_neg, kI, kJ, kR, kV, w32_eq, w64_eq, reduceCtorEq, Int.reduceAdd, Int.reduceMul, Int.reduceSub, o_c141, ↓o_g141_0, ↓o_g141_1, ↓o_g141_5, ↓o_g141_6, ↓o_g141_7, ↓o_g141_8, ↓o_g141_9, ↓o_g141_21, ↓o_g141_25, ↓o_g141_26, ↓o_g141_27, ↓o_g141_28, ↓o_g141_29, ↓o_g141_30, ↓o_g141_31, ↓o_g141_34, ↓o_g141_35, ↓o_g141_36, ↓r_pupilAt e hw Z, ↓r_at e, ↓r_atw e, ↓r_cellsOf e hw Z, ↓r_isCell_t e hw Z, ↓r_isCell_f e hw Z, ↓r_isLesson_t e hw Z, ↓r_isLesson_f e hw Z, ↓r_isPupil_t e hw Z, ↓r_isPupil_f e hw Z, ↓r_pupilOf e hw Z, ↓r_needsOf e hw Z, ↓r_catchBy e hw Z, ↓r_catchOf e hw Z, ↓r_isCaught_t e hw Z, ↓r_isCaught_f e hw Z, ↓r_allCaught e hw Z, ↓r_whoIs0 e hw Z, ↓r_whoIs1 e hw Z, ↓r_sideOf e hw Z, ↓r_isNear e hw Z, ↓r_nextLesson e hw Z, ↓r_canFree e hw Z, ↓r_nearTo e hw Z, ↓r_isIn Z, ↓r_pupilRow Z, ↓r_lessonRow Z, ↓k_bits Z, ↓a_ld146, a_ld146, e0, e1, ↓d_isFrom_t Z, ↓d_isFrom_f Z]
    · refine ⟨5, Or.inr rfl, ?_, fun t e hE => ?_⟩
      · rw [B_X11_troubleWithTwos_28]
        simp (disch := first | assumption | omega) only [↓sm, ↓reduceIte, ↓if_pos, ↓if_neg, kI, kJ, kR, kV, w32_eq, w64_eq, reduceCtorEq, Int.reduceAdd, Int.reduceMul, Int.reduceSub, o_c3, ↓o_g3_0, ↓o_g3_1, ↓o_g3_2, ↓o_g3_3, ↓o_g3_4, ↓o_g3_5, ↓o_g3_6, ↓o_g3_7, ↓o_g3_8, ↓o_g3_9, ↓o_g3_10, ↓o_g3_11, ↓o_g3_12, ↓o_g3_13, ↓o_g3_14, ↓o_g3_15, ↓o_g3_16, ↓o_g3_17, ↓a_ln4, ↓a_ld4, ↓a_ln61, ↓a_ld61, ↓a_ln62, ↓a_ld62, o_c7, t_c qa, ↓c8_at Z s qa, c8_at Z s qa, d0, d1, ↓c_isCellNumber_f h hw Z, lcmpl, lcmpg]
      · have e0 := hE (2 * i) (by omega) (by omega)
        rw [B_X12_wrongSeen_35]
        simp (disch := first | assumption | omega) only [↓sm, ↓reduceIte, ↓if_pos, ↓if_neg, kI, kJ, kR, kV, w32_eq, w64_eq, reduceCtorEq, Int.reduceAdd, Int.reduceMul, Int.reduceSub, o_c141, ↓o_g141_0, ↓o_g141_1, ↓o_g141_5, ↓o_g141_6, ↓o_g141_7, ↓o_g141_8, ↓o_g141_9, ↓o_g141_21, ↓o_g141_25, ↓o_g141_26, ↓o_g141_27, ↓o_g141_28, ↓o_g141_29, ↓o_g141_30, ↓o_g141_31, ↓o_g141_34, ↓o_g141_35, ↓o_g141_36, ↓r_pupilAt e hw Z, ↓r_at e, ↓r_atw e, ↓r_cellsOf e hw Z, ↓r_isCell_t e hw Z, ↓r_isCell_f e hw Z, ↓r_isLesson_t e hw Z, ↓r_isLesson_f e hw Z, ↓r_isPupil_t e hw Z, ↓r_isPupil_f e hw Z, ↓r_pupilOf e hw Z, ↓r_needsOf e hw Z, ↓r_catchBy e hw Z, ↓r_catchOf e hw Z, ↓r_isCaught_t e hw Z, ↓r_isCaught_f e hw Z, ↓r_allCaught e hw Z, ↓r_whoIs0 e hw Z, ↓r_whoIs1 e hw Z, ↓r_sideOf e hw Z, ↓r_isNear e hw Z, ↓r_nextLesson e hw Z, ↓r_canFree e hw Z, ↓r_nearTo e hw Z, ↓r_isIn Z, ↓r_pupilRow Z, ↓r_lessonRow Z, ↓k_bits Z, ↓a_ld146, a_ld146, e0, ↓d_isFrom_f Z]
theorem twos_f {s : mS} {S N : Int → Int} (h : CS s 7 S N) (hw : WF S) (Z : mX) (p a n : Int) (ha : ¬ (0 ≤ a ∧ a < 4)) : (∀ f : Int → mW → mO, mm_kI (mm_run (zP Z) 197 [.inr (.inr (some 3)), .inl p, .inr (.inr none), .inl n] (mk s)) f = f 1 (mk s)) ∧ ∀ t : mS, t.2 142 = S → ∀ f : Int → mW → mO, mm_kI (mm_run (zP Z) 332 [.inr (.inr (some 141)), .inl p, .inl a, .inl n] (mk t)) f = f 1 (mk t) := by
  refine ⟨fun f => ?_, fun t e f => ?_⟩
  · rw [B_X11_troubleWithTwos]
    by_cases hp : 0 ≤ p ∧ p < S 3
    · by_cases hn : 0 ≤ n ∧ n ≤ 20
      · simp (disch := first | assumption | omega) only [↓sm, ↓reduceIte, ↓if_pos, ↓if_neg, kI, kJ, kR, kV, w32_eq, w64_eq, reduceCtorEq, Int.reduceAdd, Int.reduceMul, Int.reduceSub, o_c3, ↓o_g3_0, ↓o_g3_1, ↓o_g3_2, ↓o_g3_3, ↓o_g3_4, ↓o_g3_5, ↓o_g3_6, ↓o_g3_7, ↓o_g3_8, ↓o_g3_9, ↓o_g3_10, ↓o_g3_11, ↓o_g3_12, ↓o_g3_13, ↓o_g3_14, ↓o_g3_15, ↓o_g3_16, ↓o_g3_17, ↓a_ln4, ↓a_ld4, ↓a_ln61, ↓a_ld61, ↓a_ln62, ↓a_ld62, o_c7, ↓c_cells h hw Z, ↓c_hasCell_t h hw Z, ↓c_hasCell_f h hw Z, ↓c_hasLesson_t h hw Z, ↓c_hasLesson_f h hw Z, ↓c_hasPupil_t h hw Z, ↓c_hasPupil_f h hw Z, ↓c_isCellNumber_t h hw Z, ↓c_isCellNumber_f h hw Z, ↓c_beside h hw Z, ↓c_touch h hw Z, ↓c_catchOf h hw Z, ↓c_clearSet h hw Z, ↓c_isCaught_t h hw Z, ↓c_isCaught_f h hw Z, ↓c_caughtSet h hw Z, ↓c_pupilsAt h hw Z, ↓c_pupilsWhoKnow h hw Z, ↓c_areNear h hw Z, ↓c_canHelp h hw Z, ↓c_helperSet h hw Z, ↓c_nextLesson h hw Z, ↓c_isNearSome h hw Z, ↓c_freedSet h hw Z, ↓k_isIn_t Z, ↓c_trouble_n Z]
      · simp (disch := first | assumption | omega) only [↓sm, ↓reduceIte, ↓if_pos, ↓if_neg, kI, kJ, kR, kV, w32_eq, w64_eq, reduceCtorEq, Int.reduceAdd, Int.reduceMul, Int.reduceSub, o_c3, ↓o_g3_0, ↓o_g3_1, ↓o_g3_2, ↓o_g3_3, ↓o_g3_4, ↓o_g3_5, ↓o_g3_6, ↓o_g3_7, ↓o_g3_8, ↓o_g3_9, ↓o_g3_10, ↓o_g3_11, ↓o_g3_12, ↓o_g3_13, ↓o_g3_14, ↓o_g3_15, ↓o_g3_16, ↓o_g3_17, ↓a_ln4, ↓a_ld4, ↓a_ln61, ↓a_ld61, ↓a_ln62, ↓a_ld62, o_c7, ↓c_cells h hw Z, ↓c_hasCell_t h hw Z, ↓c_hasCell_f h hw Z, ↓c_hasLesson_t h hw Z, ↓c_hasLesson_f h hw Z, ↓c_hasPupil_t h hw Z, ↓c_hasPupil_f h hw Z, ↓c_isCellNumber_t h hw Z, ↓c_isCellNumber_f h hw Z, ↓c_beside h hw Z, ↓c_touch h hw Z, ↓c_catchOf h hw Z, ↓c_clearSet h hw Z, ↓c_isCaught_t h hw Z, ↓c_isCaught_f h hw Z, ↓c_caughtSet h hw Z, ↓c_pupilsAt h hw Z, ↓c_pupilsWhoKnow h hw Z, ↓c_areNear h hw Z, ↓c_canHelp h hw Z, ↓c_helperSet h hw Z, ↓c_nextLesson h hw Z, ↓c_isNearSome h hw Z, ↓c_freedSet h hw Z, ↓k_isIn_f Z]
    · simp (disch := first | assumption | omega) only [↓sm, ↓reduceIte, ↓if_pos, ↓if_neg, kI, kJ, kR, kV, w32_eq, w64_eq, reduceCtorEq, Int.reduceAdd, Int.reduceMul, Int.reduceSub, o_c3, ↓o_g3_0, ↓o_g3_1, ↓o_g3_2, ↓o_g3_3, ↓o_g3_4, ↓o_g3_5, ↓o_g3_6, ↓o_g3_7, ↓o_g3_8, ↓o_g3_9, ↓o_g3_10, ↓o_g3_11, ↓o_g3_12, ↓o_g3_13, ↓o_g3_14, ↓o_g3_15, ↓o_g3_16, ↓o_g3_17, ↓a_ln4, ↓a_ld4, ↓a_ln61, ↓a_ld61, ↓a_ln62, ↓a_ld62, o_c7, ↓c_cells h hw Z, ↓c_hasCell_t h hw Z, ↓c_hasCell_f h hw Z, ↓c_hasLesson_t h hw Z, ↓c_hasLesson_f h hw Z, ↓c_hasPupil_t h hw Z, ↓c_hasPupil_f h hw Z, ↓c_isCellNumber_t h hw Z, ↓c_isCellNumber_f h hw Z, ↓c_beside h hw Z, ↓c_touch h hw Z, ↓c_catchOf h hw Z, ↓c_clearSet h hw Z, ↓c_isCaught_t h hw Z, ↓c_isCaught_f h hw Z, ↓c_caughtSet h hw Z, ↓c_pupilsAt h hw Z, ↓c_pupilsWhoKnow h hw Z, ↓c_areNear h hw Z, ↓c_canHelp h hw Z, ↓c_helperSet h hw Z, ↓c_nextLesson h hw Z, ↓c_isNearSome h hw Z, ↓c_freedSet h hw Z]
  · rw [B_X12_wrongSeen]
    by_cases hp : 0 ≤ p ∧ p < S 3
    · simp (disch := first | assumption | omega) only [↓sm, ↓reduceIte, ↓if_pos, ↓if_neg, kI, kJ, kR, kV, w32_eq, w64_eq, reduceCtorEq, Int.reduceAdd, Int.reduceMul, Int.reduceSub, o_c141, ↓o_g141_0, ↓o_g141_1, ↓o_g141_5, ↓o_g141_6, ↓o_g141_7, ↓o_g141_8, ↓o_g141_9, ↓o_g141_21, ↓o_g141_25, ↓o_g141_26, ↓o_g141_27, ↓o_g141_28, ↓o_g141_29, ↓o_g141_30, ↓o_g141_31, ↓o_g141_34, ↓o_g141_35, ↓o_g141_36, ↓r_pupilAt e hw Z, ↓r_at e, ↓r_atw e, ↓r_cellsOf e hw Z, ↓r_isCell_t e hw Z, ↓r_isCell_f e hw Z, ↓r_isLesson_t e hw Z, ↓r_isLesson_f e hw Z, ↓r_isPupil_t e hw Z, ↓r_isPupil_f e hw Z, ↓r_pupilOf e hw Z, ↓r_needsOf e hw Z, ↓r_catchBy e hw Z, ↓r_catchOf e hw Z, ↓r_isCaught_t e hw Z, ↓r_isCaught_f e hw Z, ↓r_allCaught e hw Z, ↓r_whoIs0 e hw Z, ↓r_whoIs1 e hw Z, ↓r_sideOf e hw Z, ↓r_isNear e hw Z, ↓r_nextLesson e hw Z, ↓r_canFree e hw Z, ↓r_nearTo e hw Z, ↓r_isIn Z, ↓r_pupilRow Z, ↓r_lessonRow Z, ↓k_bits Z, ↓r_isTray_f Z]
    · simp (disch := first | assumption | omega) only [↓sm, ↓reduceIte, ↓if_pos, ↓if_neg, kI, kJ, kR, kV, w32_eq, w64_eq, reduceCtorEq, Int.reduceAdd, Int.reduceMul, Int.reduceSub, o_c141, ↓o_g141_0, ↓o_g141_1, ↓o_g141_5, ↓o_g141_6, ↓o_g141_7, ↓o_g141_8, ↓o_g141_9, ↓o_g141_21, ↓o_g141_25, ↓o_g141_26, ↓o_g141_27, ↓o_g141_28, ↓o_g141_29, ↓o_g141_30, ↓o_g141_31, ↓o_g141_34, ↓o_g141_35, ↓o_g141_36, ↓r_pupilAt e hw Z, ↓r_at e, ↓r_atw e, ↓r_cellsOf e hw Z, ↓r_isCell_t e hw Z, ↓r_isCell_f e hw Z, ↓r_isLesson_t e hw Z, ↓r_isLesson_f e hw Z, ↓r_isPupil_t e hw Z, ↓r_isPupil_f e hw Z, ↓r_pupilOf e hw Z, ↓r_needsOf e hw Z, ↓r_catchBy e hw Z, ↓r_catchOf e hw Z, ↓r_isCaught_t e hw Z, ↓r_isCaught_f e hw Z, ↓r_allCaught e hw Z, ↓r_whoIs0 e hw Z, ↓r_whoIs1 e hw Z, ↓r_sideOf e hw Z, ↓r_isNear e hw Z, ↓r_nextLesson e hw Z, ↓r_canFree e hw Z, ↓r_nearTo e hw Z, ↓r_isIn Z, ↓r_pupilRow Z, ↓r_lessonRow Z, ↓k_bits Z]
def sawn (s : mS) (S : Int → Int) (p a n : Int) : Prop := 0 ≤ p ∧ p < S 3 ∧ 0 ≤ n ∧ n ≤ 20 ∧ 2 * n ≤ s.2 145 a ∧ ∀ l, 0 ≤ l → l < n → okD S (fun j => s.2 146 (60 * a + j)) l
theorem twos_t {s : mS} {S N : Int → Int} (h : CS s 7 S N) (hw : WF S) (Z : mX) (hR : RT s s) (p a n : Int) (a0 : 0 ≤ a) (a1 : a < 4) : ∃ v, 0 ≤ v ∧ (v = 0 → sawn s S p a n) ∧
    (∀ f : Int → mW → mO, mm_kI (mm_run (zP Z) 197 [.inr (.inr (some 3)), .inl p, .inr (.inr (some ((76 + 2 * a.toNat)))), .inl n] (mk s)) f = f v (mk s)) ∧ ∀ t : mS, t.2 142 = S → t.2 145 = s.2 145 → t.2 146 = s.2 146 → ∀ f : Int → mW → mO, mm_kI (mm_run (zP Z) 332 [.inr (.inr (some 141)), .inl p, .inl a, .inl n] (mk t)) f = f v (mk t) := by
  have qa := isT_of (k := a.toNat) (by omega)
  obtain ⟨b1, b2, b3, b4, b5, b6, b7⟩ := hR a.toNat (by omega)
  rw [Int.toNat_of_nonneg a0] at b1 b2 b3 b4 b5 b6 b7
  by_cases hp : 0 ≤ p ∧ p < S 3
  case neg =>
    refine ⟨1, by omega, fun x => absurd x (by omega), fun f => ?_, fun t e e5 e6 f => ?_⟩
    · rw [B_X11_troubleWithTwos]
      simp (disch := first | assumption | omega) only [↓sm, ↓reduceIte, ↓if_pos, ↓if_neg, kI, kJ, kR, kV, w32_eq, w64_eq, reduceCtorEq, Int.reduceAdd, Int.reduceMul, Int.reduceSub, o_c3, ↓o_g3_0, ↓o_g3_1, ↓o_g3_2, ↓o_g3_3, ↓o_g3_4, ↓o_g3_5, ↓o_g3_6, ↓o_g3_7, ↓o_g3_8, ↓o_g3_9, ↓o_g3_10, ↓o_g3_11, ↓o_g3_12, ↓o_g3_13, ↓o_g3_14, ↓o_g3_15, ↓o_g3_16, ↓o_g3_17, ↓a_ln4, ↓a_ld4, ↓a_ln61, ↓a_ld61, ↓a_ln62, ↓a_ld62, o_c7, ↓c_cells h hw Z, ↓c_hasCell_t h hw Z, ↓c_hasCell_f h hw Z, ↓c_hasLesson_t h hw Z, ↓c_hasLesson_f h hw Z, ↓c_hasPupil_t h hw Z, ↓c_hasPupil_f h hw Z, ↓c_isCellNumber_t h hw Z, ↓c_isCellNumber_f h hw Z, ↓c_beside h hw Z, ↓c_touch h hw Z, ↓c_catchOf h hw Z, ↓c_clearSet h hw Z, ↓c_isCaught_t h hw Z, ↓c_isCaught_f h hw Z, ↓c_caughtSet h hw Z, ↓c_pupilsAt h hw Z, ↓c_pupilsWhoKnow h hw Z, ↓c_areNear h hw Z, ↓c_canHelp h hw Z, ↓c_helperSet h hw Z, ↓c_nextLesson h hw Z, ↓c_isNearSome h hw Z, ↓c_freedSet h hw Z]
    · rw [B_X12_wrongSeen]
      simp (disch := first | assumption | omega) only [↓sm, ↓reduceIte, ↓if_pos, ↓if_neg, kI, kJ, kR, kV, w32_eq, w64_eq, reduceCtorEq, Int.reduceAdd, Int.reduceMul, Int.reduceSub, o_c141, ↓o_g141_0, ↓o_g141_1, ↓o_g141_5, ↓o_g141_6, ↓o_g141_7, ↓o_g141_8, ↓o_g141_9, ↓o_g141_21, ↓o_g141_25, ↓o_g141_26, ↓o_g141_27, ↓o_g141_28, ↓o_g141_29, ↓o_g141_30, ↓o_g141_31, ↓o_g141_34, ↓o_g141_35, ↓o_g141_36, ↓r_pupilAt e hw Z, ↓r_at e, ↓r_atw e, ↓r_cellsOf e hw Z, ↓r_isCell_t e hw Z, ↓r_isCell_f e hw Z, ↓r_isLesson_t e hw Z, ↓r_isLesson_f e hw Z, ↓r_isPupil_t e hw Z, ↓r_isPupil_f e hw Z, ↓r_pupilOf e hw Z, ↓r_needsOf e hw Z, ↓r_catchBy e hw Z, ↓r_catchOf e hw Z, ↓r_isCaught_t e hw Z, ↓r_isCaught_f e hw Z, ↓r_allCaught e hw Z, ↓r_whoIs0 e hw Z, ↓r_whoIs1 e hw Z, ↓r_sideOf e hw Z, ↓r_isNear e hw Z, ↓r_nextLesson e hw Z, ↓r_canFree e hw Z, ↓r_nearTo e hw Z, ↓r_isIn Z, ↓r_pupilRow Z, ↓r_lessonRow Z, ↓k_bits Z]
  case pos =>
    by_cases hn : 0 ≤ n ∧ n ≤ 20
    case neg =>
      refine ⟨1, by omega, fun x => absurd x (by omega), fun f => ?_, fun t e e5 e6 f => ?_⟩
      · rw [B_X11_troubleWithTwos]
        simp (disch := first | assumption | omega) only [↓sm, ↓reduceIte, ↓if_pos, ↓if_neg, kI, kJ, kR, kV, w32_eq, w64_eq, reduceCtorEq, Int.reduceAdd, Int.reduceMul, Int.reduceSub, o_c3, ↓o_g3_0, ↓o_g3_1, ↓o_g3_2, ↓o_g3_3, ↓o_g3_4, ↓o_g3_5, ↓o_g3_6, ↓o_g3_7, ↓o_g3_8, ↓o_g3_9, ↓o_g3_10, ↓o_g3_11, ↓o_g3_12, ↓o_g3_13, ↓o_g3_14, ↓o_g3_15, ↓o_g3_16, ↓o_g3_17, ↓a_ln4, ↓a_ld4, ↓a_ln61, ↓a_ld61, ↓a_ln62, ↓a_ld62, o_c7, ↓c_cells h hw Z, ↓c_hasCell_t h hw Z, ↓c_hasCell_f h hw Z, ↓c_hasLesson_t h hw Z, ↓c_hasLesson_f h hw Z, ↓c_hasPupil_t h hw Z, ↓c_hasPupil_f h hw Z, ↓c_isCellNumber_t h hw Z, ↓c_isCellNumber_f h hw Z, ↓c_beside h hw Z, ↓c_touch h hw Z, ↓c_catchOf h hw Z, ↓c_clearSet h hw Z, ↓c_isCaught_t h hw Z, ↓c_isCaught_f h hw Z, ↓c_caughtSet h hw Z, ↓c_pupilsAt h hw Z, ↓c_pupilsWhoKnow h hw Z, ↓c_areNear h hw Z, ↓c_canHelp h hw Z, ↓c_helperSet h hw Z, ↓c_nextLesson h hw Z, ↓c_isNearSome h hw Z, ↓c_freedSet h hw Z, ↓k_isIn_f Z]
      · rw [B_X12_wrongSeen]
        simp (disch := first | assumption | omega) only [↓sm, ↓reduceIte, ↓if_pos, ↓if_neg, kI, kJ, kR, kV, w32_eq, w64_eq, reduceCtorEq, Int.reduceAdd, Int.reduceMul, Int.reduceSub, o_c141, ↓o_g141_0, ↓o_g141_1, ↓o_g141_5, ↓o_g141_6, ↓o_g141_7, ↓o_g141_8, ↓o_g141_9, ↓o_g141_21, ↓o_g141_25, ↓o_g141_26, ↓o_g141_27, ↓o_g141_28, ↓o_g141_29, ↓o_g141_30, ↓o_g141_31, ↓o_g141_34, ↓o_g141_35, ↓o_g141_36, ↓r_pupilAt e hw Z, ↓r_at e, ↓r_atw e, ↓r_cellsOf e hw Z, ↓r_isCell_t e hw Z, ↓r_isCell_f e hw Z, ↓r_isLesson_t e hw Z, ↓r_isLesson_f e hw Z, ↓r_isPupil_t e hw Z, ↓r_isPupil_f e hw Z, ↓r_pupilOf e hw Z, ↓r_needsOf e hw Z, ↓r_catchBy e hw Z, ↓r_catchOf e hw Z, ↓r_isCaught_t e hw Z, ↓r_isCaught_f e hw Z, ↓r_allCaught e hw Z, ↓r_whoIs0 e hw Z, ↓r_whoIs1 e hw Z, ↓r_sideOf e hw Z, ↓r_isNear e hw Z, ↓r_nextLesson e hw Z, ↓r_canFree e hw Z, ↓r_nearTo e hw Z, ↓r_isIn Z, ↓r_pupilRow Z, ↓r_lessonRow Z, ↓k_bits Z, ↓r_isTray_t Z, ↓d_isFrom_f Z]
    case pos =>
      by_cases m1 : s.2 145 a = -1
      · refine ⟨2, by omega, fun x => absurd x (by omega), fun f => ?_, fun t e e5 e6 f => ?_⟩
        · rw [B_X11_troubleWithTwos]
          simp (disch := first | assumption | omega) only [↓sm, ↓reduceIte, ↓if_pos, ↓if_neg, kI, kJ, kR, kV, w32_eq, w64_eq, reduceCtorEq, Int.reduceAdd, Int.reduceMul, Int.reduceSub, o_c3, ↓o_g3_0, ↓o_g3_1, ↓o_g3_2, ↓o_g3_3, ↓o_g3_4, ↓o_g3_5, ↓o_g3_6, ↓o_g3_7, ↓o_g3_8, ↓o_g3_9, ↓o_g3_10, ↓o_g3_11, ↓o_g3_12, ↓o_g3_13, ↓o_g3_14, ↓o_g3_15, ↓o_g3_16, ↓o_g3_17, ↓a_ln4, ↓a_ld4, ↓a_ln61, ↓a_ld61, ↓a_ln62, ↓a_ld62, o_c7, ↓c_cells h hw Z, ↓c_hasCell_t h hw Z, ↓c_hasCell_f h hw Z, ↓c_hasLesson_t h hw Z, ↓c_hasLesson_f h hw Z, ↓c_hasPupil_t h hw Z, ↓c_hasPupil_f h hw Z, ↓c_isCellNumber_t h hw Z, ↓c_isCellNumber_f h hw Z, ↓c_beside h hw Z, ↓c_touch h hw Z, ↓c_catchOf h hw Z, ↓c_clearSet h hw Z, ↓c_isCaught_t h hw Z, ↓c_isCaught_f h hw Z, ↓c_caughtSet h hw Z, ↓c_pupilsAt h hw Z, ↓c_pupilsWhoKnow h hw Z, ↓c_areNear h hw Z, ↓c_canHelp h hw Z, ↓c_helperSet h hw Z, ↓c_nextLesson h hw Z, ↓c_isNearSome h hw Z, ↓c_freedSet h hw Z, ↓k_isIn_t Z, ↓c_trouble Z s qa 0 _ (by omega) (by omega), b2, m1, twr, reduceCtorEq]
        · rw [B_X12_wrongSeen]
          simp (disch := first | assumption | omega) only [↓sm, ↓reduceIte, ↓if_pos, ↓if_neg, kI, kJ, kR, kV, w32_eq, w64_eq, reduceCtorEq, Int.reduceAdd, Int.reduceMul, Int.reduceSub, o_c141, ↓o_g141_0, ↓o_g141_1, ↓o_g141_5, ↓o_g141_6, ↓o_g141_7, ↓o_g141_8, ↓o_g141_9, ↓o_g141_21, ↓o_g141_25, ↓o_g141_26, ↓o_g141_27, ↓o_g141_28, ↓o_g141_29, ↓o_g141_30, ↓o_g141_31, ↓o_g141_34, ↓o_g141_35, ↓o_g141_36, ↓r_pupilAt e hw Z, ↓r_at e, ↓r_atw e, ↓r_cellsOf e hw Z, ↓r_isCell_t e hw Z, ↓r_isCell_f e hw Z, ↓r_isLesson_t e hw Z, ↓r_isLesson_f e hw Z, ↓r_isPupil_t e hw Z, ↓r_isPupil_f e hw Z, ↓r_pupilOf e hw Z, ↓r_needsOf e hw Z, ↓r_catchBy e hw Z, ↓r_catchOf e hw Z, ↓r_isCaught_t e hw Z, ↓r_isCaught_f e hw Z, ↓r_allCaught e hw Z, ↓r_whoIs0 e hw Z, ↓r_whoIs1 e hw Z, ↓r_sideOf e hw Z, ↓r_isNear e hw Z, ↓r_nextLesson e hw Z, ↓r_canFree e hw Z, ↓r_nearTo e hw Z, ↓r_isIn Z, ↓r_pupilRow Z, ↓r_lessonRow Z, ↓k_bits Z, ↓r_isTray_t Z, ↓d_isFrom_t Z, ↓a_ld145, e5, m1]
      by_cases m2 : 2 * n ≤ s.2 145 a
      case neg =>
        refine ⟨3, by omega, fun x => absurd x (by omega), fun f => ?_, fun t e e5 e6 f => ?_⟩
        · rw [B_X11_troubleWithTwos]
          simp (disch := first | assumption | omega) only [↓sm, ↓reduceIte, ↓if_pos, ↓if_neg, kI, kJ, kR, kV, w32_eq, w64_eq, reduceCtorEq, Int.reduceAdd, Int.reduceMul, Int.reduceSub, o_c3, ↓o_g3_0, ↓o_g3_1, ↓o_g3_2, ↓o_g3_3, ↓o_g3_4, ↓o_g3_5, ↓o_g3_6, ↓o_g3_7, ↓o_g3_8, ↓o_g3_9, ↓o_g3_10, ↓o_g3_11, ↓o_g3_12, ↓o_g3_13, ↓o_g3_14, ↓o_g3_15, ↓o_g3_16, ↓o_g3_17, ↓a_ln4, ↓a_ld4, ↓a_ln61, ↓a_ld61, ↓a_ln62, ↓a_ld62, o_c7, ↓c_cells h hw Z, ↓c_hasCell_t h hw Z, ↓c_hasCell_f h hw Z, ↓c_hasLesson_t h hw Z, ↓c_hasLesson_f h hw Z, ↓c_hasPupil_t h hw Z, ↓c_hasPupil_f h hw Z, ↓c_isCellNumber_t h hw Z, ↓c_isCellNumber_f h hw Z, ↓c_beside h hw Z, ↓c_touch h hw Z, ↓c_catchOf h hw Z, ↓c_clearSet h hw Z, ↓c_isCaught_t h hw Z, ↓c_isCaught_f h hw Z, ↓c_caughtSet h hw Z, ↓c_pupilsAt h hw Z, ↓c_pupilsWhoKnow h hw Z, ↓c_areNear h hw Z, ↓c_canHelp h hw Z, ↓c_helperSet h hw Z, ↓c_nextLesson h hw Z, ↓c_isNearSome h hw Z, ↓c_freedSet h hw Z, ↓k_isIn_t Z, ↓c_trouble Z s qa 0 _ (by omega) (by omega), b2, m1, twr, reduceCtorEq]
        · rw [B_X12_wrongSeen]
          simp (disch := first | assumption | omega) only [↓sm, ↓reduceIte, ↓if_pos, ↓if_neg, kI, kJ, kR, kV, w32_eq, w64_eq, reduceCtorEq, Int.reduceAdd, Int.reduceMul, Int.reduceSub, o_c141, ↓o_g141_0, ↓o_g141_1, ↓o_g141_5, ↓o_g141_6, ↓o_g141_7, ↓o_g141_8, ↓o_g141_9, ↓o_g141_21, ↓o_g141_25, ↓o_g141_26, ↓o_g141_27, ↓o_g141_28, ↓o_g141_29, ↓o_g141_30, ↓o_g141_31, ↓o_g141_34, ↓o_g141_35, ↓o_g141_36, ↓r_pupilAt e hw Z, ↓r_at e, ↓r_atw e, ↓r_cellsOf e hw Z, ↓r_isCell_t e hw Z, ↓r_isCell_f e hw Z, ↓r_isLesson_t e hw Z, ↓r_isLesson_f e hw Z, ↓r_isPupil_t e hw Z, ↓r_isPupil_f e hw Z, ↓r_pupilOf e hw Z, ↓r_needsOf e hw Z, ↓r_catchBy e hw Z, ↓r_catchOf e hw Z, ↓r_isCaught_t e hw Z, ↓r_isCaught_f e hw Z, ↓r_allCaught e hw Z, ↓r_whoIs0 e hw Z, ↓r_whoIs1 e hw Z, ↓r_sideOf e hw Z, ↓r_isNear e hw Z, ↓r_nextLesson e hw Z, ↓r_canFree e hw Z, ↓r_nearTo e hw Z, ↓r_isIn Z, ↓r_pupilRow Z, ↓r_lessonRow Z, ↓k_bits Z, ↓r_isTray_t Z, ↓d_isFrom_t Z, ↓a_ld145, e5, m1]
      case pos =>
        obtain ⟨v, g1, g2, g3⟩ := lp_twos h hw Z qa (fun j => s.2 146 (60 * a + j)) n a hn.2 (fun j j0 j1 => by rw [show 76 + 2 * a.toNat + 1 = 77 + 2 * a.toNat by omega]; exact (b7 j j0 (by omega)).1) a0 a1 0 hn.1 (by omega)
        refine ⟨v, by omega, fun x => ?_, fun f => ?_, fun t e e5 e6 f => ?_⟩
        · rcases g1 with ⟨g1, g4⟩ | g1
          · exact ⟨hp.1, hp.2, hn.1, hn.2, m2, g4⟩
          · omega
        · rw [B_X11_troubleWithTwos]
          simp (disch := first | assumption | omega) only [↓sm, ↓reduceIte, ↓if_pos, ↓if_neg, kI, kJ, kR, kV, w32_eq, w64_eq, reduceCtorEq, Int.reduceAdd, Int.reduceMul, Int.reduceSub, o_c3, ↓o_g3_0, ↓o_g3_1, ↓o_g3_2, ↓o_g3_3, ↓o_g3_4, ↓o_g3_5, ↓o_g3_6, ↓o_g3_7, ↓o_g3_8, ↓o_g3_9, ↓o_g3_10, ↓o_g3_11, ↓o_g3_12, ↓o_g3_13, ↓o_g3_14, ↓o_g3_15, ↓o_g3_16, ↓o_g3_17, ↓a_ln4, ↓a_ld4, ↓a_ln61, ↓a_ld61, ↓a_ln62, ↓a_ld62, o_c7, ↓c_cells h hw Z, ↓c_hasCell_t h hw Z, ↓c_hasCell_f h hw Z, ↓c_hasLesson_t h hw Z, ↓c_hasLesson_f h hw Z, ↓c_hasPupil_t h hw Z, ↓c_hasPupil_f h hw Z, ↓c_isCellNumber_t h hw Z, ↓c_isCellNumber_f h hw Z, ↓c_beside h hw Z, ↓c_touch h hw Z, ↓c_catchOf h hw Z, ↓c_clearSet h hw Z, ↓c_isCaught_t h hw Z, ↓c_isCaught_f h hw Z, ↓c_caughtSet h hw Z, ↓c_pupilsAt h hw Z, ↓c_pupilsWhoKnow h hw Z, ↓c_areNear h hw Z, ↓c_canHelp h hw Z, ↓c_helperSet h hw Z, ↓c_nextLesson h hw Z, ↓c_isNearSome h hw Z, ↓c_freedSet h hw Z, ↓k_isIn_t Z, ↓c_trouble Z s qa 0 _ (by omega) (by omega), b2, m1, twr, reduceCtorEq, g2]
        · have g3 := g3 t e (fun j j0 j1 => by rw [e6])
          rw [B_X12_wrongSeen]
          simp (disch := first | assumption | omega) only [↓sm, ↓reduceIte, ↓if_pos, ↓if_neg, kI, kJ, kR, kV, w32_eq, w64_eq, reduceCtorEq, Int.reduceAdd, Int.reduceMul, Int.reduceSub, o_c141, ↓o_g141_0, ↓o_g141_1, ↓o_g141_5, ↓o_g141_6, ↓o_g141_7, ↓o_g141_8, ↓o_g141_9, ↓o_g141_21, ↓o_g141_25, ↓o_g141_26, ↓o_g141_27, ↓o_g141_28, ↓o_g141_29, ↓o_g141_30, ↓o_g141_31, ↓o_g141_34, ↓o_g141_35, ↓o_g141_36, ↓r_pupilAt e hw Z, ↓r_at e, ↓r_atw e, ↓r_cellsOf e hw Z, ↓r_isCell_t e hw Z, ↓r_isCell_f e hw Z, ↓r_isLesson_t e hw Z, ↓r_isLesson_f e hw Z, ↓r_isPupil_t e hw Z, ↓r_isPupil_f e hw Z, ↓r_pupilOf e hw Z, ↓r_needsOf e hw Z, ↓r_catchBy e hw Z, ↓r_catchOf e hw Z, ↓r_isCaught_t e hw Z, ↓r_isCaught_f e hw Z, ↓r_allCaught e hw Z, ↓r_whoIs0 e hw Z, ↓r_whoIs1 e hw Z, ↓r_sideOf e hw Z, ↓r_isNear e hw Z, ↓r_nextLesson e hw Z, ↓r_canFree e hw Z, ↓r_nearTo e hw Z, ↓r_isIn Z, ↓r_pupilRow Z, ↓r_lessonRow Z, ↓k_bits Z, ↓r_isTray_t Z, ↓d_isFrom_t Z, ↓a_ld145, e5, m1, g3]
/-! which hours fit -/
def fitB (S D : Int → Int) (p h : Int) : Nat → Bool
  | 0 => true
  | n + 1 => fitB S D p h n && decide (ct S p (D (2 * (n : Int))) h = D (2 * (n : Int) + 1))
theorem fitB_iff (S D : Int → Int) (p h : Int) : ∀ n : Nat, fitB S D p h n = true ↔ ∀ l : Int, 0 ≤ l → l < n → ct S p (D (2 * l)) h = D (2 * l + 1)
  | 0 => ⟨fun _ l h0 h1 => absurd h1 (by omega), fun _ => rfl⟩
  | n + 1 => by
    unfold fitB
    rw [Bool.and_eq_true, fitB_iff S D p h n, decide_eq_true_eq]
    constructor
    · intro ⟨g1, g2⟩ l h0 h1
      by_cases hl : l = n
      · rw [hl]; exact g2
      · exact g1 l h0 (by omega)
    · intro g
      exact ⟨fun l h0 h1 => g l h0 (by omega), g n (by omega) (by omega)⟩
theorem lp_isAsTold {s : mS} {S N : Int → Int} (h : CS s 7 S N) (hw : WF S) (Z : mX) {q : Nat} (qa : isT q) (D : Int → Int) (p n t : Int) (p0 : 0 ≤ p) (p1 : p < S 3) (n1 : n ≤ 20) (t0 : 0 ≤ t) (t1 : t ≤ 9) (hD : RD s q D (2 * n)) (hk : ∀ l, 0 ≤ l → l < n → okD S D l) : ∀ i : Int, i ≤ n → 0 ≤ i → (∀ l : Int, 0 ≤ l → l < i → ct S p (D (2 * l)) t = D (2 * l + 1)) →
    mm_at (zP Z) 131 6 [some (.inr (.inr (some 74))), some (.inl p), some (.inr (.inr (some q))), some (.inl n), some (.inl t), some (.inl i)] [] (mk s) = some (some (.inl (b2i (fitB S D p t n.toNat))), mk s) := by
  have nn := wf_n hw
  refine up ?_ ?_
  · intro i0 hl
    rw [B_X10_isAsTold_6, (fitB_iff S D p t n.toNat).mpr (fun l h0 h1 => hl l h0 (by omega))]
    simp (disch := first | assumption | omega) only [↓sm, ↓reduceIte, ↓if_pos, ↓if_neg, kI, kJ, kR, kV, w32_eq, w64_eq, reduceCtorEq, Int.reduceAdd, Int.reduceMul, Int.reduceSub]
    rfl
  · intro i hi ih i0 hl
    obtain ⟨k1, k2, k3, k4⟩ := hk i i0 hi
    have d0 := hD (2 * i) (by omega) (by omega)
    have d1 := hD (2 * i + 1) (by omega) (by omega)
    by_cases hc : ct S p (D (2 * i)) t = D (2 * i + 1)
    · have g := ih (by omega) (fun l h0 h1 => by
        by_cases e : l = i
        · rw [e]; exact hc
        · exact hl l h0 (by omega))
      rw [B_X10_isAsTold_6]
      simp (disch := first | assumption | omega) only [↓sm, ↓reduceIte, ↓if_pos, ↓if_neg, kI, kJ, kR, kV, w32_eq, w64_eq, reduceCtorEq, Int.reduceAdd, Int.reduceMul, Int.reduceSub, o_c74, ↓o_g74_0, ↓o_g74_1, o_c7, t_c qa, ↓c8_at Z s qa, c8_at Z s qa, d0, d1, ↓c_catchOf h hw Z, lcmp0, hc, g]
    · have e : fitB S D p t n.toNat = false := by
        rw [← Bool.not_eq_true, fitB_iff]
        exact fun g => hc (g i i0 (by omega))
      rw [B_X10_isAsTold_6, e]
      simp (disch := first | assumption | omega) only [↓sm, ↓reduceIte, ↓if_pos, ↓if_neg, kI, kJ, kR, kV, w32_eq, w64_eq, reduceCtorEq, Int.reduceAdd, Int.reduceMul, Int.reduceSub, o_c74, ↓o_g74_0, ↓o_g74_1, o_c7, t_c qa, ↓c8_at Z s qa, c8_at Z s qa, d0, d1, ↓c_catchOf h hw Z, lcmp0, hc]
      rfl
theorem c_isAsTold {s : mS} {S N : Int → Int} (h : CS s 7 S N) (hw : WF S) (Z : mX) {q : Nat} (qa : isT q) (D : Int → Int) (p n t : Int) (p0 : 0 ≤ p) (p1 : p < S 3) (n0 : 0 ≤ n) (n1 : n ≤ 20) (t0 : 0 ≤ t) (t1 : t ≤ 9) (hD : RD s q D (2 * n)) (hk : ∀ l, 0 ≤ l → l < n → okD S D l) (f : Int → mW → mO) : mm_kI (mm_run (zP Z) 131 [.inr (.inr (some 74)), .inl p, .inr (.inr (some q)), .inl n, .inl t] (mk s)) f = f (b2i (fitB S D p t n.toNat)) (mk s) := by
  rw [B_X10_isAsTold]
  simp (disch := first | assumption | omega) only [↓sm, ↓reduceIte, ↓if_pos, ↓if_neg, kI, kJ, kR, kV, w32_eq, w64_eq, reduceCtorEq, Int.reduceAdd, Int.reduceMul, Int.reduceSub, reduceCtorEq, lp_isAsTold h hw Z qa D p n t p0 p1 n1 t0 t1 hD hk 0 n0 (by omega) (fun l h0 h1 => absurd h1 (by omega))]
def fitP (S D : Int → Int) (p n : Int) (t : Int) : Bool := fitB S D p t n.toNat
theorem lp_fitting {s : mS} {S N : Int → Int} (h : CS s 7 S N) (hw : WF S) (Z : mX) {q : Nat} (qa : isT q) (D : Int → Int) (p n : Int) (p0 : 0 ≤ p) (p1 : p < S 3) (n0 : 0 ≤ n) (n1 : n ≤ 20) (hD : RD s q D (2 * n)) (hk : ∀ l, 0 ≤ l → l < n → okD S D l) : ∀ i : Int, i ≤ 10 → 0 ≤ i →
    mm_at (zP Z) 130 4 [some (.inr (.inr (some 74))), some (.inl p), some (.inr (.inr (some q))), some (.inl n), some (.inl ((bz (fitP S D p n) i))), some (.inl i)] [] (mk s) = some (some (.inl (bz (fitP S D p n) 10)), mk s) := by
  refine up ?_ ?_
  · intro i0
    rw [B_X10_fitting_4]
    simp (disch := first | assumption | omega) only [↓sm, ↓reduceIte, ↓if_pos, ↓if_neg, kI, kJ, kR, kV, w32_eq, w64_eq, reduceCtorEq, Int.reduceAdd, Int.reduceMul, Int.reduceSub]
  · intro i hi ih i0
    have k := fun f => c_isAsTold h hw Z qa D p n i p0 p1 n0 n1 i0 (by omega) hD hk f
    have g := ih (by omega)
    cases hb : fitB S D p i n.toNat
    · rw [hb] at k
      rw [bz_or0 _ i0 (show fitP S D p n i = false from hb)] at g
      rw [B_X10_fitting_4]
      simp (disch := first | assumption | omega) only [↓sm, ↓reduceIte, ↓if_pos, ↓if_neg, kI, kJ, kR, kV, w32_eq, w64_eq, reduceCtorEq, Int.reduceAdd, Int.reduceMul, Int.reduceSub, o_c74, ↓o_g74_0, ↓o_g74_1, o_c74, ↓k, b2i_0, g, Bool.false_eq_true]
    · rw [hb] at k
      have o := bz_or1 (fitP S D p n) i0 (by omega) (show fitP S D p n i = true from hb)
      rw [B_X10_fitting_4]
      simp (disch := first | assumption | omega) only [↓sm, ↓reduceIte, ↓if_pos, ↓if_neg, kI, kJ, kR, kV, w32_eq, w64_eq, reduceCtorEq, Int.reduceAdd, Int.reduceMul, Int.reduceSub, o_c74, ↓o_g74_0, ↓o_g74_1, o_c74, ↓k, b2i_0, ↓k_bit Z, o, g]
theorem c_fitting {s : mS} {S N : Int → Int} (h : CS s 7 S N) (hw : WF S) (Z : mX) {q : Nat} (qa : isT q) (D : Int → Int) (p n : Int) (p0 : 0 ≤ p) (p1 : p < S 3) (n0 : 0 ≤ n) (n1 : n ≤ 20) (hD : RD s q D (2 * n)) (hk : ∀ l, 0 ≤ l → l < n → okD S D l) (f : Int → mW → mO) : mm_kI (mm_run (zP Z) 130 [.inr (.inr (some 74)), .inl p, .inr (.inr (some q)), .inl n] (mk s)) f = f (bz (fitP S D p n) 10) (mk s) := by
  have g := lp_fitting h hw Z qa D p n p0 p1 n0 n1 hD hk 0 (by omega) (by omega)
  rw [bz_0] at g
  rw [B_X10_fitting, g, kI]
def cntP (P : Int → Bool) (i : Int) : Int := sumI (fun j => b2i (P j)) i.toNat
theorem cntP_s (P : Int → Bool) {i : Int} (i0 : 0 ≤ i) : cntP P (i + 1) = cntP P i + b2i (P i) := by
  unfold cntP
  rw [show (i + 1).toNat = i.toNat + 1 by omega]
  show sumI _ i.toNat + b2i (P (i.toNat : Int)) = _
  rw [Int.toNat_of_nonneg i0]
theorem b2i_r (b : Bool) : 0 ≤ b2i b ∧ b2i b ≤ 1 := by cases b <;> decide
theorem cntP_r (P : Int → Bool) (i : Int) (i0 : 0 ≤ i) : 0 ≤ cntP P i ∧ cntP P i ≤ i := by
  have := sumI_ge (fun j => b2i (P j)) 1 i.toNat (fun j _ _ => b2i_r _)
  unfold cntP
  omega
theorem filt_sum (x : Int) : ∀ n : Nat, ((((List.range n).filter fun i => tb x i).length : Nat) : Int) = sumI (fun j => b2i (tb x j.toNat)) n
  | 0 => rfl
  | n + 1 => by
    rw [List.range_succ, List.filter_append, List.length_append, Int.natCast_add, filt_sum x n]
    show _ = sumI _ n + b2i (tb x ((n : Int)).toNat)
    rw [Int.toNat_natCast]
    cases h : tb x n <;> simp [h, b2i]
theorem pc_bz (P : Int → Bool) : pc (bz P 10) = cntP P 10 := by
  unfold pc
  rw [filt_sum]
  refine sumI_ext _ _ 10 (fun i i0 i1 => ?_)
  show b2i (tb (bz P 10) i.toNat) = b2i (P i)
  rw [tb_bz P (by omega), Int.toNat_of_nonneg i0, decide_eq_true (show i < 10 by omega), Bool.true_and]
theorem bz_1024 (P : Int → Bool) : 0 ≤ bz P 10 ∧ bz P 10 < 1024 := bz_range P 10
def a154 (q : Nat) : Prop := q = 154
theorem uA_uA (s : mS) (q : Nat) (i v v' : Int) : uA (uA s q i v) q i v' = uA s q i v' := by
  apply Prod.ext
  · rfl
  · funext q' j
    show (if q' = q ∧ j = i then v' else if q' = q ∧ j = i then v else s.2 q' j) = if q' = q ∧ j = i then v' else s.2 q' j
    by_cases h : q' = q ∧ j = i
    · rw [if_pos h, if_pos h]
    · rw [if_neg h, if_neg h, if_neg h]
theorem lp_rfit {S : Int → Int} (hw : WF S) (Z : mX) (D : Int → Int) (p n a t : Int) (p0 : 0 ≤ p) (p1 : p < S 3) (n1 : n ≤ 20) (a0 : 0 ≤ a) (a1 : a < 4) (t0 : 0 ≤ t) (t1 : t ≤ 9) (hk : ∀ l, 0 ≤ l → l < n → okD S D l) (c : Int) (s : mS) (e : s.2 142 = S) (hE : RE s a D (2 * n)) : ∀ i : Int, i ≤ n → 0 ≤ i →
    mm_at (zP Z) 333 14 [some (.inr (.inr (some 141))), some (.inl p), some (.inl a), some (.inl n), some (.inl c), some (.inl t), some (.inl i), none] [] (mk (uA s 154 t (b2i (fitB S D p t i.toNat)))) = mm_at (zP Z) 333 14 [some (.inr (.inr (some 141))), some (.inl p), some (.inl a), some (.inl n), some (.inl c), some (.inl t), some (.inl n), none] [] (mk (uA s 154 t (b2i (fitB S D p t n.toNat)))) := by
  have nn := wf_n hw
  refine up ?_ ?_
  · intro i0
    rfl
  · intro i hi ih i0
    obtain ⟨k1, k2, k3, k4⟩ := hk i i0 hi
    have e0 := hE (2 * i) (by omega) (by omega)
    have e1 := hE (2 * i + 1) (by omega) (by omega)
    rw [← Int.add_assoc] at e1
    have g := ih (by omega)
    have ef : fitB S D p t (i + 1).toNat = (fitB S D p t i.toNat && decide (ct S p (D (2 * i)) t = D (2 * i + 1))) := by
      rw [show (i + 1).toNat = i.toNat + 1 by omega]
      show (fitB S D p t i.toNat && decide (ct S p (D (2 * (i.toNat : Int))) t = D (2 * (i.toNat : Int) + 1))) = _
      rw [Int.toNat_of_nonneg i0]
    have e' : (uA s 154 t (b2i (fitB S D p t i.toNat))).2 142 = S := by rw [uA_n s (by decide)]; exact e
    have E0 : (uA s 154 t (b2i (fitB S D p t i.toNat))).2 146 (60 * a + 2 * i) = D (2 * i) := by rw [uA_n s (by decide)]; exact e0
    have E1 : (uA s 154 t (b2i (fitB S D p t i.toNat))).2 146 (60 * a + 2 * i + 1) = D (2 * i + 1) := by rw [uA_n s (by decide)]; exact e1
    rw [← g, ef]
    by_cases hc : ct S p (D (2 * i)) t = D (2 * i + 1)
    · rw [decide_eq_true hc, Bool.and_true]
      conv => lhs; rw [B_X12_laysFits_14]
      simp (disch := first | assumption | omega) only [↓sm, ↓reduceIte, ↓if_pos, ↓if_neg, kI, kJ, kR, kV, w32_eq, w64_eq, reduceCtorEq, Int.reduceAdd, Int.reduceMul, Int.reduceSub, o_c141, ↓o_g141_0, ↓o_g141_1, ↓o_g141_5, ↓o_g141_6, ↓o_g141_7, ↓o_g141_8, ↓o_g141_9, ↓o_g141_21, ↓o_g141_25, ↓o_g141_26, ↓o_g141_27, ↓o_g141_28, ↓o_g141_29, ↓o_g141_30, ↓o_g141_31, ↓o_g141_34, ↓o_g141_35, ↓o_g141_36, ↓a_ld146, a_ld146, E0, E1, ↓r_catchBy e' hw Z, lcmp0, hc]
    · rw [decide_eq_false hc, Bool.and_false]
      conv => lhs; rw [B_X12_laysFits_14]
      simp (disch := first | assumption | omega) only [↓sm, ↓reduceIte, ↓if_pos, ↓if_neg, kI, kJ, kR, kV, w32_eq, w64_eq, reduceCtorEq, Int.reduceAdd, Int.reduceMul, Int.reduceSub, o_c141, ↓o_g141_0, ↓o_g141_1, ↓o_g141_5, ↓o_g141_6, ↓o_g141_7, ↓o_g141_8, ↓o_g141_9, ↓o_g141_21, ↓o_g141_25, ↓o_g141_26, ↓o_g141_27, ↓o_g141_28, ↓o_g141_29, ↓o_g141_30, ↓o_g141_31, ↓o_g141_34, ↓o_g141_35, ↓o_g141_36, ↓a_ld146, a_ld146, E0, E1, ↓r_catchBy e' hw Z, lcmp0, hc, ↓a_st154, uA_uA]
      rfl
theorem lp_laysFits {S : Int → Int} (hw : WF S) (Z : mX) (D : Int → Int) (p n a : Int) (p0 : 0 ≤ p) (p1 : p < S 3) (n0 : 0 ≤ n) (n1 : n ≤ 20) (a0 : 0 ≤ a) (a1 : a < 4) (hk : ∀ l, 0 ≤ l → l < n → okD S D l) : ∀ t : Int, t ≤ 10 → ∀ s : mS, s.2 142 = S → RE s a D (2 * n) → 0 ≤ t →
    ∃ s', mm_at (zP Z) 333 4 [some (.inr (.inr (some 141))), some (.inl p), some (.inl a), some (.inl n), some (.inl ((cntP (fitP S D p n) t))), some (.inl t), none, none] [] (mk s) = some (some (.inl (cntP (fitP S D p n) 10)), mk s') ∧ Ag a154 noF s s' ∧ ∀ j, s'.2 154 j = if t ≤ j ∧ j < 10 then b2i (fitP S D p n j) else s.2 154 j := by
  refine up ?_ ?_
  · intro s e hE t0
    refine ⟨s, ?_, Ag_refl _ _ _, fun j => by rw [if_neg (by omega)]⟩
    rw [B_X12_laysFits_4]
    simp (disch := first | assumption | omega) only [↓sm, ↓reduceIte, ↓if_pos, ↓if_neg, kI, kJ, kR, kV, w32_eq, w64_eq, reduceCtorEq, Int.reduceAdd, Int.reduceMul, Int.reduceSub]
  · intro t ht ih s e hE t0
    have g := lp_rfit hw Z D p n a t p0 p1 n1 a0 a1 t0 (by omega) hk (cntP (fitP S D p n) t) s e hE 0 n0 (by omega)
    rw [show b2i (fitB S D p t (Int.toNat 0)) = 1 from rfl] at g
    obtain ⟨s', g1, g2, g3⟩ := ih (uA s 154 t (b2i (fitB S D p t n.toNat))) (by rw [uA_n s (by decide)]; exact e) (fun j j0 j1 => by rw [uA_n s (by decide)]; exact hE j j0 j1) (by omega)
    have cr := cntP_r (fitP S D p n) t t0
    have ec := cntP_s (fitP S D p n) t0
    have ev : (uA s 154 t (b2i (fitB S D p t n.toNat))).2 154 t = b2i (fitB S D p t n.toNat) := by rw [uA_s, up_eq rfl]
    refine ⟨s', ?_, Ag_trans (Ag_uA (Ag_refl _ _ _) (by unfold a154; omega) _ _) g2, fun j => ?_⟩
    · rw [B_X12_laysFits_4]
      cases hb : fitB S D p t n.toNat
      · have hb' : fitP S D p n t = false := hb
        rw [hb] at g ev g1
        rw [ec, hb'] at g1
        simp (disch := first | assumption | omega) only [↓sm, ↓reduceIte, ↓if_pos, ↓if_neg, kI, kJ, kR, kV, w32_eq, w64_eq, reduceCtorEq, Int.reduceAdd, Int.reduceMul, Int.reduceSub, o_c141, ↓o_g141_0, ↓o_g141_1, ↓o_g141_5, ↓o_g141_6, ↓o_g141_7, ↓o_g141_8, ↓o_g141_9, ↓o_g141_21, ↓o_g141_25, ↓o_g141_26, ↓o_g141_27, ↓o_g141_28, ↓o_g141_29, ↓o_g141_30, ↓o_g141_31, ↓o_g141_34, ↓o_g141_35, ↓o_g141_36, ↓a_st154, g]
        rw [B_X12_laysFits_14]
        simp (disch := first | assumption | omega) only [↓sm, ↓reduceIte, ↓if_pos, ↓if_neg, kI, kJ, kR, kV, w32_eq, w64_eq, reduceCtorEq, Int.reduceAdd, Int.reduceMul, Int.reduceSub, o_c141, ↓o_g141_0, ↓o_g141_1, ↓o_g141_5, ↓o_g141_6, ↓o_g141_7, ↓o_g141_8, ↓o_g141_9, ↓o_g141_21, ↓o_g141_25, ↓o_g141_26, ↓o_g141_27, ↓o_g141_28, ↓o_g141_29, ↓o_g141_30, ↓o_g141_31, ↓o_g141_34, ↓o_g141_35, ↓o_g141_36, ↓a_ld154, ev, b2i_0]
        rw [← g1]
        rfl
      · have hb' : fitP S D p n t = true := hb
        rw [hb] at g ev g1
        rw [ec, hb'] at g1
        simp (disch := first | assumption | omega) only [↓sm, ↓reduceIte, ↓if_pos, ↓if_neg, kI, kJ, kR, kV, w32_eq, w64_eq, reduceCtorEq, Int.reduceAdd, Int.reduceMul, Int.reduceSub, o_c141, ↓o_g141_0, ↓o_g141_1, ↓o_g141_5, ↓o_g141_6, ↓o_g141_7, ↓o_g141_8, ↓o_g141_9, ↓o_g141_21, ↓o_g141_25, ↓o_g141_26, ↓o_g141_27, ↓o_g141_28, ↓o_g141_29, ↓o_g141_30, ↓o_g141_31, ↓o_g141_34, ↓o_g141_35, ↓o_g141_36, ↓a_st154, g]
        rw [B_X12_laysFits_14]
        simp (disch := first | assumption | omega) only [↓sm, ↓reduceIte, ↓if_pos, ↓if_neg, kI, kJ, kR, kV, w32_eq, w64_eq, reduceCtorEq, Int.reduceAdd, Int.reduceMul, Int.reduceSub, o_c141, ↓o_g141_0, ↓o_g141_1, ↓o_g141_5, ↓o_g141_6, ↓o_g141_7, ↓o_g141_8, ↓o_g141_9, ↓o_g141_21, ↓o_g141_25, ↓o_g141_26, ↓o_g141_27, ↓o_g141_28, ↓o_g141_29, ↓o_g141_30, ↓o_g141_31, ↓o_g141_34, ↓o_g141_35, ↓o_g141_36, ↓a_ld154, ev, b2i_0]
        rw [← g1]
        rfl
    · rw [g3 j, uA_s]
      by_cases hj : j = t
      · rw [if_neg (by omega), up_eq hj, if_pos (by omega), hj]
        rfl
      · rw [up_ne hj]
        by_cases h1 : t + 1 ≤ j ∧ j < 10
        · rw [if_pos h1, if_pos (by omega)]
        · rw [if_neg h1, if_neg (by omega)]
theorem r_laysFits {S : Int → Int} (hw : WF S) (Z : mX) (D : Int → Int) (p n a : Int) (p0 : 0 ≤ p) (p1 : p < S 3) (n0 : 0 ≤ n) (n1 : n ≤ 20) (a0 : 0 ≤ a) (a1 : a < 4) (hk : ∀ l, 0 ≤ l → l < n → okD S D l) (s : mS) (e : s.2 142 = S) (hE : RE s a D (2 * n)) :
    ∃ s', (∀ f : Int → mW → mO, mm_kI (mm_run (zP Z) 333 [.inr (.inr (some 141)), .inl p, .inl a, .inl n] (mk s)) f = f (cntP (fitP S D p n) 10) (mk s')) ∧ Ag a154 noF s s' ∧ ∀ j, 0 ≤ j → j < 10 → s'.2 154 j = b2i (fitP S D p n j) := by
  obtain ⟨s', g1, g2, g3⟩ := lp_laysFits hw Z D p n a p0 p1 n0 n1 a0 a1 hk 0 (by omega) s e hE (by omega)
  refine ⟨s', fun f => ?_, g2, fun j j0 j1 => by rw [g3, if_pos ⟨j0, j1⟩]⟩
  rw [show cntP (fitP S D p n) 0 = 0 from rfl] at g1
  rw [B_X12_laysFits, g1, kI]
theorem a154_rsc {s t : mS} (h : Ag a154 noF s t) : rsc s t := Ag_mono h (fun q hq => by unfold a154 at hq; unfold srA; omega) (fun q k hq => hq.elim)
theorem op_rdt {Z : mX} {s : mS} {a b : Nat} {as : List mV} (hI : Inv s) (v x : Int) (s' : mS)
    (hc : ∀ f : Int → mW → mO, mm_kI (mm_run (zP Z) a (.inr (.inr (some 3)) :: as) (mk s)) f = f v (mk (uF s' 3 15 x))) (cs : csc s s')
    (hr : ∀ t : mS, t.2 142 = s.2 142 → t.2 145 = s.2 145 → t.2 146 = s.2 146 → ∃ t', (∀ f : Int → mW → mO, mm_kI (mm_run (zP Z) b (.inr (.inr (some 141)) :: as) (mk t)) f = f v (mk (uF t' 141 2 x))) ∧ rsc t t') : OpI Z s a b as := by
  obtain ⟨t', h1, h2⟩ := hr (uF s' 3 15 x) (cs.1 142 (by unfold scA; omega)) (cs.1 145 (by unfold scA; omega)) (cs.1 146 (by unfold scA; omega))
  exact ⟨v, _, _, hc, h1, inv_read hI (x := x) (Ag_uF cs (by unfold scF; omega) x) (by simp [uF_1]) (Ag_uF h2 (by unfold srF; omega) x) (by simp [uF_1])⟩
theorem rd_of {s : mS} (hR : RT s s) {a n : Int} (a0 : 0 ≤ a) (a1 : a < 4) (hn : 2 * n ≤ s.2 145 a) : RD s (76 + 2 * a.toNat) (fun j => s.2 146 (60 * a + j)) (2 * n) := by
  intro j j0 j1
  have b := (hR a.toNat (by omega)).2.2.2.2.2.2 j j0
  rw [Int.toNat_of_nonneg a0] at b
  rw [show 76 + 2 * a.toNat + 1 = 77 + 2 * a.toNat by omega]
  exact (b (by omega)).1
theorem op_fits (Z : mX) (s : mS) (hI : Inv s) (p a n : Int) : OpI Z s 176 334 [.inl p, .inl a, .inl n] := by
  have h := hI.2.2.1.2
  have hw := hI.2.2.1.1
  have hR := hI.2.2.2.1
  by_cases ha : 0 ≤ a ∧ a < 4
  case neg =>
    obtain ⟨g1, g2⟩ := twos_f h hw Z p a n ha
    refine op_rd hI (-1) 1 (fun f => ?_) (fun t e f => ?_)
    · rw [B_X11_fits]
      simp (disch := first | assumption | omega) only [↓sm, ↓reduceIte, ↓if_pos, ↓if_neg, kI, kJ, kR, kV, w32_eq, w64_eq, reduceCtorEq, Int.reduceAdd, Int.reduceMul, Int.reduceSub, o_c3, ↓o_g3_0, ↓o_g3_1, ↓o_g3_2, ↓o_g3_3, ↓o_g3_4, ↓o_g3_5, ↓o_g3_6, ↓o_g3_7, ↓o_g3_8, ↓o_g3_9, ↓o_g3_10, ↓o_g3_11, ↓o_g3_12, ↓o_g3_13, ↓o_g3_14, ↓o_g3_15, ↓o_g3_16, ↓o_g3_17, ↓a_ln4, ↓a_ld4, ↓a_ln61, ↓a_ld61, ↓a_ln62, ↓a_ld62, ↓d_none Z, ↓d_done Z, ↓d_refused Z, ↓d_granted Z, ↓c_trayAt_f Z, ↓g1, reduceCtorEq]
    · have g2 := g2 t e
      rw [B_X12_fits]
      simp (disch := first | assumption | omega) only [↓sm, ↓reduceIte, ↓if_pos, ↓if_neg, kI, kJ, kR, kV, w32_eq, w64_eq, reduceCtorEq, Int.reduceAdd, Int.reduceMul, Int.reduceSub, o_c141, ↓d_refuse Z, ↓d_gives Z, ↓d_is0 Z, ↓d_is1 Z, ↓d_isFrom_t Z, ↓d_isFrom_f Z, ↓d_orNone_t Z, ↓d_orNone_f Z, ↓g2]
  case pos =>
    obtain ⟨v, v0, hs, g1, g2⟩ := twos_t h hw Z hR p a n ha.1 ha.2
    by_cases hv : v = 0
    case neg =>
      refine op_rdt hI (-1) v s (fun f => ?_) (Ag_refl _ _ _) (fun t e2 e5 e6 => ⟨t, fun f => ?_, Ag_refl _ _ _⟩)
      · rw [B_X11_fits]
        simp (disch := first | assumption | omega) only [↓sm, ↓reduceIte, ↓if_pos, ↓if_neg, kI, kJ, kR, kV, w32_eq, w64_eq, reduceCtorEq, Int.reduceAdd, Int.reduceMul, Int.reduceSub, o_c3, ↓o_g3_0, ↓o_g3_1, ↓o_g3_2, ↓o_g3_3, ↓o_g3_4, ↓o_g3_5, ↓o_g3_6, ↓o_g3_7, ↓o_g3_8, ↓o_g3_9, ↓o_g3_10, ↓o_g3_11, ↓o_g3_12, ↓o_g3_13, ↓o_g3_14, ↓o_g3_15, ↓o_g3_16, ↓o_g3_17, ↓a_ln4, ↓a_ld4, ↓a_ln61, ↓a_ld61, ↓a_ln62, ↓a_ld62, ↓d_none Z, ↓d_done Z, ↓d_refused Z, ↓d_granted Z, ↓c_trayAt_t Z, ↓g1, reduceCtorEq]
      · have g2 := g2 t e2 e5 e6
        rw [B_X12_fits]
        simp (disch := first | assumption | omega) only [↓sm, ↓reduceIte, ↓if_pos, ↓if_neg, kI, kJ, kR, kV, w32_eq, w64_eq, reduceCtorEq, Int.reduceAdd, Int.reduceMul, Int.reduceSub, o_c141, ↓d_refuse Z, ↓d_gives Z, ↓d_is0 Z, ↓d_is1 Z, ↓d_isFrom_t Z, ↓d_isFrom_f Z, ↓d_orNone_t Z, ↓d_orNone_f Z, ↓g2]
    case pos =>
      obtain ⟨p0, p1, n0, n1, n2, hk⟩ := hs hv
      have qa := isT_of (k := a.toNat) (by omega)
      have kf := fun f => c_fitting h hw Z qa _ p n p0 p1 n0 n1 (rd_of hR ha.1 ha.2 n2) hk f
      have br := bz_1024 (fitP (s.2 142) (fun j => s.2 146 (60 * a + j)) p n)
      refine op_rdt hI (cntP (fitP (s.2 142) (fun j => s.2 146 (60 * a + j)) p n) 10) 0 s (fun f => ?_) (Ag_refl _ _ _) (fun t e2 e5 e6 => ?_)
      · rw [B_X11_fits]
        simp (disch := first | assumption | omega) only [↓sm, ↓reduceIte, ↓if_pos, ↓if_neg, kI, kJ, kR, kV, w32_eq, w64_eq, reduceCtorEq, Int.reduceAdd, Int.reduceMul, Int.reduceSub, o_c3, ↓o_g3_0, ↓o_g3_1, ↓o_g3_2, ↓o_g3_3, ↓o_g3_4, ↓o_g3_5, ↓o_g3_6, ↓o_g3_7, ↓o_g3_8, ↓o_g3_9, ↓o_g3_10, ↓o_g3_11, ↓o_g3_12, ↓o_g3_13, ↓o_g3_14, ↓o_g3_15, ↓o_g3_16, ↓o_g3_17, ↓a_ln4, ↓a_ld4, ↓a_ln61, ↓a_ld61, ↓a_ln62, ↓a_ld62, ↓d_none Z, ↓d_done Z, ↓d_refused Z, ↓d_granted Z, ↓c_trayAt_t Z, ↓g1, hv, reduceCtorEq, o_c74, ↓kf, ↓k_bitCount, pc_bz]
      · obtain ⟨t', k1, k2, k3⟩ := r_laysFits hw Z (fun j => s.2 146 (60 * a + j)) p n a p0 p1 n0 n1 ha.1 ha.2 hk t e2 (fun j j0 j1 => by rw [e6])
        refine ⟨t', fun f => ?_, a154_rsc k2⟩
        have g2 := g2 t e2 e5 e6
        rw [B_X12_fits]
        simp (disch := first | assumption | omega) only [↓sm, ↓reduceIte, ↓if_pos, ↓if_neg, kI, kJ, kR, kV, w32_eq, w64_eq, reduceCtorEq, Int.reduceAdd, Int.reduceMul, Int.reduceSub, o_c141, ↓d_refuse Z, ↓d_gives Z, ↓d_is0 Z, ↓d_is1 Z, ↓d_isFrom_t Z, ↓d_isFrom_f Z, ↓d_orNone_t Z, ↓d_orNone_f Z, ↓g2, hv, ↓k1]
