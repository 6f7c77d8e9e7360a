/-! free, tear, pick -/
theorem r_pupil0 {s : mS} {S : Int → Int} (e : s.2 142 = S) (Z : mX) (p k : Int) (p0 : 0 ≤ p) (p1 : p < 6) (k0 : 1 ≤ k) (k1 : k < 6) (f : Int → mW → mO) : mm_kI (mm_run (zP Z) 274 [.inr (.inr (some 141)), .inl p, .inl k] (mk s)) f = f (S (74 + 6 * p + k)) (mk s) := by
  rw [B_X12_pupilOf]
  simp (disch := first | assumption | omega) only [↓sm, ↓reduceIte, ↓if_pos, ↓if_neg, kI, kJ, kR, kV, w32_eq, w64_eq, reduceCtorEq, Int.reduceAdd, Int.reduceMul, Int.reduceSub, o_c141, ↓o_g141_0, ↓o_g141_1, ↓o_g141_5, ↓o_g141_6, ↓o_g141_7, ↓o_g141_8, ↓o_g141_9, ↓o_g141_21, ↓o_g141_25, ↓o_g141_26, ↓o_g141_27, ↓o_g141_28, ↓o_g141_29, ↓o_g141_30, ↓o_g141_31, ↓o_g141_34, ↓o_g141_35, ↓o_g141_36, ↓r_pupilRow Z, ↓r_atw e]
theorem c_areTwo_t {s : mS} {S N : Int → Int} (h : CS s 7 S N) (hw : WF S) (Z : mX) (p o : Int) (p0 : 0 ≤ p) (p1 : p < S 3) (o0 : 0 ≤ o) (o1 : o < S 3) (hn : p ≠ o) (f : Int → mW → mO) : mm_kI (mm_run (zP Z) 198 [.inr (.inr (some 3)), .inl p, .inl o] (mk s)) f = f 1 (mk s) := by
  rw [B_X11_areTwo]
  simp (disch := first | assumption | omega) only [↓sm, ↓reduceIte, ↓if_pos, ↓if_neg, kI, kJ, kR, kV, w32_eq, w64_eq, reduceCtorEq, Int.reduceAdd, Int.reduceMul, Int.reduceSub, o_c3, ↓o_g3_0, ↓o_g3_1, ↓o_g3_2, ↓o_g3_3, ↓o_g3_4, ↓o_g3_5, ↓o_g3_6, ↓o_g3_7, ↓o_g3_8, ↓o_g3_9, ↓o_g3_10, ↓o_g3_11, ↓o_g3_12, ↓o_g3_13, ↓o_g3_14, ↓o_g3_15, ↓o_g3_16, ↓o_g3_17, ↓a_ln4, ↓a_ld4, ↓a_ln61, ↓a_ld61, ↓a_ln62, ↓a_ld62, o_c7, ↓o_g7_4, ↓o_g7_5, ↓o_g7_7, ↓o_g7_8, ↓o_g7_9, ↓o_g7_11, ↓o_g7_12, ↓o_g7_13, ↓o_g7_14, ↓o_g7_15, ↓o_g7_16, ↓o_g7_17, ↓q_wide h, ↓q_high h, ↓q_odds h, ↓q_year h, ↓q_less h, ↓q_pups h, ↓q_thorns h Z, ↓q_berries h Z, ↓q_hours h hw Z, ↓q_needs h hw Z, ↓q_at h hw Z, ↓q_want h hw Z, ↓q_knows h hw Z, ↓q_caught h hw Z, ↓q_marks h hw Z, ↓q_torn h hw Z, ↓c_cells h hw Z, ↓c_hasCell_t h hw Z, ↓c_hasCell_f h hw Z, ↓c_hasLesson_t h hw Z, ↓c_hasLesson_f h hw Z, ↓c_hasPupil_t h hw Z, ↓c_hasPupil_f h hw Z, ↓c_isCellNumber_t h hw Z, ↓c_isCellNumber_f h hw Z, ↓c_beside h hw Z, ↓c_touch h hw Z, ↓c_catchOf h hw Z, ↓c_clearSet h hw Z, ↓c_isCaught_t h hw Z, ↓c_isCaught_f h hw Z, ↓c_caughtSet h hw Z, ↓c_pupilsAt h hw Z, ↓c_pupilsWhoKnow h hw Z, ↓c_areNear h hw Z, ↓c_canHelp h hw Z, ↓c_helperSet h hw Z, ↓c_nextLesson h hw Z, ↓c_isNearSome h hw Z, ↓c_freedSet h hw Z]
theorem c_areTwo_f {s : mS} {S N : Int → Int} (h : CS s 7 S N) (hw : WF S) (Z : mX) (p o : Int) (hn : ¬ (0 ≤ p ∧ p < S 3 ∧ 0 ≤ o ∧ o < S 3 ∧ p ≠ o)) (f : Int → mW → mO) : mm_kI (mm_run (zP Z) 198 [.inr (.inr (some 3)), .inl p, .inl o] (mk s)) f = f 0 (mk s) := by
  rw [B_X11_areTwo]
  by_cases h1 : 0 ≤ p ∧ p < S 3
  · by_cases h2 : 0 ≤ o ∧ o < S 3
    · have h3 : p = o := by omega
      simp (disch := first | assumption | omega) only [↓sm, ↓reduceIte, ↓if_pos, ↓if_neg, kI, kJ, kR, kV, w32_eq, w64_eq, reduceCtorEq, Int.reduceAdd, Int.reduceMul, Int.reduceSub, o_c3, ↓o_g3_0, ↓o_g3_1, ↓o_g3_2, ↓o_g3_3, ↓o_g3_4, ↓o_g3_5, ↓o_g3_6, ↓o_g3_7, ↓o_g3_8, ↓o_g3_9, ↓o_g3_10, ↓o_g3_11, ↓o_g3_12, ↓o_g3_13, ↓o_g3_14, ↓o_g3_15, ↓o_g3_16, ↓o_g3_17, ↓a_ln4, ↓a_ld4, ↓a_ln61, ↓a_ld61, ↓a_ln62, ↓a_ld62, o_c7, ↓o_g7_4, ↓o_g7_5, ↓o_g7_7, ↓o_g7_8, ↓o_g7_9, ↓o_g7_11, ↓o_g7_12, ↓o_g7_13, ↓o_g7_14, ↓o_g7_15, ↓o_g7_16, ↓o_g7_17, ↓q_wide h, ↓q_high h, ↓q_odds h, ↓q_year h, ↓q_less h, ↓q_pups h, ↓q_thorns h Z, ↓q_berries h Z, ↓q_hours h hw Z, ↓q_needs h hw Z, ↓q_at h hw Z, ↓q_want h hw Z, ↓q_knows h hw Z, ↓q_caught h hw Z, ↓q_marks h hw Z, ↓q_torn h hw Z, ↓c_cells h hw Z, ↓c_hasCell_t h hw Z, ↓c_hasCell_f h hw Z, ↓c_hasLesson_t h hw Z, ↓c_hasLesson_f h hw Z, ↓c_hasPupil_t h hw Z, ↓c_hasPupil_f h hw Z, ↓c_isCellNumber_t h hw Z, ↓c_isCellNumber_f h hw Z, ↓c_beside h hw Z, ↓c_touch h hw Z, ↓c_catchOf h hw Z, ↓c_clearSet h hw Z, ↓c_isCaught_t h hw Z, ↓c_isCaught_f h hw Z, ↓c_caughtSet h hw Z, ↓c_pupilsAt h hw Z, ↓c_pupilsWhoKnow h hw Z, ↓c_areNear h hw Z, ↓c_canHelp h hw Z, ↓c_helperSet h hw Z, ↓c_nextLesson h hw Z, ↓c_isNearSome h hw Z, ↓c_freedSet h hw Z]
    · simp (disch := first | assumption | omega) only [↓sm, ↓reduceIte, ↓if_pos, ↓if_neg, kI, kJ, kR, kV, w32_eq, w64_eq, reduceCtorEq, Int.reduceAdd, Int.reduceMul, Int.reduceSub, o_c3, ↓o_g3_0, ↓o_g3_1, ↓o_g3_2, ↓o_g3_3, ↓o_g3_4, ↓o_g3_5, ↓o_g3_6, ↓o_g3_7, ↓o_g3_8, ↓o_g3_9, ↓o_g3_10, ↓o_g3_11, ↓o_g3_12, ↓o_g3_13, ↓o_g3_14, ↓o_g3_15, ↓o_g3_16, ↓o_g3_17, ↓a_ln4, ↓a_ld4, ↓a_ln61, ↓a_ld61, ↓a_ln62, ↓a_ld62, o_c7, ↓o_g7_4, ↓o_g7_5, ↓o_g7_7, ↓o_g7_8, ↓o_g7_9, ↓o_g7_11, ↓o_g7_12, ↓o_g7_13, ↓o_g7_14, ↓o_g7_15, ↓o_g7_16, ↓o_g7_17, ↓q_wide h, ↓q_high h, ↓q_odds h, ↓q_year h, ↓q_less h, ↓q_pups h, ↓q_thorns h Z, ↓q_berries h Z, ↓q_hours h hw Z, ↓q_needs h hw Z, ↓q_at h hw Z, ↓q_want h hw Z, ↓q_knows h hw Z, ↓q_caught h hw Z, ↓q_marks h hw Z, ↓q_torn h hw Z, ↓c_cells h hw Z, ↓c_hasCell_t h hw Z, ↓c_hasCell_f h hw Z, ↓c_hasLesson_t h hw Z, ↓c_hasLesson_f h hw Z, ↓c_hasPupil_t h hw Z, ↓c_hasPupil_f h hw Z, ↓c_isCellNumber_t h hw Z, ↓c_isCellNumber_f h hw Z, ↓c_beside h hw Z, ↓c_touch h hw Z, ↓c_catchOf h hw Z, ↓c_clearSet h hw Z, ↓c_isCaught_t h hw Z, ↓c_isCaught_f h hw Z, ↓c_caughtSet h hw Z, ↓c_pupilsAt h hw Z, ↓c_pupilsWhoKnow h hw Z, ↓c_areNear h hw Z, ↓c_canHelp h hw Z, ↓c_helperSet h hw Z, ↓c_nextLesson h hw Z, ↓c_isNearSome h hw Z, ↓c_freedSet h hw Z]
  · simp (disch := first | assumption | omega) only [↓sm, ↓reduceIte, ↓if_pos, ↓if_neg, kI, kJ, kR, kV, w32_eq, w64_eq, reduceCtorEq, Int.reduceAdd, Int.reduceMul, Int.reduceSub, o_c3, ↓o_g3_0, ↓o_g3_1, ↓o_g3_2, ↓o_g3_3, ↓o_g3_4, ↓o_g3_5, ↓o_g3_6, ↓o_g3_7, ↓o_g3_8, ↓o_g3_9, ↓o_g3_10, ↓o_g3_11, ↓o_g3_12, ↓o_g3_13, ↓o_g3_14, ↓o_g3_15, ↓o_g3_16, ↓o_g3_17, ↓a_ln4, ↓a_ld4, ↓a_ln61, ↓a_ld61, ↓a_ln62, ↓a_ld62, o_c7, ↓o_g7_4, ↓o_g7_5, ↓o_g7_7, ↓o_g7_8, ↓o_g7_9, ↓o_g7_11, ↓o_g7_12, ↓o_g7_13, ↓o_g7_14, ↓o_g7_15, ↓o_g7_16, ↓o_g7_17, ↓q_wide h, ↓q_high h, ↓q_odds h, ↓q_year h, ↓q_less h, ↓q_pups h, ↓q_thorns h Z, ↓q_berries h Z, ↓q_hours h hw Z, ↓q_needs h hw Z, ↓q_at h hw Z, ↓q_want h hw Z, ↓q_knows h hw Z, ↓q_caught h hw Z, ↓q_marks h hw Z, ↓q_torn h hw Z, ↓c_cells h hw Z, ↓c_hasCell_t h hw Z, ↓c_hasCell_f h hw Z, ↓c_hasLesson_t h hw Z, ↓c_hasLesson_f h hw Z, ↓c_hasPupil_t h hw Z, ↓c_hasPupil_f h hw Z, ↓c_isCellNumber_t h hw Z, ↓c_isCellNumber_f h hw Z, ↓c_beside h hw Z, ↓c_touch h hw Z, ↓c_catchOf h hw Z, ↓c_clearSet h hw Z, ↓c_isCaught_t h hw Z, ↓c_isCaught_f h hw Z, ↓c_caughtSet h hw Z, ↓c_pupilsAt h hw Z, ↓c_pupilsWhoKnow h hw Z, ↓c_areNear h hw Z, ↓c_canHelp h hw Z, ↓c_helperSet h hw Z, ↓c_nextLesson h hw Z, ↓c_isNearSome h hw Z, ↓c_freedSet h hw Z]
theorem fst1_r (P : Int → Bool) : ∀ (n : Nat) (k : Int), 0 ≤ k → fst1 P n k = -1 ∨ k ≤ fst1 P n k ∧ fst1 P n k < k + n ∧ P (fst1 P n k) = true
  | 0, _, _ => Or.inl rfl
  | n + 1, k, h => by
    unfold fst1
    by_cases hp : P k = true
    · rw [if_pos hp]
      right
      exact ⟨by omega, by omega, hp⟩
    · rw [if_neg hp]
      rcases fst1_r P n (k + 1) (by omega) with h1 | h1
      · exact Or.inl h1
      · right
        exact ⟨by omega, by omega, h1.2.2⟩
theorem nl_r {S : Int → Int} (hw : WF S) (p : Int) : nl S p = -1 ∨ 0 ≤ nl S p ∧ nl S p < S 2 ∧ nlP S (S (74 + 6 * p + 2)) (nl S p) = true := by
  have w := wf0 hw
  rcases fst1_r (nlP S (S (74 + 6 * p + 2))) (S 2).toNat 0 (by omega) with h | h
  · exact Or.inl h
  · right
    unfold nl
    exact ⟨h.1, by omega, h.2.2⟩
theorem or7 {a l : Int} (a0 : 0 ≤ a) (a1 : a < 128) (l0 : 0 ≤ l) (l1 : l < 7) : 0 ≤ mm_ior a (mm_ishl 1 l) ∧ mm_ior a (mm_ishl 1 l) < 128 := by
  have key : ∀ a : Nat, a < 128 → ∀ l : Nat, l < 7 → 0 ≤ mm_ior (a : Int) (mm_ishl 1 (l : Int)) ∧ mm_ior (a : Int) (mm_ishl 1 (l : Int)) < 128 := by decide +kernel
  have := key a.toNat (by omega) l.toNat (by omega)
  rwa [Int.toNat_of_nonneg a0, Int.toNat_of_nonneg l0] at this
theorem xor7 {a l : Int} (a0 : 0 ≤ a) (a1 : a < 128) (l0 : 0 ≤ l) (l1 : l < 7) : 0 ≤ mm_ixor a (mm_ishl 1 l) ∧ mm_ixor a (mm_ishl 1 l) < 128 := by
  have key : ∀ a : Nat, a < 128 → ∀ l : Nat, l < 7 → 0 ≤ mm_ixor (a : Int) (mm_ishl 1 (l : Int)) ∧ mm_ixor (a : Int) (mm_ishl 1 (l : Int)) < 128 := by decide +kernel
  have := key a.toNat (by omega) l.toNat (by omega)
  rwa [Int.toNat_of_nonneg a0, Int.toNat_of_nonneg l0] at this
/-- a thorn taken off: what is learnt by it; the school then -/
def tk1 (S : Int → Int) (o : Int) : Int → Int := mm_upd S (74 + 6 * o + 3) (S (74 + 6 * o + 3) - 1)
def tkL (S : Int → Int) (o : Int) : Int := if S (74 + 6 * o + 3) - 1 = 0 then nl (tk1 S o) o else -1
def tkS (S : Int → Int) (o : Int) : Int → Int := if tkL S o = -1 then tk1 S o else mm_upd (tk1 S o) (74 + 6 * o + 2) (mm_ior (S (74 + 6 * o + 2)) (mm_ishl 1 (tkL S o)))
theorem tk1_wf {S : Int → Int} (hw : WF S) {o : Int} (o0 : 0 ≤ o) (o1 : o < S 3) (hc : 0 < S (74 + 6 * o + 3)) : WF (tk1 S o) := by
  have wo := wf_p hw o0 o1
  exact wf_pup hw (k := 3) (p := o) (by omega) (by omega) o0 o1 rfl (by omega)
theorem tkL_r {S : Int → Int} (hw : WF S) {o : Int} (o0 : 0 ≤ o) (o1 : o < S 3) (hc : 0 < S (74 + 6 * o + 3)) : tkL S o = -1 ∨ 0 ≤ tkL S o ∧ tkL S o < 7 := by
  have w1 := tk1_wf hw o0 o1 hc
  have w := wf0 w1
  unfold tkL
  split
  · have := nl_r w1 o
    omega
  · exact Or.inl rfl
theorem tkS_wf {S : Int → Int} (hw : WF S) {o : Int} (o0 : 0 ≤ o) (o1 : o < S 3) (hc : 0 < S (74 + 6 * o + 3)) : WF (tkS S o) := by
  have w1 := tk1_wf hw o0 o1 hc
  have wo := wf_p hw o0 o1
  have r := tkL_r hw o0 o1 hc
  unfold tkS
  split
  · exact w1
  · have := or7 wo.2.2.2.2.1 wo.2.2.2.2.2.1 (l := tkL S o) (by omega) (by omega)
    exact wf_pup w1 (k := 2) (p := o) (by omega) (by omega) o0 (by unfold tk1; rw [up_ne (by omega)]; exact o1) rfl (by omega)
theorem tkS_kp (S : Int → Int) {o : Int} (o0 : 0 ≤ o) (o1 : o < 5) : Kp S (tkS S o) := by
  unfold tkS tk1
  split
  · exact Kp_up (Kp_refl _) (by omega) (by omega) _
  · exact Kp_up (Kp_up (Kp_refl _) (by omega) (by omega) _) (by omega) (by omega) _
theorem tkS_c (S : Int → Int) (o : Int) : tkS S o (74 + 6 * o + 3) = S (74 + 6 * o + 3) - 1 := by
  unfold tkS tk1
  split
  · exact up_eq rfl
  · rw [up_ne (by omega)]; exact up_eq rfl
theorem c_takeThorn {s : mS} {S N : Int → Int} (h : CS s 7 S N) (hw : WF S) (Z : mX) (o : Int) (o0 : 0 ≤ o) (o1 : o < S 3) (hc : 0 < S (74 + 6 * o + 3)) :
    ∃ s', (∀ f : Int → mW → mO, mm_kI (mm_run (zP Z) 70 [.inr (.inr (some 7)), .inl o] (mk s)) f = f (tkL S o) (mk s')) ∧ CS s' 7 (tkS S o) N ∧ Ag scl sclF s s' := by
  have w := wf0 hw
  have wo := wf_p hw o0 o1
  have w1 := tk1_wf hw o0 o1 hc
  have c1 : CS (uA s 16 o (S (74 + 6 * o + 3) - 1)) 7 (tk1 S o) N := cs_pup h hw (k := 3) rfl (by omega) o0 o1 (by omega) _
  have e3 : tk1 S o 3 = S 3 := up_ne (by omega)
  have e2 : tk1 S o (74 + 6 * o + 2) = S (74 + 6 * o + 2) := up_ne (by omega)
  have o1' : o < tk1 S o 3 := by omega
  have r := tkL_r hw o0 o1 hc
  have a1 : Ag scl sclF s (uA s 16 o (S (74 + 6 * o + 3) - 1)) := Ag_uA (Ag_refl _ _ _) (by unfold scl; omega) _ _
  by_cases hl : tkL S o = -1
  · refine ⟨uA s 16 o (S (74 + 6 * o + 3) - 1), fun f => ?_, ?_, a1⟩
    · rw [B_X5_takeThorn]
      rw [hl]
      unfold tkL at hl
      by_cases hz : S (74 + 6 * o + 3) - 1 = 0
      · rw [if_pos hz] at hl
        simp (disch := first | assumption | omega) only [↓sm, ↓reduceIte, ↓if_pos, ↓if_neg, kI, kJ, kR, kV, w32_eq, w64_eq, reduceCtorEq, Int.reduceAdd, Int.reduceMul, Int.reduceSub, o_c7, ↓o_g7_4, ↓o_g7_5, ↓o_g7_7, ↓o_g7_8, ↓o_g7_9, ↓o_g7_11, ↓o_g7_12, ↓o_g7_13, ↓o_g7_14, ↓o_g7_15, ↓o_g7_16, ↓o_g7_17, ↓q_wide h, ↓q_high h, ↓q_odds h, ↓q_year h, ↓q_less h, ↓q_pups h, ↓q_thorns h Z, ↓q_berries h Z, ↓q_hours h hw Z, ↓q_needs h hw Z, ↓q_at h hw Z, ↓q_want h hw Z, ↓q_knows h hw Z, ↓q_caught h hw Z, ↓q_marks h hw Z, ↓q_torn h hw Z, ↓p_8, ↓e_8, ↓p_9, ↓e_9, ↓p_10, ↓e_10, ↓p_11, ↓e_11, ↓p_13, ↓e_13, ↓p_14, ↓e_14, ↓p_15, ↓e_15, ↓p_16, ↓e_16, ↓p_17, ↓e_17, ↓p_18, ↓e_18, ↓c_nextLesson c1 w1 Z, hz, hl, B_X5_takeThorn_19]
        rw [hz] at c1
        simp (disch := first | assumption | omega) only [↓sm, ↓reduceIte, ↓if_pos, ↓if_neg, kI, kJ, kR, kV, w32_eq, w64_eq, reduceCtorEq, Int.reduceAdd, Int.reduceMul, Int.reduceSub, o_c7, ↓o_g7_4, ↓o_g7_5, ↓o_g7_7, ↓o_g7_8, ↓o_g7_9, ↓o_g7_11, ↓o_g7_12, ↓o_g7_13, ↓o_g7_14, ↓o_g7_15, ↓o_g7_16, ↓o_g7_17, ↓q_wide h, ↓q_high h, ↓q_odds h, ↓q_year h, ↓q_less h, ↓q_pups h, ↓q_thorns h Z, ↓q_berries h Z, ↓q_hours h hw Z, ↓q_needs h hw Z, ↓q_at h hw Z, ↓q_want h hw Z, ↓q_knows h hw Z, ↓q_caught h hw Z, ↓q_marks h hw Z, ↓q_torn h hw Z, ↓p_8, ↓e_8, ↓p_9, ↓e_9, ↓p_10, ↓e_10, ↓p_11, ↓e_11, ↓p_13, ↓e_13, ↓p_14, ↓e_14, ↓p_15, ↓e_15, ↓p_16, ↓e_16, ↓p_17, ↓e_17, ↓p_18, ↓e_18, ↓c_nextLesson c1 w1 Z, hz, hl, B_X5_takeThorn_19]
      · simp (disch := first | assumption | omega) only [↓sm, ↓reduceIte, ↓if_pos, ↓if_neg, kI, kJ, kR, kV, w32_eq, w64_eq, reduceCtorEq, Int.reduceAdd, Int.reduceMul, Int.reduceSub, o_c7, ↓o_g7_4, ↓o_g7_5, ↓o_g7_7, ↓o_g7_8, ↓o_g7_9, ↓o_g7_11, ↓o_g7_12, ↓o_g7_13, ↓o_g7_14, ↓o_g7_15, ↓o_g7_16, ↓o_g7_17, ↓q_wide h, ↓q_high h, ↓q_odds h, ↓q_year h, ↓q_less h, ↓q_pups h, ↓q_thorns h Z, ↓q_berries h Z, ↓q_hours h hw Z, ↓q_needs h hw Z, ↓q_at h hw Z, ↓q_want h hw Z, ↓q_knows h hw Z, ↓q_caught h hw Z, ↓q_marks h hw Z, ↓q_torn h hw Z, ↓p_8, ↓e_8, ↓p_9, ↓e_9, ↓p_10, ↓e_10, ↓p_11, ↓e_11, ↓p_13, ↓e_13, ↓p_14, ↓e_14, ↓p_15, ↓e_15, ↓p_16, ↓e_16, ↓p_17, ↓e_17, ↓p_18, ↓e_18, hz, B_X5_takeThorn_19]
    · unfold tkS
      rw [if_pos hl]
      exact c1
  · have hz : S (74 + 6 * o + 3) - 1 = 0 := by
      unfold tkL at hl
      by_cases hz : S (74 + 6 * o + 3) - 1 = 0
      · exact hz
      · rw [if_neg hz] at hl; exact absurd rfl hl
    have hl2 : nl (tk1 S o) o = tkL S o := by unfold tkL; rw [if_pos hz]
    refine ⟨uA (uA s 16 o (S (74 + 6 * o + 3) - 1)) 15 o (mm_ior (S (74 + 6 * o + 2)) (mm_ishl 1 (tkL S o))), fun f => ?_, ?_, Ag_uA a1 (by unfold scl; omega) _ _⟩
    · rw [B_X5_takeThorn]
      rw [hz] at c1 ⊢
      have g := q_knows c1 w1 Z o o0 o1'
      rw [e2] at g
      simp (disch := first | assumption | omega) only [↓sm, ↓reduceIte, ↓if_pos, ↓if_neg, kI, kJ, kR, kV, w32_eq, w64_eq, reduceCtorEq, Int.reduceAdd, Int.reduceMul, Int.reduceSub, o_c7, ↓o_g7_4, ↓o_g7_5, ↓o_g7_7, ↓o_g7_8, ↓o_g7_9, ↓o_g7_11, ↓o_g7_12, ↓o_g7_13, ↓o_g7_14, ↓o_g7_15, ↓o_g7_16, ↓o_g7_17, ↓q_wide h, ↓q_high h, ↓q_odds h, ↓q_year h, ↓q_less h, ↓q_pups h, ↓q_thorns h Z, ↓q_berries h Z, ↓q_hours h hw Z, ↓q_needs h hw Z, ↓q_at h hw Z, ↓q_want h hw Z, ↓q_knows h hw Z, ↓q_caught h hw Z, ↓q_marks h hw Z, ↓q_torn h hw Z, ↓p_8, ↓e_8, ↓p_9, ↓e_9, ↓p_10, ↓e_10, ↓p_11, ↓e_11, ↓p_13, ↓e_13, ↓p_14, ↓e_14, ↓p_15, ↓e_15, ↓p_16, ↓e_16, ↓p_17, ↓e_17, ↓p_18, ↓e_18, ↓c_nextLesson c1 w1 Z, hz, hl2, hl, B_X5_takeThorn_19, ↓g, ↓k_bit]
    · unfold tkS
      rw [if_neg hl]
      exact cs_pup c1 w1 (k := 2) rfl (by omega) o0 o1' (by omega) _
def a142 (q : Nat) : Prop := q = 142
theorem a142_ : a142 142 := rfl
def l24 (q k : Nat) : Prop := q = 141 ∧ k = 24
def noF (_q _k : Nat) : Prop := False
theorem r_frees {s : mS} {S : Int → Int} (e : s.2 142 = S) (hw : WF S) (Z : mX) (o : Int) (o0 : 0 ≤ o) (o1 : o < S 3) (hc : 0 < S (74 + 6 * o + 3)) :
    ∃ s', (∀ f : mW → mO, mm_kV (mm_run (zP Z) 294 [.inr (.inr (some 141)), .inl o] (mk s)) f = f (mk s')) ∧ s'.2 142 = tkS S o ∧ Ag a142 l24 s s' ∧ s'.1 141 24 = if tkL S o = -1 then s.1 141 24 else mm_w32 (s.1 141 24 + 1) := by
  have w := wf0 hw
  have wo := wf_p hw o0 o1
  have w1 := tk1_wf hw o0 o1 hc
  have e1 : (uA s 142 (74 + 6 * o + 3) (S (74 + 6 * o + 3) - 1)).2 142 = tk1 S o := by rw [uA_s, e]; rfl
  have e3 : tk1 S o 3 = S 3 := up_ne (by omega)
  have e2 : tk1 S o (74 + 6 * o + 2) = S (74 + 6 * o + 2) := up_ne (by omega)
  have e4 : tk1 S o (74 + 6 * o + 3) = S (74 + 6 * o + 3) - 1 := up_eq rfl
  have o1' : o < tk1 S o 3 := by omega
  have r := tkL_r hw o0 o1 hc
  have a1 : Ag a142 l24 s (uA s 142 (74 + 6 * o + 3) (S (74 + 6 * o + 3) - 1)) := Ag_uA (Ag_refl _ _ _) a142_ _ _
  by_cases hl : tkL S o = -1
  · refine ⟨uA s 142 (74 + 6 * o + 3) (S (74 + 6 * o + 3) - 1), fun f => ?_, ?_, a1, by rw [if_pos hl]; rfl⟩
    · rw [B_X12_frees]
      unfold tkL at hl
      by_cases hz : S (74 + 6 * o + 3) - 1 = 0
      · rw [if_pos hz] at hl
        simp (disch := first | assumption | omega) only [↓sm, ↓reduceIte, ↓if_pos, ↓if_neg, kI, kJ, kR, kV, w32_eq, w64_eq, reduceCtorEq, Int.reduceAdd, Int.reduceMul, Int.reduceSub, o_c141, ↓o_g141_0, ↓o_g141_1, ↓o_g141_5, ↓o_g141_6, ↓o_g141_7, ↓o_g141_8, ↓o_g141_9, ↓o_g141_21, ↓o_g141_25, ↓o_g141_26, ↓o_g141_27, ↓o_g141_28, ↓o_g141_29, ↓o_g141_30, ↓o_g141_31, ↓o_g141_34, ↓o_g141_35, ↓o_g141_36, ↓r_pupilAt e hw Z, ↓r_at e, ↓r_atw e, ↓r_cellsOf e hw Z, ↓r_isCell_t e hw Z, ↓r_isCell_f e hw Z, ↓r_isLesson_t e hw Z, ↓r_isLesson_f e hw Z, ↓r_isPupil_t e hw Z, ↓r_isPupil_f e hw Z, ↓r_pupilOf e hw Z, ↓r_needsOf e hw Z, ↓r_catchBy e hw Z, ↓r_catchOf e hw Z, ↓r_isCaught_t e hw Z, ↓r_isCaught_f e hw Z, ↓r_allCaught e hw Z, ↓r_whoIs0 e hw Z, ↓r_whoIs1 e hw Z, ↓r_sideOf e hw Z, ↓r_isNear e hw Z, ↓r_nextLesson e hw Z, ↓r_canFree e hw Z, ↓r_nearTo e hw Z, ↓r_isIn Z, ↓r_pupilRow Z, ↓r_lessonRow Z, ↓k_bits Z, ↓r_stwv, ↓r_atw e1, ↓r_nextLesson e1 w1 Z, hl, B_X12_frees_25]
      · simp (disch := first | assumption | omega) only [↓sm, ↓reduceIte, ↓if_pos, ↓if_neg, kI, kJ, kR, kV, w32_eq, w64_eq, reduceCtorEq, Int.reduceAdd, Int.reduceMul, Int.reduceSub, o_c141, ↓o_g141_0, ↓o_g141_1, ↓o_g141_5, ↓o_g141_6, ↓o_g141_7, ↓o_g141_8, ↓o_g141_9, ↓o_g141_21, ↓o_g141_25, ↓o_g141_26, ↓o_g141_27, ↓o_g141_28, ↓o_g141_29, ↓o_g141_30, ↓o_g141_31, ↓o_g141_34, ↓o_g141_35, ↓o_g141_36, ↓r_pupilAt e hw Z, ↓r_at e, ↓r_atw e, ↓r_cellsOf e hw Z, ↓r_isCell_t e hw Z, ↓r_isCell_f e hw Z, ↓r_isLesson_t e hw Z, ↓r_isLesson_f e hw Z, ↓r_isPupil_t e hw Z, ↓r_isPupil_f e hw Z, ↓r_pupilOf e hw Z, ↓r_needsOf e hw Z, ↓r_catchBy e hw Z, ↓r_catchOf e hw Z, ↓r_isCaught_t e hw Z, ↓r_isCaught_f e hw Z, ↓r_allCaught e hw Z, ↓r_whoIs0 e hw Z, ↓r_whoIs1 e hw Z, ↓r_sideOf e hw Z, ↓r_isNear e hw Z, ↓r_nextLesson e hw Z, ↓r_canFree e hw Z, ↓r_nearTo e hw Z, ↓r_isIn Z, ↓r_pupilRow Z, ↓r_lessonRow Z, ↓k_bits Z, ↓r_stwv, ↓r_atw e1, B_X12_frees_25]
    · rw [e1]
      unfold tkS
      rw [if_pos hl]
  · have hz : S (74 + 6 * o + 3) - 1 = 0 := by
      unfold tkL at hl
      by_cases hz : S (74 + 6 * o + 3) - 1 = 0
      · exact hz
      · rw [if_neg hz] at hl; exact absurd rfl hl
    have hl2 : nl (tk1 S o) o = tkL S o := by unfold tkL; rw [if_pos hz]
    refine ⟨uF (uA (uA s 142 (74 + 6 * o + 3) (S (74 + 6 * o + 3) - 1)) 142 (74 + 6 * o + 2) (mm_ior (S (74 + 6 * o + 2)) (mm_ishl 1 (tkL S o)))) 141 24 (mm_w32 (s.1 141 24 + 1)), fun f => ?_, ?_, Ag_uF (Ag_uA a1 a142_ _ _) ⟨rfl, rfl⟩ _, ?_⟩
    · rw [B_X12_frees]
      simp (disch := first | assumption | omega) only [↓sm, ↓reduceIte, ↓if_pos, ↓if_neg, kI, kJ, kR, kV, w32_eq, w64_eq, reduceCtorEq, Int.reduceAdd, Int.reduceMul, Int.reduceSub, o_c141, ↓o_g141_0, ↓o_g141_1, ↓o_g141_5, ↓o_g141_6, ↓o_g141_7, ↓o_g141_8, ↓o_g141_9, ↓o_g141_21, ↓o_g141_25, ↓o_g141_26, ↓o_g141_27, ↓o_g141_28, ↓o_g141_29, ↓o_g141_30, ↓o_g141_31, ↓o_g141_34, ↓o_g141_35, ↓o_g141_36, ↓r_pupilAt e hw Z, ↓r_at e, ↓r_atw e, ↓r_cellsOf e hw Z, ↓r_isCell_t e hw Z, ↓r_isCell_f e hw Z, ↓r_isLesson_t e hw Z, ↓r_isLesson_f e hw Z, ↓r_isPupil_t e hw Z, ↓r_isPupil_f e hw Z, ↓r_pupilOf e hw Z, ↓r_needsOf e hw Z, ↓r_catchBy e hw Z, ↓r_catchOf e hw Z, ↓r_isCaught_t e hw Z, ↓r_isCaught_f e hw Z, ↓r_allCaught e hw Z, ↓r_whoIs0 e hw Z, ↓r_whoIs1 e hw Z, ↓r_sideOf e hw Z, ↓r_isNear e hw Z, ↓r_nextLesson e hw Z, ↓r_canFree e hw Z, ↓r_nearTo e hw Z, ↓r_isIn Z, ↓r_pupilRow Z, ↓r_lessonRow Z, ↓k_bits Z, ↓r_stwv, ↓r_atw e1, ↓r_nextLesson e1 w1 Z, hl2]
      simp (disch := first | assumption | omega) only [↓sm, ↓reduceIte, ↓if_pos, ↓if_neg, kI, kJ, kR, kV, w32_eq, w64_eq, reduceCtorEq, Int.reduceAdd, Int.reduceMul, Int.reduceSub, o_c141, ↓o_g141_0, ↓o_g141_1, ↓o_g141_5, ↓o_g141_6, ↓o_g141_7, ↓o_g141_8, ↓o_g141_9, ↓o_g141_21, ↓o_g141_25, ↓o_g141_26, ↓o_g141_27, ↓o_g141_28, ↓o_g141_29, ↓o_g141_30, ↓o_g141_31, ↓o_g141_34, ↓o_g141_35, ↓o_g141_36, ↓r_stw, ↓r_atw e1, r_at e1, e2, ↓a_st142, a_st142, hl, B_X12_frees_25, ↓o_g141_24, ↓o_p141_24, uA_1]
    · rw [uF_2, uA_s, e1]
      unfold tkS
      rw [if_neg hl]
    · rw [if_neg hl]
      simp [uF_1]
theorem op_free (Z : mX) (s : mS) (hI : Inv s) (p o : Int) : OpI Z s 153 295 [.inl p, .inl o] := by
  have h := hI.2.2.1.2
  have hw := hI.2.2.1.1
  have w := wf0 hw
  by_cases hp : 0 ≤ p ∧ p < s.2 142 3 ∧ 0 ≤ o ∧ o < s.2 142 3 ∧ p ≠ o
  · obtain ⟨p0, p1, o0, o1, hn⟩ := hp
    cases hb : helpB (s.2 142) p o
    · refine op_rd hI (-1) 7 (fun f => ?_) (fun t e f => ?_)
      · rw [B_X11_free]
        simp (disch := first | assumption | omega) only [↓sm, ↓reduceIte, ↓if_pos, ↓if_neg, kI, kJ, kR, kV, w32_eq, w64_eq, reduceCtorEq, Int.reduceAdd, Int.reduceMul, Int.reduceSub, o_c3, ↓o_g3_0, ↓o_g3_1, ↓o_g3_2, ↓o_g3_3, ↓o_g3_4, ↓o_g3_5, ↓o_g3_6, ↓o_g3_7, ↓o_g3_8, ↓o_g3_9, ↓o_g3_10, ↓o_g3_11, ↓o_g3_12, ↓o_g3_13, ↓o_g3_14, ↓o_g3_15, ↓o_g3_16, ↓o_g3_17, ↓a_ln4, ↓a_ld4, ↓a_ln61, ↓a_ld61, ↓a_ln62, ↓a_ld62, o_c7, ↓o_g7_4, ↓o_g7_5, ↓o_g7_7, ↓o_g7_8, ↓o_g7_9, ↓o_g7_11, ↓o_g7_12, ↓o_g7_13, ↓o_g7_14, ↓o_g7_15, ↓o_g7_16, ↓o_g7_17, ↓q_wide h, ↓q_high h, ↓q_odds h, ↓q_year h, ↓q_less h, ↓q_pups h, ↓q_thorns h Z, ↓q_berries h Z, ↓q_hours h hw Z, ↓q_needs h hw Z, ↓q_at h hw Z, ↓q_want h hw Z, ↓q_knows h hw Z, ↓q_caught h hw Z, ↓q_marks h hw Z, ↓q_torn h hw Z, ↓c_cells h hw Z, ↓c_hasCell_t h hw Z, ↓c_hasCell_f h hw Z, ↓c_hasLesson_t h hw Z, ↓c_hasLesson_f h hw Z, ↓c_hasPupil_t h hw Z, ↓c_hasPupil_f h hw Z, ↓c_isCellNumber_t h hw Z, ↓c_isCellNumber_f h hw Z, ↓c_beside h hw Z, ↓c_touch h hw Z, ↓c_catchOf h hw Z, ↓c_clearSet h hw Z, ↓c_isCaught_t h hw Z, ↓c_isCaught_f h hw Z, ↓c_caughtSet h hw Z, ↓c_pupilsAt h hw Z, ↓c_pupilsWhoKnow h hw Z, ↓c_areNear h hw Z, ↓c_canHelp h hw Z, ↓c_helperSet h hw Z, ↓c_nextLesson h hw Z, ↓c_isNearSome h hw Z, ↓c_freedSet h hw Z, ↓d_none Z, ↓d_done Z, ↓d_refused Z, ↓d_granted Z, ↓c_areTwo_t h hw Z, b2i_0, hb]
      · rw [B_X12_free]
        simp (disch := first | assumption | omega) only [↓sm, ↓reduceIte, ↓if_pos, ↓if_neg, kI, kJ, kR, kV, w32_eq, w64_eq, reduceCtorEq, Int.reduceAdd, Int.reduceMul, Int.reduceSub, o_c141, ↓o_g141_0, ↓o_g141_1, ↓o_g141_5, ↓o_g141_6, ↓o_g141_7, ↓o_g141_8, ↓o_g141_9, ↓o_g141_21, ↓o_g141_25, ↓o_g141_26, ↓o_g141_27, ↓o_g141_28, ↓o_g141_29, ↓o_g141_30, ↓o_g141_31, ↓o_g141_34, ↓o_g141_35, ↓o_g141_36, ↓r_pupilAt e hw Z, ↓r_at e, ↓r_atw e, ↓r_cellsOf e hw Z, ↓r_isCell_t e hw Z, ↓r_isCell_f e hw Z, ↓r_isLesson_t e hw Z, ↓r_isLesson_f e hw Z, ↓r_isPupil_t e hw Z, ↓r_isPupil_f e hw Z, ↓r_pupilOf e hw Z, ↓r_needsOf e hw Z, ↓r_catchBy e hw Z, ↓r_catchOf e hw Z, ↓r_isCaught_t e hw Z, ↓r_isCaught_f e hw Z, ↓r_allCaught e hw Z, ↓r_whoIs0 e hw Z, ↓r_whoIs1 e hw Z, ↓r_sideOf e hw Z, ↓r_isNear e hw Z, ↓r_nextLesson e hw Z, ↓r_canFree e hw Z, ↓r_nearTo e hw Z, ↓r_isIn Z, ↓r_pupilRow Z, ↓r_lessonRow Z, ↓k_bits Z, ↓d_refuse Z, ↓d_gives Z, ↓d_is0 Z, ↓d_is1 Z, ↓d_isFrom_t Z, ↓d_isFrom_f Z, ↓d_orNone_t Z, ↓d_orNone_f Z, b2i_0, hb]
    · have hc : 0 < s.2 142 (74 + 6 * o + 3) := by
        unfold helpB at hb
        simp only [Bool.and_eq_true, decide_eq_true_eq] at hb
        exact hb.2.2.1
      obtain ⟨s', g, cs, ag⟩ := c_takeThorn h hw Z o o0 o1 hc
      have wS := tkS_wf hw o0 o1 hc
      have kS := tkS_kp (s.2 142) o0 (by omega)
      have e3 : tkS (s.2 142) o 3 = s.2 142 3 := by
        unfold tkS tk1
        split
        · exact up_ne (by omega)
        · rw [up_ne (by omega)]; exact up_ne (by omega)
      have gc := q_caught cs wS Z o o0 (by omega)
      rw [tkS_c] at gc
      refine op_mut hI (s.2 142 (74 + 6 * o + 3) - 1) 0 (fun f => ?_) cs ag (fun t e1 e2 => ?_) wS kS (fun _ _ _ => rfl)
      · rw [B_X11_free]
        simp (disch := first | assumption | omega) only [↓sm, ↓reduceIte, ↓if_pos, ↓if_neg, kI, kJ, kR, kV, w32_eq, w64_eq, reduceCtorEq, Int.reduceAdd, Int.reduceMul, Int.reduceSub, o_c3, ↓o_g3_0, ↓o_g3_1, ↓o_g3_2, ↓o_g3_3, ↓o_g3_4, ↓o_g3_5, ↓o_g3_6, ↓o_g3_7, ↓o_g3_8, ↓o_g3_9, ↓o_g3_10, ↓o_g3_11, ↓o_g3_12, ↓o_g3_13, ↓o_g3_14, ↓o_g3_15, ↓o_g3_16, ↓o_g3_17, ↓a_ln4, ↓a_ld4, ↓a_ln61, ↓a_ld61, ↓a_ln62, ↓a_ld62, o_c7, ↓o_g7_4, ↓o_g7_5, ↓o_g7_7, ↓o_g7_8, ↓o_g7_9, ↓o_g7_11, ↓o_g7_12, ↓o_g7_13, ↓o_g7_14, ↓o_g7_15, ↓o_g7_16, ↓o_g7_17, ↓q_wide h, ↓q_high h, ↓q_odds h, ↓q_year h, ↓q_less h, ↓q_pups h, ↓q_thorns h Z, ↓q_berries h Z, ↓q_hours h hw Z, ↓q_needs h hw Z, ↓q_at h hw Z, ↓q_want h hw Z, ↓q_knows h hw Z, ↓q_caught h hw Z, ↓q_marks h hw Z, ↓q_torn h hw Z, ↓c_cells h hw Z, ↓c_hasCell_t h hw Z, ↓c_hasCell_f h hw Z, ↓c_hasLesson_t h hw Z, ↓c_hasLesson_f h hw Z, ↓c_hasPupil_t h hw Z, ↓c_hasPupil_f h hw Z, ↓c_isCellNumber_t h hw Z, ↓c_isCellNumber_f h hw Z, ↓c_beside h hw Z, ↓c_touch h hw Z, ↓c_catchOf h hw Z, ↓c_clearSet h hw Z, ↓c_isCaught_t h hw Z, ↓c_isCaught_f h hw Z, ↓c_caughtSet h hw Z, ↓c_pupilsAt h hw Z, ↓c_pupilsWhoKnow h hw Z, ↓c_areNear h hw Z, ↓c_canHelp h hw Z, ↓c_helperSet h hw Z, ↓c_nextLesson h hw Z, ↓c_isNearSome h hw Z, ↓c_freedSet h hw Z, ↓d_none Z, ↓d_done Z, ↓d_refused Z, ↓d_granted Z, ↓c_areTwo_t h hw Z, b2i_0, hb, ↓g, ↓gc]
      · obtain ⟨t', r1, r2, r3, r4⟩ := r_frees e1 hw Z o o0 o1 hc
        have e := e1
        have gp := r_pupil0 r2 Z o 3 o0 (by omega) (by omega) (by omega)
        rw [tkS_c] at gp
        refine ⟨t', fun f => ?_, r2, (r3.1 143 (by unfold a142; omega)).trans e2, Ag_mono r3 (fun q hq => Or.inr (Or.inl hq)) (fun q k hq => by unfold l24 at hq; unfold srF; omega)⟩
        rw [B_X12_free]
        simp (disch := first | assumption | omega) only [↓sm, ↓reduceIte, ↓if_pos, ↓if_neg, kI, kJ, kR, kV, w32_eq, w64_eq, reduceCtorEq, Int.reduceAdd, Int.reduceMul, Int.reduceSub, o_c141, ↓o_g141_0, ↓o_g141_1, ↓o_g141_5, ↓o_g141_6, ↓o_g141_7, ↓o_g141_8, ↓o_g141_9, ↓o_g141_21, ↓o_g141_25, ↓o_g141_26, ↓o_g141_27, ↓o_g141_28, ↓o_g141_29, ↓o_g141_30, ↓o_g141_31, ↓o_g141_34, ↓o_g141_35, ↓o_g141_36, ↓r_pupilAt e hw Z, ↓r_at e, ↓r_atw e, ↓r_cellsOf e hw Z, ↓r_isCell_t e hw Z, ↓r_isCell_f e hw Z, ↓r_isLesson_t e hw Z, ↓r_isLesson_f e hw Z, ↓r_isPupil_t e hw Z, ↓r_isPupil_f e hw Z, ↓r_pupilOf e hw Z, ↓r_needsOf e hw Z, ↓r_catchBy e hw Z, ↓r_catchOf e hw Z, ↓r_isCaught_t e hw Z, ↓r_isCaught_f e hw Z, ↓r_allCaught e hw Z, ↓r_whoIs0 e hw Z, ↓r_whoIs1 e hw Z, ↓r_sideOf e hw Z, ↓r_isNear e hw Z, ↓r_nextLesson e hw Z, ↓r_canFree e hw Z, ↓r_nearTo e hw Z, ↓r_isIn Z, ↓r_pupilRow Z, ↓r_lessonRow Z, ↓k_bits Z, ↓d_refuse Z, ↓d_gives Z, ↓d_is0 Z, ↓d_is1 Z, ↓d_isFrom_t Z, ↓d_isFrom_f Z, ↓d_orNone_t Z, ↓d_orNone_f Z, b2i_0, hb, ↓r1, ↓gp]
  · refine op_rd hI (-1) 1 (fun f => ?_) (fun t e f => ?_)
    · rw [B_X11_free]
      simp (disch := first | assumption | omega) only [↓sm, ↓reduceIte, ↓if_pos, ↓if_neg, kI, kJ, kR, kV, w32_eq, w64_eq, reduceCtorEq, Int.reduceAdd, Int.reduceMul, Int.reduceSub, o_c3, ↓o_g3_0, ↓o_g3_1, ↓o_g3_2, ↓o_g3_3, ↓o_g3_4, ↓o_g3_5, ↓o_g3_6, ↓o_g3_7, ↓o_g3_8, ↓o_g3_9, ↓o_g3_10, ↓o_g3_11, ↓o_g3_12, ↓o_g3_13, ↓o_g3_14, ↓o_g3_15, ↓o_g3_16, ↓o_g3_17, ↓a_ln4, ↓a_ld4, ↓a_ln61, ↓a_ld61, ↓a_ln62, ↓a_ld62, o_c7, ↓o_g7_4, ↓o_g7_5, ↓o_g7_7, ↓o_g7_8, ↓o_g7_9, ↓o_g7_11, ↓o_g7_12, ↓o_g7_13, ↓o_g7_14, ↓o_g7_15, ↓o_g7_16, ↓o_g7_17, ↓q_wide h, ↓q_high h, ↓q_odds h, ↓q_year h, ↓q_less h, ↓q_pups h, ↓q_thorns h Z, ↓q_berries h Z, ↓q_hours h hw Z, ↓q_needs h hw Z, ↓q_at h hw Z, ↓q_want h hw Z, ↓q_knows h hw Z, ↓q_caught h hw Z, ↓q_marks h hw Z, ↓q_torn h hw Z, ↓c_cells h hw Z, ↓c_hasCell_t h hw Z, ↓c_hasCell_f h hw Z, ↓c_hasLesson_t h hw Z, ↓c_hasLesson_f h hw Z, ↓c_hasPupil_t h hw Z, ↓c_hasPupil_f h hw Z, ↓c_isCellNumber_t h hw Z, ↓c_isCellNumber_f h hw Z, ↓c_beside h hw Z, ↓c_touch h hw Z, ↓c_catchOf h hw Z, ↓c_clearSet h hw Z, ↓c_isCaught_t h hw Z, ↓c_isCaught_f h hw Z, ↓c_caughtSet h hw Z, ↓c_pupilsAt h hw Z, ↓c_pupilsWhoKnow h hw Z, ↓c_areNear h hw Z, ↓c_canHelp h hw Z, ↓c_helperSet h hw Z, ↓c_nextLesson h hw Z, ↓c_isNearSome h hw Z, ↓c_freedSet h hw Z, ↓d_none Z, ↓d_done Z, ↓d_refused Z, ↓d_granted Z, ↓c_areTwo_f h hw Z]
    · rw [B_X12_free]
      by_cases h1 : 0 ≤ p ∧ p < s.2 142 3
      · by_cases h2 : 0 ≤ o ∧ o < s.2 142 3
        · have h3 : p = o := by omega
          simp (disch := first | assumption | omega) only [↓sm, ↓reduceIte, ↓if_pos, ↓if_neg, kI, kJ, kR, kV, w32_eq, w64_eq, reduceCtorEq, Int.reduceAdd, Int.reduceMul, Int.reduceSub, o_c141, ↓o_g141_0, ↓o_g141_1, ↓o_g141_5, ↓o_g141_6, ↓o_g141_7, ↓o_g141_8, ↓o_g141_9, ↓o_g141_21, ↓o_g141_25, ↓o_g141_26, ↓o_g141_27, ↓o_g141_28, ↓o_g141_29, ↓o_g141_30, ↓o_g141_31, ↓o_g141_34, ↓o_g141_35, ↓o_g141_36, ↓r_pupilAt e hw Z, ↓r_at e, ↓r_atw e, ↓r_cellsOf e hw Z, ↓r_isCell_t e hw Z, ↓r_isCell_f e hw Z, ↓r_isLesson_t e hw Z, ↓r_isLesson_f e hw Z, ↓r_isPupil_t e hw Z, ↓r_isPupil_f e hw Z, ↓r_pupilOf e hw Z, ↓r_needsOf e hw Z, ↓r_catchBy e hw Z, ↓r_catchOf e hw Z, ↓r_isCaught_t e hw Z, ↓r_isCaught_f e hw Z, ↓r_allCaught e hw Z, ↓r_whoIs0 e hw Z, ↓r_whoIs1 e hw Z, ↓r_sideOf e hw Z, ↓r_isNear e hw Z, ↓r_nextLesson e hw Z, ↓r_canFree e hw Z, ↓r_nearTo e hw Z, ↓r_isIn Z, ↓r_pupilRow Z, ↓r_lessonRow Z, ↓k_bits Z, ↓d_refuse Z, ↓d_gives Z, ↓d_is0 Z, ↓d_is1 Z, ↓d_isFrom_t Z, ↓d_isFrom_f Z, ↓d_orNone_t Z, ↓d_orNone_f Z]
        · simp (disch := first | assumption | omega) only [↓sm, ↓reduceIte, ↓if_pos, ↓if_neg, kI, kJ, kR, kV, w32_eq, w64_eq, reduceCtorEq, Int.reduceAdd, Int.reduceMul, Int.reduceSub, o_c141, ↓o_g141_0, ↓o_g141_1, ↓o_g141_5, ↓o_g141_6, ↓o_g141_7, ↓o_g141_8, ↓o_g141_9, ↓o_g141_21, ↓o_g141_25, ↓o_g141_26, ↓o_g141_27, ↓o_g141_28, ↓o_g141_29, ↓o_g141_30, ↓o_g141_31, ↓o_g141_34, ↓o_g141_35, ↓o_g141_36, ↓r_pupilAt e hw Z, ↓r_at e, ↓r_atw e, ↓r_cellsOf e hw Z, ↓r_isCell_t e hw Z, ↓r_isCell_f e hw Z, ↓r_isLesson_t e hw Z, ↓r_isLesson_f e hw Z, ↓r_isPupil_t e hw Z, ↓r_isPupil_f e hw Z, ↓r_pupilOf e hw Z, ↓r_needsOf e hw Z, ↓r_catchBy e hw Z, ↓r_catchOf e hw Z, ↓r_isCaught_t e hw Z, ↓r_isCaught_f e hw Z, ↓r_allCaught e hw Z, ↓r_whoIs0 e hw Z, ↓r_whoIs1 e hw Z, ↓r_sideOf e hw Z, ↓r_isNear e hw Z, ↓r_nextLesson e hw Z, ↓r_canFree e hw Z, ↓r_nearTo e hw Z, ↓r_isIn Z, ↓r_pupilRow Z, ↓r_lessonRow Z, ↓k_bits Z, ↓d_refuse Z, ↓d_gives Z, ↓d_is0 Z, ↓d_is1 Z, ↓d_isFrom_t Z, ↓d_isFrom_f Z, ↓d_orNone_t Z, ↓d_orNone_f Z]
      · simp (disch := first | assumption | omega) only [↓sm, ↓reduceIte, ↓if_pos, ↓if_neg, kI, kJ, kR, kV, w32_eq, w64_eq, reduceCtorEq, Int.reduceAdd, Int.reduceMul, Int.reduceSub, o_c141, ↓o_g141_0, ↓o_g141_1, ↓o_g141_5, ↓o_g141_6, ↓o_g141_7, ↓o_g141_8, ↓o_g141_9, ↓o_g141_21, ↓o_g141_25, ↓o_g141_26, ↓o_g141_27, ↓o_g141_28, ↓o_g141_29, ↓o_g141_30, ↓o_g141_31, ↓o_g141_34, ↓o_g141_35, ↓o_g141_36, ↓r_pupilAt e hw Z, ↓r_at e, ↓r_atw e, ↓r_cellsOf e hw Z, ↓r_isCell_t e hw Z, ↓r_isCell_f e hw Z, ↓r_isLesson_t e hw Z, ↓r_isLesson_f e hw Z, ↓r_isPupil_t e hw Z, ↓r_isPupil_f e hw Z, ↓r_pupilOf e hw Z, ↓r_needsOf e hw Z, ↓r_catchBy e hw Z, ↓r_catchOf e hw Z, ↓r_isCaught_t e hw Z, ↓r_isCaught_f e hw Z, ↓r_allCaught e hw Z, ↓r_whoIs0 e hw Z, ↓r_whoIs1 e hw Z, ↓r_sideOf e hw Z, ↓r_isNear e hw Z, ↓r_nextLesson e hw Z, ↓r_canFree e hw Z, ↓r_nearTo e hw Z, ↓r_isIn Z, ↓r_pupilRow Z, ↓r_lessonRow Z, ↓k_bits Z, ↓d_refuse Z, ↓d_gives Z, ↓d_is0 Z, ↓d_is1 Z, ↓d_isFrom_t Z, ↓d_isFrom_f Z, ↓d_orNone_t Z, ↓d_orNone_f Z]
