/-! sets of pupils, who is near, what is learnt next (the class) -/
theorem lp_caughtSet {s : mS} {S N : Int → Int} (h : CS s 7 S N) (hw : WF S) (Z : mX) : ∀ i : Int, i ≤ S 3 → 0 ≤ i → mm_at (zP Z) 65 4 [some (.inr (.inr (some 7))), some (.inl ((bz (fun p => decide (0 < S (74 + 6 * p + 3))) i))), some (.inl i)] [] (mk s) = some (some (.inl (bz (fun p => decide (0 < S (74 + 6 * p + 3))) (S 3))), mk s) := by
  have w := wf0 hw
  refine up ?_ ?_
  · intro h0
    rw [B_X5_caughtSet_4]
    simp (disch := first | assumption | omega) only [↓sm, ↓reduceIte, ↓if_pos, ↓if_neg, kI, kJ, kR, kV, w32_eq, w64_eq, reduceCtorEq, Int.reduceAdd, Int.reduceMul, Int.reduceSub, o_c7, ↓o_g7_4, ↓o_g7_5, ↓o_g7_7, ↓o_g7_8, ↓o_g7_9, ↓o_g7_11, ↓o_g7_12, ↓o_g7_13, ↓o_g7_14, ↓o_g7_15, ↓o_g7_16, ↓o_g7_17, ↓q_wide h, ↓q_high h, ↓q_odds h, ↓q_year h, ↓q_less h, ↓q_pups h, ↓q_thorns h Z, ↓q_berries h Z, ↓q_hours h hw Z, ↓q_needs h hw Z, ↓q_at h hw Z, ↓q_want h hw Z, ↓q_knows h hw Z, ↓q_caught h hw Z, ↓q_marks h hw Z, ↓q_torn h hw Z]
  · intro i hi ih h0
    rw [B_X5_caughtSet_4]
    by_cases hz : 0 < S (74 + 6 * i + 3)
    · have e := bz_or1 (fun p => decide (0 < S (74 + 6 * p + 3))) h0 (by omega) (by simpa using hz)
      simp (disch := first | assumption | omega) only [↓sm, ↓reduceIte, ↓if_pos, ↓if_neg, kI, kJ, kR, kV, w32_eq, w64_eq, reduceCtorEq, Int.reduceAdd, Int.reduceMul, Int.reduceSub, o_c7, ↓o_g7_4, ↓o_g7_5, ↓o_g7_7, ↓o_g7_8, ↓o_g7_9, ↓o_g7_11, ↓o_g7_12, ↓o_g7_13, ↓o_g7_14, ↓o_g7_15, ↓o_g7_16, ↓o_g7_17, ↓q_wide h, ↓q_high h, ↓q_odds h, ↓q_year h, ↓q_less h, ↓q_pups h, ↓q_thorns h Z, ↓q_berries h Z, ↓q_hours h hw Z, ↓q_needs h hw Z, ↓q_at h hw Z, ↓q_want h hw Z, ↓q_knows h hw Z, ↓q_caught h hw Z, ↓q_marks h hw Z, ↓q_torn h hw Z, ↓c_isCaught_t h hw Z, ↓k_bit, e]
      exact ih (by omega)
    · have e := bz_or0 (fun p => decide (0 < S (74 + 6 * p + 3))) h0 (by simpa using hz)
      simp (disch := first | assumption | omega) only [↓sm, ↓reduceIte, ↓if_pos, ↓if_neg, kI, kJ, kR, kV, w32_eq, w64_eq, reduceCtorEq, Int.reduceAdd, Int.reduceMul, Int.reduceSub, o_c7, ↓o_g7_4, ↓o_g7_5, ↓o_g7_7, ↓o_g7_8, ↓o_g7_9, ↓o_g7_11, ↓o_g7_12, ↓o_g7_13, ↓o_g7_14, ↓o_g7_15, ↓o_g7_16, ↓o_g7_17, ↓q_wide h, ↓q_high h, ↓q_odds h, ↓q_year h, ↓q_less h, ↓q_pups h, ↓q_thorns h Z, ↓q_berries h Z, ↓q_hours h hw Z, ↓q_needs h hw Z, ↓q_at h hw Z, ↓q_want h hw Z, ↓q_knows h hw Z, ↓q_caught h hw Z, ↓q_marks h hw Z, ↓q_torn h hw Z, ↓c_isCaught_f h hw Z, ← e]
      exact ih (by omega)
def cset (S : Int → Int) : Int := bz (fun p => decide (0 < S (74 + 6 * p + 3))) (S 3)
theorem c_caughtSet {s : mS} {S N : Int → Int} (h : CS s 7 S N) (hw : WF S) (Z : mX) (f : Int → mW → mO) : mm_kI (mm_run (zP Z) 65 [.inr (.inr (some 7))] (mk s)) f = f (cset S) (mk s) := by
  have w := wf0 hw
  have e := lp_caughtSet h hw Z 0 (by omega) (by omega)
  rw [bz_0] at e
  rw [B_X5_caughtSet, e, kI]
  rfl
def atset (S : Int → Int) (c : Int) : Int := bz (fun p => decide (S (74 + 6 * p) = c)) (S 3)
theorem lp_pupilsAt {s : mS} {S N : Int → Int} (h : CS s 7 S N) (hw : WF S) (Z : mX) (c : Int) : ∀ i : Int, i ≤ S 3 → 0 ≤ i → mm_at (zP Z) 60 4 [some (.inr (.inr (some 7))), some (.inl c), some (.inl ((bz (fun p => decide (S (74 + 6 * p) = c)) i))), some (.inl i)] [] (mk s) = some (some (.inl (atset S c)), mk s) := by
  have w := wf0 hw
  refine up ?_ ?_
  · intro h0
    rw [B_X5_pupilsAt_4]
    simp (disch := first | assumption | omega) only [↓sm, ↓reduceIte, ↓if_pos, ↓if_neg, kI, kJ, kR, kV, w32_eq, w64_eq, reduceCtorEq, Int.reduceAdd, Int.reduceMul, Int.reduceSub, o_c7, ↓o_g7_4, ↓o_g7_5, ↓o_g7_7, ↓o_g7_8, ↓o_g7_9, ↓o_g7_11, ↓o_g7_12, ↓o_g7_13, ↓o_g7_14, ↓o_g7_15, ↓o_g7_16, ↓o_g7_17, ↓q_wide h, ↓q_high h, ↓q_odds h, ↓q_year h, ↓q_less h, ↓q_pups h, ↓q_thorns h Z, ↓q_berries h Z, ↓q_hours h hw Z, ↓q_needs h hw Z, ↓q_at h hw Z, ↓q_want h hw Z, ↓q_knows h hw Z, ↓q_caught h hw Z, ↓q_marks h hw Z, ↓q_torn h hw Z]
    rfl
  · intro i hi ih h0
    rw [B_X5_pupilsAt_4]
    by_cases hz : S (74 + 6 * i) = c
    · have e := bz_or1 (fun p => decide (S (74 + 6 * p) = c)) h0 (by omega) (by simpa using hz)
      simp (disch := first | assumption | omega) only [↓sm, ↓reduceIte, ↓if_pos, ↓if_neg, kI, kJ, kR, kV, w32_eq, w64_eq, reduceCtorEq, Int.reduceAdd, Int.reduceMul, Int.reduceSub, o_c7, ↓o_g7_4, ↓o_g7_5, ↓o_g7_7, ↓o_g7_8, ↓o_g7_9, ↓o_g7_11, ↓o_g7_12, ↓o_g7_13, ↓o_g7_14, ↓o_g7_15, ↓o_g7_16, ↓o_g7_17, ↓q_wide h, ↓q_high h, ↓q_odds h, ↓q_year h, ↓q_less h, ↓q_pups h, ↓q_thorns h Z, ↓q_berries h Z, ↓q_hours h hw Z, ↓q_needs h hw Z, ↓q_at h hw Z, ↓q_want h hw Z, ↓q_knows h hw Z, ↓q_caught h hw Z, ↓q_marks h hw Z, ↓q_torn h hw Z, ↓k_bit, e]
      exact ih (by omega)
    · have e := bz_or0 (fun p => decide (S (74 + 6 * p) = c)) h0 (by simpa using hz)
      simp (disch := first | assumption | omega) only [↓sm, ↓reduceIte, ↓if_pos, ↓if_neg, kI, kJ, kR, kV, w32_eq, w64_eq, reduceCtorEq, Int.reduceAdd, Int.reduceMul, Int.reduceSub, o_c7, ↓o_g7_4, ↓o_g7_5, ↓o_g7_7, ↓o_g7_8, ↓o_g7_9, ↓o_g7_11, ↓o_g7_12, ↓o_g7_13, ↓o_g7_14, ↓o_g7_15, ↓o_g7_16, ↓o_g7_17, ↓q_wide h, ↓q_high h, ↓q_odds h, ↓q_year h, ↓q_less h, ↓q_pups h, ↓q_thorns h Z, ↓q_berries h Z, ↓q_hours h hw Z, ↓q_needs h hw Z, ↓q_at h hw Z, ↓q_want h hw Z, ↓q_knows h hw Z, ↓q_caught h hw Z, ↓q_marks h hw Z, ↓q_torn h hw Z, ← e]
      exact ih (by omega)
theorem c_pupilsAt {s : mS} {S N : Int → Int} (h : CS s 7 S N) (hw : WF S) (Z : mX) (c : Int) (f : Int → mW → mO) : mm_kI (mm_run (zP Z) 60 [.inr (.inr (some 7)), .inl c] (mk s)) f = f (atset S c) (mk s) := by
  have w := wf0 hw
  have e := lp_pupilsAt h hw Z c 0 (by omega) (by omega)
  rw [bz_0] at e
  rw [B_X5_pupilsAt, e, kI]
def knset (S : Int → Int) (l : Int) : Int := bz (fun p => tb (S (74 + 6 * p + 2)) l.toNat) (S 3)
theorem lp_whoKnow {s : mS} {S N : Int → Int} (h : CS s 7 S N) (hw : WF S) (Z : mX) (l : Int) (l0 : 0 ≤ l) (l1 : l < 32) : ∀ i : Int, i ≤ S 3 → 0 ≤ i → mm_at (zP Z) 66 4 [some (.inr (.inr (some 7))), some (.inl l), some (.inl ((bz (fun p => tb (S (74 + 6 * p + 2)) l.toNat) i))), some (.inl i)] [] (mk s) = some (some (.inl (knset S l)), mk s) := by
  have w := wf0 hw
  refine up ?_ ?_
  · intro h0
    rw [B_X5_pupilsWhoKnow_4]
    simp (disch := first | assumption | omega) only [↓sm, ↓reduceIte, ↓if_pos, ↓if_neg, kI, kJ, kR, kV, w32_eq, w64_eq, reduceCtorEq, Int.reduceAdd, Int.reduceMul, Int.reduceSub, o_c7, ↓o_g7_4, ↓o_g7_5, ↓o_g7_7, ↓o_g7_8, ↓o_g7_9, ↓o_g7_11, ↓o_g7_12, ↓o_g7_13, ↓o_g7_14, ↓o_g7_15, ↓o_g7_16, ↓o_g7_17, ↓q_wide h, ↓q_high h, ↓q_odds h, ↓q_year h, ↓q_less h, ↓q_pups h, ↓q_thorns h Z, ↓q_berries h Z, ↓q_hours h hw Z, ↓q_needs h hw Z, ↓q_at h hw Z, ↓q_want h hw Z, ↓q_knows h hw Z, ↓q_caught h hw Z, ↓q_marks h hw Z, ↓q_torn h hw Z]
    rfl
  · intro i hi ih h0
    rw [B_X5_pupilsWhoKnow_4]
    by_cases hz : tb (S (74 + 6 * i + 2)) l.toNat = true
    · have e := bz_or1 (fun p => tb (S (74 + 6 * p + 2)) l.toNat) h0 (by omega) hz
      simp (disch := first | assumption | omega) only [↓sm, ↓reduceIte, ↓if_pos, ↓if_neg, kI, kJ, kR, kV, w32_eq, w64_eq, reduceCtorEq, Int.reduceAdd, Int.reduceMul, Int.reduceSub, o_c7, ↓o_g7_4, ↓o_g7_5, ↓o_g7_7, ↓o_g7_8, ↓o_g7_9, ↓o_g7_11, ↓o_g7_12, ↓o_g7_13, ↓o_g7_14, ↓o_g7_15, ↓o_g7_16, ↓o_g7_17, ↓q_wide h, ↓q_high h, ↓q_odds h, ↓q_year h, ↓q_less h, ↓q_pups h, ↓q_thorns h Z, ↓q_berries h Z, ↓q_hours h hw Z, ↓q_needs h hw Z, ↓q_at h hw Z, ↓q_want h hw Z, ↓q_knows h hw Z, ↓q_caught h hw Z, ↓q_marks h hw Z, ↓q_torn h hw Z, ↓k_has, b2i_0, hz, ↓k_bit, e]
      exact ih (by omega)
    · have hz : tb (S (74 + 6 * i + 2)) l.toNat = false := by simpa using hz
      have e := bz_or0 (fun p => tb (S (74 + 6 * p + 2)) l.toNat) h0 hz
      simp (disch := first | assumption | omega) only [↓sm, ↓reduceIte, ↓if_pos, ↓if_neg, kI, kJ, kR, kV, w32_eq, w64_eq, reduceCtorEq, Int.reduceAdd, Int.reduceMul, Int.reduceSub, o_c7, ↓o_g7_4, ↓o_g7_5, ↓o_g7_7, ↓o_g7_8, ↓o_g7_9, ↓o_g7_11, ↓o_g7_12, ↓o_g7_13, ↓o_g7_14, ↓o_g7_15, ↓o_g7_16, ↓o_g7_17, ↓q_wide h, ↓q_high h, ↓q_odds h, ↓q_year h, ↓q_less h, ↓q_pups h, ↓q_thorns h Z, ↓q_berries h Z, ↓q_hours h hw Z, ↓q_needs h hw Z, ↓q_at h hw Z, ↓q_want h hw Z, ↓q_knows h hw Z, ↓q_caught h hw Z, ↓q_marks h hw Z, ↓q_torn h hw Z, ↓k_has, b2i_0, hz, ← e]
      exact ih (by omega)
theorem c_pupilsWhoKnow {s : mS} {S N : Int → Int} (h : CS s 7 S N) (hw : WF S) (Z : mX) (l : Int) (l0 : 0 ≤ l) (l1 : l < 32) (f : Int → mW → mO) : mm_kI (mm_run (zP Z) 66 [.inr (.inr (some 7)), .inl l] (mk s)) f = f (knset S l) (mk s) := by
  have w := wf0 hw
  have e := lp_whoKnow h hw Z l l0 l1 0 (by omega) (by omega)
  rw [bz_0] at e
  rw [B_X5_pupilsWhoKnow, e, kI]
/-! near -/
def absI (x : Int) : Int := if 0 ≤ x then x else 0 - x
theorem near_eq {S : Int → Int} (hw : WF S) {a b : Int} (a0 : 0 ≤ a) (a1 : a < ncl S) (b0 : 0 ≤ b) (b1 : b < ncl S) :
    nearB S a b = decide (absI (a / S 0 - b / S 0) + absI (a % S 0 - b % S 0) ≤ 1) := by
  have w := wf0 hw
  have key : ∀ x : Bool, ∀ P : Prop, ∀ _ : Decidable P, (x = true ↔ P) → x = decide P := by
    intro x P _ h
    cases x
    · simp at h; simp [h]
    · simp at h; simp [h]
  apply key
  unfold nearB sd absI
  simp only [Bool.or_eq_true, decide_eq_true_eq]
  generalize hN : ncl S = n at *
  generalize hW : S 0 = d at *
  have hd : d = 1 ∨ d = 2 ∨ d = 3 ∨ d = 4 ∨ d = 5 := by omega
  rcases hd with rfl | rfl | rfl | rfl | rfl <;> simp only [↓reduceIte, show ¬ ((1 : Int) = 0) by decide, show ¬ ((2 : Int) = 0) by decide, show ¬ ((2 : Int) = 1) by decide, show ¬ ((3 : Int) = 0) by decide, show ¬ ((3 : Int) = 1) by decide, show ¬ ((3 : Int) = 2) by decide] <;> omega
theorem c_areNear {s : mS} {S N : Int → Int} (h : CS s 7 S N) (hw : WF S) (Z : mX) (p o : Int) (p0 : 0 ≤ p) (p1 : p < S 3) (o0 : 0 ≤ o) (o1 : o < S 3) (f : Int → mW → mO) : mm_kI (mm_run (zP Z) 59 [.inr (.inr (some 7)), .inl p, .inl o] (mk s)) f = f (b2i (nearB S (S (74 + 6 * p)) (S (74 + 6 * o)))) (mk s) := by
  have w := wf0 hw
  have n := wf_n hw
  have wp := wf_p hw p0 p1
  have wo := wf_p hw o0 o1
  have e := near_eq hw wp.1 wp.2.1 wo.1 wo.2.1
  have d1 := Int.ediv_nonneg wp.1 (show 0 ≤ S 0 by omega)
  have d2 := Int.ediv_le_self (S 0) wp.1
  have d3 := Int.ediv_nonneg wo.1 (show 0 ≤ S 0 by omega)
  have d4 := Int.ediv_le_self (S 0) wo.1
  have m1 := Int.emod_nonneg (S (74 + 6 * p)) (show S 0 ≠ 0 by omega)
  have m2 := Int.emod_lt_of_pos (S (74 + 6 * p)) (show 0 < S 0 by omega)
  have m3 := Int.emod_nonneg (S (74 + 6 * o)) (show S 0 ≠ 0 by omega)
  have m4 := Int.emod_lt_of_pos (S (74 + 6 * o)) (show 0 < S 0 by omega)
  rw [B_X5_areNear, e]
  by_cases hn : absI (S (74 + 6 * p) / S 0 - S (74 + 6 * o) / S 0) + absI (S (74 + 6 * p) % S 0 - S (74 + 6 * o) % S 0) ≤ 1
  · rw [decide_eq_true hn]
    unfold absI at hn
    have hn' := Int.not_lt.mpr hn
    simp (disch := first | assumption | omega) only [↓sm, ↓reduceIte, ↓if_pos, ↓if_neg, kI, kJ, kR, kV, w32_eq, w64_eq, reduceCtorEq, Int.reduceAdd, Int.reduceMul, Int.reduceSub, o_c7, ↓o_g7_4, ↓o_g7_5, ↓o_g7_7, ↓o_g7_8, ↓o_g7_9, ↓o_g7_11, ↓o_g7_12, ↓o_g7_13, ↓o_g7_14, ↓o_g7_15, ↓o_g7_16, ↓o_g7_17, ↓q_wide h, ↓q_high h, ↓q_odds h, ↓q_year h, ↓q_less h, ↓q_pups h, ↓q_thorns h Z, ↓q_berries h Z, ↓q_hours h hw Z, ↓q_needs h hw Z, ↓q_at h hw Z, ↓q_want h hw Z, ↓q_knows h hw Z, ↓q_caught h hw Z, ↓q_marks h hw Z, ↓q_torn h hw Z, idiv_eq, irem_eq, show b2i true = 1 from rfl]
  · rw [decide_eq_false hn]
    unfold absI at hn
    have hn' := Int.not_le.mp hn
    simp (disch := first | assumption | omega) only [↓sm, ↓reduceIte, ↓if_pos, ↓if_neg, kI, kJ, kR, kV, w32_eq, w64_eq, reduceCtorEq, Int.reduceAdd, Int.reduceMul, Int.reduceSub, o_c7, ↓o_g7_4, ↓o_g7_5, ↓o_g7_7, ↓o_g7_8, ↓o_g7_9, ↓o_g7_11, ↓o_g7_12, ↓o_g7_13, ↓o_g7_14, ↓o_g7_15, ↓o_g7_16, ↓o_g7_17, ↓q_wide h, ↓q_high h, ↓q_odds h, ↓q_year h, ↓q_less h, ↓q_pups h, ↓q_thorns h Z, ↓q_berries h Z, ↓q_hours h hw Z, ↓q_needs h hw Z, ↓q_at h hw Z, ↓q_want h hw Z, ↓q_knows h hw Z, ↓q_caught h hw Z, ↓q_marks h hw Z, ↓q_torn h hw Z, idiv_eq, irem_eq, show b2i false = 0 from rfl]
theorem c_canHelp {s : mS} {S N : Int → Int} (h : CS s 7 S N) (hw : WF S) (Z : mX) (p o : Int) (p0 : 0 ≤ p) (p1 : p < S 3) (o0 : 0 ≤ o) (o1 : o < S 3) (f : Int → mW → mO) : mm_kI (mm_run (zP Z) 69 [.inr (.inr (some 7)), .inl p, .inl o] (mk s)) f = f (b2i (helpB S p o)) (mk s) := by
  rw [B_X5_canHelp]
  unfold helpB
  by_cases h1 : p = o
  · simp (disch := first | assumption | omega) only [↓sm, ↓reduceIte, ↓if_pos, ↓if_neg, kI, kJ, kR, kV, w32_eq, w64_eq, reduceCtorEq, Int.reduceAdd, Int.reduceMul, Int.reduceSub, h1, ne_eq, not_true, decide_false, Bool.false_and]
    rfl
  · by_cases h2 : 0 < S (74 + 6 * p + 3)
    · simp (disch := first | assumption | omega) only [↓sm, ↓reduceIte, ↓if_pos, ↓if_neg, kI, kJ, kR, kV, w32_eq, w64_eq, reduceCtorEq, Int.reduceAdd, Int.reduceMul, Int.reduceSub, o_c7, ↓o_g7_4, ↓o_g7_5, ↓o_g7_7, ↓o_g7_8, ↓o_g7_9, ↓o_g7_11, ↓o_g7_12, ↓o_g7_13, ↓o_g7_14, ↓o_g7_15, ↓o_g7_16, ↓o_g7_17, ↓q_wide h, ↓q_high h, ↓q_odds h, ↓q_year h, ↓q_less h, ↓q_pups h, ↓q_thorns h Z, ↓q_berries h Z, ↓q_hours h hw Z, ↓q_needs h hw Z, ↓q_at h hw Z, ↓q_want h hw Z, ↓q_knows h hw Z, ↓q_caught h hw Z, ↓q_marks h hw Z, ↓q_torn h hw Z, ↓c_isCaught_t h hw Z]
      simp [h1, h2, b2i]
    · by_cases h3 : 0 < S (74 + 6 * o + 3)
      · cases hb : nearB S (S (74 + 6 * p)) (S (74 + 6 * o))
        · simp (disch := first | assumption | omega) only [↓sm, ↓reduceIte, ↓if_pos, ↓if_neg, kI, kJ, kR, kV, w32_eq, w64_eq, reduceCtorEq, Int.reduceAdd, Int.reduceMul, Int.reduceSub, o_c7, ↓o_g7_4, ↓o_g7_5, ↓o_g7_7, ↓o_g7_8, ↓o_g7_9, ↓o_g7_11, ↓o_g7_12, ↓o_g7_13, ↓o_g7_14, ↓o_g7_15, ↓o_g7_16, ↓o_g7_17, ↓q_wide h, ↓q_high h, ↓q_odds h, ↓q_year h, ↓q_less h, ↓q_pups h, ↓q_thorns h Z, ↓q_berries h Z, ↓q_hours h hw Z, ↓q_needs h hw Z, ↓q_at h hw Z, ↓q_want h hw Z, ↓q_knows h hw Z, ↓q_caught h hw Z, ↓q_marks h hw Z, ↓q_torn h hw Z, ↓c_isCaught_t h hw Z, ↓c_isCaught_f h hw Z, ↓c_areNear h hw Z, b2i_0, hb]
          simp [b2i]
        · simp (disch := first | assumption | omega) only [↓sm, ↓reduceIte, ↓if_pos, ↓if_neg, kI, kJ, kR, kV, w32_eq, w64_eq, reduceCtorEq, Int.reduceAdd, Int.reduceMul, Int.reduceSub, o_c7, ↓o_g7_4, ↓o_g7_5, ↓o_g7_7, ↓o_g7_8, ↓o_g7_9, ↓o_g7_11, ↓o_g7_12, ↓o_g7_13, ↓o_g7_14, ↓o_g7_15, ↓o_g7_16, ↓o_g7_17, ↓q_wide h, ↓q_high h, ↓q_odds h, ↓q_year h, ↓q_less h, ↓q_pups h, ↓q_thorns h Z, ↓q_berries h Z, ↓q_hours h hw Z, ↓q_needs h hw Z, ↓q_at h hw Z, ↓q_want h hw Z, ↓q_knows h hw Z, ↓q_caught h hw Z, ↓q_marks h hw Z, ↓q_torn h hw Z, ↓c_isCaught_t h hw Z, ↓c_isCaught_f h hw Z, ↓c_areNear h hw Z, b2i_0, hb]
          simp [h1, h2, h3, b2i]
      · simp (disch := first | assumption | omega) only [↓sm, ↓reduceIte, ↓if_pos, ↓if_neg, kI, kJ, kR, kV, w32_eq, w64_eq, reduceCtorEq, Int.reduceAdd, Int.reduceMul, Int.reduceSub, o_c7, ↓o_g7_4, ↓o_g7_5, ↓o_g7_7, ↓o_g7_8, ↓o_g7_9, ↓o_g7_11, ↓o_g7_12, ↓o_g7_13, ↓o_g7_14, ↓o_g7_15, ↓o_g7_16, ↓o_g7_17, ↓q_wide h, ↓q_high h, ↓q_odds h, ↓q_year h, ↓q_less h, ↓q_pups h, ↓q_thorns h Z, ↓q_berries h Z, ↓q_hours h hw Z, ↓q_needs h hw Z, ↓q_at h hw Z, ↓q_want h hw Z, ↓q_knows h hw Z, ↓q_caught h hw Z, ↓q_marks h hw Z, ↓q_torn h hw Z, ↓c_isCaught_f h hw Z]
        simp [h1, h2, h3, b2i]
def hset (S : Int → Int) (p : Int) : Int := bz (fun i => helpB S i p) (S 3)
theorem lp_helperSet {s : mS} {S N : Int → Int} (h : CS s 7 S N) (hw : WF S) (Z : mX) (p : Int) (p0 : 0 ≤ p) (p1 : p < S 3) : ∀ i : Int, i ≤ S 3 → 0 ≤ i → mm_at (zP Z) 77 4 [some (.inr (.inr (some 7))), some (.inl p), some (.inl ((bz (fun i => helpB S i p) i))), some (.inl i)] [] (mk s) = some (some (.inl (hset S p)), mk s) := by
  have w := wf0 hw
  refine up ?_ ?_
  · intro h0
    rw [B_X5_helperSet_4]
    simp (disch := first | assumption | omega) only [↓sm, ↓reduceIte, ↓if_pos, ↓if_neg, kI, kJ, kR, kV, w32_eq, w64_eq, reduceCtorEq, Int.reduceAdd, Int.reduceMul, Int.reduceSub, o_c7, ↓o_g7_4, ↓o_g7_5, ↓o_g7_7, ↓o_g7_8, ↓o_g7_9, ↓o_g7_11, ↓o_g7_12, ↓o_g7_13, ↓o_g7_14, ↓o_g7_15, ↓o_g7_16, ↓o_g7_17, ↓q_wide h, ↓q_high h, ↓q_odds h, ↓q_year h, ↓q_less h, ↓q_pups h, ↓q_thorns h Z, ↓q_berries h Z, ↓q_hours h hw Z, ↓q_needs h hw Z, ↓q_at h hw Z, ↓q_want h hw Z, ↓q_knows h hw Z, ↓q_caught h hw Z, ↓q_marks h hw Z, ↓q_torn h hw Z]
    rfl
  · intro i hi ih h0
    rw [B_X5_helperSet_4]
    cases hz : helpB S i p
    · have e := bz_or0 (fun i => helpB S i p) h0 hz
      simp (disch := first | assumption | omega) only [↓sm, ↓reduceIte, ↓if_pos, ↓if_neg, kI, kJ, kR, kV, w32_eq, w64_eq, reduceCtorEq, Int.reduceAdd, Int.reduceMul, Int.reduceSub, o_c7, ↓o_g7_4, ↓o_g7_5, ↓o_g7_7, ↓o_g7_8, ↓o_g7_9, ↓o_g7_11, ↓o_g7_12, ↓o_g7_13, ↓o_g7_14, ↓o_g7_15, ↓o_g7_16, ↓o_g7_17, ↓q_wide h, ↓q_high h, ↓q_odds h, ↓q_year h, ↓q_less h, ↓q_pups h, ↓q_thorns h Z, ↓q_berries h Z, ↓q_hours h hw Z, ↓q_needs h hw Z, ↓q_at h hw Z, ↓q_want h hw Z, ↓q_knows h hw Z, ↓q_caught h hw Z, ↓q_marks h hw Z, ↓q_torn h hw Z, ↓c_canHelp h hw Z, b2i_0, hz, ← e]
      exact ih (by omega)
    · have e := bz_or1 (fun i => helpB S i p) h0 (by omega) hz
      simp (disch := first | assumption | omega) only [↓sm, ↓reduceIte, ↓if_pos, ↓if_neg, kI, kJ, kR, kV, w32_eq, w64_eq, reduceCtorEq, Int.reduceAdd, Int.reduceMul, Int.reduceSub, o_c7, ↓o_g7_4, ↓o_g7_5, ↓o_g7_7, ↓o_g7_8, ↓o_g7_9, ↓o_g7_11, ↓o_g7_12, ↓o_g7_13, ↓o_g7_14, ↓o_g7_15, ↓o_g7_16, ↓o_g7_17, ↓q_wide h, ↓q_high h, ↓q_odds h, ↓q_year h, ↓q_less h, ↓q_pups h, ↓q_thorns h Z, ↓q_berries h Z, ↓q_hours h hw Z, ↓q_needs h hw Z, ↓q_at h hw Z, ↓q_want h hw Z, ↓q_knows h hw Z, ↓q_caught h hw Z, ↓q_marks h hw Z, ↓q_torn h hw Z, ↓c_canHelp h hw Z, b2i_0, hz, ↓k_bit, e]
      exact ih (by omega)
theorem c_helperSet {s : mS} {S N : Int → Int} (h : CS s 7 S N) (hw : WF S) (Z : mX) (p : Int) (p0 : 0 ≤ p) (p1 : p < S 3) (f : Int → mW → mO) : mm_kI (mm_run (zP Z) 77 [.inr (.inr (some 7)), .inl p] (mk s)) f = f (hset S p) (mk s) := by
  have w := wf0 hw
  have e := lp_helperSet h hw Z p p0 p1 0 (by omega) (by omega)
  rw [bz_0] at e
  rw [B_X5_helperSet, e, kI]
theorem lp_nextLesson {s : mS} {S N : Int → Int} (h : CS s 7 S N) (hw : WF S) (Z : mX) (K : Int) : ∀ i : Int, i ≤ S 2 → 0 ≤ i → mm_at (zP Z) 71 7 [some (.inr (.inr (some 7))), none, some (.inl K), some (.inl i)] [] (mk s) = some (some (.inl (fst1 (nlP S K) (S 2 - i).toNat i)), mk s) := by
  have w := wf0 hw
  refine up ?_ ?_
  · intro h0
    rw [B_X5_nextLesson_7]
    simp (disch := first | assumption | omega) only [↓sm, ↓reduceIte, ↓if_pos, ↓if_neg, kI, kJ, kR, kV, w32_eq, w64_eq, reduceCtorEq, Int.reduceAdd, Int.reduceMul, Int.reduceSub, o_c7, ↓o_g7_4, ↓o_g7_5, ↓o_g7_7, ↓o_g7_8, ↓o_g7_9, ↓o_g7_11, ↓o_g7_12, ↓o_g7_13, ↓o_g7_14, ↓o_g7_15, ↓o_g7_16, ↓o_g7_17, ↓q_wide h, ↓q_high h, ↓q_odds h, ↓q_year h, ↓q_less h, ↓q_pups h, ↓q_thorns h Z, ↓q_berries h Z, ↓q_hours h hw Z, ↓q_needs h hw Z, ↓q_at h hw Z, ↓q_want h hw Z, ↓q_knows h hw Z, ↓q_caught h hw Z, ↓q_marks h hw Z, ↓q_torn h hw Z]
    rw [show (S 2 - S 2).toNat = 0 by omega]
    rfl
  · intro i hi ih h0
    rw [B_X5_nextLesson_7, show (S 2 - i).toNat = (S 2 - (i + 1)).toNat + 1 by omega]
    unfold fst1
    cases hz : tb K i.toNat
    · by_cases hy : mm_iand (S (60 + 2 * i + 1)) (mm_ixor K (-1)) = 0
      · simp (disch := first | assumption | omega) only [↓sm, ↓reduceIte, ↓if_pos, ↓if_neg, kI, kJ, kR, kV, w32_eq, w64_eq, reduceCtorEq, Int.reduceAdd, Int.reduceMul, Int.reduceSub, o_c7, ↓o_g7_4, ↓o_g7_5, ↓o_g7_7, ↓o_g7_8, ↓o_g7_9, ↓o_g7_11, ↓o_g7_12, ↓o_g7_13, ↓o_g7_14, ↓o_g7_15, ↓o_g7_16, ↓o_g7_17, ↓q_wide h, ↓q_high h, ↓q_odds h, ↓q_year h, ↓q_less h, ↓q_pups h, ↓q_thorns h Z, ↓q_berries h Z, ↓q_hours h hw Z, ↓q_needs h hw Z, ↓q_at h hw Z, ↓q_want h hw Z, ↓q_knows h hw Z, ↓q_caught h hw Z, ↓q_marks h hw Z, ↓q_torn h hw Z, ↓k_has, b2i_0, hz, hy, nlP, Bool.not_false, decide_true, Bool.true_and]
      · simp (disch := first | assumption | omega) only [↓sm, ↓reduceIte, ↓if_pos, ↓if_neg, kI, kJ, kR, kV, w32_eq, w64_eq, reduceCtorEq, Int.reduceAdd, Int.reduceMul, Int.reduceSub, o_c7, ↓o_g7_4, ↓o_g7_5, ↓o_g7_7, ↓o_g7_8, ↓o_g7_9, ↓o_g7_11, ↓o_g7_12, ↓o_g7_13, ↓o_g7_14, ↓o_g7_15, ↓o_g7_16, ↓o_g7_17, ↓q_wide h, ↓q_high h, ↓q_odds h, ↓q_year h, ↓q_less h, ↓q_pups h, ↓q_thorns h Z, ↓q_berries h Z, ↓q_hours h hw Z, ↓q_needs h hw Z, ↓q_at h hw Z, ↓q_want h hw Z, ↓q_knows h hw Z, ↓q_caught h hw Z, ↓q_marks h hw Z, ↓q_torn h hw Z, ↓k_has, b2i_0, hz, hy, nlP, Bool.not_false, decide_false, Bool.and_false, Bool.false_eq_true]
        exact ih (by omega)
    · simp (disch := first | assumption | omega) only [↓sm, ↓reduceIte, ↓if_pos, ↓if_neg, kI, kJ, kR, kV, w32_eq, w64_eq, reduceCtorEq, Int.reduceAdd, Int.reduceMul, Int.reduceSub, o_c7, ↓o_g7_4, ↓o_g7_5, ↓o_g7_7, ↓o_g7_8, ↓o_g7_9, ↓o_g7_11, ↓o_g7_12, ↓o_g7_13, ↓o_g7_14, ↓o_g7_15, ↓o_g7_16, ↓o_g7_17, ↓q_wide h, ↓q_high h, ↓q_odds h, ↓q_year h, ↓q_less h, ↓q_pups h, ↓q_thorns h Z, ↓q_berries h Z, ↓q_hours h hw Z, ↓q_needs h hw Z, ↓q_at h hw Z, ↓q_want h hw Z, ↓q_knows h hw Z, ↓q_caught h hw Z, ↓q_marks h hw Z, ↓q_torn h hw Z, ↓k_has, b2i_0, hz, nlP, Bool.not_true, Bool.false_and, Bool.false_eq_true]
      exact ih (by omega)
theorem c_nextLesson {s : mS} {S N : Int → Int} (h : CS s 7 S N) (hw : WF S) (Z : mX) (p : Int) (p0 : 0 ≤ p) (p1 : p < S 3) (f : Int → mW → mO) : mm_kI (mm_run (zP Z) 71 [.inr (.inr (some 7)), .inl p] (mk s)) f = f (nl S p) (mk s) := by
  have w := wf0 hw
  have e := lp_nextLesson h hw Z (S (74 + 6 * p + 2)) 0 (by omega) (by omega)
  rw [B_X5_nextLesson]
  simp (disch := first | assumption | omega) only [↓sm, ↓reduceIte, ↓if_pos, ↓if_neg, kI, kJ, kR, kV, w32_eq, w64_eq, reduceCtorEq, Int.reduceAdd, Int.reduceMul, Int.reduceSub, o_c7, ↓o_g7_4, ↓o_g7_5, ↓o_g7_7, ↓o_g7_8, ↓o_g7_9, ↓o_g7_11, ↓o_g7_12, ↓o_g7_13, ↓o_g7_14, ↓o_g7_15, ↓o_g7_16, ↓o_g7_17, ↓q_wide h, ↓q_high h, ↓q_odds h, ↓q_year h, ↓q_less h, ↓q_pups h, ↓q_thorns h Z, ↓q_berries h Z, ↓q_hours h hw Z, ↓q_needs h hw Z, ↓q_at h hw Z, ↓q_want h hw Z, ↓q_knows h hw Z, ↓q_caught h hw Z, ↓q_marks h hw Z, ↓q_torn h hw Z, e]
  rw [Int.sub_zero]
  rfl
theorem lp_isNearSome {s : mS} {S N : Int → Int} (h : CS s 7 S N) (hw : WF S) (Z : mX) (p set : Int) (p0 : 0 ≤ p) (p1 : p < S 3) : ∀ i : Int, i ≤ S 3 → 0 ≤ i → mm_at (zP Z) 79 2 [some (.inr (.inr (some 7))), some (.inl p), some (.inl set), some (.inl i)] [] (mk s) = some (some (.inl (b2i (any1 (fun j => tb set j.toNat && nearB S (S (74 + 6 * j)) (S (74 + 6 * p))) (S 3 - i).toNat i))), mk s) := by
  have w := wf0 hw
  refine up ?_ ?_
  · intro h0
    rw [B_X5_isNearSome_2]
    simp (disch := first | assumption | omega) only [↓sm, ↓reduceIte, ↓if_pos, ↓if_neg, kI, kJ, kR, kV, w32_eq, w64_eq, reduceCtorEq, Int.reduceAdd, Int.reduceMul, Int.reduceSub, o_c7, ↓o_g7_4, ↓o_g7_5, ↓o_g7_7, ↓o_g7_8, ↓o_g7_9, ↓o_g7_11, ↓o_g7_12, ↓o_g7_13, ↓o_g7_14, ↓o_g7_15, ↓o_g7_16, ↓o_g7_17, ↓q_wide h, ↓q_high h, ↓q_odds h, ↓q_year h, ↓q_less h, ↓q_pups h, ↓q_thorns h Z, ↓q_berries h Z, ↓q_hours h hw Z, ↓q_needs h hw Z, ↓q_at h hw Z, ↓q_want h hw Z, ↓q_knows h hw Z, ↓q_caught h hw Z, ↓q_marks h hw Z, ↓q_torn h hw Z]
    rw [show (S 3 - S 3).toNat = 0 by omega]
    rfl
  · intro i hi ih h0
    rw [B_X5_isNearSome_2, show (S 3 - i).toNat = (S 3 - (i + 1)).toNat + 1 by omega]
    unfold any1
    cases hz : tb set i.toNat
    · simp (disch := first | assumption | omega) only [↓sm, ↓reduceIte, ↓if_pos, ↓if_neg, kI, kJ, kR, kV, w32_eq, w64_eq, reduceCtorEq, Int.reduceAdd, Int.reduceMul, Int.reduceSub, o_c7, ↓o_g7_4, ↓o_g7_5, ↓o_g7_7, ↓o_g7_8, ↓o_g7_9, ↓o_g7_11, ↓o_g7_12, ↓o_g7_13, ↓o_g7_14, ↓o_g7_15, ↓o_g7_16, ↓o_g7_17, ↓q_wide h, ↓q_high h, ↓q_odds h, ↓q_year h, ↓q_less h, ↓q_pups h, ↓q_thorns h Z, ↓q_berries h Z, ↓q_hours h hw Z, ↓q_needs h hw Z, ↓q_at h hw Z, ↓q_want h hw Z, ↓q_knows h hw Z, ↓q_caught h hw Z, ↓q_marks h hw Z, ↓q_torn h hw Z, ↓k_has, b2i_0, hz, Bool.false_and, Bool.false_or]
      exact ih (by omega)
    · cases hy : nearB S (S (74 + 6 * i)) (S (74 + 6 * p))
      · simp (disch := first | assumption | omega) only [↓sm, ↓reduceIte, ↓if_pos, ↓if_neg, kI, kJ, kR, kV, w32_eq, w64_eq, reduceCtorEq, Int.reduceAdd, Int.reduceMul, Int.reduceSub, o_c7, ↓o_g7_4, ↓o_g7_5, ↓o_g7_7, ↓o_g7_8, ↓o_g7_9, ↓o_g7_11, ↓o_g7_12, ↓o_g7_13, ↓o_g7_14, ↓o_g7_15, ↓o_g7_16, ↓o_g7_17, ↓q_wide h, ↓q_high h, ↓q_odds h, ↓q_year h, ↓q_less h, ↓q_pups h, ↓q_thorns h Z, ↓q_berries h Z, ↓q_hours h hw Z, ↓q_needs h hw Z, ↓q_at h hw Z, ↓q_want h hw Z, ↓q_knows h hw Z, ↓q_caught h hw Z, ↓q_marks h hw Z, ↓q_torn h hw Z, ↓k_has, b2i_0, hz, ↓c_areNear h hw Z, hy, Bool.and_false, Bool.false_or]
        exact ih (by omega)
      · simp (disch := first | assumption | omega) only [↓sm, ↓reduceIte, ↓if_pos, ↓if_neg, kI, kJ, kR, kV, w32_eq, w64_eq, reduceCtorEq, Int.reduceAdd, Int.reduceMul, Int.reduceSub, o_c7, ↓o_g7_4, ↓o_g7_5, ↓o_g7_7, ↓o_g7_8, ↓o_g7_9, ↓o_g7_11, ↓o_g7_12, ↓o_g7_13, ↓o_g7_14, ↓o_g7_15, ↓o_g7_16, ↓o_g7_17, ↓q_wide h, ↓q_high h, ↓q_odds h, ↓q_year h, ↓q_less h, ↓q_pups h, ↓q_thorns h Z, ↓q_berries h Z, ↓q_hours h hw Z, ↓q_needs h hw Z, ↓q_at h hw Z, ↓q_want h hw Z, ↓q_knows h hw Z, ↓q_caught h hw Z, ↓q_marks h hw Z, ↓q_torn h hw Z, ↓k_has, b2i_0, hz, ↓c_areNear h hw Z, hy, Bool.and_self, Bool.true_or]
        rfl
theorem c_isNearSome {s : mS} {S N : Int → Int} (h : CS s 7 S N) (hw : WF S) (Z : mX) (p set : Int) (p0 : 0 ≤ p) (p1 : p < S 3) (f : Int → mW → mO) : mm_kI (mm_run (zP Z) 79 [.inr (.inr (some 7)), .inl p, .inl set] (mk s)) f = f (b2i (nearS S p set)) (mk s) := by
  have w := wf0 hw
  have e := lp_isNearSome h hw Z p set p0 p1 0 (by omega) (by omega)
  rw [B_X5_isNearSome, e, kI, Int.sub_zero]
  rfl
theorem lp_freed1 {s : mS} {S N : Int → Int} (h : CS s 7 S N) (hw : WF S) (Z : mX) (round : Int) (Y : mO) (g : Int → Int) (hg : ∀ set, mm_at (zP Z) 78 15 [some (.inr (.inr (some 7))), none, some (.inl set), some (.inl ((mm_w32 (round + 1)))), none] [] (mk s) = some (some (.inl (g set)), mk s)) : ∀ i : Int, i ≤ S 3 → ∀ set : Int, 0 ≤ i → mm_at (zP Z) 78 21 [some (.inr (.inr (some 7))), none, some (.inl set), some (.inl round), some (.inl i)] [] (mk s) = some (some (.inl (g (fr1 S (S 3 - i).toNat i set))), mk s) := by
  have w := wf0 hw
  refine up ?_ ?_
  · intro set h0
    rw [B_X5_freedSet_21]
    simp (disch := first | assumption | omega) only [↓sm, ↓reduceIte, ↓if_pos, ↓if_neg, kI, kJ, kR, kV, w32_eq, w64_eq, reduceCtorEq, Int.reduceAdd, Int.reduceMul, Int.reduceSub, o_c7, ↓o_g7_4, ↓o_g7_5, ↓o_g7_7, ↓o_g7_8, ↓o_g7_9, ↓o_g7_11, ↓o_g7_12, ↓o_g7_13, ↓o_g7_14, ↓o_g7_15, ↓o_g7_16, ↓o_g7_17, ↓q_wide h, ↓q_high h, ↓q_odds h, ↓q_year h, ↓q_less h, ↓q_pups h, ↓q_thorns h Z, ↓q_berries h Z, ↓q_hours h hw Z, ↓q_needs h hw Z, ↓q_at h hw Z, ↓q_want h hw Z, ↓q_knows h hw Z, ↓q_caught h hw Z, ↓q_marks h hw Z, ↓q_torn h hw Z, hg]
    rw [show (S 3 - S 3).toNat = 0 by omega]
    rfl
  · intro i hi ih set h0
    rw [B_X5_freedSet_21, show (S 3 - i).toNat = (S 3 - (i + 1)).toNat + 1 by omega]
    unfold fr1
    cases hz : nearS S i set
    · simp (disch := first | assumption | omega) only [↓sm, ↓reduceIte, ↓if_pos, ↓if_neg, kI, kJ, kR, kV, w32_eq, w64_eq, reduceCtorEq, Int.reduceAdd, Int.reduceMul, Int.reduceSub, o_c7, ↓o_g7_4, ↓o_g7_5, ↓o_g7_7, ↓o_g7_8, ↓o_g7_9, ↓o_g7_11, ↓o_g7_12, ↓o_g7_13, ↓o_g7_14, ↓o_g7_15, ↓o_g7_16, ↓o_g7_17, ↓q_wide h, ↓q_high h, ↓q_odds h, ↓q_year h, ↓q_less h, ↓q_pups h, ↓q_thorns h Z, ↓q_berries h Z, ↓q_hours h hw Z, ↓q_needs h hw Z, ↓q_at h hw Z, ↓q_want h hw Z, ↓q_knows h hw Z, ↓q_caught h hw Z, ↓q_marks h hw Z, ↓q_torn h hw Z, ↓c_isNearSome h hw Z, b2i_0, hz, Bool.false_eq_true]
      exact ih _ (by omega)
    · simp (disch := first | assumption | omega) only [↓sm, ↓reduceIte, ↓if_pos, ↓if_neg, kI, kJ, kR, kV, w32_eq, w64_eq, reduceCtorEq, Int.reduceAdd, Int.reduceMul, Int.reduceSub, o_c7, ↓o_g7_4, ↓o_g7_5, ↓o_g7_7, ↓o_g7_8, ↓o_g7_9, ↓o_g7_11, ↓o_g7_12, ↓o_g7_13, ↓o_g7_14, ↓o_g7_15, ↓o_g7_16, ↓o_g7_17, ↓q_wide h, ↓q_high h, ↓q_odds h, ↓q_year h, ↓q_less h, ↓q_pups h, ↓q_thorns h Z, ↓q_berries h Z, ↓q_hours h hw Z, ↓q_needs h hw Z, ↓q_at h hw Z, ↓q_want h hw Z, ↓q_knows h hw Z, ↓q_caught h hw Z, ↓q_marks h hw Z, ↓q_torn h hw Z, ↓c_isNearSome h hw Z, b2i_0, hz, ↓k_bit]
      exact ih _ (by omega)
theorem lp_freed2 {s : mS} {S N : Int → Int} (h : CS s 7 S N) (hw : WF S) (Z : mX) : ∀ i : Int, i ≤ S 3 → ∀ set : Int, 0 ≤ i → mm_at (zP Z) 78 15 [some (.inr (.inr (some 7))), none, some (.inl set), some (.inl i), none] [] (mk s) = some (some (.inl (fr2 S (S 3 - i).toNat set)), mk s) := by
  have w := wf0 hw
  refine up ?_ ?_
  · intro set h0
    rw [B_X5_freedSet_15]
    simp (disch := first | assumption | omega) only [↓sm, ↓reduceIte, ↓if_pos, ↓if_neg, kI, kJ, kR, kV, w32_eq, w64_eq, reduceCtorEq, Int.reduceAdd, Int.reduceMul, Int.reduceSub, o_c7, ↓o_g7_4, ↓o_g7_5, ↓o_g7_7, ↓o_g7_8, ↓o_g7_9, ↓o_g7_11, ↓o_g7_12, ↓o_g7_13, ↓o_g7_14, ↓o_g7_15, ↓o_g7_16, ↓o_g7_17, ↓q_wide h, ↓q_high h, ↓q_odds h, ↓q_year h, ↓q_less h, ↓q_pups h, ↓q_thorns h Z, ↓q_berries h Z, ↓q_hours h hw Z, ↓q_needs h hw Z, ↓q_at h hw Z, ↓q_want h hw Z, ↓q_knows h hw Z, ↓q_caught h hw Z, ↓q_marks h hw Z, ↓q_torn h hw Z]
    rw [show (S 3 - S 3).toNat = 0 by omega]
    rfl
  · intro i hi ih set h0
    have e := lp_freed1 h hw Z i none (fun set => fr2 S (S 3 - (i + 1)).toNat set) (fun set => by rw [w32_eq (by omega) (by omega)]; exact ih set (by omega)) 0 (by omega) set (by omega)
    rw [B_X5_freedSet_15, show (S 3 - i).toNat = (S 3 - (i + 1)).toNat + 1 by omega]
    simp (disch := first | assumption | omega) only [↓sm, ↓reduceIte, ↓if_pos, ↓if_neg, kI, kJ, kR, kV, w32_eq, w64_eq, reduceCtorEq, Int.reduceAdd, Int.reduceMul, Int.reduceSub, o_c7, ↓o_g7_4, ↓o_g7_5, ↓o_g7_7, ↓o_g7_8, ↓o_g7_9, ↓o_g7_11, ↓o_g7_12, ↓o_g7_13, ↓o_g7_14, ↓o_g7_15, ↓o_g7_16, ↓o_g7_17, ↓q_wide h, ↓q_high h, ↓q_odds h, ↓q_year h, ↓q_less h, ↓q_pups h, ↓q_thorns h Z, ↓q_berries h Z, ↓q_hours h hw Z, ↓q_needs h hw Z, ↓q_at h hw Z, ↓q_want h hw Z, ↓q_knows h hw Z, ↓q_caught h hw Z, ↓q_marks h hw Z, ↓q_torn h hw Z, e]
    rw [Int.sub_zero]
    rfl
def fset (S : Int → Int) : Int := fr2 S (S 3).toNat (mm_iand (mm_w32 (mm_ishl 1 (S 3) - 1)) (mm_ixor (cset S) (-1)))
theorem c_freedSet {s : mS} {S N : Int → Int} (h : CS s 7 S N) (hw : WF S) (Z : mX) (f : Int → mW → mO) : mm_kI (mm_run (zP Z) 78 [.inr (.inr (some 7))] (mk s)) f = f (fset S) (mk s) := by
  have w := wf0 hw
  rw [B_X5_freedSet]
  have e := fun set => lp_freed2 h hw Z 0 (by omega) set (by omega)
  simp only [Int.sub_zero] at e
  simp (disch := first | assumption | omega) only [↓sm, ↓reduceIte, ↓if_pos, ↓if_neg, kI, kJ, kR, kV, w32_eq, w64_eq, reduceCtorEq, Int.reduceAdd, Int.reduceMul, Int.reduceSub, o_c7, ↓o_g7_4, ↓o_g7_5, ↓o_g7_7, ↓o_g7_8, ↓o_g7_9, ↓o_g7_11, ↓o_g7_12, ↓o_g7_13, ↓o_g7_14, ↓o_g7_15, ↓o_g7_16, ↓o_g7_17, ↓q_wide h, ↓q_high h, ↓q_odds h, ↓q_year h, ↓q_less h, ↓q_pups h, ↓q_thorns h Z, ↓q_berries h Z, ↓q_hours h hw Z, ↓q_needs h hw Z, ↓q_at h hw Z, ↓q_want h hw Z, ↓q_knows h hw Z, ↓q_caught h hw Z, ↓q_marks h hw Z, ↓q_torn h hw Z, ↓k_bit, ↓c_caughtSet h hw Z, e]
  rfl
