/-! where one comes: sets that grow (the class) -/
def itn (g : Int → Int) : Nat → Int → Int
  | 0, x => x
  | n + 1, x => itn g n (g x)
theorem itn_s (g : Int → Int) : ∀ (n : Nat) (x : Int), itn g (n + 1) x = g (itn g n x)
  | 0, _ => rfl
  | n + 1, x => itn_s g n (g x)
theorem itn_fix {g : Int → Int} {x : Int} (h : g x = x) : ∀ n : Nat, itn g n x = x
  | 0 => rfl
  | n + 1 => by
    show itn g n (g x) = x
    rw [h]
    exact itn_fix h n
theorem itn_add (g : Int → Int) : ∀ (m n : Nat) (x : Int), itn g (m + n) x = itn g n (itn g m x)
  | 0, n, x => by rw [Nat.zero_add]; rfl
  | m + 1, n, x => by
    rw [show m + 1 + n = (m + n) + 1 by omega]
    exact itn_add g m n (g x)
def nx (S : Int → Int) (K x : Int) : Int := mm_ior x (mm_iand (ar S x) K)
theorem sub_nx {S : Int → Int} (hw : WF S) (K : Int) {x : Int} (hx : sub S x) : sub S (nx S K x) := sub_or hx (sub_and (sub_bz hw _) K)
theorem sub_itn {S : Int → Int} (hw : WF S) (K : Int) : ∀ (n : Nat) {x : Int}, sub S x → sub S (itn (nx S K) n x)
  | 0, _, h => h
  | n + 1, _, h => sub_itn hw K n (sub_nx hw K h)
theorem lp_within {s : mS} {S N : Int → Int} (h : CS s 7 S N) (hw : WF S) (Z : mX) (K n : Int) (hn : n < 100) : ∀ i : Int, i ≤ n → ∀ x : Int, sub S x → 0 ≤ i → mm_at (zP Z) 119 4 [some (.inr (.inr (some 66))), none, some (.inl K), some (.inl n), some (.inl x), some (.inl i), none] [] (mk s) = some (some (.inl (itn (nx S K) (n - i).toNat x)), mk s) := by
  refine up ?_ ?_
  · intro x hx h0
    rw [B_X9_within_4]
    simp (disch := first | assumption | omega) only [↓sm, ↓reduceIte, ↓if_pos, ↓if_neg, kI, kJ, kR, kV, w32_eq, w64_eq, reduceCtorEq, Int.reduceAdd, Int.reduceMul, Int.reduceSub]
    rw [show (n - n).toNat = 0 by omega]
    rfl
  · intro i hi ih x hx h0
    rw [B_X9_within_4, show (n - i).toNat = (n - (i + 1)).toNat + 1 by omega]
    by_cases hf : mm_ior x (mm_iand (ar S x) K) = x
    · have e : nx S K x = x := hf
      simp (disch := first | assumption | omega) only [↓sm, ↓reduceIte, ↓if_pos, ↓if_neg, kI, kJ, kR, kV, w32_eq, w64_eq, reduceCtorEq, Int.reduceAdd, Int.reduceMul, Int.reduceSub, o_c66, ↓o_g66_0, ↓o_g66_1, o_c7, ↓c_around h hw Z, hf]
      rw [itn_fix e]
    · simp (disch := first | assumption | omega) only [↓sm, ↓reduceIte, ↓if_pos, ↓if_neg, kI, kJ, kR, kV, w32_eq, w64_eq, reduceCtorEq, Int.reduceAdd, Int.reduceMul, Int.reduceSub, o_c66, ↓o_g66_0, ↓o_g66_1, o_c7, ↓c_around h hw Z, hf]
      exact ih _ (sub_nx hw K hx) (by omega)
theorem c_within {s : mS} {S N : Int → Int} (h : CS s 7 S N) (hw : WF S) (Z : mX) (x K n : Int) (hx : sub S x) (n0 : 0 ≤ n) (n1 : n < 100) (f : Int → mW → mO) : mm_kI (mm_run (zP Z) 119 [.inr (.inr (some 66)), .inl x, .inl K, .inl n] (mk s)) f = f (itn (nx S K) n.toNat x) (mk s) := by
  have g := lp_within h hw Z K n n1 0 n0 x hx (by omega)
  rw [Int.sub_zero] at g
  rw [B_X9_within, g, kI]
theorem c_ownCell {s : mS} {S N : Int → Int} (h : CS s 7 S N) (hw : WF S) (Z : mX) (p : Int) (p0 : 0 ≤ p) (p1 : p < S 3) (f : Int → mW → mO) : mm_kI (mm_run (zP Z) 117 [.inr (.inr (some 66)), .inl p] (mk s)) f = f (S (74 + 6 * p)) (mk s) := by
  rw [B_X9_ownCell]
  simp (disch := first | assumption | omega) only [↓sm, ↓reduceIte, ↓if_pos, ↓if_neg, kI, kJ, kR, kV, w32_eq, w64_eq, reduceCtorEq, Int.reduceAdd, Int.reduceMul, Int.reduceSub, o_c66, ↓o_g66_0, ↓o_g66_1, o_c7, ↓o_g7_4, ↓o_g7_5, ↓o_g7_7, ↓o_g7_8, ↓o_g7_9, ↓o_g7_11, ↓o_g7_12, ↓o_g7_13, ↓o_g7_14, ↓o_g7_15, ↓o_g7_16, ↓o_g7_17, ↓q_wide h, ↓q_high h, ↓q_odds h, ↓q_year h, ↓q_less h, ↓q_pups h, ↓q_thorns h Z, ↓q_berries h Z, ↓q_hours h hw Z, ↓q_needs h hw Z, ↓q_at h hw Z, ↓q_want h hw Z, ↓q_knows h hw Z, ↓q_caught h hw Z, ↓q_marks h hw Z, ↓q_torn h hw Z]
theorem c_wclear {s : mS} {S N : Int → Int} (h : CS s 7 S N) (hw : WF S) (Z : mX) (p : Int) (p0 : 0 ≤ p) (p1 : p < S 3) (f : Int → mW → mO) : mm_kI (mm_run (zP Z) 118 [.inr (.inr (some 66)), .inl p] (mk s)) f = f (clr S p (S (74 + 6 * p + 1))) (mk s) := by
  have wp := wf_p hw p0 p1
  rw [B_X9_clearSet]
  simp (disch := first | assumption | omega) only [↓sm, ↓reduceIte, ↓if_pos, ↓if_neg, kI, kJ, kR, kV, w32_eq, w64_eq, reduceCtorEq, Int.reduceAdd, Int.reduceMul, Int.reduceSub, o_c66, ↓o_g66_0, ↓o_g66_1, o_c7, ↓o_g7_4, ↓o_g7_5, ↓o_g7_7, ↓o_g7_8, ↓o_g7_9, ↓o_g7_11, ↓o_g7_12, ↓o_g7_13, ↓o_g7_14, ↓o_g7_15, ↓o_g7_16, ↓o_g7_17, ↓q_wide h, ↓q_high h, ↓q_odds h, ↓q_year h, ↓q_less h, ↓q_pups h, ↓q_thorns h Z, ↓q_berries h Z, ↓q_hours h hw Z, ↓q_needs h hw Z, ↓q_at h hw Z, ↓q_want h hw Z, ↓q_knows h hw Z, ↓q_caught h hw Z, ↓q_marks h hw Z, ↓q_torn h hw Z, ↓c_cells h hw Z, ↓c_hasCell_t h hw Z, ↓c_hasCell_f h hw Z, ↓c_hasLesson_t h hw Z, ↓c_hasLesson_f h hw Z, ↓c_hasPupil_t h hw Z, ↓c_hasPupil_f h hw Z, ↓c_isCellNumber_t h hw Z, ↓c_isCellNumber_f h hw Z, ↓c_beside h hw Z, ↓c_touch h hw Z, ↓c_catchOf h hw Z, ↓c_clearSet h hw Z, ↓c_isCaught_t h hw Z, ↓c_isCaught_f h hw Z, ↓c_caughtSet h hw Z, ↓c_pupilsAt h hw Z, ↓c_pupilsWhoKnow h hw Z, ↓c_areNear h hw Z, ↓c_canHelp h hw Z, ↓c_helperSet h hw Z, ↓c_nextLesson h hw Z, ↓c_isNearSome h hw Z, ↓c_freedSet h hw Z]
/-- the cells where one can come as he is -/
def cms (S : Int → Int) (p : Int) : Int := if 0 < S (74 + 6 * p + 3) then mm_ishl 1 (S (74 + 6 * p)) else itn (nx S (clr S p (S (74 + 6 * p + 1)))) 25 (mm_ishl 1 (S (74 + 6 * p)))
theorem c_comeSet {s : mS} {S N : Int → Int} (h : CS s 7 S N) (hw : WF S) (Z : mX) (p : Int) (p0 : 0 ≤ p) (p1 : p < S 3) (f : Int → mW → mO) : mm_kI (mm_run (zP Z) 120 [.inr (.inr (some 66)), .inl p] (mk s)) f = f (cms S p) (mk s) := by
  have wp := wf_p hw p0 p1
  have sb := sub_bit hw wp.1 wp.2.1
  rw [B_X9_comeSet]
  unfold cms
  by_cases hc : 0 < S (74 + 6 * p + 3)
  · simp (disch := first | assumption | omega) only [↓sm, ↓reduceIte, ↓if_pos, ↓if_neg, kI, kJ, kR, kV, w32_eq, w64_eq, reduceCtorEq, Int.reduceAdd, Int.reduceMul, Int.reduceSub, o_c66, ↓o_g66_0, ↓o_g66_1, o_c7, ↓o_g7_4, ↓o_g7_5, ↓o_g7_7, ↓o_g7_8, ↓o_g7_9, ↓o_g7_11, ↓o_g7_12, ↓o_g7_13, ↓o_g7_14, ↓o_g7_15, ↓o_g7_16, ↓o_g7_17, ↓q_wide h, ↓q_high h, ↓q_odds h, ↓q_year h, ↓q_less h, ↓q_pups h, ↓q_thorns h Z, ↓q_berries h Z, ↓q_hours h hw Z, ↓q_needs h hw Z, ↓q_at h hw Z, ↓q_want h hw Z, ↓q_knows h hw Z, ↓q_caught h hw Z, ↓q_marks h hw Z, ↓q_torn h hw Z, ↓c_cells h hw Z, ↓c_hasCell_t h hw Z, ↓c_hasCell_f h hw Z, ↓c_hasLesson_t h hw Z, ↓c_hasLesson_f h hw Z, ↓c_hasPupil_t h hw Z, ↓c_hasPupil_f h hw Z, ↓c_isCellNumber_t h hw Z, ↓c_isCellNumber_f h hw Z, ↓c_beside h hw Z, ↓c_touch h hw Z, ↓c_catchOf h hw Z, ↓c_clearSet h hw Z, ↓c_isCaught_t h hw Z, ↓c_isCaught_f h hw Z, ↓c_caughtSet h hw Z, ↓c_pupilsAt h hw Z, ↓c_pupilsWhoKnow h hw Z, ↓c_areNear h hw Z, ↓c_canHelp h hw Z, ↓c_helperSet h hw Z, ↓c_nextLesson h hw Z, ↓c_isNearSome h hw Z, ↓c_freedSet h hw Z, ↓c_ownCell h hw Z, ↓k_bit Z]
  · simp (disch := first | assumption | omega) only [↓sm, ↓reduceIte, ↓if_pos, ↓if_neg, kI, kJ, kR, kV, w32_eq, w64_eq, reduceCtorEq, Int.reduceAdd, Int.reduceMul, Int.reduceSub, o_c66, ↓o_g66_0, ↓o_g66_1, o_c7, ↓o_g7_4, ↓o_g7_5, ↓o_g7_7, ↓o_g7_8, ↓o_g7_9, ↓o_g7_11, ↓o_g7_12, ↓o_g7_13, ↓o_g7_14, ↓o_g7_15, ↓o_g7_16, ↓o_g7_17, ↓q_wide h, ↓q_high h, ↓q_odds h, ↓q_year h, ↓q_less h, ↓q_pups h, ↓q_thorns h Z, ↓q_berries h Z, ↓q_hours h hw Z, ↓q_needs h hw Z, ↓q_at h hw Z, ↓q_want h hw Z, ↓q_knows h hw Z, ↓q_caught h hw Z, ↓q_marks h hw Z, ↓q_torn h hw Z, ↓c_cells h hw Z, ↓c_hasCell_t h hw Z, ↓c_hasCell_f h hw Z, ↓c_hasLesson_t h hw Z, ↓c_hasLesson_f h hw Z, ↓c_hasPupil_t h hw Z, ↓c_hasPupil_f h hw Z, ↓c_isCellNumber_t h hw Z, ↓c_isCellNumber_f h hw Z, ↓c_beside h hw Z, ↓c_touch h hw Z, ↓c_catchOf h hw Z, ↓c_clearSet h hw Z, ↓c_isCaught_t h hw Z, ↓c_isCaught_f h hw Z, ↓c_caughtSet h hw Z, ↓c_pupilsAt h hw Z, ↓c_pupilsWhoKnow h hw Z, ↓c_areNear h hw Z, ↓c_canHelp h hw Z, ↓c_helperSet h hw Z, ↓c_nextLesson h hw Z, ↓c_isNearSome h hw Z, ↓c_freedSet h hw Z, ↓c_ownCell h hw Z, ↓k_bit Z, ↓c_wclear h hw Z, ↓c_within h hw Z]
    rfl
/-- the first number of steps by which a cell is in -/
def stf (g : Int → Int) (c : Int) : Nat → Int → Int → Int
  | 0, _, _ => -1
  | n + 1, i, x => if tb x c.toNat then i else stf g c n (i + 1) (g x)
theorem lp_steps {s : mS} {S N : Int → Int} (h : CS s 7 S N) (hw : WF S) (Z : mX) (c K : Int) (c0 : 0 ≤ c) (c1 : c < 25) : ∀ i : Int, i ≤ 25 → ∀ x : Int, sub S x → 0 ≤ i → mm_at (zP Z) 121 18 [some (.inr (.inr (some 66))), none, some (.inl c), some (.inl x), some (.inl K), some (.inl i)] [] (mk s) = some (some (.inl (stf (nx S K) c (25 - i).toNat i x)), mk s) := by
  refine up ?_ ?_
  · intro x hx h0
    rw [B_X9_steps_18]
    simp (disch := first | assumption | omega) only [↓sm, ↓reduceIte, ↓if_pos, ↓if_neg, kI, kJ, kR, kV, w32_eq, w64_eq, reduceCtorEq, Int.reduceAdd, Int.reduceMul, Int.reduceSub]
    rfl
  · intro i hi ih x hx h0
    rw [B_X9_steps_18, show (25 - i).toNat = (25 - (i + 1)).toNat + 1 by omega]
    unfold stf
    cases ht : tb x c.toNat
    · simp (disch := first | assumption | omega) only [↓sm, ↓reduceIte, ↓if_pos, ↓if_neg, kI, kJ, kR, kV, w32_eq, w64_eq, reduceCtorEq, Int.reduceAdd, Int.reduceMul, Int.reduceSub, o_c66, ↓o_g66_0, ↓o_g66_1, o_c7, ↓k_has Z, b2i_0, ht, ↓c_around h hw Z, Bool.false_eq_true]
      exact ih _ (sub_nx hw K hx) (by omega)
    · simp (disch := first | assumption | omega) only [↓sm, ↓reduceIte, ↓if_pos, ↓if_neg, kI, kJ, kR, kV, w32_eq, w64_eq, reduceCtorEq, Int.reduceAdd, Int.reduceMul, Int.reduceSub, o_c66, ↓o_g66_0, ↓o_g66_1, o_c7, ↓k_has Z, b2i_0, ht]
/-- far -/
def frS (S : Int → Int) (p c : Int) : Int := stf (nx S (if 0 < S (74 + 6 * p + 3) then 0 else clr S p (S (74 + 6 * p + 1)))) c 25 0 (mm_ishl 1 (S (74 + 6 * p)))
theorem c_steps {s : mS} {S N : Int → Int} (h : CS s 7 S N) (hw : WF S) (Z : mX) (p c : Int) (p0 : 0 ≤ p) (p1 : p < S 3) (c0 : 0 ≤ c) (c1 : c < 25) (f : Int → mW → mO) : mm_kI (mm_run (zP Z) 121 [.inr (.inr (some 66)), .inl p, .inl c] (mk s)) f = f (frS S p c) (mk s) := by
  have wp := wf_p hw p0 p1
  have sb := sub_bit hw wp.1 wp.2.1
  rw [B_X9_steps]
  unfold frS
  by_cases hc : 0 < S (74 + 6 * p + 3)
  · have g := lp_steps h hw Z c 0 c0 c1 0 (by omega) _ sb (by omega)
    simp (disch := first | assumption | omega) only [↓sm, ↓reduceIte, ↓if_pos, ↓if_neg, kI, kJ, kR, kV, w32_eq, w64_eq, reduceCtorEq, Int.reduceAdd, Int.reduceMul, Int.reduceSub, o_c66, ↓o_g66_0, ↓o_g66_1, o_c7, ↓o_g7_4, ↓o_g7_5, ↓o_g7_7, ↓o_g7_8, ↓o_g7_9, ↓o_g7_11, ↓o_g7_12, ↓o_g7_13, ↓o_g7_14, ↓o_g7_15, ↓o_g7_16, ↓o_g7_17, ↓q_wide h, ↓q_high h, ↓q_odds h, ↓q_year h, ↓q_less h, ↓q_pups h, ↓q_thorns h Z, ↓q_berries h Z, ↓q_hours h hw Z, ↓q_needs h hw Z, ↓q_at h hw Z, ↓q_want h hw Z, ↓q_knows h hw Z, ↓q_caught h hw Z, ↓q_marks h hw Z, ↓q_torn h hw Z, ↓c_cells h hw Z, ↓c_hasCell_t h hw Z, ↓c_hasCell_f h hw Z, ↓c_hasLesson_t h hw Z, ↓c_hasLesson_f h hw Z, ↓c_hasPupil_t h hw Z, ↓c_hasPupil_f h hw Z, ↓c_isCellNumber_t h hw Z, ↓c_isCellNumber_f h hw Z, ↓c_beside h hw Z, ↓c_touch h hw Z, ↓c_catchOf h hw Z, ↓c_clearSet h hw Z, ↓c_isCaught_t h hw Z, ↓c_isCaught_f h hw Z, ↓c_caughtSet h hw Z, ↓c_pupilsAt h hw Z, ↓c_pupilsWhoKnow h hw Z, ↓c_areNear h hw Z, ↓c_canHelp h hw Z, ↓c_helperSet h hw Z, ↓c_nextLesson h hw Z, ↓c_isNearSome h hw Z, ↓c_freedSet h hw Z, ↓c_ownCell h hw Z, ↓k_bit Z, g]
    rfl
  · have g := lp_steps h hw Z c (clr S p (S (74 + 6 * p + 1))) c0 c1 0 (by omega) _ sb (by omega)
    simp (disch := first | assumption | omega) only [↓sm, ↓reduceIte, ↓if_pos, ↓if_neg, kI, kJ, kR, kV, w32_eq, w64_eq, reduceCtorEq, Int.reduceAdd, Int.reduceMul, Int.reduceSub, o_c66, ↓o_g66_0, ↓o_g66_1, o_c7, ↓o_g7_4, ↓o_g7_5, ↓o_g7_7, ↓o_g7_8, ↓o_g7_9, ↓o_g7_11, ↓o_g7_12, ↓o_g7_13, ↓o_g7_14, ↓o_g7_15, ↓o_g7_16, ↓o_g7_17, ↓q_wide h, ↓q_high h, ↓q_odds h, ↓q_year h, ↓q_less h, ↓q_pups h, ↓q_thorns h Z, ↓q_berries h Z, ↓q_hours h hw Z, ↓q_needs h hw Z, ↓q_at h hw Z, ↓q_want h hw Z, ↓q_knows h hw Z, ↓q_caught h hw Z, ↓q_marks h hw Z, ↓q_torn h hw Z, ↓c_cells h hw Z, ↓c_hasCell_t h hw Z, ↓c_hasCell_f h hw Z, ↓c_hasLesson_t h hw Z, ↓c_hasLesson_f h hw Z, ↓c_hasPupil_t h hw Z, ↓c_hasPupil_f h hw Z, ↓c_isCellNumber_t h hw Z, ↓c_isCellNumber_f h hw Z, ↓c_beside h hw Z, ↓c_touch h hw Z, ↓c_catchOf h hw Z, ↓c_clearSet h hw Z, ↓c_isCaught_t h hw Z, ↓c_isCaught_f h hw Z, ↓c_caughtSet h hw Z, ↓c_pupilsAt h hw Z, ↓c_pupilsWhoKnow h hw Z, ↓c_areNear h hw Z, ↓c_canHelp h hw Z, ↓c_helperSet h hw Z, ↓c_nextLesson h hw Z, ↓c_isNearSome h hw Z, ↓c_freedSet h hw Z, ↓c_ownCell h hw Z, ↓k_bit Z, ↓c_wclear h hw Z, g]
    rfl
/-- the first of a set, 0 if there is none -/
def fs0 (x : Int) : Nat → Int → Int
  | 0, _ => 0
  | n + 1, i => if tb x i.toNat then i else fs0 x n (i + 1)
theorem lp_first (Z : mX) (w : mW) (x : Int) : ∀ i : Int, i ≤ 25 → 0 ≤ i → mm_at (zP Z) 123 2 [none, some (.inl x), some (.inl i)] [] w = some (some (.inl (fs0 x (25 - i).toNat i)), w) := by
  refine up ?_ ?_
  · intro h0
    rw [B_X9_first_2]
    simp (disch := first | assumption | omega) only [↓sm, ↓reduceIte, ↓if_pos, ↓if_neg, kI, kJ, kR, kV, w32_eq, w64_eq, reduceCtorEq, Int.reduceAdd, Int.reduceMul, Int.reduceSub]
    rfl
  · intro i hi ih h0
    rw [B_X9_first_2, show (25 - i).toNat = (25 - (i + 1)).toNat + 1 by omega]
    unfold fs0
    cases ht : tb x i.toNat
    · simp (disch := first | assumption | omega) only [↓sm, ↓reduceIte, ↓if_pos, ↓if_neg, kI, kJ, kR, kV, w32_eq, w64_eq, reduceCtorEq, Int.reduceAdd, Int.reduceMul, Int.reduceSub, ↓k_has Z, b2i_0, ht, Bool.false_eq_true]
      exact ih (by omega)
    · simp (disch := first | assumption | omega) only [↓sm, ↓reduceIte, ↓if_pos, ↓if_neg, kI, kJ, kR, kV, w32_eq, w64_eq, reduceCtorEq, Int.reduceAdd, Int.reduceMul, Int.reduceSub, ↓k_has Z, b2i_0, ht]
theorem c_first (Z : mX) (w : mW) (x : Int) (f : Int → mW → mO) : mm_kI (mm_run (zP Z) 123 [.inr (.inr (some 66)), .inl x] w) f = f (fs0 x 25 0) w := by
  have g := lp_first Z w x 0 (by omega) (by omega)
  rw [B_X9_first, g, kI]
  rfl
/-- the next cell of a way: m steps are left behind it -/
def wyN (S : Int → Int) (K c : Int) (a : Int) (m : Int) : Int := fs0 (mm_iand (mm_iand (ar S (mm_ishl 1 a)) K) (itn (nx S K) m.toNat (mm_ishl 1 c))) 25 0
def wyS (S : Int → Int) (K c : Int) : Nat → Int → Int → Int
  | 0, a, _ => a
  | n + 1, a, m => wyS S K c n (wyN S K c a m) (m - 1)
theorem fs0_r (x : Int) : ∀ (n : Nat) (i : Int), 0 ≤ i → (fs0 x n i = 0 ∧ ∀ j : Int, i ≤ j → j < i + n → tb x j.toNat = false) ∨ (i ≤ fs0 x n i ∧ fs0 x n i < i + n ∧ tb x (fs0 x n i).toNat = true ∧ ∀ j : Int, i ≤ j → j < fs0 x n i → tb x j.toNat = false)
  | 0, i, _ => Or.inl ⟨rfl, fun j h1 h2 => by omega⟩
  | n + 1, i, h => by
    unfold fs0
    by_cases ht : tb x i.toNat = true
    · rw [if_pos ht]
      right
      exact ⟨by omega, by omega, ht, fun j h1 h2 => by omega⟩
    · have ht' : tb x i.toNat = false := by simpa using ht
      rw [if_neg ht]
      rcases fs0_r x n (i + 1) (by omega) with ⟨h1, h2⟩ | ⟨h1, h2, h3, h4⟩
      · left
        refine ⟨h1, fun j j0 j1 => ?_⟩
        by_cases e : j = i
        · rw [e]; exact ht'
        · exact h2 j (by omega) (by omega)
      · right
        refine ⟨by omega, by omega, h3, fun j j0 j1 => ?_⟩
        by_cases e : j = i
        · rw [e]; exact ht'
        · exact h4 j (by omega) j1
theorem wyN_r {S : Int → Int} (hw : WF S) (K c a m : Int) : 0 ≤ wyN S K c a m ∧ wyN S K c a m < ncl S := by
  have n := wf_n hw
  unfold wyN
  rcases fs0_r (mm_iand (mm_iand (ar S (mm_ishl 1 a)) K) (itn (nx S K) m.toNat (mm_ishl 1 c))) 25 0 (by omega) with ⟨h1, _⟩ | ⟨h1, h2, h3, _⟩
  · omega
  · have := (sub_and (sub_and (sub_bz hw (arB S (mm_ishl 1 a))) K) (itn (nx S K) m.toNat (mm_ishl 1 c))).2 _ h3
    omega
theorem lp_onWay {s : mS} {S N : Int → Int} (h : CS s 7 S N) (hw : WF S) (Z : mX) (c K far k : Int) (c0 : 0 ≤ c) (c1 : c < ncl S) (f0 : 0 ≤ far) (f1 : far < 100) (kf : k ≤ far) : ∀ i : Int, i ≤ k + 1 → ∀ a : Int, 0 ≤ a → a < ncl S → 1 ≤ i → mm_at (zP Z) 122 10 [some (.inr (.inr (some 66))), none, some (.inl c), some (.inl far), some (.inl k), some (.inl K), some (.inl a), some (.inl i), none] [] (mk s) = some (some (.inl (wyS S K c (k + 1 - i).toNat a (far - i))), mk s) := by
  have n := wf_n hw
  have sc := sub_bit hw c0 c1
  refine up ?_ ?_
  · intro a a0 a1 h0
    rw [B_X9_onWay_10]
    simp (disch := first | assumption | omega) only [↓sm, ↓reduceIte, ↓if_pos, ↓if_neg, kI, kJ, kR, kV, w32_eq, w64_eq, reduceCtorEq, Int.reduceAdd, Int.reduceMul, Int.reduceSub]
    rw [show (k + 1 - (k + 1)).toNat = 0 by omega]
    rfl
  · intro i hi ih a a0 a1 h0
    rw [B_X9_onWay_10, show (k + 1 - i).toNat = (k + 1 - (i + 1)).toNat + 1 by omega]
    have r := wyN_r hw K c a (far - i)
    have sa := sub_bit hw a0 a1
    simp (disch := first | assumption | omega) only [↓sm, ↓reduceIte, ↓if_pos, ↓if_neg, kI, kJ, kR, kV, w32_eq, w64_eq, reduceCtorEq, Int.reduceAdd, Int.reduceMul, Int.reduceSub, o_c66, ↓o_g66_0, ↓o_g66_1, o_c7, ↓k_bit Z, ↓c_within h hw Z, ↓c_around h hw Z, ↓c_first Z]
    have g := ih _ r.1 r.2 (by omega)
    rw [show far - (i + 1) = far - i - 1 by omega] at g
    exact g
theorem c_onWay {s : mS} {S N : Int → Int} (h : CS s 7 S N) (hw : WF S) (Z : mX) (p c far k : Int) (p0 : 0 ≤ p) (p1 : p < S 3) (c0 : 0 ≤ c) (c1 : c < ncl S) (f0 : 0 ≤ far) (f1 : far < 100) (k0 : 0 ≤ k) (kf : k ≤ far) (f : Int → mW → mO) : mm_kI (mm_run (zP Z) 122 [.inr (.inr (some 66)), .inl p, .inl c, .inl far, .inl k] (mk s)) f = f (wyS S (clr S p (S (74 + 6 * p + 1))) c k.toNat (S (74 + 6 * p)) (far - 1)) (mk s) := by
  have wp := wf_p hw p0 p1
  have g := lp_onWay h hw Z c (clr S p (S (74 + 6 * p + 1))) far k c0 c1 f0 f1 kf 1 (by omega) (S (74 + 6 * p)) wp.1 wp.2.1 (by omega)
  rw [Int.add_sub_cancel] at g
  rw [B_X9_onWay]
  simp (disch := first | assumption | omega) only [↓sm, ↓reduceIte, ↓if_pos, ↓if_neg, kI, kJ, kR, kV, w32_eq, w64_eq, reduceCtorEq, Int.reduceAdd, Int.reduceMul, Int.reduceSub, o_c66, ↓o_g66_0, ↓o_g66_1, ↓c_wclear h hw Z, ↓c_ownCell h hw Z, g]
/-- the greatest want, from w on down, by which one comes -/
def gwS (S : Int → Int) (p c : Int) : Nat → Int
  | 0 => -1
  | n + 1 => if tb (itn (nx S (clr S p n)) 25 (mm_ishl 1 (S (74 + 6 * p)))) c.toNat then n else gwS S p c n
theorem lp_greatestWant {s : mS} {S N : Int → Int} (h : CS s 7 S N) (hw : WF S) (Z : mX) (p c : Int) (p0 : 0 ≤ p) (p1 : p < S 3) (c0 : 0 ≤ c) (c1 : c < 25) : ∀ n : Nat, n ≤ 10 → mm_at (zP Z) 124 7 [some (.inr (.inr (some 66))), some (.inl p), some (.inl c), some (.inl ((mm_ishl 1 (S (74 + 6 * p))))), some (.inl (((n : Int) - 1)))] [] (mk s) = some (some (.inl (gwS S p c n)), mk s) := by
  have wp := wf_p hw p0 p1
  have sb := sub_bit hw wp.1 wp.2.1
  intro n
  induction n with
  | zero =>
    intro _
    rw [B_X9_greatestWant_7]
    simp (disch := first | assumption | omega) only [↓sm, ↓reduceIte, ↓if_pos, ↓if_neg, kI, kJ, kR, kV, w32_eq, w64_eq, reduceCtorEq, Int.reduceAdd, Int.reduceMul, Int.reduceSub]
    rfl
  | succ n ih =>
    intro hn
    have g := ih (by omega)
    rw [show ((n + 1 : Nat) : Int) - 1 = (n : Int) by omega, B_X9_greatestWant_7]
    unfold gwS
    cases ht : tb (itn (nx S (clr S p n)) 25 (mm_ishl 1 (S (74 + 6 * p)))) c.toNat
    · simp (disch := first | assumption | omega) only [↓sm, ↓reduceIte, ↓if_pos, ↓if_neg, kI, kJ, kR, kV, w32_eq, w64_eq, reduceCtorEq, Int.reduceAdd, Int.reduceMul, Int.reduceSub, o_c66, ↓o_g66_0, ↓o_g66_1, o_c7, ↓c_clearSet h hw Z, ↓c_within h hw Z, ↓k_has Z, b2i_0, show (25 : Int).toNat = 25 from rfl, ht, Bool.false_eq_true]
      exact g
    · simp (disch := first | assumption | omega) only [↓sm, ↓reduceIte, ↓if_pos, ↓if_neg, kI, kJ, kR, kV, w32_eq, w64_eq, reduceCtorEq, Int.reduceAdd, Int.reduceMul, Int.reduceSub, o_c66, ↓o_g66_0, ↓o_g66_1, o_c7, ↓c_clearSet h hw Z, ↓c_within h hw Z, ↓k_has Z, b2i_0, show (25 : Int).toNat = 25 from rfl, ht]
theorem c_greatestWant {s : mS} {S N : Int → Int} (h : CS s 7 S N) (hw : WF S) (Z : mX) (p c : Int) (p0 : 0 ≤ p) (p1 : p < S 3) (c0 : 0 ≤ c) (c1 : c < 25) (f : Int → mW → mO) : mm_kI (mm_run (zP Z) 124 [.inr (.inr (some 66)), .inl p, .inl c] (mk s)) f = f (gwS S p c 10) (mk s) := by
  have g := lp_greatestWant h hw Z p c p0 p1 c0 c1 10 (by omega)
  rw [show ((10 : Nat) : Int) - 1 = 9 by decide] at g
  rw [B_X9_greatestWant]
  simp (disch := first | assumption | omega) only [↓sm, ↓reduceIte, ↓if_pos, ↓if_neg, kI, kJ, kR, kV, w32_eq, w64_eq, reduceCtorEq, Int.reduceAdd, Int.reduceMul, Int.reduceSub, o_c66, ↓o_g66_0, ↓o_g66_1, ↓c_ownCell h hw Z, ↓k_bit Z, g]
/-- one more cell cleared each time -/
def fcS (S : Int → Int) (K c : Int) : Nat → Int → Int → Int
  | 0, i, _ => i
  | n + 1, i, x => if tb x c.toNat then i else fcS S K c n (i + 1) (itn (nx S K) 25 (mm_ior x (ar S x)))
theorem lp_fewestCleared {s : mS} {S N : Int → Int} (h : CS s 7 S N) (hw : WF S) (Z : mX) (c K : Int) (c0 : 0 ≤ c) (c1 : c < 25) : ∀ i : Int, i ≤ 25 → ∀ x : Int, sub S x → 0 ≤ i → mm_at (zP Z) 127 15 [some (.inr (.inr (some 66))), none, some (.inl c), some (.inl K), some (.inl x), some (.inl i)] [] (mk s) = some (some (.inl (fcS S K c (25 - i).toNat i x)), mk s) := by
  refine up ?_ ?_
  · intro x hx h0
    rw [B_X9_fewestCleared_15]
    simp (disch := first | assumption | omega) only [↓sm, ↓reduceIte, ↓if_pos, ↓if_neg, kI, kJ, kR, kV, w32_eq, w64_eq, reduceCtorEq, Int.reduceAdd, Int.reduceMul, Int.reduceSub]
    rfl
  · intro i hi ih x hx h0
    rw [B_X9_fewestCleared_15, show (25 - i).toNat = (25 - (i + 1)).toNat + 1 by omega]
    unfold fcS
    have so := sub_or hx (sub_bz hw (arB S x))
    cases ht : tb x c.toNat
    · simp (disch := first | assumption | omega) only [↓sm, ↓reduceIte, ↓if_pos, ↓if_neg, kI, kJ, kR, kV, w32_eq, w64_eq, reduceCtorEq, Int.reduceAdd, Int.reduceMul, Int.reduceSub, o_c66, ↓o_g66_0, ↓o_g66_1, o_c7, ↓k_has Z, b2i_0, ht, ↓c_around h hw Z, Bool.false_eq_true]
      rw [show bz (arB S x) (ncl S) = ar S x from rfl] at so
      simp (disch := first | assumption | omega) only [↓sm, ↓reduceIte, ↓if_pos, ↓if_neg, kI, kJ, kR, kV, w32_eq, w64_eq, reduceCtorEq, Int.reduceAdd, Int.reduceMul, Int.reduceSub, ↓c_within h hw Z]
      exact ih _ (sub_itn hw K 25 so) (by omega)
    · simp (disch := first | assumption | omega) only [↓sm, ↓reduceIte, ↓if_pos, ↓if_neg, kI, kJ, kR, kV, w32_eq, w64_eq, reduceCtorEq, Int.reduceAdd, Int.reduceMul, Int.reduceSub, o_c66, ↓o_g66_0, ↓o_g66_1, o_c7, ↓k_has Z, b2i_0, ht]
theorem c_fewestCleared {s : mS} {S N : Int → Int} (h : CS s 7 S N) (hw : WF S) (Z : mX) (p c : Int) (p0 : 0 ≤ p) (p1 : p < S 3) (c0 : 0 ≤ c) (c1 : c < 25) (f : Int → mW → mO) : mm_kI (mm_run (zP Z) 127 [.inr (.inr (some 66)), .inl p, .inl c] (mk s)) f = f (fcS S (clr S p (S (74 + 6 * p + 1))) c 25 0 (itn (nx S (clr S p (S (74 + 6 * p + 1)))) 25 (mm_ishl 1 (S (74 + 6 * p))))) (mk s) := by
  have wp := wf_p hw p0 p1
  have sb := sub_bit hw wp.1 wp.2.1
  have g := lp_fewestCleared h hw Z c (clr S p (S (74 + 6 * p + 1))) c0 c1 0 (by omega) _ (sub_itn hw (clr S p (S (74 + 6 * p + 1))) 25 sb) (by omega)
  rw [B_X9_fewestCleared]
  simp (disch := first | assumption | omega) only [↓sm, ↓reduceIte, ↓if_pos, ↓if_neg, kI, kJ, kR, kV, w32_eq, w64_eq, reduceCtorEq, Int.reduceAdd, Int.reduceMul, Int.reduceSub, o_c66, ↓o_g66_0, ↓o_g66_1, ↓c_wclear h hw Z, ↓c_ownCell h hw Z, ↓k_bit Z, ↓c_within h hw Z, show (25 : Int).toNat = 25 from rfl, g]
def whS (S : Int → Int) (x : Int) : Int := bz (fun p => decide (mm_iand x (mm_ixor (cms S p) (-1)) = 0)) (S 3)
theorem lp_who {s : mS} {S N : Int → Int} (h : CS s 7 S N) (hw : WF S) (Z : mX) (x : Int) : ∀ i : Int, i ≤ S 3 → 0 ≤ i → mm_at (zP Z) 128 4 [some (.inr (.inr (some 66))), some (.inl x), some (.inl ((bz (fun p => decide (mm_iand x (mm_ixor (cms S p) (-1)) = 0)) i))), some (.inl i)] [] (mk s) = some (some (.inl (whS S x)), mk s) := by
  have w := wf0 hw
  refine up ?_ ?_
  · intro h0
    rw [B_X9_whoComeToAll_4]
    simp (disch := first | assumption | omega) only [↓sm, ↓reduceIte, ↓if_pos, ↓if_neg, kI, kJ, kR, kV, w32_eq, w64_eq, reduceCtorEq, Int.reduceAdd, Int.reduceMul, Int.reduceSub, o_c66, ↓o_g66_0, ↓o_g66_1, o_c7, ↓o_g7_4, ↓o_g7_5, ↓o_g7_7, ↓o_g7_8, ↓o_g7_9, ↓o_g7_11, ↓o_g7_12, ↓o_g7_13, ↓o_g7_14, ↓o_g7_15, ↓o_g7_16, ↓o_g7_17, ↓q_wide h, ↓q_high h, ↓q_odds h, ↓q_year h, ↓q_less h, ↓q_pups h, ↓q_thorns h Z, ↓q_berries h Z, ↓q_hours h hw Z, ↓q_needs h hw Z, ↓q_at h hw Z, ↓q_want h hw Z, ↓q_knows h hw Z, ↓q_caught h hw Z, ↓q_marks h hw Z, ↓q_torn h hw Z]
    rfl
  · intro i hi ih h0
    rw [B_X9_whoComeToAll_4]
    by_cases hz : mm_iand x (mm_ixor (cms S i) (-1)) = 0
    · have e := bz_or1 (fun p => decide (mm_iand x (mm_ixor (cms S p) (-1)) = 0)) h0 (by omega) (by simpa using hz)
      simp (disch := first | assumption | omega) only [↓sm, ↓reduceIte, ↓if_pos, ↓if_neg, kI, kJ, kR, kV, w32_eq, w64_eq, reduceCtorEq, Int.reduceAdd, Int.reduceMul, Int.reduceSub, o_c66, ↓o_g66_0, ↓o_g66_1, o_c7, ↓o_g7_4, ↓o_g7_5, ↓o_g7_7, ↓o_g7_8, ↓o_g7_9, ↓o_g7_11, ↓o_g7_12, ↓o_g7_13, ↓o_g7_14, ↓o_g7_15, ↓o_g7_16, ↓o_g7_17, ↓q_wide h, ↓q_high h, ↓q_odds h, ↓q_year h, ↓q_less h, ↓q_pups h, ↓q_thorns h Z, ↓q_berries h Z, ↓q_hours h hw Z, ↓q_needs h hw Z, ↓q_at h hw Z, ↓q_want h hw Z, ↓q_knows h hw Z, ↓q_caught h hw Z, ↓q_marks h hw Z, ↓q_torn h hw Z, ↓c_comeSet h hw Z, hz, ↓k_bit Z, e]
      exact ih (by omega)
    · have e := bz_or0 (fun p => decide (mm_iand x (mm_ixor (cms S p) (-1)) = 0)) h0 (by simpa using hz)
      simp (disch := first | assumption | omega) only [↓sm, ↓reduceIte, ↓if_pos, ↓if_neg, kI, kJ, kR, kV, w32_eq, w64_eq, reduceCtorEq, Int.reduceAdd, Int.reduceMul, Int.reduceSub, o_c66, ↓o_g66_0, ↓o_g66_1, o_c7, ↓o_g7_4, ↓o_g7_5, ↓o_g7_7, ↓o_g7_8, ↓o_g7_9, ↓o_g7_11, ↓o_g7_12, ↓o_g7_13, ↓o_g7_14, ↓o_g7_15, ↓o_g7_16, ↓o_g7_17, ↓q_wide h, ↓q_high h, ↓q_odds h, ↓q_year h, ↓q_less h, ↓q_pups h, ↓q_thorns h Z, ↓q_berries h Z, ↓q_hours h hw Z, ↓q_needs h hw Z, ↓q_at h hw Z, ↓q_want h hw Z, ↓q_knows h hw Z, ↓q_caught h hw Z, ↓q_marks h hw Z, ↓q_torn h hw Z, ↓c_comeSet h hw Z, hz, ← e]
      exact ih (by omega)
theorem c_who {s : mS} {S N : Int → Int} (h : CS s 7 S N) (hw : WF S) (Z : mX) (x : Int) (f : Int → mW → mO) : mm_kI (mm_run (zP Z) 128 [.inr (.inr (some 66)), .inl x] (mk s)) f = f (whS S x) (mk s) := by
  have w := wf0 hw
  have e := lp_who h hw Z x 0 (by omega) (by omega)
  rw [bz_0] at e
  rw [B_X9_whoComeToAll, e, kI]
