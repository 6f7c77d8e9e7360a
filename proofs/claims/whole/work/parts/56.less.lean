/-! lessons: alone, together, orders, orderAt, left -/
def anF (S : Int → Int) : Nat → Int → Int
  | 0, x => x
  | n + 1, x => anF S n (if tb x n then mm_ior x (S (60 + 2 * (n : Int) + 1)) else x)
theorem lp_allFor {s : mS} {S N : Int → Int} (h : CS s 7 S N) (hw : WF S) (Z : mX) : ∀ n : Nat, (n : Int) ≤ S 2 → ∀ x : Int, mm_at (zP Z) 22 5 [some (.inr (.inr (some 68))), none, some (.inl x), some (.inl (((n : Int) - 1)))] [] (mk s) = some (some (.inl (anF S n x)), mk s) := by
  have w := wf0 hw
  intro n
  induction n with
  | zero =>
    intro _ x
    rw [B_X3_allFor_5]
    simp (disch := first | assumption | omega) only [↓sm, ↓reduceIte, ↓if_pos, ↓if_neg, kI, kJ, kR, kV, w32_eq, w64_eq, reduceCtorEq, Int.reduceAdd, Int.reduceMul, Int.reduceSub]
    rfl
  | succ n ih =>
    intro hn x
    rw [show ((n + 1 : Nat) : Int) - 1 = (n : Int) by omega, B_X3_allFor_5]
    unfold anF
    cases ht : tb x n
    · have g := ih (by omega) x
      rw [show (n : Int) - 1 = (n : Int) + -1 by omega] at g
      simp (disch := first | assumption | omega) only [↓sm, ↓reduceIte, ↓if_pos, ↓if_neg, kI, kJ, kR, kV, w32_eq, w64_eq, reduceCtorEq, Int.reduceAdd, Int.reduceMul, Int.reduceSub, o_c68, ↓o_g68_0, ↓o_g68_1, ↓o_g68_2, o_c7, ↓o_g7_4, ↓o_g7_5, ↓o_g7_7, ↓o_g7_8, ↓o_g7_9, ↓o_g7_11, ↓o_g7_12, ↓o_g7_13, ↓o_g7_14, ↓o_g7_15, ↓o_g7_16, ↓o_g7_17, ↓q_wide h, ↓q_high h, ↓q_odds h, ↓q_year h, ↓q_less h, ↓q_pups h, ↓q_thorns h Z, ↓q_berries h Z, ↓q_hours h hw Z, ↓q_needs h hw Z, ↓q_at h hw Z, ↓q_want h hw Z, ↓q_knows h hw Z, ↓q_caught h hw Z, ↓q_marks h hw Z, ↓q_torn h hw Z, ↓k_has Z, b2i_0, Int.toNat_natCast, ht, Bool.false_eq_true, g]
    · have g := ih (by omega) (mm_ior x (S (60 + 2 * (n : Int) + 1)))
      rw [show (n : Int) - 1 = (n : Int) + -1 by omega] at g
      simp (disch := first | assumption | omega) only [↓sm, ↓reduceIte, ↓if_pos, ↓if_neg, kI, kJ, kR, kV, w32_eq, w64_eq, reduceCtorEq, Int.reduceAdd, Int.reduceMul, Int.reduceSub, o_c68, ↓o_g68_0, ↓o_g68_1, ↓o_g68_2, o_c7, ↓o_g7_4, ↓o_g7_5, ↓o_g7_7, ↓o_g7_8, ↓o_g7_9, ↓o_g7_11, ↓o_g7_12, ↓o_g7_13, ↓o_g7_14, ↓o_g7_15, ↓o_g7_16, ↓o_g7_17, ↓q_wide h, ↓q_high h, ↓q_odds h, ↓q_year h, ↓q_less h, ↓q_pups h, ↓q_thorns h Z, ↓q_berries h Z, ↓q_hours h hw Z, ↓q_needs h hw Z, ↓q_at h hw Z, ↓q_want h hw Z, ↓q_knows h hw Z, ↓q_caught h hw Z, ↓q_marks h hw Z, ↓q_torn h hw Z, ↓k_has Z, b2i_0, Int.toNat_natCast, ht, g]
def anS (S : Int → Int) (l : Int) : Int := anF S (l.toNat + 1) (mm_ishl 1 l)
theorem c_allFor {s : mS} {S N : Int → Int} (h : CS s 7 S N) (hw : WF S) (Z : mX) (l : Int) (l0 : 0 ≤ l) (l1 : l < S 2) (f : Int → mW → mO) : mm_kI (mm_run (zP Z) 22 [.inr (.inr (some 68)), .inl l] (mk s)) f = f (anS S l) (mk s) := by
  have g := lp_allFor h hw Z (l.toNat + 1) (by omega) (mm_ishl 1 l)
  rw [show ((l.toNat + 1 : Nat) : Int) - 1 = l by omega] at g
  rw [B_X3_allFor]
  simp (disch := first | assumption | omega) only [↓sm, ↓reduceIte, ↓if_pos, ↓if_neg, kI, kJ, kR, kV, w32_eq, w64_eq, reduceCtorEq, Int.reduceAdd, Int.reduceMul, Int.reduceSub, ↓k_bit Z, g]
  rfl
def hoP (S : Int → Int) (x : Int) : Int → Int := fun k => if tb x k.toNat then S (60 + 2 * k) else 0
def hoS (S : Int → Int) (x : Int) : Int := sumI (hoP S x) (S 2).toNat
theorem hoP_r {S : Int → Int} (hw : WF S) (x : Int) {k : Int} (k0 : 0 ≤ k) (k1 : k < S 2) : 0 ≤ hoP S x k ∧ hoP S x k ≤ 9 := by
  have := wf_l hw k0 k1
  unfold hoP
  split <;> omega
theorem hoP_s (S : Int → Int) (x : Int) {i : Int} (i0 : 0 ≤ i) : sumI (hoP S x) (i + 1).toNat = sumI (hoP S x) i.toNat + hoP S x i := by
  rw [show (i + 1).toNat = i.toNat + 1 by omega]
  show sumI _ i.toNat + hoP S x (i.toNat : Int) = _
  rw [Int.toNat_of_nonneg i0]
theorem lp_hoursOf {s : mS} {S N : Int → Int} (h : CS s 7 S N) (hw : WF S) (Z : mX) (x : Int) : ∀ i : Int, i ≤ S 2 → 0 ≤ i → mm_at (zP Z) 23 4 [some (.inr (.inr (some 68))), some (.inl x), some (.inl ((sumI (hoP S x) i.toNat))), some (.inl i)] [] (mk s) = some (some (.inl (hoS S x)), mk s) := by
  have w := wf0 hw
  refine up ?_ ?_
  · intro i0
    rw [B_X3_hoursOf_4]
    simp (disch := first | assumption | omega) only [↓sm, ↓reduceIte, ↓if_pos, ↓if_neg, kI, kJ, kR, kV, w32_eq, w64_eq, reduceCtorEq, Int.reduceAdd, Int.reduceMul, Int.reduceSub, o_c68, ↓o_g68_0, ↓o_g68_1, ↓o_g68_2, o_c7, ↓o_g7_4, ↓o_g7_5, ↓o_g7_7, ↓o_g7_8, ↓o_g7_9, ↓o_g7_11, ↓o_g7_12, ↓o_g7_13, ↓o_g7_14, ↓o_g7_15, ↓o_g7_16, ↓o_g7_17, ↓q_wide h, ↓q_high h, ↓q_odds h, ↓q_year h, ↓q_less h, ↓q_pups h, ↓q_thorns h Z, ↓q_berries h Z, ↓q_hours h hw Z, ↓q_needs h hw Z, ↓q_at h hw Z, ↓q_want h hw Z, ↓q_knows h hw Z, ↓q_caught h hw Z, ↓q_marks h hw Z, ↓q_torn h hw Z]
    rfl
  · intro i hi ih i0
    have g1 := sumI_ge (hoP S x) 9 i.toNat (fun j h0 h1 => hoP_r hw x h0 (by omega))
    have g2 := wf_l hw i0 hi
    have g := ih (by omega)
    rw [hoP_s S x i0] at g
    rw [B_X3_hoursOf_4]
    cases ht : tb x i.toNat
    · have e : hoP S x i = 0 := by unfold hoP; rw [ht]; rfl
      rw [e, Int.add_zero] at g
      simp (disch := first | assumption | omega) only [↓sm, ↓reduceIte, ↓if_pos, ↓if_neg, kI, kJ, kR, kV, w32_eq, w64_eq, reduceCtorEq, Int.reduceAdd, Int.reduceMul, Int.reduceSub, o_c68, ↓o_g68_0, ↓o_g68_1, ↓o_g68_2, o_c7, ↓o_g7_4, ↓o_g7_5, ↓o_g7_7, ↓o_g7_8, ↓o_g7_9, ↓o_g7_11, ↓o_g7_12, ↓o_g7_13, ↓o_g7_14, ↓o_g7_15, ↓o_g7_16, ↓o_g7_17, ↓q_wide h, ↓q_high h, ↓q_odds h, ↓q_year h, ↓q_less h, ↓q_pups h, ↓q_thorns h Z, ↓q_berries h Z, ↓q_hours h hw Z, ↓q_needs h hw Z, ↓q_at h hw Z, ↓q_want h hw Z, ↓q_knows h hw Z, ↓q_caught h hw Z, ↓q_marks h hw Z, ↓q_torn h hw Z, ↓k_has Z, b2i_0, ht, g]
    · have e : hoP S x i = S (60 + 2 * i) := by unfold hoP; rw [ht]; rfl
      rw [e] at g
      simp (disch := first | assumption | omega) only [↓sm, ↓reduceIte, ↓if_pos, ↓if_neg, kI, kJ, kR, kV, w32_eq, w64_eq, reduceCtorEq, Int.reduceAdd, Int.reduceMul, Int.reduceSub, o_c68, ↓o_g68_0, ↓o_g68_1, ↓o_g68_2, o_c7, ↓o_g7_4, ↓o_g7_5, ↓o_g7_7, ↓o_g7_8, ↓o_g7_9, ↓o_g7_11, ↓o_g7_12, ↓o_g7_13, ↓o_g7_14, ↓o_g7_15, ↓o_g7_16, ↓o_g7_17, ↓q_wide h, ↓q_high h, ↓q_odds h, ↓q_year h, ↓q_less h, ↓q_pups h, ↓q_thorns h Z, ↓q_berries h Z, ↓q_hours h hw Z, ↓q_needs h hw Z, ↓q_at h hw Z, ↓q_want h hw Z, ↓q_knows h hw Z, ↓q_caught h hw Z, ↓q_marks h hw Z, ↓q_torn h hw Z, ↓k_has Z, b2i_0, ht, g]
theorem c_hoursOf {s : mS} {S N : Int → Int} (h : CS s 7 S N) (hw : WF S) (Z : mX) (x : Int) (f : Int → mW → mO) : mm_kI (mm_run (zP Z) 23 [.inr (.inr (some 68)), .inl x] (mk s)) f = f (hoS S x) (mk s) := by
  have w := wf0 hw
  have g := lp_hoursOf h hw Z x 0 (by omega) (by omega)
  rw [show sumI (hoP S x) (Int.toNat 0) = 0 from rfl] at g
  rw [B_X3_hoursOf, g, kI]
theorem lp_allNeeds {s : mS} {S : Int → Int} (e : s.2 142 = S) (hw : WF S) (Z : mX) : ∀ n : Nat, (n : Int) ≤ S 2 → ∀ x : Int, zR32 x → mm_at (zP Z) 325 6 [some (.inr (.inr (some 141))), none, some (.inl x), some (.inl (((n : Int) - 1)))] [] (mk s) = some (some (.inl (anF S n x)), mk s) := by
  have w := wf0 hw
  intro n
  induction n with
  | zero =>
    intro _ x _
    rw [B_X12_allNeeds_6]
    simp (disch := first | assumption | omega) only [↓sm, ↓reduceIte, ↓if_pos, ↓if_neg, kI, kJ, kR, kV, w32_eq, w64_eq, reduceCtorEq, Int.reduceAdd, Int.reduceMul, Int.reduceSub]
    rfl
  | succ n ih =>
    intro hn x hx
    rw [show ((n + 1 : Nat) : Int) - 1 = (n : Int) by omega, B_X12_allNeeds_6]
    unfold anF
    cases ht : tb x n
    · have g := ih (by omega) x hx
      rw [show (n : Int) - 1 = (n : Int) + -1 by omega] at g
      simp (disch := first | assumption | omega) only [↓sm, ↓reduceIte, ↓if_pos, ↓if_neg, kI, kJ, kR, kV, w32_eq, w64_eq, reduceCtorEq, Int.reduceAdd, Int.reduceMul, Int.reduceSub, o_c141, ↓o_g141_0, ↓o_g141_1, ↓o_g141_5, ↓o_g141_6, ↓o_g141_7, ↓o_g141_8, ↓o_g141_9, ↓o_g141_21, ↓o_g141_25, ↓o_g141_26, ↓o_g141_27, ↓o_g141_28, ↓o_g141_29, ↓o_g141_30, ↓o_g141_31, ↓o_g141_34, ↓o_g141_35, ↓o_g141_36, ↓r_isIn Z, b2i_0, Int.toNat_natCast, ht, Bool.false_eq_true, p2_or0 x hx, g]
    · have g := ih (by omega) (mm_ior x (S (60 + 2 * (n : Int) + 1))) (zr_32 _)
      rw [show (n : Int) - 1 = (n : Int) + -1 by omega] at g
      simp (disch := first | assumption | omega) only [↓sm, ↓reduceIte, ↓if_pos, ↓if_neg, kI, kJ, kR, kV, w32_eq, w64_eq, reduceCtorEq, Int.reduceAdd, Int.reduceMul, Int.reduceSub, o_c141, ↓o_g141_0, ↓o_g141_1, ↓o_g141_5, ↓o_g141_6, ↓o_g141_7, ↓o_g141_8, ↓o_g141_9, ↓o_g141_21, ↓o_g141_25, ↓o_g141_26, ↓o_g141_27, ↓o_g141_28, ↓o_g141_29, ↓o_g141_30, ↓o_g141_31, ↓o_g141_34, ↓o_g141_35, ↓o_g141_36, ↓r_isIn Z, ↓r_needsOf e hw Z, b2i_0, Int.toNat_natCast, ht, g]
theorem r_allNeeds {s : mS} {S : Int → Int} (e : s.2 142 = S) (hw : WF S) (Z : mX) (l : Int) (l0 : 0 ≤ l) (l1 : l < S 2) (f : Int → mW → mO) : mm_kI (mm_run (zP Z) 325 [.inr (.inr (some 141)), .inl l] (mk s)) f = f (anS S l) (mk s) := by
  have g := lp_allNeeds e hw Z (l.toNat + 1) (by omega) (mm_ishl 1 l) (zr_32 _)
  rw [show ((l.toNat + 1 : Nat) : Int) - 1 = l by omega] at g
  rw [B_X12_allNeeds]
  simp (disch := first | assumption | omega) only [↓sm, ↓reduceIte, ↓if_pos, ↓if_neg, kI, kJ, kR, kV, w32_eq, w64_eq, reduceCtorEq, Int.reduceAdd, Int.reduceMul, Int.reduceSub, g]
  rfl
theorem lp_rhoursOf {s : mS} {S : Int → Int} (e : s.2 142 = S) (hw : WF S) (Z : mX) (x : Int) : ∀ i : Int, i ≤ S 2 → 0 ≤ i → mm_at (zP Z) 326 4 [some (.inr (.inr (some 141))), some (.inl x), some (.inl ((sumI (hoP S x) i.toNat))), some (.inl i)] [] (mk s) = some (some (.inl (hoS S x)), mk s) := by
  have w := wf0 hw
  refine up ?_ ?_
  · intro i0
    rw [B_X12_hoursOf_4]
    simp (disch := first | assumption | omega) only [↓sm, ↓reduceIte, ↓if_pos, ↓if_neg, kI, kJ, kR, kV, w32_eq, w64_eq, reduceCtorEq, Int.reduceAdd, Int.reduceMul, Int.reduceSub, o_c141, ↓o_g141_0, ↓o_g141_1, ↓o_g141_5, ↓o_g141_6, ↓o_g141_7, ↓o_g141_8, ↓o_g141_9, ↓o_g141_21, ↓o_g141_25, ↓o_g141_26, ↓o_g141_27, ↓o_g141_28, ↓o_g141_29, ↓o_g141_30, ↓o_g141_31, ↓o_g141_34, ↓o_g141_35, ↓o_g141_36, ↓r_at e]
    rfl
  · intro i hi ih i0
    have g1 := sumI_ge (hoP S x) 9 i.toNat (fun j h0 h1 => hoP_r hw x h0 (by omega))
    have g2 := wf_l hw i0 hi
    have g := ih (by omega)
    rw [hoP_s S x i0] at g
    rw [B_X12_hoursOf_4]
    cases ht : tb x i.toNat
    · have e1 : hoP S x i = 0 := by unfold hoP; rw [ht]; rfl
      rw [e1, Int.add_zero] at g
      simp (disch := first | assumption | omega) only [↓sm, ↓reduceIte, ↓if_pos, ↓if_neg, kI, kJ, kR, kV, w32_eq, w64_eq, reduceCtorEq, Int.reduceAdd, Int.reduceMul, Int.reduceSub, o_c141, ↓o_g141_0, ↓o_g141_1, ↓o_g141_5, ↓o_g141_6, ↓o_g141_7, ↓o_g141_8, ↓o_g141_9, ↓o_g141_21, ↓o_g141_25, ↓o_g141_26, ↓o_g141_27, ↓o_g141_28, ↓o_g141_29, ↓o_g141_30, ↓o_g141_31, ↓o_g141_34, ↓o_g141_35, ↓o_g141_36, ↓r_at e, ↓r_isIn Z, b2i_0, ht, Int.add_zero, g]
    · have e1 : hoP S x i = S (60 + 2 * i) := by unfold hoP; rw [ht]; rfl
      rw [e1] at g
      simp (disch := first | assumption | omega) only [↓sm, ↓reduceIte, ↓if_pos, ↓if_neg, kI, kJ, kR, kV, w32_eq, w64_eq, reduceCtorEq, Int.reduceAdd, Int.reduceMul, Int.reduceSub, o_c141, ↓o_g141_0, ↓o_g141_1, ↓o_g141_5, ↓o_g141_6, ↓o_g141_7, ↓o_g141_8, ↓o_g141_9, ↓o_g141_21, ↓o_g141_25, ↓o_g141_26, ↓o_g141_27, ↓o_g141_28, ↓o_g141_29, ↓o_g141_30, ↓o_g141_31, ↓o_g141_34, ↓o_g141_35, ↓o_g141_36, ↓r_at e, ↓r_isIn Z, ↓r_lessonRow Z, b2i_0, ht, g]
theorem r_hoursOf {s : mS} {S : Int → Int} (e : s.2 142 = S) (hw : WF S) (Z : mX) (x : Int) (f : Int → mW → mO) : mm_kI (mm_run (zP Z) 326 [.inr (.inr (some 141)), .inl x] (mk s)) f = f (hoS S x) (mk s) := by
  have w := wf0 hw
  have g := lp_rhoursOf e hw Z x 0 (by omega) (by omega)
  rw [show sumI (hoP S x) (Int.toNat 0) = 0 from rfl] at g
  rw [B_X12_hoursOf, g, kI]
theorem op_alone (Z : mX) (s : mS) (hI : Inv s) (l : Int) : OpI Z s 171 327 [.inl l] := by
  have h := hI.2.2.1.2
  have hw := hI.2.2.1.1
  by_cases hl : 0 ≤ l ∧ l < s.2 142 2
  · refine op_rd hI (hoS (s.2 142) (anS (s.2 142) l)) 0 (fun f => ?_) (fun t e f => ?_)
    · rw [B_X11_alone]
      simp (disch := first | assumption | omega) only [↓sm, ↓reduceIte, ↓if_pos, ↓if_neg, kI, kJ, kR, kV, w32_eq, w64_eq, reduceCtorEq, Int.reduceAdd, Int.reduceMul, Int.reduceSub, o_c3, ↓o_g3_0, ↓o_g3_1, ↓o_g3_2, ↓o_g3_3, ↓o_g3_4, ↓o_g3_5, ↓o_g3_6, ↓o_g3_7, ↓o_g3_8, ↓o_g3_9, ↓o_g3_10, ↓o_g3_11, ↓o_g3_12, ↓o_g3_13, ↓o_g3_14, ↓o_g3_15, ↓o_g3_16, ↓o_g3_17, ↓a_ln4, ↓a_ld4, ↓a_ln61, ↓a_ld61, ↓a_ln62, ↓a_ld62, o_c7, ↓o_g7_4, ↓o_g7_5, ↓o_g7_7, ↓o_g7_8, ↓o_g7_9, ↓o_g7_11, ↓o_g7_12, ↓o_g7_13, ↓o_g7_14, ↓o_g7_15, ↓o_g7_16, ↓o_g7_17, ↓q_wide h, ↓q_high h, ↓q_odds h, ↓q_year h, ↓q_less h, ↓q_pups h, ↓q_thorns h Z, ↓q_berries h Z, ↓q_hours h hw Z, ↓q_needs h hw Z, ↓q_at h hw Z, ↓q_want h hw Z, ↓q_knows h hw Z, ↓q_caught h hw Z, ↓q_marks h hw Z, ↓q_torn h hw Z, ↓c_cells h hw Z, ↓c_hasCell_t h hw Z, ↓c_hasCell_f h hw Z, ↓c_hasLesson_t h hw Z, ↓c_hasLesson_f h hw Z, ↓c_hasPupil_t h hw Z, ↓c_hasPupil_f h hw Z, ↓c_isCellNumber_t h hw Z, ↓c_isCellNumber_f h hw Z, ↓c_beside h hw Z, ↓c_touch h hw Z, ↓c_catchOf h hw Z, ↓c_clearSet h hw Z, ↓c_isCaught_t h hw Z, ↓c_isCaught_f h hw Z, ↓c_caughtSet h hw Z, ↓c_pupilsAt h hw Z, ↓c_pupilsWhoKnow h hw Z, ↓c_areNear h hw Z, ↓c_canHelp h hw Z, ↓c_helperSet h hw Z, ↓c_nextLesson h hw Z, ↓c_isNearSome h hw Z, ↓c_freedSet h hw Z, ↓d_none Z, ↓d_done Z, ↓d_refused Z, ↓d_granted Z, o_c68, ↓c_allFor h hw Z, ↓c_hoursOf h hw Z]
    · rw [B_X12_alone]
      simp (disch := first | assumption | omega) only [↓sm, ↓reduceIte, ↓if_pos, ↓if_neg, kI, kJ, kR, kV, w32_eq, w64_eq, reduceCtorEq, Int.reduceAdd, Int.reduceMul, Int.reduceSub, o_c141, ↓o_g141_0, ↓o_g141_1, ↓o_g141_5, ↓o_g141_6, ↓o_g141_7, ↓o_g141_8, ↓o_g141_9, ↓o_g141_21, ↓o_g141_25, ↓o_g141_26, ↓o_g141_27, ↓o_g141_28, ↓o_g141_29, ↓o_g141_30, ↓o_g141_31, ↓o_g141_34, ↓o_g141_35, ↓o_g141_36, ↓r_pupilAt e hw Z, ↓r_at e, ↓r_atw e, ↓r_cellsOf e hw Z, ↓r_isCell_t e hw Z, ↓r_isCell_f e hw Z, ↓r_isLesson_t e hw Z, ↓r_isLesson_f e hw Z, ↓r_isPupil_t e hw Z, ↓r_isPupil_f e hw Z, ↓r_pupilOf e hw Z, ↓r_needsOf e hw Z, ↓r_catchBy e hw Z, ↓r_catchOf e hw Z, ↓r_isCaught_t e hw Z, ↓r_isCaught_f e hw Z, ↓r_allCaught e hw Z, ↓r_whoIs0 e hw Z, ↓r_whoIs1 e hw Z, ↓r_sideOf e hw Z, ↓r_isNear e hw Z, ↓r_nextLesson e hw Z, ↓r_canFree e hw Z, ↓r_nearTo e hw Z, ↓r_isIn Z, ↓r_pupilRow Z, ↓r_lessonRow Z, ↓k_bits Z, ↓d_refuse Z, ↓d_gives Z, ↓d_is0 Z, ↓d_is1 Z, ↓d_isFrom_t Z, ↓d_isFrom_f Z, ↓d_orNone_t Z, ↓d_orNone_f Z, ↓r_allNeeds e hw Z, ↓r_hoursOf e hw Z]
  · refine op_rd hI (-1) 1 (fun f => ?_) (fun t e f => ?_)
    · rw [B_X11_alone]
      simp (disch := first | assumption | omega) only [↓sm, ↓reduceIte, ↓if_pos, ↓if_neg, kI, kJ, kR, kV, w32_eq, w64_eq, reduceCtorEq, Int.reduceAdd, Int.reduceMul, Int.reduceSub, o_c3, ↓o_g3_0, ↓o_g3_1, ↓o_g3_2, ↓o_g3_3, ↓o_g3_4, ↓o_g3_5, ↓o_g3_6, ↓o_g3_7, ↓o_g3_8, ↓o_g3_9, ↓o_g3_10, ↓o_g3_11, ↓o_g3_12, ↓o_g3_13, ↓o_g3_14, ↓o_g3_15, ↓o_g3_16, ↓o_g3_17, ↓a_ln4, ↓a_ld4, ↓a_ln61, ↓a_ld61, ↓a_ln62, ↓a_ld62, o_c7, ↓o_g7_4, ↓o_g7_5, ↓o_g7_7, ↓o_g7_8, ↓o_g7_9, ↓o_g7_11, ↓o_g7_12, ↓o_g7_13, ↓o_g7_14, ↓o_g7_15, ↓o_g7_16, ↓o_g7_17, ↓q_wide h, ↓q_high h, ↓q_odds h, ↓q_year h, ↓q_less h, ↓q_pups h, ↓q_thorns h Z, ↓q_berries h Z, ↓q_hours h hw Z, ↓q_needs h hw Z, ↓q_at h hw Z, ↓q_want h hw Z, ↓q_knows h hw Z, ↓q_caught h hw Z, ↓q_marks h hw Z, ↓q_torn h hw Z, ↓c_cells h hw Z, ↓c_hasCell_t h hw Z, ↓c_hasCell_f h hw Z, ↓c_hasLesson_t h hw Z, ↓c_hasLesson_f h hw Z, ↓c_hasPupil_t h hw Z, ↓c_hasPupil_f h hw Z, ↓c_isCellNumber_t h hw Z, ↓c_isCellNumber_f h hw Z, ↓c_beside h hw Z, ↓c_touch h hw Z, ↓c_catchOf h hw Z, ↓c_clearSet h hw Z, ↓c_isCaught_t h hw Z, ↓c_isCaught_f h hw Z, ↓c_caughtSet h hw Z, ↓c_pupilsAt h hw Z, ↓c_pupilsWhoKnow h hw Z, ↓c_areNear h hw Z, ↓c_canHelp h hw Z, ↓c_helperSet h hw Z, ↓c_nextLesson h hw Z, ↓c_isNearSome h hw Z, ↓c_freedSet h hw Z, ↓d_none Z, ↓d_done Z, ↓d_refused Z, ↓d_granted Z]
    · rw [B_X12_alone]
      simp (disch := first | assumption | omega) only [↓sm, ↓reduceIte, ↓if_pos, ↓if_neg, kI, kJ, kR, kV, w32_eq, w64_eq, reduceCtorEq, Int.reduceAdd, Int.reduceMul, Int.reduceSub, o_c141, ↓o_g141_0, ↓o_g141_1, ↓o_g141_5, ↓o_g141_6, ↓o_g141_7, ↓o_g141_8, ↓o_g141_9, ↓o_g141_21, ↓o_g141_25, ↓o_g141_26, ↓o_g141_27, ↓o_g141_28, ↓o_g141_29, ↓o_g141_30, ↓o_g141_31, ↓o_g141_34, ↓o_g141_35, ↓o_g141_36, ↓r_pupilAt e hw Z, ↓r_at e, ↓r_atw e, ↓r_cellsOf e hw Z, ↓r_isCell_t e hw Z, ↓r_isCell_f e hw Z, ↓r_isLesson_t e hw Z, ↓r_isLesson_f e hw Z, ↓r_isPupil_t e hw Z, ↓r_isPupil_f e hw Z, ↓r_pupilOf e hw Z, ↓r_needsOf e hw Z, ↓r_catchBy e hw Z, ↓r_catchOf e hw Z, ↓r_isCaught_t e hw Z, ↓r_isCaught_f e hw Z, ↓r_allCaught e hw Z, ↓r_whoIs0 e hw Z, ↓r_whoIs1 e hw Z, ↓r_sideOf e hw Z, ↓r_isNear e hw Z, ↓r_nextLesson e hw Z, ↓r_canFree e hw Z, ↓r_nearTo e hw Z, ↓r_isIn Z, ↓r_pupilRow Z, ↓r_lessonRow Z, ↓k_bits Z, ↓d_refuse Z, ↓d_gives Z, ↓d_is0 Z, ↓d_is1 Z, ↓d_isFrom_t Z, ↓d_isFrom_f Z, ↓d_orNone_t Z, ↓d_orNone_f Z]
theorem op_left (Z : mX) (s : mS) (hI : Inv s) (p l : Int) : OpI Z s 175 331 [.inl p, .inl l] := by
  have h := hI.2.2.1.2
  have hw := hI.2.2.1.1
  have w := wf0 hw
  by_cases hp : 0 ≤ p ∧ p < s.2 142 3
  · by_cases hl : 0 ≤ l ∧ l < s.2 142 2
    · cases hb : tb (s.2 142 (74 + 6 * p + 2)) l.toNat
      · refine op_rd hI (hoS (s.2 142) (mm_iand (anS (s.2 142) l) (mm_ixor (s.2 142 (74 + 6 * p + 2)) (-1)))) 0 (fun f => ?_) (fun t e f => ?_)
        · rw [B_X11_left]
          simp (disch := first | assumption | omega) only [↓sm, ↓reduceIte, ↓if_pos, ↓if_neg, kI, kJ, kR, kV, w32_eq, w64_eq, reduceCtorEq, Int.reduceAdd, Int.reduceMul, Int.reduceSub, o_c3, ↓o_g3_0, ↓o_g3_1, ↓o_g3_2, ↓o_g3_3, ↓o_g3_4, ↓o_g3_5, ↓o_g3_6, ↓o_g3_7, ↓o_g3_8, ↓o_g3_9, ↓o_g3_10, ↓o_g3_11, ↓o_g3_12, ↓o_g3_13, ↓o_g3_14, ↓o_g3_15, ↓o_g3_16, ↓o_g3_17, ↓a_ln4, ↓a_ld4, ↓a_ln61, ↓a_ld61, ↓a_ln62, ↓a_ld62, o_c7, ↓o_g7_4, ↓o_g7_5, ↓o_g7_7, ↓o_g7_8, ↓o_g7_9, ↓o_g7_11, ↓o_g7_12, ↓o_g7_13, ↓o_g7_14, ↓o_g7_15, ↓o_g7_16, ↓o_g7_17, ↓q_wide h, ↓q_high h, ↓q_odds h, ↓q_year h, ↓q_less h, ↓q_pups h, ↓q_thorns h Z, ↓q_berries h Z, ↓q_hours h hw Z, ↓q_needs h hw Z, ↓q_at h hw Z, ↓q_want h hw Z, ↓q_knows h hw Z, ↓q_caught h hw Z, ↓q_marks h hw Z, ↓q_torn h hw Z, ↓c_cells h hw Z, ↓c_hasCell_t h hw Z, ↓c_hasCell_f h hw Z, ↓c_hasLesson_t h hw Z, ↓c_hasLesson_f h hw Z, ↓c_hasPupil_t h hw Z, ↓c_hasPupil_f h hw Z, ↓c_isCellNumber_t h hw Z, ↓c_isCellNumber_f h hw Z, ↓c_beside h hw Z, ↓c_touch h hw Z, ↓c_catchOf h hw Z, ↓c_clearSet h hw Z, ↓c_isCaught_t h hw Z, ↓c_isCaught_f h hw Z, ↓c_caughtSet h hw Z, ↓c_pupilsAt h hw Z, ↓c_pupilsWhoKnow h hw Z, ↓c_areNear h hw Z, ↓c_canHelp h hw Z, ↓c_helperSet h hw Z, ↓c_nextLesson h hw Z, ↓c_isNearSome h hw Z, ↓c_freedSet h hw Z, ↓d_none Z, ↓d_done Z, ↓d_refused Z, ↓d_granted Z, o_c68, ↓k_has Z, b2i_0, hb, ↓c_allFor h hw Z, ↓c_hoursOf h hw Z]
        · rw [B_X12_left]
          simp (disch := first | assumption | omega) only [↓sm, ↓reduceIte, ↓if_pos, ↓if_neg, kI, kJ, kR, kV, w32_eq, w64_eq, reduceCtorEq, Int.reduceAdd, Int.reduceMul, Int.reduceSub, o_c141, ↓o_g141_0, ↓o_g141_1, ↓o_g141_5, ↓o_g141_6, ↓o_g141_7, ↓o_g141_8, ↓o_g141_9, ↓o_g141_21, ↓o_g141_25, ↓o_g141_26, ↓o_g141_27, ↓o_g141_28, ↓o_g141_29, ↓o_g141_30, ↓o_g141_31, ↓o_g141_34, ↓o_g141_35, ↓o_g141_36, ↓r_pupilAt e hw Z, ↓r_at e, ↓r_atw e, ↓r_cellsOf e hw Z, ↓r_isCell_t e hw Z, ↓r_isCell_f e hw Z, ↓r_isLesson_t e hw Z, ↓r_isLesson_f e hw Z, ↓r_isPupil_t e hw Z, ↓r_isPupil_f e hw Z, ↓r_pupilOf e hw Z, ↓r_needsOf e hw Z, ↓r_catchBy e hw Z, ↓r_catchOf e hw Z, ↓r_isCaught_t e hw Z, ↓r_isCaught_f e hw Z, ↓r_allCaught e hw Z, ↓r_whoIs0 e hw Z, ↓r_whoIs1 e hw Z, ↓r_sideOf e hw Z, ↓r_isNear e hw Z, ↓r_nextLesson e hw Z, ↓r_canFree e hw Z, ↓r_nearTo e hw Z, ↓r_isIn Z, ↓r_pupilRow Z, ↓r_lessonRow Z, ↓k_bits Z, ↓d_refuse Z, ↓d_gives Z, ↓d_is0 Z, ↓d_is1 Z, ↓d_isFrom_t Z, ↓d_isFrom_f Z, ↓d_orNone_t Z, ↓d_orNone_f Z, b2i_0, hb, ↓r_allNeeds e hw Z, ↓r_hoursOf e hw Z]
      · refine op_rd hI 0 0 (fun f => ?_) (fun t e f => ?_)
        · rw [B_X11_left]
          simp (disch := first | assumption | omega) only [↓sm, ↓reduceIte, ↓if_pos, ↓if_neg, kI, kJ, kR, kV, w32_eq, w64_eq, reduceCtorEq, Int.reduceAdd, Int.reduceMul, Int.reduceSub, o_c3, ↓o_g3_0, ↓o_g3_1, ↓o_g3_2, ↓o_g3_3, ↓o_g3_4, ↓o_g3_5, ↓o_g3_6, ↓o_g3_7, ↓o_g3_8, ↓o_g3_9, ↓o_g3_10, ↓o_g3_11, ↓o_g3_12, ↓o_g3_13, ↓o_g3_14, ↓o_g3_15, ↓o_g3_16, ↓o_g3_17, ↓a_ln4, ↓a_ld4, ↓a_ln61, ↓a_ld61, ↓a_ln62, ↓a_ld62, o_c7, ↓o_g7_4, ↓o_g7_5, ↓o_g7_7, ↓o_g7_8, ↓o_g7_9, ↓o_g7_11, ↓o_g7_12, ↓o_g7_13, ↓o_g7_14, ↓o_g7_15, ↓o_g7_16, ↓o_g7_17, ↓q_wide h, ↓q_high h, ↓q_odds h, ↓q_year h, ↓q_less h, ↓q_pups h, ↓q_thorns h Z, ↓q_berries h Z, ↓q_hours h hw Z, ↓q_needs h hw Z, ↓q_at h hw Z, ↓q_want h hw Z, ↓q_knows h hw Z, ↓q_caught h hw Z, ↓q_marks h hw Z, ↓q_torn h hw Z, ↓c_cells h hw Z, ↓c_hasCell_t h hw Z, ↓c_hasCell_f h hw Z, ↓c_hasLesson_t h hw Z, ↓c_hasLesson_f h hw Z, ↓c_hasPupil_t h hw Z, ↓c_hasPupil_f h hw Z, ↓c_isCellNumber_t h hw Z, ↓c_isCellNumber_f h hw Z, ↓c_beside h hw Z, ↓c_touch h hw Z, ↓c_catchOf h hw Z, ↓c_clearSet h hw Z, ↓c_isCaught_t h hw Z, ↓c_isCaught_f h hw Z, ↓c_caughtSet h hw Z, ↓c_pupilsAt h hw Z, ↓c_pupilsWhoKnow h hw Z, ↓c_areNear h hw Z, ↓c_canHelp h hw Z, ↓c_helperSet h hw Z, ↓c_nextLesson h hw Z, ↓c_isNearSome h hw Z, ↓c_freedSet h hw Z, ↓d_none Z, ↓d_done Z, ↓d_refused Z, ↓d_granted Z, o_c68, ↓k_has Z, b2i_0, hb]
        · rw [B_X12_left]
          simp (disch := first | assumption | omega) only [↓sm, ↓reduceIte, ↓if_pos, ↓if_neg, kI, kJ, kR, kV, w32_eq, w64_eq, reduceCtorEq, Int.reduceAdd, Int.reduceMul, Int.reduceSub, o_c141, ↓o_g141_0, ↓o_g141_1, ↓o_g141_5, ↓o_g141_6, ↓o_g141_7, ↓o_g141_8, ↓o_g141_9, ↓o_g141_21, ↓o_g141_25, ↓o_g141_26, ↓o_g141_27, ↓o_g141_28, ↓o_g141_29, ↓o_g141_30, ↓o_g141_31, ↓o_g141_34, ↓o_g141_35, ↓o_g141_36, ↓r_pupilAt e hw Z, ↓r_at e, ↓r_atw e, ↓r_cellsOf e hw Z, ↓r_isCell_t e hw Z, ↓r_isCell_f e hw Z, ↓r_isLesson_t e hw Z, ↓r_isLesson_f e hw Z, ↓r_isPupil_t e hw Z, ↓r_isPupil_f e hw Z, ↓r_pupilOf e hw Z, ↓r_needsOf e hw Z, ↓r_catchBy e hw Z, ↓r_catchOf e hw Z, ↓r_isCaught_t e hw Z, ↓r_isCaught_f e hw Z, ↓r_allCaught e hw Z, ↓r_whoIs0 e hw Z, ↓r_whoIs1 e hw Z, ↓r_sideOf e hw Z, ↓r_isNear e hw Z, ↓r_nextLesson e hw Z, ↓r_canFree e hw Z, ↓r_nearTo e hw Z, ↓r_isIn Z, ↓r_pupilRow Z, ↓r_lessonRow Z, ↓k_bits Z, ↓d_refuse Z, ↓d_gives Z, ↓d_is0 Z, ↓d_is1 Z, ↓d_isFrom_t Z, ↓d_isFrom_f Z, ↓d_orNone_t Z, ↓d_orNone_f Z, b2i_0, hb]
    · refine op_rd hI (-1) 1 (fun f => ?_) (fun t e f => ?_)
      · rw [B_X11_left]
        simp (disch := first | assumption | omega) only [↓sm, ↓reduceIte, ↓if_pos, ↓if_neg, kI, kJ, kR, kV, w32_eq, w64_eq, reduceCtorEq, Int.reduceAdd, Int.reduceMul, Int.reduceSub, o_c3, ↓o_g3_0, ↓o_g3_1, ↓o_g3_2, ↓o_g3_3, ↓o_g3_4, ↓o_g3_5, ↓o_g3_6, ↓o_g3_7, ↓o_g3_8, ↓o_g3_9, ↓o_g3_10, ↓o_g3_11, ↓o_g3_12, ↓o_g3_13, ↓o_g3_14, ↓o_g3_15, ↓o_g3_16, ↓o_g3_17, ↓a_ln4, ↓a_ld4, ↓a_ln61, ↓a_ld61, ↓a_ln62, ↓a_ld62, o_c7, ↓o_g7_4, ↓o_g7_5, ↓o_g7_7, ↓o_g7_8, ↓o_g7_9, ↓o_g7_11, ↓o_g7_12, ↓o_g7_13, ↓o_g7_14, ↓o_g7_15, ↓o_g7_16, ↓o_g7_17, ↓q_wide h, ↓q_high h, ↓q_odds h, ↓q_year h, ↓q_less h, ↓q_pups h, ↓q_thorns h Z, ↓q_berries h Z, ↓q_hours h hw Z, ↓q_needs h hw Z, ↓q_at h hw Z, ↓q_want h hw Z, ↓q_knows h hw Z, ↓q_caught h hw Z, ↓q_marks h hw Z, ↓q_torn h hw Z, ↓c_cells h hw Z, ↓c_hasCell_t h hw Z, ↓c_hasCell_f h hw Z, ↓c_hasLesson_t h hw Z, ↓c_hasLesson_f h hw Z, ↓c_hasPupil_t h hw Z, ↓c_hasPupil_f h hw Z, ↓c_isCellNumber_t h hw Z, ↓c_isCellNumber_f h hw Z, ↓c_beside h hw Z, ↓c_touch h hw Z, ↓c_catchOf h hw Z, ↓c_clearSet h hw Z, ↓c_isCaught_t h hw Z, ↓c_isCaught_f h hw Z, ↓c_caughtSet h hw Z, ↓c_pupilsAt h hw Z, ↓c_pupilsWhoKnow h hw Z, ↓c_areNear h hw Z, ↓c_canHelp h hw Z, ↓c_helperSet h hw Z, ↓c_nextLesson h hw Z, ↓c_isNearSome h hw Z, ↓c_freedSet h hw Z, ↓d_none Z, ↓d_done Z, ↓d_refused Z, ↓d_granted Z]
      · rw [B_X12_left]
        simp (disch := first | assumption | omega) only [↓sm, ↓reduceIte, ↓if_pos, ↓if_neg, kI, kJ, kR, kV, w32_eq, w64_eq, reduceCtorEq, Int.reduceAdd, Int.reduceMul, Int.reduceSub, o_c141, ↓o_g141_0, ↓o_g141_1, ↓o_g141_5, ↓o_g141_6, ↓o_g141_7, ↓o_g141_8, ↓o_g141_9, ↓o_g141_21, ↓o_g141_25, ↓o_g141_26, ↓o_g141_27, ↓o_g141_28, ↓o_g141_29, ↓o_g141_30, ↓o_g141_31, ↓o_g141_34, ↓o_g141_35, ↓o_g141_36, ↓r_pupilAt e hw Z, ↓r_at e, ↓r_atw e, ↓r_cellsOf e hw Z, ↓r_isCell_t e hw Z, ↓r_isCell_f e hw Z, ↓r_isLesson_t e hw Z, ↓r_isLesson_f e hw Z, ↓r_isPupil_t e hw Z, ↓r_isPupil_f e hw Z, ↓r_pupilOf e hw Z, ↓r_needsOf e hw Z, ↓r_catchBy e hw Z, ↓r_catchOf e hw Z, ↓r_isCaught_t e hw Z, ↓r_isCaught_f e hw Z, ↓r_allCaught e hw Z, ↓r_whoIs0 e hw Z, ↓r_whoIs1 e hw Z, ↓r_sideOf e hw Z, ↓r_isNear e hw Z, ↓r_nextLesson e hw Z, ↓r_canFree e hw Z, ↓r_nearTo e hw Z, ↓r_isIn Z, ↓r_pupilRow Z, ↓r_lessonRow Z, ↓k_bits Z, ↓d_refuse Z, ↓d_gives Z, ↓d_is0 Z, ↓d_is1 Z, ↓d_isFrom_t Z, ↓d_isFrom_f Z, ↓d_orNone_t Z, ↓d_orNone_f Z]
  · refine op_rd hI (-1) 1 (fun f => ?_) (fun t e f => ?_)
    · rw [B_X11_left]
      simp (disch := first | assumption | omega) only [↓sm, ↓reduceIte, ↓if_pos, ↓if_neg, kI, kJ, kR, kV, w32_eq, w64_eq, reduceCtorEq, Int.reduceAdd, Int.reduceMul, Int.reduceSub, o_c3, ↓o_g3_0, ↓o_g3_1, ↓o_g3_2, ↓o_g3_3, ↓o_g3_4, ↓o_g3_5, ↓o_g3_6, ↓o_g3_7, ↓o_g3_8, ↓o_g3_9, ↓o_g3_10, ↓o_g3_11, ↓o_g3_12, ↓o_g3_13, ↓o_g3_14, ↓o_g3_15, ↓o_g3_16, ↓o_g3_17, ↓a_ln4, ↓a_ld4, ↓a_ln61, ↓a_ld61, ↓a_ln62, ↓a_ld62, o_c7, ↓o_g7_4, ↓o_g7_5, ↓o_g7_7, ↓o_g7_8, ↓o_g7_9, ↓o_g7_11, ↓o_g7_12, ↓o_g7_13, ↓o_g7_14, ↓o_g7_15, ↓o_g7_16, ↓o_g7_17, ↓q_wide h, ↓q_high h, ↓q_odds h, ↓q_year h, ↓q_less h, ↓q_pups h, ↓q_thorns h Z, ↓q_berries h Z, ↓q_hours h hw Z, ↓q_needs h hw Z, ↓q_at h hw Z, ↓q_want h hw Z, ↓q_knows h hw Z, ↓q_caught h hw Z, ↓q_marks h hw Z, ↓q_torn h hw Z, ↓c_cells h hw Z, ↓c_hasCell_t h hw Z, ↓c_hasCell_f h hw Z, ↓c_hasLesson_t h hw Z, ↓c_hasLesson_f h hw Z, ↓c_hasPupil_t h hw Z, ↓c_hasPupil_f h hw Z, ↓c_isCellNumber_t h hw Z, ↓c_isCellNumber_f h hw Z, ↓c_beside h hw Z, ↓c_touch h hw Z, ↓c_catchOf h hw Z, ↓c_clearSet h hw Z, ↓c_isCaught_t h hw Z, ↓c_isCaught_f h hw Z, ↓c_caughtSet h hw Z, ↓c_pupilsAt h hw Z, ↓c_pupilsWhoKnow h hw Z, ↓c_areNear h hw Z, ↓c_canHelp h hw Z, ↓c_helperSet h hw Z, ↓c_nextLesson h hw Z, ↓c_isNearSome h hw Z, ↓c_freedSet h hw Z, ↓d_none Z, ↓d_done Z, ↓d_refused Z, ↓d_granted Z]
    · rw [B_X12_left]
      simp (disch := first | assumption | omega) only [↓sm, ↓reduceIte, ↓if_pos, ↓if_neg, kI, kJ, kR, kV, w32_eq, w64_eq, reduceCtorEq, Int.reduceAdd, Int.reduceMul, Int.reduceSub, o_c141, ↓o_g141_0, ↓o_g141_1, ↓o_g141_5, ↓o_g141_6, ↓o_g141_7, ↓o_g141_8, ↓o_g141_9, ↓o_g141_21, ↓o_g141_25, ↓o_g141_26, ↓o_g141_27, ↓o_g141_28, ↓o_g141_29, ↓o_g141_30, ↓o_g141_31, ↓o_g141_34, ↓o_g141_35, ↓o_g141_36, ↓r_pupilAt e hw Z, ↓r_at e, ↓r_atw e, ↓r_cellsOf e hw Z, ↓r_isCell_t e hw Z, ↓r_isCell_f e hw Z, ↓r_isLesson_t e hw Z, ↓r_isLesson_f e hw Z, ↓r_isPupil_t e hw Z, ↓r_isPupil_f e hw Z, ↓r_pupilOf e hw Z, ↓r_needsOf e hw Z, ↓r_catchBy e hw Z, ↓r_catchOf e hw Z, ↓r_isCaught_t e hw Z, ↓r_isCaught_f e hw Z, ↓r_allCaught e hw Z, ↓r_whoIs0 e hw Z, ↓r_whoIs1 e hw Z, ↓r_sideOf e hw Z, ↓r_isNear e hw Z, ↓r_nextLesson e hw Z, ↓r_canFree e hw Z, ↓r_nearTo e hw Z, ↓r_isIn Z, ↓r_pupilRow Z, ↓r_lessonRow Z, ↓k_bits Z, ↓d_refuse Z, ↓d_gives Z, ↓d_is0 Z, ↓d_is1 Z, ↓d_isFrom_t Z, ↓d_isFrom_f Z, ↓d_orNone_t Z, ↓d_orNone_f Z]
/-! together -/
def ltF (x : Int) (A : Int → Int) : Nat → Int
  | 0 => 0
  | m + 1 => if tb x m then (if ltF x A m < A m then A m else ltF x A m) else ltF x A m
theorem ltF_cg (x : Int) (A B : Int → Int) : ∀ m : Nat, (∀ j : Nat, j < m → tb x j = true → A j = B j) → ltF x A m = ltF x B m
  | 0, _ => rfl
  | m + 1, h => by
    unfold ltF
    rw [ltF_cg x A B m (fun j hj => h j (by omega))]
    by_cases ht : tb x m = true
    · rw [if_pos ht, if_pos ht, h m (by omega) ht]
    · rw [if_neg ht, if_neg ht]
theorem ltF_tail (x : Int) (A : Int → Int) (k : Nat) (h : ∀ j, k ≤ j → tb x j = false) : ∀ m : Nat, k ≤ m → ltF x A m = ltF x A k
  | 0, hm => by have : k = 0 := by omega
                subst this; rfl
  | m + 1, hm => by
    by_cases e : k = m + 1
    · subst e; rfl
    · unfold ltF
      rw [h m (by omega)]
      simp
      rw [ltF_tail x A k h m (by omega)]
      cases k <;> rfl
theorem ltF_r (x : Int) (A : Int → Int) (M : Int) (hM : 0 ≤ M) : ∀ m : Nat, (∀ j : Nat, j < m → tb x j = true → 0 ≤ A j ∧ A j ≤ M) → 0 ≤ ltF x A m ∧ ltF x A m ≤ M
  | 0, _ => ⟨Int.le_refl _, hM⟩
  | m + 1, h => by
    have ih := ltF_r x A M hM m (fun j hj => h j (by omega))
    unfold ltF
    by_cases ht : tb x m = true
    · have := h m (by omega) ht
      rw [if_pos ht]
      split <;> omega
    · rw [if_neg ht]; exact ih
/-- hours till each is learnt -/
def tlA (S : Int → Int) : Nat → Int → Int
  | 0 => fun _ => 0
  | n + 1 => mm_upd (tlA S n) n (ltF (S (60 + 2 * (n : Int) + 1)) (tlA S n) n + S (60 + 2 * (n : Int)))
theorem tlA_s (S : Int → Int) (n : Nat) : tlA S (n + 1) = mm_upd (tlA S n) n (ltF (S (60 + 2 * (n : Int) + 1)) (tlA S n) n + S (60 + 2 * (n : Int))) := rfl
theorem tlA_r {S : Int → Int} (hw : WF S) : ∀ n : Nat, (n : Int) ≤ S 2 → ∀ j : Int, 0 ≤ tlA S n j ∧ tlA S n j ≤ 9 * n
  | 0, _, j => by simp [tlA]
  | n + 1, hn, j => by
    have ih := tlA_r hw n (by omega)
    have l := wf_l hw (k := n) (by omega) (by omega)
    have g := ltF_r (S (60 + 2 * (n : Int) + 1)) (tlA S n) (9 * n) (by omega) n (fun j _ _ => ih j)
    unfold tlA
    by_cases e : j = n
    · rw [up_eq e]; omega
    · rw [up_ne e]; have := ih j; omega
theorem lp_latest (Z : mX) (s : mS) (x : Int) : ∀ i : Int, i ≤ 7 → 0 ≤ i → mm_at (zP Z) 25 4 [some (.inr (.inr (some 68))), some (.inl x), some (.inl ((ltF x (s.2 69) i.toNat))), some (.inl i)] [] (mk s) = some (some (.inl (ltF x (s.2 69) 7)), mk s) := by
  refine up ?_ ?_
  · intro i0
    rw [B_X3_latest_4]
    simp (disch := first | assumption | omega) only [↓sm, ↓reduceIte, ↓if_pos, ↓if_neg, kI, kJ, kR, kV, w32_eq, w64_eq, reduceCtorEq, Int.reduceAdd, Int.reduceMul, Int.reduceSub]
    rfl
  · intro i hi ih i0
    have g := ih (by omega)
    rw [show (i + 1).toNat = i.toNat + 1 by omega] at g
    unfold ltF at g
    rw [Int.toNat_of_nonneg i0] at g
    rw [B_X3_latest_4]
    cases ht : tb x i.toNat
    · rw [ht] at g
      simp (disch := first | assumption | omega) only [↓sm, ↓reduceIte, ↓if_pos, ↓if_neg, kI, kJ, kR, kV, w32_eq, w64_eq, reduceCtorEq, Int.reduceAdd, Int.reduceMul, Int.reduceSub, o_c68, ↓o_g68_0, ↓o_g68_1, ↓o_g68_2, ↓k_has Z, b2i_0, ht]
      exact g
    · rw [ht] at g
      simp (disch := first | assumption | omega) only [↓sm, ↓reduceIte, ↓if_pos, ↓if_neg, kI, kJ, kR, kV, w32_eq, w64_eq, reduceCtorEq, Int.reduceAdd, Int.reduceMul, Int.reduceSub, o_c68, ↓o_g68_0, ↓o_g68_1, ↓o_g68_2, ↓k_has Z, b2i_0, ht, ↓g_69]
      exact g
theorem c_latest (Z : mX) (s : mS) (x : Int) (f : Int → mW → mO) : mm_kI (mm_run (zP Z) 25 [.inr (.inr (some 68)), .inl x] (mk s)) f = f (ltF x (s.2 69) 7) (mk s) := by
  have g := lp_latest Z s x 0 (by omega) (by omega)
  rw [B_X3_latest]
  rw [show ltF x (s.2 69) (Int.toNat 0) = 0 from rfl] at g
  rw [g, kI]
def a69 (q : Nat) : Prop := q = 69
theorem a69_ : a69 69 := rfl
theorem lp_atOnce {S N : Int → Int} (hw : WF S) (Z : mX) (l : Int) (l0 : 0 ≤ l) (l1 : l < S 2) : ∀ i : Int, i ≤ l + 1 → ∀ s : mS, CS s 7 S N → 0 ≤ i → (∀ j, 0 ≤ j → j < i → s.2 69 j = tlA S i.toNat j) →
    ∃ s', mm_at (zP Z) 24 2 [some (.inr (.inr (some 68))), some (.inl l), some (.inl i)] [] (mk s) = some (some (.inl (tlA S (l.toNat + 1) l)), mk s') ∧ Ag a69 noF s s' := by
  have w := wf0 hw
  refine up ?_ ?_
  · intro s h i0 hA
    refine ⟨s, ?_, Ag_refl _ _ _⟩
    have e := hA l l0 (by omega)
    rw [show (l + 1).toNat = l.toNat + 1 by omega] at e
    rw [B_X3_atOnce_2]
    simp (disch := first | assumption | omega) only [↓sm, ↓reduceIte, ↓if_pos, ↓if_neg, kI, kJ, kR, kV, w32_eq, w64_eq, reduceCtorEq, Int.reduceAdd, Int.reduceMul, Int.reduceSub, o_c68, ↓o_g68_0, ↓o_g68_1, ↓o_g68_2, ↓g_69, e]
  · intro i hi ih s h i0 hA
    have wl := wf_l hw i0 (show i < S 2 by omega)
    have wb := (hw.2.2.1 i i0 (by omega)).2.2.2.2
    have e1 : ltF (S (60 + 2 * i + 1)) (s.2 69) 7 = ltF (S (60 + 2 * i + 1)) (tlA S i.toNat) i.toNat := by
      rw [ltF_tail _ _ i.toNat (fun j hj => wb j (by omega)) 7 (by omega)]
      exact ltF_cg _ _ _ _ (fun j hj _ => hA j (by omega) (by omega))
    have r := ltF_r (S (60 + 2 * i + 1)) (tlA S i.toNat) (9 * i.toNat) (by omega) i.toNat (fun j _ _ => tlA_r hw i.toNat (by omega) j)
    have ag : Ag a69 noF s (uA s 69 i (ltF (S (60 + 2 * i + 1)) (tlA S i.toNat) i.toNat + S (60 + 2 * i))) := Ag_uA (Ag_refl _ _ _) a69_ _ _
    obtain ⟨s', g1, g2⟩ := ih (uA s 69 i (ltF (S (60 + 2 * i + 1)) (tlA S i.toNat) i.toNat + S (60 + 2 * i))) (CS_fr h (fun k => ag.2 7 k (fun x => x)) (fun j j0 j1 => ag.1 _ (by unfold a69; omega))) (by omega) (fun j j0 j1 => by
      rw [show (i + 1).toNat = i.toNat + 1 by omega, uA_s, tlA_s, Int.toNat_of_nonneg i0]
      by_cases ej : j = i
      · rw [up_eq ej, up_eq ej]
      · rw [up_ne ej, up_ne ej]
        exact hA j j0 (by omega))
    refine ⟨s', ?_, Ag_trans ag g2⟩
    rw [B_X3_atOnce_2]
    simp (disch := first | assumption | omega) only [↓sm, ↓reduceIte, ↓if_pos, ↓if_neg, kI, kJ, kR, kV, w32_eq, w64_eq, reduceCtorEq, Int.reduceAdd, Int.reduceMul, Int.reduceSub, o_c68, ↓o_g68_0, ↓o_g68_1, ↓o_g68_2, o_c7, ↓o_g7_4, ↓o_g7_5, ↓o_g7_7, ↓o_g7_8, ↓o_g7_9, ↓o_g7_11, ↓o_g7_12, ↓o_g7_13, ↓o_g7_14, ↓o_g7_15, ↓o_g7_16, ↓o_g7_17, ↓q_wide h, ↓q_high h, ↓q_odds h, ↓q_year h, ↓q_less h, ↓q_pups h, ↓q_thorns h Z, ↓q_berries h Z, ↓q_hours h hw Z, ↓q_needs h hw Z, ↓q_at h hw Z, ↓q_want h hw Z, ↓q_knows h hw Z, ↓q_caught h hw Z, ↓q_marks h hw Z, ↓q_torn h hw Z, ↓c_latest Z, e1, ↓p_69, p_69, g1]
def a152 (q : Nat) : Prop := q = 152
theorem a152_ : a152 152 := rfl
theorem lp_tog17 {s : mS} {S : Int → Int} (e : s.2 142 = S) (hw : WF S) (Z : mX) (l k : Int) (k0 : 0 ≤ k) (k1 : k < S 2) (R : mO) (hR : mm_at (zP Z) 328 17 [some (.inr (.inr (some 141))), some (.inl l), some (.inl k), some (.inl ((ltF (S (60 + 2 * k + 1)) (s.2 152) k.toNat))), some (.inl k)] [] (mk s) = R) :
    ∀ i : Int, i ≤ k → 0 ≤ i → mm_at (zP Z) 328 17 [some (.inr (.inr (some 141))), some (.inl l), some (.inl k), some (.inl ((ltF (S (60 + 2 * k + 1)) (s.2 152) i.toNat))), some (.inl i)] [] (mk s) = R := by
  have w := wf0 hw
  refine up ?_ ?_
  · intro _; exact hR
  · intro i hi ih i0
    have g := ih (by omega)
    rw [show (i + 1).toNat = i.toNat + 1 by omega] at g
    unfold ltF at g
    rw [Int.toNat_of_nonneg i0] at g
    rw [B_X12_together_17]
    cases ht : tb (S (60 + 2 * k + 1)) i.toNat
    · rw [ht] at g
      simp (disch := first | assumption | omega) only [↓sm, ↓reduceIte, ↓if_pos, ↓if_neg, kI, kJ, kR, kV, w32_eq, w64_eq, reduceCtorEq, Int.reduceAdd, Int.reduceMul, Int.reduceSub, o_c141, ↓o_g141_0, ↓o_g141_1, ↓o_g141_5, ↓o_g141_6, ↓o_g141_7, ↓o_g141_8, ↓o_g141_9, ↓o_g141_21, ↓o_g141_25, ↓o_g141_26, ↓o_g141_27, ↓o_g141_28, ↓o_g141_29, ↓o_g141_30, ↓o_g141_31, ↓o_g141_34, ↓o_g141_35, ↓o_g141_36, ↓r_needsOf e hw Z, ↓r_isIn Z, b2i_0, ht]
      exact g
    · rw [ht] at g
      simp (disch := first | assumption | omega) only [↓sm, ↓reduceIte, ↓if_pos, ↓if_neg, kI, kJ, kR, kV, w32_eq, w64_eq, reduceCtorEq, Int.reduceAdd, Int.reduceMul, Int.reduceSub, o_c141, ↓o_g141_0, ↓o_g141_1, ↓o_g141_5, ↓o_g141_6, ↓o_g141_7, ↓o_g141_8, ↓o_g141_9, ↓o_g141_21, ↓o_g141_25, ↓o_g141_26, ↓o_g141_27, ↓o_g141_28, ↓o_g141_29, ↓o_g141_30, ↓o_g141_31, ↓o_g141_34, ↓o_g141_35, ↓o_g141_36, ↓r_needsOf e hw Z, ↓r_isIn Z, b2i_0, ht, ↓a_ld152]
      exact g
theorem lp_together {S : Int → Int} (hw : WF S) (Z : mX) (l : Int) (l0 : 0 ≤ l) (l1 : l < S 2) : ∀ i : Int, i ≤ l + 1 → ∀ s : mS, s.2 142 = S → 0 ≤ i → (∀ j, 0 ≤ j → j < i → s.2 152 j = tlA S i.toNat j) →
    ∃ s', mm_at (zP Z) 328 10 [some (.inr (.inr (some 141))), some (.inl l), some (.inl i), none, none] [] (mk s) = some (some (.inl (tlA S (l.toNat + 1) l)), mk (uF s' 141 2 0)) ∧ Ag a152 noF s s' := by
  have w := wf0 hw
  refine up ?_ ?_
  · intro s e i0 hA
    refine ⟨s, ?_, Ag_refl _ _ _⟩
    have e2 := hA l l0 (by omega)
    rw [show (l + 1).toNat = l.toNat + 1 by omega] at e2
    rw [B_X12_together_10]
    simp (disch := first | assumption | omega) only [↓sm, ↓reduceIte, ↓if_pos, ↓if_neg, kI, kJ, kR, kV, w32_eq, w64_eq, reduceCtorEq, Int.reduceAdd, Int.reduceMul, Int.reduceSub, o_c141, ↓o_g141_0, ↓o_g141_1, ↓o_g141_5, ↓o_g141_6, ↓o_g141_7, ↓o_g141_8, ↓o_g141_9, ↓o_g141_21, ↓o_g141_25, ↓o_g141_26, ↓o_g141_27, ↓o_g141_28, ↓o_g141_29, ↓o_g141_30, ↓o_g141_31, ↓o_g141_34, ↓o_g141_35, ↓o_g141_36, ↓a_ld152, e2, ↓d_refuse Z, ↓d_gives Z, ↓d_is0 Z, ↓d_is1 Z, ↓d_isFrom_t Z, ↓d_isFrom_f Z, ↓d_orNone_t Z, ↓d_orNone_f Z]
  · intro i hi ih s e i0 hA
    have wl := wf_l hw i0 (show i < S 2 by omega)
    have e1 : ltF (S (60 + 2 * i + 1)) (s.2 152) i.toNat = ltF (S (60 + 2 * i + 1)) (tlA S i.toNat) i.toNat := ltF_cg _ _ _ _ (fun j hj _ => hA j (by omega) (by omega))
    have r := ltF_r (S (60 + 2 * i + 1)) (tlA S i.toNat) (9 * i.toNat) (by omega) i.toNat (fun j _ _ => tlA_r hw i.toNat (by omega) j)
    obtain ⟨s', g1, g2⟩ := ih (uA s 152 i (ltF (S (60 + 2 * i + 1)) (tlA S i.toNat) i.toNat + S (60 + 2 * i))) ((uA_n s (by decide) _ _).trans e) (by omega) (fun j j0 j1 => by
      rw [show (i + 1).toNat = i.toNat + 1 by omega, uA_s, tlA_s, Int.toNat_of_nonneg i0]
      by_cases ej : j = i
      · rw [up_eq ej, up_eq ej]
      · rw [up_ne ej, up_ne ej]
        exact hA j j0 (by omega))
    refine ⟨s', ?_, Ag_trans (Ag_uA (Ag_refl _ _ _) a152_ _ _) g2⟩
    have h17 := lp_tog17 e hw Z l i i0 (by omega) (some (some (.inl (tlA S (l.toNat + 1) l)), mk (uF s' 141 2 0))) (by
      rw [B_X12_together_17, e1]
      simp (disch := first | assumption | omega) only [↓sm, ↓reduceIte, ↓if_pos, ↓if_neg, kI, kJ, kR, kV, w32_eq, w64_eq, reduceCtorEq, Int.reduceAdd, Int.reduceMul, Int.reduceSub, o_c141, ↓o_g141_0, ↓o_g141_1, ↓o_g141_5, ↓o_g141_6, ↓o_g141_7, ↓o_g141_8, ↓o_g141_9, ↓o_g141_21, ↓o_g141_25, ↓o_g141_26, ↓o_g141_27, ↓o_g141_28, ↓o_g141_29, ↓o_g141_30, ↓o_g141_31, ↓o_g141_34, ↓o_g141_35, ↓o_g141_36, ↓r_at e, ↓r_lessonRow Z, ↓a_st152, a_st152, g1]) 0 i0 (by omega)
    rw [show ltF (S (60 + 2 * i + 1)) (s.2 152) (Int.toNat 0) = 0 from rfl] at h17
    rw [B_X12_together_10]
    simp (disch := first | assumption | omega) only [↓sm, ↓reduceIte, ↓if_pos, ↓if_neg, kI, kJ, kR, kV, w32_eq, w64_eq, reduceCtorEq, Int.reduceAdd, Int.reduceMul, Int.reduceSub, h17]
theorem op_together (Z : mX) (s : mS) (hI : Inv s) (l : Int) : OpI Z s 172 328 [.inl l] := by
  have h := hI.2.2.1.2
  have hw := hI.2.2.1.1
  by_cases hl : 0 ≤ l ∧ l < s.2 142 2
  · obtain ⟨s', g1, g2⟩ := lp_atOnce hw Z l hl.1 hl.2 0 (by omega) s h (by omega) (fun j j0 j1 => by omega)
    refine op_rds hI (tlA (s.2 142) (l.toNat + 1) l) 0 s' (fun f => ?_) (Ag_mono g2 (fun q hq => by unfold a69 at hq; unfold scA; omega) (fun _ _ h => h.elim)) (fun t e => ?_)
    · rw [B_X11_together]
      simp (disch := first | assumption | omega) only [↓sm, ↓reduceIte, ↓if_pos, ↓if_neg, kI, kJ, kR, kV, w32_eq, w64_eq, reduceCtorEq, Int.reduceAdd, Int.reduceMul, Int.reduceSub, o_c3, ↓o_g3_0, ↓o_g3_1, ↓o_g3_2, ↓o_g3_3, ↓o_g3_4, ↓o_g3_5, ↓o_g3_6, ↓o_g3_7, ↓o_g3_8, ↓o_g3_9, ↓o_g3_10, ↓o_g3_11, ↓o_g3_12, ↓o_g3_13, ↓o_g3_14, ↓o_g3_15, ↓o_g3_16, ↓o_g3_17, ↓a_ln4, ↓a_ld4, ↓a_ln61, ↓a_ld61, ↓a_ln62, ↓a_ld62, o_c7, ↓o_g7_4, ↓o_g7_5, ↓o_g7_7, ↓o_g7_8, ↓o_g7_9, ↓o_g7_11, ↓o_g7_12, ↓o_g7_13, ↓o_g7_14, ↓o_g7_15, ↓o_g7_16, ↓o_g7_17, ↓q_wide h, ↓q_high h, ↓q_odds h, ↓q_year h, ↓q_less h, ↓q_pups h, ↓q_thorns h Z, ↓q_berries h Z, ↓q_hours h hw Z, ↓q_needs h hw Z, ↓q_at h hw Z, ↓q_want h hw Z, ↓q_knows h hw Z, ↓q_caught h hw Z, ↓q_marks h hw Z, ↓q_torn h hw Z, ↓c_cells h hw Z, ↓c_hasCell_t h hw Z, ↓c_hasCell_f h hw Z, ↓c_hasLesson_t h hw Z, ↓c_hasLesson_f h hw Z, ↓c_hasPupil_t h hw Z, ↓c_hasPupil_f h hw Z, ↓c_isCellNumber_t h hw Z, ↓c_isCellNumber_f h hw Z, ↓c_beside h hw Z, ↓c_touch h hw Z, ↓c_catchOf h hw Z, ↓c_clearSet h hw Z, ↓c_isCaught_t h hw Z, ↓c_isCaught_f h hw Z, ↓c_caughtSet h hw Z, ↓c_pupilsAt h hw Z, ↓c_pupilsWhoKnow h hw Z, ↓c_areNear h hw Z, ↓c_canHelp h hw Z, ↓c_helperSet h hw Z, ↓c_nextLesson h hw Z, ↓c_isNearSome h hw Z, ↓c_freedSet h hw Z, ↓d_none Z, ↓d_done Z, ↓d_refused Z, ↓d_granted Z, o_c68, B_X3_atOnce, g1]
    · obtain ⟨t', k1, k2⟩ := lp_together hw Z l hl.1 hl.2 0 (by omega) t e (by omega) (fun j j0 j1 => by omega)
      refine ⟨t', fun f => ?_, Ag_mono k2 (fun q hq => by unfold a152 at hq; unfold srA; omega) (fun _ _ h => h.elim)⟩
      rw [B_X12_together]
      simp (disch := first | assumption | omega) only [↓sm, ↓reduceIte, ↓if_pos, ↓if_neg, kI, kJ, kR, kV, w32_eq, w64_eq, reduceCtorEq, Int.reduceAdd, Int.reduceMul, Int.reduceSub, o_c141, ↓o_g141_0, ↓o_g141_1, ↓o_g141_5, ↓o_g141_6, ↓o_g141_7, ↓o_g141_8, ↓o_g141_9, ↓o_g141_21, ↓o_g141_25, ↓o_g141_26, ↓o_g141_27, ↓o_g141_28, ↓o_g141_29, ↓o_g141_30, ↓o_g141_31, ↓o_g141_34, ↓o_g141_35, ↓o_g141_36, ↓r_pupilAt e hw Z, ↓r_at e, ↓r_atw e, ↓r_cellsOf e hw Z, ↓r_isCell_t e hw Z, ↓r_isCell_f e hw Z, ↓r_isLesson_t e hw Z, ↓r_isLesson_f e hw Z, ↓r_isPupil_t e hw Z, ↓r_isPupil_f e hw Z, ↓r_pupilOf e hw Z, ↓r_needsOf e hw Z, ↓r_catchBy e hw Z, ↓r_catchOf e hw Z, ↓r_isCaught_t e hw Z, ↓r_isCaught_f e hw Z, ↓r_allCaught e hw Z, ↓r_whoIs0 e hw Z, ↓r_whoIs1 e hw Z, ↓r_sideOf e hw Z, ↓r_isNear e hw Z, ↓r_nextLesson e hw Z, ↓r_canFree e hw Z, ↓r_nearTo e hw Z, ↓r_isIn Z, ↓r_pupilRow Z, ↓r_lessonRow Z, ↓k_bits Z, ↓d_refuse Z, ↓d_gives Z, ↓d_is0 Z, ↓d_is1 Z, ↓d_isFrom_t Z, ↓d_isFrom_f Z, ↓d_orNone_t Z, ↓d_orNone_f Z, k1]
  · refine op_rd hI (-1) 1 (fun f => ?_) (fun t e f => ?_)
    · rw [B_X11_together]
      simp (disch := first | assumption | omega) only [↓sm, ↓reduceIte, ↓if_pos, ↓if_neg, kI, kJ, kR, kV, w32_eq, w64_eq, reduceCtorEq, Int.reduceAdd, Int.reduceMul, Int.reduceSub, o_c3, ↓o_g3_0, ↓o_g3_1, ↓o_g3_2, ↓o_g3_3, ↓o_g3_4, ↓o_g3_5, ↓o_g3_6, ↓o_g3_7, ↓o_g3_8, ↓o_g3_9, ↓o_g3_10, ↓o_g3_11, ↓o_g3_12, ↓o_g3_13, ↓o_g3_14, ↓o_g3_15, ↓o_g3_16, ↓o_g3_17, ↓a_ln4, ↓a_ld4, ↓a_ln61, ↓a_ld61, ↓a_ln62, ↓a_ld62, o_c7, ↓o_g7_4, ↓o_g7_5, ↓o_g7_7, ↓o_g7_8, ↓o_g7_9, ↓o_g7_11, ↓o_g7_12, ↓o_g7_13, ↓o_g7_14, ↓o_g7_15, ↓o_g7_16, ↓o_g7_17, ↓q_wide h, ↓q_high h, ↓q_odds h, ↓q_year h, ↓q_less h, ↓q_pups h, ↓q_thorns h Z, ↓q_berries h Z, ↓q_hours h hw Z, ↓q_needs h hw Z, ↓q_at h hw Z, ↓q_want h hw Z, ↓q_knows h hw Z, ↓q_caught h hw Z, ↓q_marks h hw Z, ↓q_torn h hw Z, ↓c_cells h hw Z, ↓c_hasCell_t h hw Z, ↓c_hasCell_f h hw Z, ↓c_hasLesson_t h hw Z, ↓c_hasLesson_f h hw Z, ↓c_hasPupil_t h hw Z, ↓c_hasPupil_f h hw Z, ↓c_isCellNumber_t h hw Z, ↓c_isCellNumber_f h hw Z, ↓c_beside h hw Z, ↓c_touch h hw Z, ↓c_catchOf h hw Z, ↓c_clearSet h hw Z, ↓c_isCaught_t h hw Z, ↓c_isCaught_f h hw Z, ↓c_caughtSet h hw Z, ↓c_pupilsAt h hw Z, ↓c_pupilsWhoKnow h hw Z, ↓c_areNear h hw Z, ↓c_canHelp h hw Z, ↓c_helperSet h hw Z, ↓c_nextLesson h hw Z, ↓c_isNearSome h hw Z, ↓c_freedSet h hw Z, ↓d_none Z, ↓d_done Z, ↓d_refused Z, ↓d_granted Z]
    · rw [B_X12_together]
      simp (disch := first | assumption | omega) only [↓sm, ↓reduceIte, ↓if_pos, ↓if_neg, kI, kJ, kR, kV, w32_eq, w64_eq, reduceCtorEq, Int.reduceAdd, Int.reduceMul, Int.reduceSub, o_c141, ↓o_g141_0, ↓o_g141_1, ↓o_g141_5, ↓o_g141_6, ↓o_g141_7, ↓o_g141_8, ↓o_g141_9, ↓o_g141_21, ↓o_g141_25, ↓o_g141_26, ↓o_g141_27, ↓o_g141_28, ↓o_g141_29, ↓o_g141_30, ↓o_g141_31, ↓o_g141_34, ↓o_g141_35, ↓o_g141_36, ↓r_pupilAt e hw Z, ↓r_at e, ↓r_atw e, ↓r_cellsOf e hw Z, ↓r_isCell_t e hw Z, ↓r_isCell_f e hw Z, ↓r_isLesson_t e hw Z, ↓r_isLesson_f e hw Z, ↓r_isPupil_t e hw Z, ↓r_isPupil_f e hw Z, ↓r_pupilOf e hw Z, ↓r_needsOf e hw Z, ↓r_catchBy e hw Z, ↓r_catchOf e hw Z, ↓r_isCaught_t e hw Z, ↓r_isCaught_f e hw Z, ↓r_allCaught e hw Z, ↓r_whoIs0 e hw Z, ↓r_whoIs1 e hw Z, ↓r_sideOf e hw Z, ↓r_isNear e hw Z, ↓r_nextLesson e hw Z, ↓r_canFree e hw Z, ↓r_nearTo e hw Z, ↓r_isIn Z, ↓r_pupilRow Z, ↓r_lessonRow Z, ↓k_bits Z, ↓d_refuse Z, ↓d_gives Z, ↓d_is0 Z, ↓d_is1 Z, ↓d_isFrom_t Z, ↓d_isFrom_f Z, ↓d_orNone_t Z, ↓d_orNone_f Z]
