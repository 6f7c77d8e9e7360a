/-! what the reference reads of the school in play: S its memory -/
theorem r_at {s : mS} {S : Int → Int} (e : s.2 142 = S) (f : Int → mO) (i : Int) (h0 : 0 ≤ i) (h1 : i < 2464) : (mm_ld 0 (mk s) 142 i).bind f = f (S i) := by rw [a_ld142 s f i h0 h1, e]
theorem r_atw {s : mS} {S : Int → Int} (e : s.2 142 = S) (f : Int → mO) (i : Int) (h0 : 0 ≤ i) (h1 : i < 2464) : (mm_ld 0 (mk s) 142 (mm_w32 i)).bind f = f (S i) := by
  rw [w32_eq (by omega) (by omega), a_ld142 s f i h0 h1, e]
theorem r_cellsOf {s : mS} {S : Int → Int} (e : s.2 142 = S) (hw : WF S) (Z : mX) (f : Int → mW → mO) : mm_kI (mm_run (zP Z) 248 [.inr (.inr (some 141)), .inl 0] (mk s)) f = f (ncl S) (mk s) := by
  rw [B_X12_cellsOf]
  simp (disch := first | assumption | omega) only [↓sm, ↓reduceIte, ↓if_pos, ↓if_neg, kI, kJ, kR, kV, w32_eq, w64_eq, reduceCtorEq, Int.reduceAdd, Int.reduceMul, Int.reduceSub, o_c141, ↓o_g141_0, ↓o_g141_1, ↓o_g141_5, ↓o_g141_6, ↓o_g141_7, ↓o_g141_8, ↓o_g141_9, ↓o_g141_21, ↓o_g141_25, ↓o_g141_26, ↓o_g141_27, ↓o_g141_28, ↓o_g141_29, ↓o_g141_30, ↓o_g141_31, ↓o_g141_34, ↓o_g141_35, ↓o_g141_36, ↓r_atw e, w_ncl hw]
theorem r_isCell_t {s : mS} {S : Int → Int} (e : s.2 142 = S) (hw : WF S) (Z : mX) (c : Int) (h0 : 0 ≤ c) (h1 : c < ncl S) (f : Int → mW → mO) : mm_kI (mm_run (zP Z) 270 [.inr (.inr (some 141)), .inl c] (mk s)) f = f 1 (mk s) := by
  rw [B_X12_isCell]
  simp (disch := first | assumption | omega) only [↓sm, ↓reduceIte, ↓if_pos, ↓if_neg, kI, kJ, kR, kV, w32_eq, w64_eq, reduceCtorEq, Int.reduceAdd, Int.reduceMul, Int.reduceSub, o_c141, ↓o_g141_0, ↓o_g141_1, ↓o_g141_5, ↓o_g141_6, ↓o_g141_7, ↓o_g141_8, ↓o_g141_9, ↓o_g141_21, ↓o_g141_25, ↓o_g141_26, ↓o_g141_27, ↓o_g141_28, ↓o_g141_29, ↓o_g141_30, ↓o_g141_31, ↓o_g141_34, ↓o_g141_35, ↓o_g141_36, ↓r_cellsOf e hw Z]
theorem r_isCell_f {s : mS} {S : Int → Int} (e : s.2 142 = S) (hw : WF S) (Z : mX) (c : Int) (hn : ¬ (0 ≤ c ∧ c < ncl S)) (f : Int → mW → mO) : mm_kI (mm_run (zP Z) 270 [.inr (.inr (some 141)), .inl c] (mk s)) f = f 0 (mk s) := by
  rw [B_X12_isCell]
  by_cases h0 : c < 0
  · simp (disch := first | assumption | omega) only [↓sm, ↓reduceIte, ↓if_pos, ↓if_neg, kI, kJ, kR, kV, w32_eq, w64_eq, reduceCtorEq, Int.reduceAdd, Int.reduceMul, Int.reduceSub]
  · simp (disch := first | assumption | omega) only [↓sm, ↓reduceIte, ↓if_pos, ↓if_neg, kI, kJ, kR, kV, w32_eq, w64_eq, reduceCtorEq, Int.reduceAdd, Int.reduceMul, Int.reduceSub, o_c141, ↓o_g141_0, ↓o_g141_1, ↓o_g141_5, ↓o_g141_6, ↓o_g141_7, ↓o_g141_8, ↓o_g141_9, ↓o_g141_21, ↓o_g141_25, ↓o_g141_26, ↓o_g141_27, ↓o_g141_28, ↓o_g141_29, ↓o_g141_30, ↓o_g141_31, ↓o_g141_34, ↓o_g141_35, ↓o_g141_36, ↓r_cellsOf e hw Z]
theorem r_isLesson_t {s : mS} {S : Int → Int} (e : s.2 142 = S) (hw : WF S) (Z : mX) (c : Int) (h0 : 0 ≤ c) (h1 : c < S 2) (f : Int → mW → mO) : mm_kI (mm_run (zP Z) 271 [.inr (.inr (some 141)), .inl c] (mk s)) f = f 1 (mk s) := by
  rw [B_X12_isLesson]
  simp (disch := first | assumption | omega) only [↓sm, ↓reduceIte, ↓if_pos, ↓if_neg, kI, kJ, kR, kV, w32_eq, w64_eq, reduceCtorEq, Int.reduceAdd, Int.reduceMul, Int.reduceSub, o_c141, ↓o_g141_0, ↓o_g141_1, ↓o_g141_5, ↓o_g141_6, ↓o_g141_7, ↓o_g141_8, ↓o_g141_9, ↓o_g141_21, ↓o_g141_25, ↓o_g141_26, ↓o_g141_27, ↓o_g141_28, ↓o_g141_29, ↓o_g141_30, ↓o_g141_31, ↓o_g141_34, ↓o_g141_35, ↓o_g141_36, ↓r_at e]
theorem r_isLesson_f {s : mS} {S : Int → Int} (e : s.2 142 = S) (hw : WF S) (Z : mX) (c : Int) (hn : ¬ (0 ≤ c ∧ c < S 2)) (f : Int → mW → mO) : mm_kI (mm_run (zP Z) 271 [.inr (.inr (some 141)), .inl c] (mk s)) f = f 0 (mk s) := by
  rw [B_X12_isLesson]
  by_cases h0 : c < 0
  · simp (disch := first | assumption | omega) only [↓sm, ↓reduceIte, ↓if_pos, ↓if_neg, kI, kJ, kR, kV, w32_eq, w64_eq, reduceCtorEq, Int.reduceAdd, Int.reduceMul, Int.reduceSub]
  · simp (disch := first | assumption | omega) only [↓sm, ↓reduceIte, ↓if_pos, ↓if_neg, kI, kJ, kR, kV, w32_eq, w64_eq, reduceCtorEq, Int.reduceAdd, Int.reduceMul, Int.reduceSub, o_c141, ↓o_g141_0, ↓o_g141_1, ↓o_g141_5, ↓o_g141_6, ↓o_g141_7, ↓o_g141_8, ↓o_g141_9, ↓o_g141_21, ↓o_g141_25, ↓o_g141_26, ↓o_g141_27, ↓o_g141_28, ↓o_g141_29, ↓o_g141_30, ↓o_g141_31, ↓o_g141_34, ↓o_g141_35, ↓o_g141_36, ↓r_at e]
theorem r_isPupil_t {s : mS} {S : Int → Int} (e : s.2 142 = S) (hw : WF S) (Z : mX) (c : Int) (h0 : 0 ≤ c) (h1 : c < S 3) (f : Int → mW → mO) : mm_kI (mm_run (zP Z) 272 [.inr (.inr (some 141)), .inl c] (mk s)) f = f 1 (mk s) := by
  rw [B_X12_isPupil]
  simp (disch := first | assumption | omega) only [↓sm, ↓reduceIte, ↓if_pos, ↓if_neg, kI, kJ, kR, kV, w32_eq, w64_eq, reduceCtorEq, Int.reduceAdd, Int.reduceMul, Int.reduceSub, o_c141, ↓o_g141_0, ↓o_g141_1, ↓o_g141_5, ↓o_g141_6, ↓o_g141_7, ↓o_g141_8, ↓o_g141_9, ↓o_g141_21, ↓o_g141_25, ↓o_g141_26, ↓o_g141_27, ↓o_g141_28, ↓o_g141_29, ↓o_g141_30, ↓o_g141_31, ↓o_g141_34, ↓o_g141_35, ↓o_g141_36, ↓r_at e]
theorem r_isPupil_f {s : mS} {S : Int → Int} (e : s.2 142 = S) (hw : WF S) (Z : mX) (c : Int) (hn : ¬ (0 ≤ c ∧ c < S 3)) (f : Int → mW → mO) : mm_kI (mm_run (zP Z) 272 [.inr (.inr (some 141)), .inl c] (mk s)) f = f 0 (mk s) := by
  rw [B_X12_isPupil]
  by_cases h0 : c < 0
  · simp (disch := first | assumption | omega) only [↓sm, ↓reduceIte, ↓if_pos, ↓if_neg, kI, kJ, kR, kV, w32_eq, w64_eq, reduceCtorEq, Int.reduceAdd, Int.reduceMul, Int.reduceSub]
  · simp (disch := first | assumption | omega) only [↓sm, ↓reduceIte, ↓if_pos, ↓if_neg, kI, kJ, kR, kV, w32_eq, w64_eq, reduceCtorEq, Int.reduceAdd, Int.reduceMul, Int.reduceSub, o_c141, ↓o_g141_0, ↓o_g141_1, ↓o_g141_5, ↓o_g141_6, ↓o_g141_7, ↓o_g141_8, ↓o_g141_9, ↓o_g141_21, ↓o_g141_25, ↓o_g141_26, ↓o_g141_27, ↓o_g141_28, ↓o_g141_29, ↓o_g141_30, ↓o_g141_31, ↓o_g141_34, ↓o_g141_35, ↓o_g141_36, ↓r_at e]
theorem r_isIn (Z : mX) (w : mW) (a i : Int) (h0 : 0 ≤ i) (h1 : i < 32) (f : Int → mW → mO) : mm_kI (mm_run (zP Z) 249 [.inr (.inr (some 141)), .inl a, .inl i] w) f = f (b2i (tb a i.toNat)) w := by
  rw [B_X12_isIn, has_s h0 h1]
  cases h : tb a i.toNat
  · simp (disch := first | assumption | omega) only [↓sm, ↓reduceIte, ↓if_pos, ↓if_neg, kI, kJ, kR, kV, w32_eq, w64_eq, reduceCtorEq, Int.reduceAdd, Int.reduceMul, Int.reduceSub, Bool.false_eq_true]
    rfl
  · simp (disch := first | assumption | omega) only [↓sm, ↓reduceIte, ↓if_pos, ↓if_neg, kI, kJ, kR, kV, w32_eq, w64_eq, reduceCtorEq, Int.reduceAdd, Int.reduceMul, Int.reduceSub]
    rfl
theorem r_pupilRow (Z : mX) (w : mW) (p : Int) (p0 : 0 ≤ p) (p1 : p < 1000) (f : Int → mW → mO) : mm_kI (mm_run (zP Z) 247 [.inl p] w) f = f (74 + 6 * p) w := by
  rw [B_X12_pupilRow, w32_eq (x := 6 * p) (by omega) (by omega), w32_eq (by omega) (by omega), kI]
theorem r_lessonRow (Z : mX) (w : mW) (p : Int) (p0 : 0 ≤ p) (p1 : p < 1000) (f : Int → mW → mO) : mm_kI (mm_run (zP Z) 246 [.inl p] w) f = f (60 + 2 * p) w := by
  rw [B_X12_lessonRow, w32_eq (x := 2 * p) (by omega) (by omega), w32_eq (by omega) (by omega), kI]
theorem r_pupilAt {s : mS} {S : Int → Int} (e : s.2 142 = S) (hw : WF S) (Z : mX) (p : Int) (p0 : 0 ≤ p) (p1 : p < 6) (f : Int → mW → mO) : mm_kI (mm_run (zP Z) 274 [.inr (.inr (some 141)), .inl p, .inl 0] (mk s)) f = f (S (74 + 6 * p)) (mk s) := by
  rw [B_X12_pupilOf]
  simp (disch := first | assumption | omega) only [↓sm, ↓reduceIte, ↓if_pos, ↓if_neg, kI, kJ, kR, kV, w32_eq, w64_eq, reduceCtorEq, Int.reduceAdd, Int.reduceMul, Int.reduceSub, o_c141, ↓o_g141_0, ↓o_g141_1, ↓o_g141_5, ↓o_g141_6, ↓o_g141_7, ↓o_g141_8, ↓o_g141_9, ↓o_g141_21, ↓o_g141_25, ↓o_g141_26, ↓o_g141_27, ↓o_g141_28, ↓o_g141_29, ↓o_g141_30, ↓o_g141_31, ↓o_g141_34, ↓o_g141_35, ↓o_g141_36, ↓r_pupilRow Z, ↓r_atw e, Int.add_zero]
theorem r_pupilOf {s : mS} {S : Int → Int} (e : s.2 142 = S) (hw : WF S) (Z : mX) (p k : Int) (p0 : 0 ≤ p) (p1 : p < 6) (k0 : 1 ≤ k) (k1 : k < 6) (f : Int → mW → mO) : mm_kI (mm_run (zP Z) 274 [.inr (.inr (some 141)), .inl p, .inl k] (mk s)) f = f (S (74 + 6 * p + k)) (mk s) := by
  rw [B_X12_pupilOf]
  simp (disch := first | assumption | omega) only [↓sm, ↓reduceIte, ↓if_pos, ↓if_neg, kI, kJ, kR, kV, w32_eq, w64_eq, reduceCtorEq, Int.reduceAdd, Int.reduceMul, Int.reduceSub, o_c141, ↓o_g141_0, ↓o_g141_1, ↓o_g141_5, ↓o_g141_6, ↓o_g141_7, ↓o_g141_8, ↓o_g141_9, ↓o_g141_21, ↓o_g141_25, ↓o_g141_26, ↓o_g141_27, ↓o_g141_28, ↓o_g141_29, ↓o_g141_30, ↓o_g141_31, ↓o_g141_34, ↓o_g141_35, ↓o_g141_36, ↓r_pupilRow Z, ↓r_atw e]
theorem r_needsOf {s : mS} {S : Int → Int} (e : s.2 142 = S) (hw : WF S) (Z : mX) (k : Int) (k0 : 0 ≤ k) (k1 : k < 7) (f : Int → mW → mO) : mm_kI (mm_run (zP Z) 275 [.inr (.inr (some 141)), .inl k] (mk s)) f = f (S (60 + 2 * k + 1)) (mk s) := by
  rw [B_X12_needsOf]
  simp (disch := first | assumption | omega) only [↓sm, ↓reduceIte, ↓if_pos, ↓if_neg, kI, kJ, kR, kV, w32_eq, w64_eq, reduceCtorEq, Int.reduceAdd, Int.reduceMul, Int.reduceSub, o_c141, ↓o_g141_0, ↓o_g141_1, ↓o_g141_5, ↓o_g141_6, ↓o_g141_7, ↓o_g141_8, ↓o_g141_9, ↓o_g141_21, ↓o_g141_25, ↓o_g141_26, ↓o_g141_27, ↓o_g141_28, ↓o_g141_29, ↓o_g141_30, ↓o_g141_31, ↓o_g141_34, ↓o_g141_35, ↓o_g141_36, ↓r_lessonRow Z, ↓r_atw e]
theorem r_catchBy {s : mS} {S : Int → Int} (e : s.2 142 = S) (hw : WF S) (Z : mX) (p c w : Int) (p0 : 0 ≤ p) (p1 : p < S 3) (c0 : 0 ≤ c) (c1 : c < 25) (w0 : 0 ≤ w) (w1 : w ≤ 9) (f : Int → mW → mO) : mm_kI (mm_run (zP Z) 276 [.inr (.inr (some 141)), .inl p, .inl c, .inl w] (mk s)) f = f (ct S p c w) (mk s) := by
  have h0 := wf0 hw
  have h1 := wf_c hw c0 c1
  have h2 := wf_p hw p0 p1
  have h3 := pc_r h2.2.2.2.2.1 h2.2.2.2.2.2.1
  rw [B_X12_catchBy]
  unfold ct
  by_cases hz : S (10 + c) = 0
  · simp (disch := first | assumption | omega) only [↓sm, ↓reduceIte, ↓if_pos, ↓if_neg, kI, kJ, kR, kV, w32_eq, w64_eq, reduceCtorEq, Int.reduceAdd, Int.reduceMul, Int.reduceSub, o_c141, ↓o_g141_0, ↓o_g141_1, ↓o_g141_5, ↓o_g141_6, ↓o_g141_7, ↓o_g141_8, ↓o_g141_9, ↓o_g141_21, ↓o_g141_25, ↓o_g141_26, ↓o_g141_27, ↓o_g141_28, ↓o_g141_29, ↓o_g141_30, ↓o_g141_31, ↓o_g141_34, ↓o_g141_35, ↓o_g141_36, ↓r_atw e, hz]
  · simp (disch := first | assumption | omega) only [↓sm, ↓reduceIte, ↓if_pos, ↓if_neg, kI, kJ, kR, kV, w32_eq, w64_eq, reduceCtorEq, Int.reduceAdd, Int.reduceMul, Int.reduceSub, o_c141, ↓o_g141_0, ↓o_g141_1, ↓o_g141_5, ↓o_g141_6, ↓o_g141_7, ↓o_g141_8, ↓o_g141_9, ↓o_g141_21, ↓o_g141_25, ↓o_g141_26, ↓o_g141_27, ↓o_g141_28, ↓o_g141_29, ↓o_g141_30, ↓o_g141_31, ↓o_g141_34, ↓o_g141_35, ↓o_g141_36, ↓r_atw e, hz, ↓r_pupilOf e hw Z, ↓k_bits Z]
theorem r_catchOf {s : mS} {S : Int → Int} (e : s.2 142 = S) (hw : WF S) (Z : mX) (p c : Int) (p0 : 0 ≤ p) (p1 : p < S 3) (c0 : 0 ≤ c) (c1 : c < 25) (f : Int → mW → mO) : mm_kI (mm_run (zP Z) 277 [.inr (.inr (some 141)), .inl p, .inl c] (mk s)) f = f (ct S p c (S (74 + 6 * p + 1))) (mk s) := by
  have h0 := wf0 hw
  have h2 := wf_p hw p0 p1
  rw [B_X12_catchOf]
  simp (disch := first | assumption | omega) only [↓sm, ↓reduceIte, ↓if_pos, ↓if_neg, kI, kJ, kR, kV, w32_eq, w64_eq, reduceCtorEq, Int.reduceAdd, Int.reduceMul, Int.reduceSub, o_c141, ↓o_g141_0, ↓o_g141_1, ↓o_g141_5, ↓o_g141_6, ↓o_g141_7, ↓o_g141_8, ↓o_g141_9, ↓o_g141_21, ↓o_g141_25, ↓o_g141_26, ↓o_g141_27, ↓o_g141_28, ↓o_g141_29, ↓o_g141_30, ↓o_g141_31, ↓o_g141_34, ↓o_g141_35, ↓o_g141_36, ↓r_pupilOf e hw Z, ↓r_catchBy e hw Z]
theorem r_isCaught_t {s : mS} {S : Int → Int} (e : s.2 142 = S) (hw : WF S) (Z : mX) (p : Int) (p0 : 0 ≤ p) (p1 : p < S 3) (hc : 0 < S (74 + 6 * p + 3)) (f : Int → mW → mO) : mm_kI (mm_run (zP Z) 278 [.inr (.inr (some 141)), .inl p] (mk s)) f = f 1 (mk s) := by
  have h0 := wf0 hw
  rw [B_X12_isCaught]
  simp (disch := first | assumption | omega) only [↓sm, ↓reduceIte, ↓if_pos, ↓if_neg, kI, kJ, kR, kV, w32_eq, w64_eq, reduceCtorEq, Int.reduceAdd, Int.reduceMul, Int.reduceSub, o_c141, ↓o_g141_0, ↓o_g141_1, ↓o_g141_5, ↓o_g141_6, ↓o_g141_7, ↓o_g141_8, ↓o_g141_9, ↓o_g141_21, ↓o_g141_25, ↓o_g141_26, ↓o_g141_27, ↓o_g141_28, ↓o_g141_29, ↓o_g141_30, ↓o_g141_31, ↓o_g141_34, ↓o_g141_35, ↓o_g141_36, ↓r_pupilOf e hw Z]
theorem r_isCaught_f {s : mS} {S : Int → Int} (e : s.2 142 = S) (hw : WF S) (Z : mX) (p : Int) (p0 : 0 ≤ p) (p1 : p < S 3) (hc : ¬ 0 < S (74 + 6 * p + 3)) (f : Int → mW → mO) : mm_kI (mm_run (zP Z) 278 [.inr (.inr (some 141)), .inl p] (mk s)) f = f 0 (mk s) := by
  have h0 := wf0 hw
  rw [B_X12_isCaught]
  simp (disch := first | assumption | omega) only [↓sm, ↓reduceIte, ↓if_pos, ↓if_neg, kI, kJ, kR, kV, w32_eq, w64_eq, reduceCtorEq, Int.reduceAdd, Int.reduceMul, Int.reduceSub, o_c141, ↓o_g141_0, ↓o_g141_1, ↓o_g141_5, ↓o_g141_6, ↓o_g141_7, ↓o_g141_8, ↓o_g141_9, ↓o_g141_21, ↓o_g141_25, ↓o_g141_26, ↓o_g141_27, ↓o_g141_28, ↓o_g141_29, ↓o_g141_30, ↓o_g141_31, ↓o_g141_34, ↓o_g141_35, ↓o_g141_36, ↓r_pupilOf e hw Z]
theorem lp_allCaught {s : mS} {S : Int → Int} (e : s.2 142 = S) (hw : WF S) (Z : mX) : ∀ i : Int, i ≤ S 3 → 0 ≤ i → mm_at (zP Z) 281 4 [some (.inr (.inr (some 141))), some (.inl ((bz (fun p => decide (0 < S (74 + 6 * p + 3))) i))), some (.inl i)] [] (mk s) = some (some (.inl (cset S)), mk s) := by
  have w := wf0 hw
  refine up ?_ ?_
  · intro h0
    rw [B_X12_allCaught_4]
    simp (disch := first | assumption | omega) only [↓sm, ↓reduceIte, ↓if_pos, ↓if_neg, kI, kJ, kR, kV, w32_eq, w64_eq, reduceCtorEq, Int.reduceAdd, Int.reduceMul, Int.reduceSub, o_c141, ↓o_g141_0, ↓o_g141_1, ↓o_g141_5, ↓o_g141_6, ↓o_g141_7, ↓o_g141_8, ↓o_g141_9, ↓o_g141_21, ↓o_g141_25, ↓o_g141_26, ↓o_g141_27, ↓o_g141_28, ↓o_g141_29, ↓o_g141_30, ↓o_g141_31, ↓o_g141_34, ↓o_g141_35, ↓o_g141_36, ↓r_at e]
    rfl
  · intro i hi ih h0
    rw [B_X12_allCaught_4]
    by_cases hz : 0 < S (74 + 6 * i + 3)
    · have g := bz_or1 (fun p => decide (0 < S (74 + 6 * p + 3))) h0 (by omega) (by simpa using hz)
      simp (disch := first | assumption | omega) only [↓sm, ↓reduceIte, ↓if_pos, ↓if_neg, kI, kJ, kR, kV, w32_eq, w64_eq, reduceCtorEq, Int.reduceAdd, Int.reduceMul, Int.reduceSub, o_c141, ↓o_g141_0, ↓o_g141_1, ↓o_g141_5, ↓o_g141_6, ↓o_g141_7, ↓o_g141_8, ↓o_g141_9, ↓o_g141_21, ↓o_g141_25, ↓o_g141_26, ↓o_g141_27, ↓o_g141_28, ↓o_g141_29, ↓o_g141_30, ↓o_g141_31, ↓o_g141_34, ↓o_g141_35, ↓o_g141_36, ↓r_at e, ↓r_isCaught_t e hw Z, g]
      exact ih (by omega)
    · have g := bz_or0 (fun p => decide (0 < S (74 + 6 * p + 3))) h0 (by simpa using hz)
      simp (disch := first | assumption | omega) only [↓sm, ↓reduceIte, ↓if_pos, ↓if_neg, kI, kJ, kR, kV, w32_eq, w64_eq, reduceCtorEq, Int.reduceAdd, Int.reduceMul, Int.reduceSub, o_c141, ↓o_g141_0, ↓o_g141_1, ↓o_g141_5, ↓o_g141_6, ↓o_g141_7, ↓o_g141_8, ↓o_g141_9, ↓o_g141_21, ↓o_g141_25, ↓o_g141_26, ↓o_g141_27, ↓o_g141_28, ↓o_g141_29, ↓o_g141_30, ↓o_g141_31, ↓o_g141_34, ↓o_g141_35, ↓o_g141_36, ↓r_at e, ↓r_isCaught_f e hw Z, p2_or0 _ (bz_zr (fun p => decide (0 < S (74 + 6 * p + 3))) (n := i + 1) (by omega)), ← g]
      exact ih (by omega)
theorem r_allCaught {s : mS} {S : Int → Int} (e : s.2 142 = S) (hw : WF S) (Z : mX) (f : Int → mW → mO) : mm_kI (mm_run (zP Z) 281 [.inr (.inr (some 141))] (mk s)) f = f (cset S) (mk s) := by
  have w := wf0 hw
  have g := lp_allCaught e hw Z 0 (by omega) (by omega)
  rw [bz_0] at g
  rw [B_X12_allCaught, g, kI]
theorem lp_whoIs0 {s : mS} {S : Int → Int} (e : s.2 142 = S) (hw : WF S) (Z : mX) (c : Int) : ∀ i : Int, i ≤ S 3 → 0 ≤ i → mm_at (zP Z) 283 4 [some (.inr (.inr (some 141))), some (.inl c), some (.inl 0), some (.inl ((bz (fun p => decide (S (74 + 6 * p) = c)) i))), some (.inl i), none] [] (mk s) = some (some (.inl (atset S c)), mk s) := by
  have w := wf0 hw
  refine up ?_ ?_
  · intro h0
    rw [B_X12_whoIs_4]
    simp (disch := first | assumption | omega) only [↓sm, ↓reduceIte, ↓if_pos, ↓if_neg, kI, kJ, kR, kV, w32_eq, w64_eq, reduceCtorEq, Int.reduceAdd, Int.reduceMul, Int.reduceSub, o_c141, ↓o_g141_0, ↓o_g141_1, ↓o_g141_5, ↓o_g141_6, ↓o_g141_7, ↓o_g141_8, ↓o_g141_9, ↓o_g141_21, ↓o_g141_25, ↓o_g141_26, ↓o_g141_27, ↓o_g141_28, ↓o_g141_29, ↓o_g141_30, ↓o_g141_31, ↓o_g141_34, ↓o_g141_35, ↓o_g141_36, ↓r_at e]
    rfl
  · intro i hi ih h0
    rw [B_X12_whoIs_4]
    by_cases hz : S (74 + 6 * i) = c
    · have g := bz_or1 (fun p => decide (S (74 + 6 * p) = c)) h0 (by omega) (by simpa using hz)
      simp (disch := first | assumption | omega) only [↓sm, ↓reduceIte, ↓if_pos, ↓if_neg, kI, kJ, kR, kV, w32_eq, w64_eq, reduceCtorEq, Int.reduceAdd, Int.reduceMul, Int.reduceSub, o_c141, ↓o_g141_0, ↓o_g141_1, ↓o_g141_5, ↓o_g141_6, ↓o_g141_7, ↓o_g141_8, ↓o_g141_9, ↓o_g141_21, ↓o_g141_25, ↓o_g141_26, ↓o_g141_27, ↓o_g141_28, ↓o_g141_29, ↓o_g141_30, ↓o_g141_31, ↓o_g141_34, ↓o_g141_35, ↓o_g141_36, ↓r_at e, ↓r_pupilAt e hw Z, hz, B_X12_whoIs_29, g]
      exact ih (by omega)
    · have g := bz_or0 (fun p => decide (S (74 + 6 * p) = c)) h0 (by simpa using hz)
      simp (disch := first | assumption | omega) only [↓sm, ↓reduceIte, ↓if_pos, ↓if_neg, kI, kJ, kR, kV, w32_eq, w64_eq, reduceCtorEq, Int.reduceAdd, Int.reduceMul, Int.reduceSub, o_c141, ↓o_g141_0, ↓o_g141_1, ↓o_g141_5, ↓o_g141_6, ↓o_g141_7, ↓o_g141_8, ↓o_g141_9, ↓o_g141_21, ↓o_g141_25, ↓o_g141_26, ↓o_g141_27, ↓o_g141_28, ↓o_g141_29, ↓o_g141_30, ↓o_g141_31, ↓o_g141_34, ↓o_g141_35, ↓o_g141_36, ↓r_at e, ↓r_pupilAt e hw Z, hz, B_X12_whoIs_29, p2_or0 _ (bz_zr (fun p => decide (S (74 + 6 * p) = c)) (n := i + 1) (by omega)), ← g]
      exact ih (by omega)
theorem r_whoIs0 {s : mS} {S : Int → Int} (e : s.2 142 = S) (hw : WF S) (Z : mX) (c : Int) (f : Int → mW → mO) : mm_kI (mm_run (zP Z) 283 [.inr (.inr (some 141)), .inl c, .inl 0] (mk s)) f = f (atset S c) (mk s) := by
  have w := wf0 hw
  have g := lp_whoIs0 e hw Z c 0 (by omega) (by omega)
  rw [bz_0] at g
  rw [B_X12_whoIs, g, kI]
theorem lp_whoIs1 {s : mS} {S : Int → Int} (e : s.2 142 = S) (hw : WF S) (Z : mX) (l : Int) (l0 : 0 ≤ l) (l1 : l < 32) : ∀ i : Int, i ≤ S 3 → 0 ≤ i → mm_at (zP Z) 283 4 [some (.inr (.inr (some 141))), some (.inl l), some (.inl 1), some (.inl ((bz (fun p => tb (S (74 + 6 * p + 2)) l.toNat) i))), some (.inl i), none] [] (mk s) = some (some (.inl (knset S l)), mk s) := by
  have w := wf0 hw
  refine up ?_ ?_
  · intro h0
    rw [B_X12_whoIs_4]
    simp (disch := first | assumption | omega) only [↓sm, ↓reduceIte, ↓if_pos, ↓if_neg, kI, kJ, kR, kV, w32_eq, w64_eq, reduceCtorEq, Int.reduceAdd, Int.reduceMul, Int.reduceSub, o_c141, ↓o_g141_0, ↓o_g141_1, ↓o_g141_5, ↓o_g141_6, ↓o_g141_7, ↓o_g141_8, ↓o_g141_9, ↓o_g141_21, ↓o_g141_25, ↓o_g141_26, ↓o_g141_27, ↓o_g141_28, ↓o_g141_29, ↓o_g141_30, ↓o_g141_31, ↓o_g141_34, ↓o_g141_35, ↓o_g141_36, ↓r_at e]
    rfl
  · intro i hi ih h0
    rw [B_X12_whoIs_4]
    by_cases hz : tb (S (74 + 6 * i + 2)) l.toNat = true
    · have g := bz_or1 (fun p => tb (S (74 + 6 * p + 2)) l.toNat) h0 (by omega) hz
      simp (disch := first | assumption | omega) only [↓sm, ↓reduceIte, ↓if_pos, ↓if_neg, kI, kJ, kR, kV, w32_eq, w64_eq, reduceCtorEq, Int.reduceAdd, Int.reduceMul, Int.reduceSub, o_c141, ↓o_g141_0, ↓o_g141_1, ↓o_g141_5, ↓o_g141_6, ↓o_g141_7, ↓o_g141_8, ↓o_g141_9, ↓o_g141_21, ↓o_g141_25, ↓o_g141_26, ↓o_g141_27, ↓o_g141_28, ↓o_g141_29, ↓o_g141_30, ↓o_g141_31, ↓o_g141_34, ↓o_g141_35, ↓o_g141_36, ↓r_at e, ↓r_pupilOf e hw Z, ↓r_isIn Z, b2i_0, hz, B_X12_whoIs_29, g]
      exact ih (by omega)
    · have hz : tb (S (74 + 6 * i + 2)) l.toNat = false := by simpa using hz
      have g := bz_or0 (fun p => tb (S (74 + 6 * p + 2)) l.toNat) h0 hz
      simp (disch := first | assumption | omega) only [↓sm, ↓reduceIte, ↓if_pos, ↓if_neg, kI, kJ, kR, kV, w32_eq, w64_eq, reduceCtorEq, Int.reduceAdd, Int.reduceMul, Int.reduceSub, o_c141, ↓o_g141_0, ↓o_g141_1, ↓o_g141_5, ↓o_g141_6, ↓o_g141_7, ↓o_g141_8, ↓o_g141_9, ↓o_g141_21, ↓o_g141_25, ↓o_g141_26, ↓o_g141_27, ↓o_g141_28, ↓o_g141_29, ↓o_g141_30, ↓o_g141_31, ↓o_g141_34, ↓o_g141_35, ↓o_g141_36, ↓r_at e, ↓r_pupilOf e hw Z, ↓r_isIn Z, b2i_0, hz, B_X12_whoIs_29, p2_or0 _ (bz_zr (fun p => tb (S (74 + 6 * p + 2)) l.toNat) (n := i + 1) (by omega)), ← g]
      exact ih (by omega)
theorem r_whoIs1 {s : mS} {S : Int → Int} (e : s.2 142 = S) (hw : WF S) (Z : mX) (l : Int) (l0 : 0 ≤ l) (l1 : l < 32) (f : Int → mW → mO) : mm_kI (mm_run (zP Z) 283 [.inr (.inr (some 141)), .inl l, .inl 1] (mk s)) f = f (knset S l) (mk s) := by
  have w := wf0 hw
  have g := lp_whoIs1 e hw Z l l0 l1 0 (by omega) (by omega)
  rw [bz_0] at g
  rw [B_X12_whoIs, g, kI]
theorem r_sideOf {s : mS} {S : Int → Int} (e : s.2 142 = S) (hw : WF S) (Z : mX) (c k : Int) (c0 : 0 ≤ c) (c1 : c < 25) (k0 : 0 ≤ k) (k1 : k ≤ 3) (f : Int → mW → mO) : mm_kI (mm_run (zP Z) 288 [.inr (.inr (some 141)), .inl c, .inl k] (mk s)) f = f (sd S c k) (mk s) := by
  have w := wf0 hw
  have n := wf_n hw
  rw [B_X12_sideOf]
  unfold sd
  have hk : k = 0 ∨ k = 1 ∨ k = 2 ∨ k = 3 := by omega
  rcases hk with rfl | rfl | rfl | rfl
  · by_cases hc : 0 < c % S 0
    · simp (disch := first | assumption | omega) only [↓sm, ↓reduceIte, ↓if_pos, ↓if_neg, kI, kJ, kR, kV, w32_eq, w64_eq, reduceCtorEq, Int.reduceAdd, Int.reduceMul, Int.reduceSub, o_c141, ↓o_g141_0, ↓o_g141_1, ↓o_g141_5, ↓o_g141_6, ↓o_g141_7, ↓o_g141_8, ↓o_g141_9, ↓o_g141_21, ↓o_g141_25, ↓o_g141_26, ↓o_g141_27, ↓o_g141_28, ↓o_g141_29, ↓o_g141_30, ↓o_g141_31, ↓o_g141_34, ↓o_g141_35, ↓o_g141_36, ↓r_at e, irem_eq]
    · simp (disch := first | assumption | omega) only [↓sm, ↓reduceIte, ↓if_pos, ↓if_neg, kI, kJ, kR, kV, w32_eq, w64_eq, reduceCtorEq, Int.reduceAdd, Int.reduceMul, Int.reduceSub, o_c141, ↓o_g141_0, ↓o_g141_1, ↓o_g141_5, ↓o_g141_6, ↓o_g141_7, ↓o_g141_8, ↓o_g141_9, ↓o_g141_21, ↓o_g141_25, ↓o_g141_26, ↓o_g141_27, ↓o_g141_28, ↓o_g141_29, ↓o_g141_30, ↓o_g141_31, ↓o_g141_34, ↓o_g141_35, ↓o_g141_36, ↓r_at e, irem_eq]
  · by_cases hc : c % S 0 < S 0 - 1
    · simp (disch := first | assumption | omega) only [↓sm, ↓reduceIte, ↓if_pos, ↓if_neg, kI, kJ, kR, kV, w32_eq, w64_eq, reduceCtorEq, Int.reduceAdd, Int.reduceMul, Int.reduceSub, o_c141, ↓o_g141_0, ↓o_g141_1, ↓o_g141_5, ↓o_g141_6, ↓o_g141_7, ↓o_g141_8, ↓o_g141_9, ↓o_g141_21, ↓o_g141_25, ↓o_g141_26, ↓o_g141_27, ↓o_g141_28, ↓o_g141_29, ↓o_g141_30, ↓o_g141_31, ↓o_g141_34, ↓o_g141_35, ↓o_g141_36, ↓r_at e, irem_eq]
    · simp (disch := first | assumption | omega) only [↓sm, ↓reduceIte, ↓if_pos, ↓if_neg, kI, kJ, kR, kV, w32_eq, w64_eq, reduceCtorEq, Int.reduceAdd, Int.reduceMul, Int.reduceSub, o_c141, ↓o_g141_0, ↓o_g141_1, ↓o_g141_5, ↓o_g141_6, ↓o_g141_7, ↓o_g141_8, ↓o_g141_9, ↓o_g141_21, ↓o_g141_25, ↓o_g141_26, ↓o_g141_27, ↓o_g141_28, ↓o_g141_29, ↓o_g141_30, ↓o_g141_31, ↓o_g141_34, ↓o_g141_35, ↓o_g141_36, ↓r_at e, irem_eq]
  · by_cases hc : c < S 0
    · simp (disch := first | assumption | omega) only [↓sm, ↓reduceIte, ↓if_pos, ↓if_neg, kI, kJ, kR, kV, w32_eq, w64_eq, reduceCtorEq, Int.reduceAdd, Int.reduceMul, Int.reduceSub, o_c141, ↓o_g141_0, ↓o_g141_1, ↓o_g141_5, ↓o_g141_6, ↓o_g141_7, ↓o_g141_8, ↓o_g141_9, ↓o_g141_21, ↓o_g141_25, ↓o_g141_26, ↓o_g141_27, ↓o_g141_28, ↓o_g141_29, ↓o_g141_30, ↓o_g141_31, ↓o_g141_34, ↓o_g141_35, ↓o_g141_36, ↓r_at e, irem_eq]
    · simp (disch := first | assumption | omega) only [↓sm, ↓reduceIte, ↓if_pos, ↓if_neg, kI, kJ, kR, kV, w32_eq, w64_eq, reduceCtorEq, Int.reduceAdd, Int.reduceMul, Int.reduceSub, o_c141, ↓o_g141_0, ↓o_g141_1, ↓o_g141_5, ↓o_g141_6, ↓o_g141_7, ↓o_g141_8, ↓o_g141_9, ↓o_g141_21, ↓o_g141_25, ↓o_g141_26, ↓o_g141_27, ↓o_g141_28, ↓o_g141_29, ↓o_g141_30, ↓o_g141_31, ↓o_g141_34, ↓o_g141_35, ↓o_g141_36, ↓r_at e, irem_eq]
  · by_cases hc : c + S 0 < ncl S
    · simp (disch := first | assumption | omega) only [↓sm, ↓reduceIte, ↓if_pos, ↓if_neg, kI, kJ, kR, kV, w32_eq, w64_eq, reduceCtorEq, Int.reduceAdd, Int.reduceMul, Int.reduceSub, o_c141, ↓o_g141_0, ↓o_g141_1, ↓o_g141_5, ↓o_g141_6, ↓o_g141_7, ↓o_g141_8, ↓o_g141_9, ↓o_g141_21, ↓o_g141_25, ↓o_g141_26, ↓o_g141_27, ↓o_g141_28, ↓o_g141_29, ↓o_g141_30, ↓o_g141_31, ↓o_g141_34, ↓o_g141_35, ↓o_g141_36, ↓r_at e, ↓r_cellsOf e hw Z]
    · simp (disch := first | assumption | omega) only [↓sm, ↓reduceIte, ↓if_pos, ↓if_neg, kI, kJ, kR, kV, w32_eq, w64_eq, reduceCtorEq, Int.reduceAdd, Int.reduceMul, Int.reduceSub, o_c141, ↓o_g141_0, ↓o_g141_1, ↓o_g141_5, ↓o_g141_6, ↓o_g141_7, ↓o_g141_8, ↓o_g141_9, ↓o_g141_21, ↓o_g141_25, ↓o_g141_26, ↓o_g141_27, ↓o_g141_28, ↓o_g141_29, ↓o_g141_30, ↓o_g141_31, ↓o_g141_34, ↓o_g141_35, ↓o_g141_36, ↓r_at e, ↓r_cellsOf e hw Z]
theorem lp_isNear1 (Z : mX) (w : mW) (a b : Int) : ∀ i : Int, i ≤ 4 → 0 ≤ i → mm_at (zP Z) 289 9 [some (.inr (.inr (some 141))), some (.inl a), some (.inl b), some (.inl 1), some (.inl i)] [] w = some (some (.inl 1), w) := by
  refine up ?_ ?_
  · intro h0
    rw [B_X12_isNear_9]
    simp (disch := first | assumption | omega) only [↓sm, ↓reduceIte, ↓if_pos, ↓if_neg, kI, kJ, kR, kV, w32_eq, w64_eq, reduceCtorEq, Int.reduceAdd, Int.reduceMul, Int.reduceSub, or_true]
  · intro i hi ih h0
    rw [B_X12_isNear_9]
    simp (disch := first | assumption | omega) only [↓sm, ↓reduceIte, ↓if_pos, ↓if_neg, kI, kJ, kR, kV, w32_eq, w64_eq, reduceCtorEq, Int.reduceAdd, Int.reduceMul, Int.reduceSub, Int.one_ne_zero]
    exact ih (by omega)
theorem lp_isNear {s : mS} {S : Int → Int} (e : s.2 142 = S) (hw : WF S) (Z : mX) (a b : Int) (a0 : 0 ≤ a) (a1 : a < 25) : ∀ i : Int, i ≤ 4 → 0 ≤ i → mm_at (zP Z) 289 9 [some (.inr (.inr (some 141))), some (.inl a), some (.inl b), some (.inl 0), some (.inl i)] [] (mk s) = some (some (.inl (b2i (any1 (fun k => decide (sd S a k = b)) (4 - i).toNat i))), mk s) := by
  refine up ?_ ?_
  · intro h0
    rw [B_X12_isNear_9]
    simp (disch := first | assumption | omega) only [↓sm, ↓reduceIte, ↓if_pos, ↓if_neg, kI, kJ, kR, kV, w32_eq, w64_eq, reduceCtorEq, Int.reduceAdd, Int.reduceMul, Int.reduceSub, true_or]
    rfl
  · intro i hi ih h0
    rw [B_X12_isNear_9, show (4 - i).toNat = (4 - (i + 1)).toNat + 1 by omega]
    unfold any1
    by_cases hz : sd S a i = b
    · simp (disch := first | assumption | omega) only [↓sm, ↓reduceIte, ↓if_pos, ↓if_neg, kI, kJ, kR, kV, w32_eq, w64_eq, reduceCtorEq, Int.reduceAdd, Int.reduceMul, Int.reduceSub, o_c141, ↓o_g141_0, ↓o_g141_1, ↓o_g141_5, ↓o_g141_6, ↓o_g141_7, ↓o_g141_8, ↓o_g141_9, ↓o_g141_21, ↓o_g141_25, ↓o_g141_26, ↓o_g141_27, ↓o_g141_28, ↓o_g141_29, ↓o_g141_30, ↓o_g141_31, ↓o_g141_34, ↓o_g141_35, ↓o_g141_36, ↓r_sideOf e hw Z, hz, lp_isNear1 Z, decide_true, Bool.true_or]
      rfl
    · simp (disch := first | assumption | omega) only [↓sm, ↓reduceIte, ↓if_pos, ↓if_neg, kI, kJ, kR, kV, w32_eq, w64_eq, reduceCtorEq, Int.reduceAdd, Int.reduceMul, Int.reduceSub, o_c141, ↓o_g141_0, ↓o_g141_1, ↓o_g141_5, ↓o_g141_6, ↓o_g141_7, ↓o_g141_8, ↓o_g141_9, ↓o_g141_21, ↓o_g141_25, ↓o_g141_26, ↓o_g141_27, ↓o_g141_28, ↓o_g141_29, ↓o_g141_30, ↓o_g141_31, ↓o_g141_34, ↓o_g141_35, ↓o_g141_36, ↓r_sideOf e hw Z, hz, decide_false, Bool.false_or]
      exact ih (by omega)
theorem r_isNear {s : mS} {S : Int → Int} (e : s.2 142 = S) (hw : WF S) (Z : mX) (a b : Int) (a0 : 0 ≤ a) (a1 : a < 25) (f : Int → mW → mO) : mm_kI (mm_run (zP Z) 289 [.inr (.inr (some 141)), .inl a, .inl b] (mk s)) f = f (b2i (nearB S a b)) (mk s) := by
  have g := lp_isNear e hw Z a b a0 a1 0 (by omega) (by omega)
  have g2 : any1 (fun k => decide (sd S a k = b)) 4 0 = (decide (sd S a 0 = b) || decide (sd S a 1 = b) || decide (sd S a 2 = b) || decide (sd S a 3 = b)) := by
    simp [any1, Bool.or_assoc]
  rw [B_X12_isNear]
  unfold nearB
  by_cases hz : a = b
  · simp (disch := first | assumption | omega) only [↓sm, ↓reduceIte, ↓if_pos, ↓if_neg, kI, kJ, kR, kV, w32_eq, w64_eq, reduceCtorEq, Int.reduceAdd, Int.reduceMul, Int.reduceSub, hz, lp_isNear1 Z, decide_true, Bool.true_or]
    rfl
  · rw [if_neg hz, g, kI]
    simp only [show (4 - (0 : Int)).toNat = 4 by decide, g2, hz, decide_false, Bool.false_or]
theorem lp_rnextLesson {s : mS} {S : Int → Int} (e : s.2 142 = S) (hw : WF S) (Z : mX) (K : Int) : ∀ i : Int, i ≤ S 2 → 0 ≤ i → mm_at (zP Z) 292 7 [some (.inr (.inr (some 141))), none, some (.inl K), some (.inl i)] [] (mk s) = some (some (.inl (fst1 (nlP S K) (S 2 - i).toNat i)), mk s) := by
  have w := wf0 hw
  refine up ?_ ?_
  · intro h0
    rw [B_X12_nextLesson_7]
    simp (disch := first | assumption | omega) only [↓sm, ↓reduceIte, ↓if_pos, ↓if_neg, kI, kJ, kR, kV, w32_eq, w64_eq, reduceCtorEq, Int.reduceAdd, Int.reduceMul, Int.reduceSub, o_c141, ↓o_g141_0, ↓o_g141_1, ↓o_g141_5, ↓o_g141_6, ↓o_g141_7, ↓o_g141_8, ↓o_g141_9, ↓o_g141_21, ↓o_g141_25, ↓o_g141_26, ↓o_g141_27, ↓o_g141_28, ↓o_g141_29, ↓o_g141_30, ↓o_g141_31, ↓o_g141_34, ↓o_g141_35, ↓o_g141_36, ↓r_at e]
    rw [show (S 2 - S 2).toNat = 0 by omega]
    rfl
  · intro i hi ih h0
    rw [B_X12_nextLesson_7, show (S 2 - i).toNat = (S 2 - (i + 1)).toNat + 1 by omega]
    unfold fst1
    cases hz : tb K i.toNat
    · by_cases hy : mm_iand (S (60 + 2 * i + 1)) (mm_ixor K (-1)) = 0
      · simp (disch := first | assumption | omega) only [↓sm, ↓reduceIte, ↓if_pos, ↓if_neg, kI, kJ, kR, kV, w32_eq, w64_eq, reduceCtorEq, Int.reduceAdd, Int.reduceMul, Int.reduceSub, o_c141, ↓o_g141_0, ↓o_g141_1, ↓o_g141_5, ↓o_g141_6, ↓o_g141_7, ↓o_g141_8, ↓o_g141_9, ↓o_g141_21, ↓o_g141_25, ↓o_g141_26, ↓o_g141_27, ↓o_g141_28, ↓o_g141_29, ↓o_g141_30, ↓o_g141_31, ↓o_g141_34, ↓o_g141_35, ↓o_g141_36, ↓r_at e, ↓r_isIn Z, ↓r_needsOf e hw Z, b2i_0, hz, hy, nlP, Bool.not_false, decide_true, Bool.true_and]
      · simp (disch := first | assumption | omega) only [↓sm, ↓reduceIte, ↓if_pos, ↓if_neg, kI, kJ, kR, kV, w32_eq, w64_eq, reduceCtorEq, Int.reduceAdd, Int.reduceMul, Int.reduceSub, o_c141, ↓o_g141_0, ↓o_g141_1, ↓o_g141_5, ↓o_g141_6, ↓o_g141_7, ↓o_g141_8, ↓o_g141_9, ↓o_g141_21, ↓o_g141_25, ↓o_g141_26, ↓o_g141_27, ↓o_g141_28, ↓o_g141_29, ↓o_g141_30, ↓o_g141_31, ↓o_g141_34, ↓o_g141_35, ↓o_g141_36, ↓r_at e, ↓r_isIn Z, ↓r_needsOf e hw Z, b2i_0, hz, hy, nlP, Bool.not_false, decide_false, Bool.and_false, Bool.false_eq_true]
        exact ih (by omega)
    · simp (disch := first | assumption | omega) only [↓sm, ↓reduceIte, ↓if_pos, ↓if_neg, kI, kJ, kR, kV, w32_eq, w64_eq, reduceCtorEq, Int.reduceAdd, Int.reduceMul, Int.reduceSub, o_c141, ↓o_g141_0, ↓o_g141_1, ↓o_g141_5, ↓o_g141_6, ↓o_g141_7, ↓o_g141_8, ↓o_g141_9, ↓o_g141_21, ↓o_g141_25, ↓o_g141_26, ↓o_g141_27, ↓o_g141_28, ↓o_g141_29, ↓o_g141_30, ↓o_g141_31, ↓o_g141_34, ↓o_g141_35, ↓o_g141_36, ↓r_at e, ↓r_isIn Z, b2i_0, hz, nlP, Bool.not_true, Bool.false_and, Bool.false_eq_true]
      exact ih (by omega)
theorem r_nextLesson {s : mS} {S : Int → Int} (e : s.2 142 = S) (hw : WF S) (Z : mX) (p : Int) (p0 : 0 ≤ p) (p1 : p < S 3) (f : Int → mW → mO) : mm_kI (mm_run (zP Z) 292 [.inr (.inr (some 141)), .inl p] (mk s)) f = f (nl S p) (mk s) := by
  have w := wf0 hw
  have g := lp_rnextLesson e hw Z (S (74 + 6 * p + 2)) 0 (by omega) (by omega)
  rw [B_X12_nextLesson]
  simp (disch := first | assumption | omega) only [↓sm, ↓reduceIte, ↓if_pos, ↓if_neg, kI, kJ, kR, kV, w32_eq, w64_eq, reduceCtorEq, Int.reduceAdd, Int.reduceMul, Int.reduceSub, o_c141, ↓o_g141_0, ↓o_g141_1, ↓o_g141_5, ↓o_g141_6, ↓o_g141_7, ↓o_g141_8, ↓o_g141_9, ↓o_g141_21, ↓o_g141_25, ↓o_g141_26, ↓o_g141_27, ↓o_g141_28, ↓o_g141_29, ↓o_g141_30, ↓o_g141_31, ↓o_g141_34, ↓o_g141_35, ↓o_g141_36, ↓r_pupilOf e hw Z, g]
  rw [Int.sub_zero]
  rfl
theorem r_canFree {s : mS} {S : Int → Int} (e : s.2 142 = S) (hw : WF S) (Z : mX) (p o : Int) (p0 : 0 ≤ p) (p1 : p < S 3) (o0 : 0 ≤ o) (o1 : o < S 3) (f : Int → mW → mO) : mm_kI (mm_run (zP Z) 293 [.inr (.inr (some 141)), .inl p, .inl o] (mk s)) f = f (b2i (helpB S p o)) (mk s) := by
  have w := wf0 hw
  have wn := wf_n hw
  have wp := wf_p hw p0 p1
  rw [B_X12_canFree]
  unfold helpB
  by_cases h1 : p = o
  · simp (disch := first | assumption | omega) only [↓sm, ↓reduceIte, ↓if_pos, ↓if_neg, kI, kJ, kR, kV, w32_eq, w64_eq, reduceCtorEq, Int.reduceAdd, Int.reduceMul, Int.reduceSub, h1, ne_eq, not_true, decide_false, Bool.false_and]
    rfl
  · by_cases h2 : 0 < S (74 + 6 * p + 3)
    · simp (disch := first | assumption | omega) only [↓sm, ↓reduceIte, ↓if_pos, ↓if_neg, kI, kJ, kR, kV, w32_eq, w64_eq, reduceCtorEq, Int.reduceAdd, Int.reduceMul, Int.reduceSub, o_c141, ↓o_g141_0, ↓o_g141_1, ↓o_g141_5, ↓o_g141_6, ↓o_g141_7, ↓o_g141_8, ↓o_g141_9, ↓o_g141_21, ↓o_g141_25, ↓o_g141_26, ↓o_g141_27, ↓o_g141_28, ↓o_g141_29, ↓o_g141_30, ↓o_g141_31, ↓o_g141_34, ↓o_g141_35, ↓o_g141_36, ↓r_isCaught_t e hw Z]
      simp [h1, h2, b2i]
    · by_cases h3 : 0 < S (74 + 6 * o + 3)
      · cases hb : nearB S (S (74 + 6 * p)) (S (74 + 6 * o))
        · simp (disch := first | assumption | omega) only [↓sm, ↓reduceIte, ↓if_pos, ↓if_neg, kI, kJ, kR, kV, w32_eq, w64_eq, reduceCtorEq, Int.reduceAdd, Int.reduceMul, Int.reduceSub, o_c141, ↓o_g141_0, ↓o_g141_1, ↓o_g141_5, ↓o_g141_6, ↓o_g141_7, ↓o_g141_8, ↓o_g141_9, ↓o_g141_21, ↓o_g141_25, ↓o_g141_26, ↓o_g141_27, ↓o_g141_28, ↓o_g141_29, ↓o_g141_30, ↓o_g141_31, ↓o_g141_34, ↓o_g141_35, ↓o_g141_36, ↓r_isCaught_t e hw Z, ↓r_isCaught_f e hw Z, ↓r_pupilAt e hw Z, ↓r_isNear e hw Z, b2i_0, hb]
          simp [b2i]
        · simp (disch := first | assumption | omega) only [↓sm, ↓reduceIte, ↓if_pos, ↓if_neg, kI, kJ, kR, kV, w32_eq, w64_eq, reduceCtorEq, Int.reduceAdd, Int.reduceMul, Int.reduceSub, o_c141, ↓o_g141_0, ↓o_g141_1, ↓o_g141_5, ↓o_g141_6, ↓o_g141_7, ↓o_g141_8, ↓o_g141_9, ↓o_g141_21, ↓o_g141_25, ↓o_g141_26, ↓o_g141_27, ↓o_g141_28, ↓o_g141_29, ↓o_g141_30, ↓o_g141_31, ↓o_g141_34, ↓o_g141_35, ↓o_g141_36, ↓r_isCaught_t e hw Z, ↓r_isCaught_f e hw Z, ↓r_pupilAt e hw Z, ↓r_isNear e hw Z, b2i_0, hb]
          simp [h1, h2, h3, b2i]
      · simp (disch := first | assumption | omega) only [↓sm, ↓reduceIte, ↓if_pos, ↓if_neg, kI, kJ, kR, kV, w32_eq, w64_eq, reduceCtorEq, Int.reduceAdd, Int.reduceMul, Int.reduceSub, o_c141, ↓o_g141_0, ↓o_g141_1, ↓o_g141_5, ↓o_g141_6, ↓o_g141_7, ↓o_g141_8, ↓o_g141_9, ↓o_g141_21, ↓o_g141_25, ↓o_g141_26, ↓o_g141_27, ↓o_g141_28, ↓o_g141_29, ↓o_g141_30, ↓o_g141_31, ↓o_g141_34, ↓o_g141_35, ↓o_g141_36, ↓r_isCaught_f e hw Z]
        simp [h1, h2, h3, b2i]
/-- who of a set is near a cell -/
def ntset (S : Int → Int) (c set : Int) : Int := bz (fun p => tb set p.toNat && nearB S (S (74 + 6 * p)) c) (S 3)
theorem lp_nearTo {s : mS} {S : Int → Int} (e : s.2 142 = S) (hw : WF S) (Z : mX) (c set : Int) : ∀ i : Int, i ≤ S 3 → 0 ≤ i → mm_at (zP Z) 321 4 [some (.inr (.inr (some 141))), some (.inl c), some (.inl set), some (.inl ((bz (fun p => tb set p.toNat && nearB S (S (74 + 6 * p)) c) i))), some (.inl i)] [] (mk s) = some (some (.inl (ntset S c set)), mk s) := by
  have w := wf0 hw
  have wn := wf_n hw
  refine up ?_ ?_
  · intro h0
    rw [B_X12_nearTo_4]
    simp (disch := first | assumption | omega) only [↓sm, ↓reduceIte, ↓if_pos, ↓if_neg, kI, kJ, kR, kV, w32_eq, w64_eq, reduceCtorEq, Int.reduceAdd, Int.reduceMul, Int.reduceSub, o_c141, ↓o_g141_0, ↓o_g141_1, ↓o_g141_5, ↓o_g141_6, ↓o_g141_7, ↓o_g141_8, ↓o_g141_9, ↓o_g141_21, ↓o_g141_25, ↓o_g141_26, ↓o_g141_27, ↓o_g141_28, ↓o_g141_29, ↓o_g141_30, ↓o_g141_31, ↓o_g141_34, ↓o_g141_35, ↓o_g141_36, ↓r_at e]
    rfl
  · intro i hi ih h0
    have wp := wf_p hw h0 hi
    have g0 := bz_or0 (fun p => tb set p.toNat && nearB S (S (74 + 6 * p)) c) h0
    have g1 := bz_or1 (fun p => tb set p.toNat && nearB S (S (74 + 6 * p)) c) h0 (by omega)
    rw [B_X12_nearTo_4]
    cases hz : tb set i.toNat
    · have g := g0 (by simp [hz])
      simp (disch := first | assumption | omega) only [↓sm, ↓reduceIte, ↓if_pos, ↓if_neg, kI, kJ, kR, kV, w32_eq, w64_eq, reduceCtorEq, Int.reduceAdd, Int.reduceMul, Int.reduceSub, o_c141, ↓o_g141_0, ↓o_g141_1, ↓o_g141_5, ↓o_g141_6, ↓o_g141_7, ↓o_g141_8, ↓o_g141_9, ↓o_g141_21, ↓o_g141_25, ↓o_g141_26, ↓o_g141_27, ↓o_g141_28, ↓o_g141_29, ↓o_g141_30, ↓o_g141_31, ↓o_g141_34, ↓o_g141_35, ↓o_g141_36, ↓r_at e, ↓r_isIn Z, b2i_0, hz, p2_or0 _ (bz_zr (fun p => tb set p.toNat && nearB S (S (74 + 6 * p)) c) (n := i + 1) (by omega)), ← g]
      exact ih (by omega)
    · cases hy : nearB S (S (74 + 6 * i)) c
      · have g := g0 (by simp [hy])
        simp (disch := first | assumption | omega) only [↓sm, ↓reduceIte, ↓if_pos, ↓if_neg, kI, kJ, kR, kV, w32_eq, w64_eq, reduceCtorEq, Int.reduceAdd, Int.reduceMul, Int.reduceSub, o_c141, ↓o_g141_0, ↓o_g141_1, ↓o_g141_5, ↓o_g141_6, ↓o_g141_7, ↓o_g141_8, ↓o_g141_9, ↓o_g141_21, ↓o_g141_25, ↓o_g141_26, ↓o_g141_27, ↓o_g141_28, ↓o_g141_29, ↓o_g141_30, ↓o_g141_31, ↓o_g141_34, ↓o_g141_35, ↓o_g141_36, ↓r_at e, ↓r_isIn Z, b2i_0, hz, ↓r_pupilAt e hw Z, ↓r_isNear e hw Z, hy, p2_or0 _ (bz_zr (fun p => tb set p.toNat && nearB S (S (74 + 6 * p)) c) (n := i + 1) (by omega)), ← g]
        exact ih (by omega)
      · have g := g1 (by simp [hz, hy])
        simp (disch := first | assumption | omega) only [↓sm, ↓reduceIte, ↓if_pos, ↓if_neg, kI, kJ, kR, kV, w32_eq, w64_eq, reduceCtorEq, Int.reduceAdd, Int.reduceMul, Int.reduceSub, o_c141, ↓o_g141_0, ↓o_g141_1, ↓o_g141_5, ↓o_g141_6, ↓o_g141_7, ↓o_g141_8, ↓o_g141_9, ↓o_g141_21, ↓o_g141_25, ↓o_g141_26, ↓o_g141_27, ↓o_g141_28, ↓o_g141_29, ↓o_g141_30, ↓o_g141_31, ↓o_g141_34, ↓o_g141_35, ↓o_g141_36, ↓r_at e, ↓r_isIn Z, b2i_0, hz, ↓r_pupilAt e hw Z, ↓r_isNear e hw Z, hy, g]
        exact ih (by omega)
theorem r_nearTo {s : mS} {S : Int → Int} (e : s.2 142 = S) (hw : WF S) (Z : mX) (c set : Int) (f : Int → mW → mO) : mm_kI (mm_run (zP Z) 321 [.inr (.inr (some 141)), .inl c, .inl set] (mk s)) f = f (ntset S c set) (mk s) := by
  have w := wf0 hw
  have g := lp_nearTo e hw Z c set 0 (by omega) (by omega)
  rw [bz_0] at g
  rw [B_X12_nearTo, g, kI]
