/-! what the steps of the autumns ask -/
def cmpB (a g n : Int) : Bool := if g = 60 then decide (a < n) else if g = 62 then decide (n < a) else decide (a = n)
def hoB (S : Int → Int) (i : Int) : Bool :=
  if S (104 + 6 * i) = 2209 then decide (S (74 + 6 * S (104 + 6 * i + 1)) = S (104 + 6 * i + 2))
  else if S (104 + 6 * i) = 2211 then cmpB (pc (S (74 + 6 * S (104 + 6 * i + 1) + 2))) (S (104 + 6 * i + 5)) (S (104 + 6 * i + 2))
  else if S (104 + 6 * i) = 2226 then decide (0 < S (74 + 6 * S (104 + 6 * i + 1) + 3))
  else cmpB (S (10 + S (104 + 6 * i + 1))) (S (104 + 6 * i + 5)) (S (104 + 6 * i + 2))
theorem c_compares (Z : mX) (w : mW) (a g n : Int) (f : Int → mW → mO) : mm_kI (mm_run (zP Z) 36 [.inl a, .inl g, .inl n] w) f = f (b2i (cmpB a g n)) w := by
  rw [B_X4_compares]
  unfold cmpB
  by_cases h0 : g = 60
  · by_cases h : a < n
    · simp (disch := first | assumption | omega) only [↓sm, ↓reduceIte, ↓if_pos, ↓if_neg, kI, kJ, kR, kV, w32_eq, w64_eq, reduceCtorEq, Int.reduceAdd, Int.reduceMul, Int.reduceSub, h0, h, b2i]
      simp [h]
    · simp (disch := first | assumption | omega) only [↓sm, ↓reduceIte, ↓if_pos, ↓if_neg, kI, kJ, kR, kV, w32_eq, w64_eq, reduceCtorEq, Int.reduceAdd, Int.reduceMul, Int.reduceSub, h0, h, b2i]
      simp [h]
  · by_cases h1 : g = 62
    · by_cases h : n < a
      · simp (disch := first | assumption | omega) only [↓sm, ↓reduceIte, ↓if_pos, ↓if_neg, kI, kJ, kR, kV, w32_eq, w64_eq, reduceCtorEq, Int.reduceAdd, Int.reduceMul, Int.reduceSub, h0, h1, h, b2i]
        simp [h]
      · simp (disch := first | assumption | omega) only [↓sm, ↓reduceIte, ↓if_pos, ↓if_neg, kI, kJ, kR, kV, w32_eq, w64_eq, reduceCtorEq, Int.reduceAdd, Int.reduceMul, Int.reduceSub, h0, h1, h, b2i]
        simp [h]
    · by_cases h : a = n
      · simp (disch := first | assumption | omega) only [↓sm, ↓reduceIte, ↓if_pos, ↓if_neg, kI, kJ, kR, kV, w32_eq, w64_eq, reduceCtorEq, Int.reduceAdd, Int.reduceMul, Int.reduceSub, h0, h1, h, b2i]
        simp
      · simp (disch := first | assumption | omega) only [↓sm, ↓reduceIte, ↓if_pos, ↓if_neg, kI, kJ, kR, kV, w32_eq, w64_eq, reduceCtorEq, Int.reduceAdd, Int.reduceMul, Int.reduceSub, h0, h1, h, b2i]
        simp [h]
theorem b2i_01 (b : Bool) : b2i b = 0 ∨ b2i b = 1 := by cases b <;> simp [b2i]
theorem c_holds {s : mS} {S N : Int → Int} (h : CS s 7 S N) (hw : WF S) (Z : mX) {n : Int} {op : Int → Prop} (hA : AC s 33 S n op) (hP : PR S n) (n60 : n ≤ 60) (i : Int) (i0 : 0 ≤ i) (i1 : i < n) (hW : 2200 ≤ S (104 + 6 * i)) (f : Int → mW → mO) : mm_kI (mm_run (zP Z) 35 [.inr (.inr (some 63)), .inl i] (mk s)) f = f (b2i (hoB S i)) (mk s) := by
  obtain ⟨a1, a2, a3, a4, a5⟩ := hA i i0 i1
  obtain ⟨p1, p2, p3, p4, p5, p6, p7⟩ := hP i i0 i1
  have a2 := a2 (by omega)
  obtain ⟨a4, a6⟩ := a4 hW
  have w := wf0 hw
  have nn := wf_n hw
  have hcase : S (104 + 6 * i) = 2202 ∨ S (104 + 6 * i) = 2209 ∨ S (104 + 6 * i) = 2211 ∨ S (104 + 6 * i) = 2226 := by omega
  rw [B_X4_holds]
  unfold hoB
  rcases hcase with e | e | e | e
  · have q := p7 e
    rw [e] at a1
    have a1 : s.2 34 i = 3 := a1
    simp only [e]
    simp (disch := first | assumption | omega) only [↓sm, ↓reduceIte, ↓if_pos, ↓if_neg, kI, kJ, kR, kV, w32_eq, w64_eq, reduceCtorEq, Int.reduceAdd, Int.reduceMul, Int.reduceSub, o_c63, ↓o_g63_0, ↓o_g63_1, ↓o_g63_2, ↓o_g63_3, ↓o_g63_4, ↓o_g63_5, ↓o_g63_6, ↓o_g63_7, ↓o_g63_8, ↓o_g63_9, ↓o_g63_10, ↓o_g63_11, ↓a_ln64, ↓a_ld64, ↓a_ln65, ↓a_ld65, o_c7, o_c7, ↓o_g7_4, ↓o_g7_5, ↓o_g7_7, ↓o_g7_8, ↓o_g7_9, ↓o_g7_11, ↓o_g7_12, ↓o_g7_13, ↓o_g7_14, ↓o_g7_15, ↓o_g7_16, ↓o_g7_17, ↓q_wide h, ↓q_high h, ↓q_odds h, ↓q_year h, ↓q_less h, ↓q_pups h, ↓q_thorns h Z, ↓q_berries h Z, ↓q_hours h hw Z, ↓q_needs h hw Z, ↓q_at h hw Z, ↓q_want h hw Z, ↓q_knows h hw Z, ↓q_caught h hw Z, ↓q_marks h hw Z, ↓q_torn h hw Z, o_c33, ↓o_g33_0, ↓o_g33_1, ↓o_g33_2, ↓o_g33_3, ↓o_g33_4, ↓o_g33_5, ↓o_g33_6, ↓o_g33_7, ↓a_ln34, ↓a_ld34, ↓a_ln35, ↓a_ld35, ↓a_ln36, ↓a_ld36, ↓a_ln37, ↓a_ld37, ↓a_ln38, ↓a_ld38, ↓g_35 Z, ↓g_37 Z, ↓g_34 Z, ↓g_36 Z, a1, a2, a4, a6, ↓c_compares Z, ↓q_thorns h Z, q_thorns h Z, b2i_01]
  · have q := p2 (by omega)
    rw [e] at a1
    have a1 : s.2 34 i = 9 := a1
    simp only [e]
    by_cases hh : S (74 + 6 * S (104 + 6 * i + 1)) = S (104 + 6 * i + 2)
    · simp (disch := first | assumption | omega) only [↓sm, ↓reduceIte, ↓if_pos, ↓if_neg, kI, kJ, kR, kV, w32_eq, w64_eq, reduceCtorEq, Int.reduceAdd, Int.reduceMul, Int.reduceSub, o_c63, ↓o_g63_0, ↓o_g63_1, ↓o_g63_2, ↓o_g63_3, ↓o_g63_4, ↓o_g63_5, ↓o_g63_6, ↓o_g63_7, ↓o_g63_8, ↓o_g63_9, ↓o_g63_10, ↓o_g63_11, ↓a_ln64, ↓a_ld64, ↓a_ln65, ↓a_ld65, o_c7, o_c7, ↓o_g7_4, ↓o_g7_5, ↓o_g7_7, ↓o_g7_8, ↓o_g7_9, ↓o_g7_11, ↓o_g7_12, ↓o_g7_13, ↓o_g7_14, ↓o_g7_15, ↓o_g7_16, ↓o_g7_17, o_c33, ↓o_g33_0, ↓o_g33_1, ↓o_g33_2, ↓o_g33_3, ↓o_g33_4, ↓o_g33_5, ↓o_g33_6, ↓o_g33_7, ↓a_ln34, ↓a_ld34, ↓a_ln35, ↓a_ld35, ↓a_ln36, ↓a_ld36, ↓a_ln37, ↓a_ld37, ↓a_ln38, ↓a_ld38, ↓g_35 Z, ↓g_37 Z, ↓g_34 Z, ↓g_36 Z, a1, a2, a4, a6, ↓q_at h hw Z, q_at h hw Z, hh, b2i]
      simp
    · simp (disch := first | assumption | omega) only [↓sm, ↓reduceIte, ↓if_pos, ↓if_neg, kI, kJ, kR, kV, w32_eq, w64_eq, reduceCtorEq, Int.reduceAdd, Int.reduceMul, Int.reduceSub, o_c63, ↓o_g63_0, ↓o_g63_1, ↓o_g63_2, ↓o_g63_3, ↓o_g63_4, ↓o_g63_5, ↓o_g63_6, ↓o_g63_7, ↓o_g63_8, ↓o_g63_9, ↓o_g63_10, ↓o_g63_11, ↓a_ln64, ↓a_ld64, ↓a_ln65, ↓a_ld65, o_c7, o_c7, ↓o_g7_4, ↓o_g7_5, ↓o_g7_7, ↓o_g7_8, ↓o_g7_9, ↓o_g7_11, ↓o_g7_12, ↓o_g7_13, ↓o_g7_14, ↓o_g7_15, ↓o_g7_16, ↓o_g7_17, o_c33, ↓o_g33_0, ↓o_g33_1, ↓o_g33_2, ↓o_g33_3, ↓o_g33_4, ↓o_g33_5, ↓o_g33_6, ↓o_g33_7, ↓a_ln34, ↓a_ld34, ↓a_ln35, ↓a_ld35, ↓a_ln36, ↓a_ld36, ↓a_ln37, ↓a_ld37, ↓a_ln38, ↓a_ld38, ↓g_35 Z, ↓g_37 Z, ↓g_34 Z, ↓g_36 Z, a1, a2, a4, a6, ↓q_at h hw Z, q_at h hw Z, hh, b2i]
      simp [hh]
  · have q := p2 (by omega)
    rw [e] at a1
    have a1 : s.2 34 i = 11 := a1
    simp only [e]
    simp (disch := first | assumption | omega) only [↓sm, ↓reduceIte, ↓if_pos, ↓if_neg, kI, kJ, kR, kV, w32_eq, w64_eq, reduceCtorEq, Int.reduceAdd, Int.reduceMul, Int.reduceSub, o_c63, ↓o_g63_0, ↓o_g63_1, ↓o_g63_2, ↓o_g63_3, ↓o_g63_4, ↓o_g63_5, ↓o_g63_6, ↓o_g63_7, ↓o_g63_8, ↓o_g63_9, ↓o_g63_10, ↓o_g63_11, ↓a_ln64, ↓a_ld64, ↓a_ln65, ↓a_ld65, o_c7, o_c33, ↓o_g33_0, ↓o_g33_1, ↓o_g33_2, ↓o_g33_3, ↓o_g33_4, ↓o_g33_5, ↓o_g33_6, ↓o_g33_7, ↓a_ln34, ↓a_ld34, ↓a_ln35, ↓a_ld35, ↓a_ln36, ↓a_ld36, ↓a_ln37, ↓a_ld37, ↓a_ln38, ↓a_ld38, ↓g_35 Z, ↓g_37 Z, ↓g_34 Z, ↓g_36 Z, a1, a2, a4, a6, ↓c_compares Z, ↓c_touch h hw Z, c_touch h hw Z, b2i_01]
  · have q := p2 (by omega)
    rw [e] at a1
    have a1 : s.2 34 i = 23 := a1
    simp only [e]
    by_cases hh : 0 < S (74 + 6 * S (104 + 6 * i + 1) + 3)
    · simp (disch := first | assumption | omega) only [↓sm, ↓reduceIte, ↓if_pos, ↓if_neg, kI, kJ, kR, kV, w32_eq, w64_eq, reduceCtorEq, Int.reduceAdd, Int.reduceMul, Int.reduceSub, o_c63, ↓o_g63_0, ↓o_g63_1, ↓o_g63_2, ↓o_g63_3, ↓o_g63_4, ↓o_g63_5, ↓o_g63_6, ↓o_g63_7, ↓o_g63_8, ↓o_g63_9, ↓o_g63_10, ↓o_g63_11, ↓a_ln64, ↓a_ld64, ↓a_ln65, ↓a_ld65, o_c7, o_c33, ↓o_g33_0, ↓o_g33_1, ↓o_g33_2, ↓o_g33_3, ↓o_g33_4, ↓o_g33_5, ↓o_g33_6, ↓o_g33_7, ↓a_ln34, ↓a_ld34, ↓a_ln35, ↓a_ld35, ↓a_ln36, ↓a_ld36, ↓a_ln37, ↓a_ld37, ↓a_ln38, ↓a_ld38, ↓g_35 Z, ↓g_37 Z, ↓g_34 Z, ↓g_36 Z, a1, a2, a4, a6, ↓c_isCaught_t h hw Z, c_isCaught_t h hw Z, hh, b2i, true_or, or_true]
      simp [hh]
    · simp (disch := first | assumption | omega) only [↓sm, ↓reduceIte, ↓if_pos, ↓if_neg, kI, kJ, kR, kV, w32_eq, w64_eq, reduceCtorEq, Int.reduceAdd, Int.reduceMul, Int.reduceSub, o_c63, ↓o_g63_0, ↓o_g63_1, ↓o_g63_2, ↓o_g63_3, ↓o_g63_4, ↓o_g63_5, ↓o_g63_6, ↓o_g63_7, ↓o_g63_8, ↓o_g63_9, ↓o_g63_10, ↓o_g63_11, ↓a_ln64, ↓a_ld64, ↓a_ln65, ↓a_ld65, o_c7, o_c33, ↓o_g33_0, ↓o_g33_1, ↓o_g33_2, ↓o_g33_3, ↓o_g33_4, ↓o_g33_5, ↓o_g33_6, ↓o_g33_7, ↓a_ln34, ↓a_ld34, ↓a_ln35, ↓a_ld35, ↓a_ln36, ↓a_ld36, ↓a_ln37, ↓a_ld37, ↓a_ln38, ↓a_ld38, ↓g_35 Z, ↓g_37 Z, ↓g_34 Z, ↓g_36 Z, a1, a2, a4, a6, ↓c_isCaught_f h hw Z, c_isCaught_f h hw Z, hh, b2i, true_or, or_true]
      simp [hh]
theorem r_cmp54 {s : mS} {S : Int → Int} (e : s.2 142 = S) (hw : WF S) (Z : mX) (i a : Int) (i0 : 0 ≤ i) (i1 : i < 60) (f : Int → mW → mO) : mm_kI (mm_at (zP Z) 355 54 [some (.inr (.inr (some 141))), some (.inl (104 + 6 * i)), none, none, none] [.inl a] (mk s)) f = f (b2i (cmpB a (S (104 + 6 * i + 5)) (S (104 + 6 * i + 2)))) (mk s) := by
  rw [B_X12_holds_54]
  unfold cmpB
  by_cases h0 : S (104 + 6 * i + 5) = 60
  · by_cases h : a < S (104 + 6 * i + 2)
    · simp (disch := first | assumption | omega) only [↓sm, ↓reduceIte, ↓if_pos, ↓if_neg, kI, kJ, kR, kV, w32_eq, w64_eq, reduceCtorEq, Int.reduceAdd, Int.reduceMul, Int.reduceSub, o_c141, ↓o_g141_0, ↓o_g141_1, ↓o_g141_5, ↓o_g141_6, ↓o_g141_7, ↓o_g141_8, ↓o_g141_9, ↓o_g141_21, ↓o_g141_25, ↓o_g141_26, ↓o_g141_27, ↓o_g141_28, ↓o_g141_29, ↓o_g141_30, ↓o_g141_31, ↓o_g141_34, ↓o_g141_35, ↓o_g141_36, ↓r_at e, ↓r_atw e, h0, h, b2i]
      simp [h]
    · simp (disch := first | assumption | omega) only [↓sm, ↓reduceIte, ↓if_pos, ↓if_neg, kI, kJ, kR, kV, w32_eq, w64_eq, reduceCtorEq, Int.reduceAdd, Int.reduceMul, Int.reduceSub, o_c141, ↓o_g141_0, ↓o_g141_1, ↓o_g141_5, ↓o_g141_6, ↓o_g141_7, ↓o_g141_8, ↓o_g141_9, ↓o_g141_21, ↓o_g141_25, ↓o_g141_26, ↓o_g141_27, ↓o_g141_28, ↓o_g141_29, ↓o_g141_30, ↓o_g141_31, ↓o_g141_34, ↓o_g141_35, ↓o_g141_36, ↓r_at e, ↓r_atw e, h0, h, b2i]
      simp [h]
  · by_cases h1 : S (104 + 6 * i + 5) = 62
    · by_cases h : S (104 + 6 * i + 2) < a
      · simp (disch := first | assumption | omega) only [↓sm, ↓reduceIte, ↓if_pos, ↓if_neg, kI, kJ, kR, kV, w32_eq, w64_eq, reduceCtorEq, Int.reduceAdd, Int.reduceMul, Int.reduceSub, o_c141, ↓o_g141_0, ↓o_g141_1, ↓o_g141_5, ↓o_g141_6, ↓o_g141_7, ↓o_g141_8, ↓o_g141_9, ↓o_g141_21, ↓o_g141_25, ↓o_g141_26, ↓o_g141_27, ↓o_g141_28, ↓o_g141_29, ↓o_g141_30, ↓o_g141_31, ↓o_g141_34, ↓o_g141_35, ↓o_g141_36, ↓r_at e, ↓r_atw e, h0, h1, h, b2i]
        simp [h]
      · simp (disch := first | assumption | omega) only [↓sm, ↓reduceIte, ↓if_pos, ↓if_neg, kI, kJ, kR, kV, w32_eq, w64_eq, reduceCtorEq, Int.reduceAdd, Int.reduceMul, Int.reduceSub, o_c141, ↓o_g141_0, ↓o_g141_1, ↓o_g141_5, ↓o_g141_6, ↓o_g141_7, ↓o_g141_8, ↓o_g141_9, ↓o_g141_21, ↓o_g141_25, ↓o_g141_26, ↓o_g141_27, ↓o_g141_28, ↓o_g141_29, ↓o_g141_30, ↓o_g141_31, ↓o_g141_34, ↓o_g141_35, ↓o_g141_36, ↓r_at e, ↓r_atw e, h0, h1, h, b2i]
        simp [h]
    · by_cases h : a = S (104 + 6 * i + 2)
      · simp (disch := first | assumption | omega) only [↓sm, ↓reduceIte, ↓if_pos, ↓if_neg, kI, kJ, kR, kV, w32_eq, w64_eq, reduceCtorEq, Int.reduceAdd, Int.reduceMul, Int.reduceSub, o_c141, ↓o_g141_0, ↓o_g141_1, ↓o_g141_5, ↓o_g141_6, ↓o_g141_7, ↓o_g141_8, ↓o_g141_9, ↓o_g141_21, ↓o_g141_25, ↓o_g141_26, ↓o_g141_27, ↓o_g141_28, ↓o_g141_29, ↓o_g141_30, ↓o_g141_31, ↓o_g141_34, ↓o_g141_35, ↓o_g141_36, ↓r_at e, ↓r_atw e, h0, h1, h, b2i]
        simp
      · simp (disch := first | assumption | omega) only [↓sm, ↓reduceIte, ↓if_pos, ↓if_neg, kI, kJ, kR, kV, w32_eq, w64_eq, reduceCtorEq, Int.reduceAdd, Int.reduceMul, Int.reduceSub, o_c141, ↓o_g141_0, ↓o_g141_1, ↓o_g141_5, ↓o_g141_6, ↓o_g141_7, ↓o_g141_8, ↓o_g141_9, ↓o_g141_21, ↓o_g141_25, ↓o_g141_26, ↓o_g141_27, ↓o_g141_28, ↓o_g141_29, ↓o_g141_30, ↓o_g141_31, ↓o_g141_34, ↓o_g141_35, ↓o_g141_36, ↓r_at e, ↓r_atw e, h0, h1, h, b2i]
        simp [h]
theorem r_holds {s : mS} {S : Int → Int} (e : s.2 142 = S) (hw : WF S) (Z : mX) {n : Int} (hP : PR S n) (n60 : n ≤ 60) (i : Int) (i0 : 0 ≤ i) (i1 : i < n) (hW : 2200 ≤ S (104 + 6 * i)) (f : Int → mW → mO) : mm_kI (mm_run (zP Z) 355 [.inr (.inr (some 141)), .inl ((104 + 6 * i))] (mk s)) f = f (b2i (hoB S i)) (mk s) := by
  obtain ⟨p1, p2, p3, p4, p5, p6, p7⟩ := hP i i0 i1
  have w := wf0 hw
  have nn := wf_n hw
  have hcase : S (104 + 6 * i) = 2202 ∨ S (104 + 6 * i) = 2209 ∨ S (104 + 6 * i) = 2211 ∨ S (104 + 6 * i) = 2226 := by omega
  rw [B_X12_holds]
  unfold hoB
  rcases hcase with e0 | e0 | e0 | e0
  · have q := p7 e0
    simp only [e0]
    simp (disch := first | assumption | omega) only [↓sm, ↓reduceIte, ↓if_pos, ↓if_neg, kI, kJ, kR, kV, w32_eq, w64_eq, reduceCtorEq, Int.reduceAdd, Int.reduceMul, Int.reduceSub, o_c141, ↓o_g141_0, ↓o_g141_1, ↓o_g141_5, ↓o_g141_6, ↓o_g141_7, ↓o_g141_8, ↓o_g141_9, ↓o_g141_21, ↓o_g141_25, ↓o_g141_26, ↓o_g141_27, ↓o_g141_28, ↓o_g141_29, ↓o_g141_30, ↓o_g141_31, ↓o_g141_34, ↓o_g141_35, ↓o_g141_36, ↓r_at e, ↓r_atw e, e0, ↓r_cmp54 e hw Z]
  · have q := p2 (by omega)
    simp only [e0]
    by_cases hh : S (74 + 6 * S (104 + 6 * i + 1)) = S (104 + 6 * i + 2)
    · simp (disch := first | assumption | omega) only [↓sm, ↓reduceIte, ↓if_pos, ↓if_neg, kI, kJ, kR, kV, w32_eq, w64_eq, reduceCtorEq, Int.reduceAdd, Int.reduceMul, Int.reduceSub, o_c141, ↓o_g141_0, ↓o_g141_1, ↓o_g141_5, ↓o_g141_6, ↓o_g141_7, ↓o_g141_8, ↓o_g141_9, ↓o_g141_21, ↓o_g141_25, ↓o_g141_26, ↓o_g141_27, ↓o_g141_28, ↓o_g141_29, ↓o_g141_30, ↓o_g141_31, ↓o_g141_34, ↓o_g141_35, ↓o_g141_36, ↓r_at e, ↓r_atw e, e0, ↓r_pupilAt e hw Z, hh, b2i]
      simp
    · simp (disch := first | assumption | omega) only [↓sm, ↓reduceIte, ↓if_pos, ↓if_neg, kI, kJ, kR, kV, w32_eq, w64_eq, reduceCtorEq, Int.reduceAdd, Int.reduceMul, Int.reduceSub, o_c141, ↓o_g141_0, ↓o_g141_1, ↓o_g141_5, ↓o_g141_6, ↓o_g141_7, ↓o_g141_8, ↓o_g141_9, ↓o_g141_21, ↓o_g141_25, ↓o_g141_26, ↓o_g141_27, ↓o_g141_28, ↓o_g141_29, ↓o_g141_30, ↓o_g141_31, ↓o_g141_34, ↓o_g141_35, ↓o_g141_36, ↓r_at e, ↓r_atw e, e0, ↓r_pupilAt e hw Z, hh, b2i]
      simp [hh]
  · have q := p2 (by omega)
    have wp := wf_p hw q.1 q.2
    simp only [e0]
    simp (disch := first | assumption | omega) only [↓sm, ↓reduceIte, ↓if_pos, ↓if_neg, kI, kJ, kR, kV, w32_eq, w64_eq, reduceCtorEq, Int.reduceAdd, Int.reduceMul, Int.reduceSub, o_c141, ↓o_g141_0, ↓o_g141_1, ↓o_g141_5, ↓o_g141_6, ↓o_g141_7, ↓o_g141_8, ↓o_g141_9, ↓o_g141_21, ↓o_g141_25, ↓o_g141_26, ↓o_g141_27, ↓o_g141_28, ↓o_g141_29, ↓o_g141_30, ↓o_g141_31, ↓o_g141_34, ↓o_g141_35, ↓o_g141_36, ↓r_at e, ↓r_atw e, e0, ↓r_pupilOf e hw Z, ↓k_bits Z, ↓r_cmp54 e hw Z]
  · have q := p2 (by omega)
    simp only [e0]
    by_cases hh : 0 < S (74 + 6 * S (104 + 6 * i + 1) + 3)
    · simp (disch := first | assumption | omega) only [↓sm, ↓reduceIte, ↓if_pos, ↓if_neg, kI, kJ, kR, kV, w32_eq, w64_eq, reduceCtorEq, Int.reduceAdd, Int.reduceMul, Int.reduceSub, o_c141, ↓o_g141_0, ↓o_g141_1, ↓o_g141_5, ↓o_g141_6, ↓o_g141_7, ↓o_g141_8, ↓o_g141_9, ↓o_g141_21, ↓o_g141_25, ↓o_g141_26, ↓o_g141_27, ↓o_g141_28, ↓o_g141_29, ↓o_g141_30, ↓o_g141_31, ↓o_g141_34, ↓o_g141_35, ↓o_g141_36, ↓r_pupilAt e hw Z, ↓r_at e, ↓r_atw e, ↓r_cellsOf e hw Z, ↓r_isCell_t e hw Z, ↓r_isCell_f e hw Z, ↓r_isLesson_t e hw Z, ↓r_isLesson_f e hw Z, ↓r_isPupil_t e hw Z, ↓r_isPupil_f e hw Z, ↓r_pupilOf e hw Z, ↓r_needsOf e hw Z, ↓r_catchBy e hw Z, ↓r_catchOf e hw Z, ↓r_isCaught_t e hw Z, ↓r_isCaught_f e hw Z, ↓r_allCaught e hw Z, ↓r_whoIs0 e hw Z, ↓r_whoIs1 e hw Z, ↓r_sideOf e hw Z, ↓r_isNear e hw Z, ↓r_nextLesson e hw Z, ↓r_canFree e hw Z, ↓r_nearTo e hw Z, ↓r_isIn Z, ↓r_pupilRow Z, ↓r_lessonRow Z, ↓k_bits Z, e0, hh, b2i, true_or, or_true]
      simp [hh]
    · simp (disch := first | assumption | omega) only [↓sm, ↓reduceIte, ↓if_pos, ↓if_neg, kI, kJ, kR, kV, w32_eq, w64_eq, reduceCtorEq, Int.reduceAdd, Int.reduceMul, Int.reduceSub, o_c141, ↓o_g141_0, ↓o_g141_1, ↓o_g141_5, ↓o_g141_6, ↓o_g141_7, ↓o_g141_8, ↓o_g141_9, ↓o_g141_21, ↓o_g141_25, ↓o_g141_26, ↓o_g141_27, ↓o_g141_28, ↓o_g141_29, ↓o_g141_30, ↓o_g141_31, ↓o_g141_34, ↓o_g141_35, ↓o_g141_36, ↓r_pupilAt e hw Z, ↓r_at e, ↓r_atw e, ↓r_cellsOf e hw Z, ↓r_isCell_t e hw Z, ↓r_isCell_f e hw Z, ↓r_isLesson_t e hw Z, ↓r_isLesson_f e hw Z, ↓r_isPupil_t e hw Z, ↓r_isPupil_f e hw Z, ↓r_pupilOf e hw Z, ↓r_needsOf e hw Z, ↓r_catchBy e hw Z, ↓r_catchOf e hw Z, ↓r_isCaught_t e hw Z, ↓r_isCaught_f e hw Z, ↓r_allCaught e hw Z, ↓r_whoIs0 e hw Z, ↓r_whoIs1 e hw Z, ↓r_sideOf e hw Z, ↓r_isNear e hw Z, ↓r_nextLesson e hw Z, ↓r_canFree e hw Z, ↓r_nearTo e hw Z, ↓r_isIn Z, ↓r_pupilRow Z, ↓r_lessonRow Z, ↓k_bits Z, e0, hh, b2i, true_or, or_true]
      simp [hh]
/-! numbers drawn -/
def dr (x : Int) : Int := (x * 3251 + 11467) % 65536
theorem dr_r (x : Int) : 0 ≤ dr x ∧ dr x < 65536 := by
  unfold dr
  omega
theorem c_draw (Z : mX) (s : mS) (m : Int) (m0 : 1 ≤ m) (m1 : m < 100) (x0 : 0 ≤ s.1 63 11) (x1 : s.1 63 11 < 65536) (f : Int → mW → mO) : mm_kI (mm_run (zP Z) 44 [.inr (.inr (some 63)), .inl m] (mk s)) f = f (dr (s.1 63 11) / 8 % m) (mk (uF s 63 11 (dr (s.1 63 11)))) := by
  have e : (uF s 63 11 ((s.1 63 11 * 3251 + 11467) % 65536)).1 63 11 = (s.1 63 11 * 3251 + 11467) % 65536 := by simp [uF_1]
  have q0 := Int.emod_nonneg (s.1 63 11 * 3251 + 11467) (show (65536 : Int) ≠ 0 by omega)
  have q1 := Int.emod_lt_of_pos (s.1 63 11 * 3251 + 11467) (show (0 : Int) < 65536 by omega)
  have q2 := Int.ediv_nonneg q0 (show (0 : Int) ≤ 8 by omega)
  rw [B_X4_draw]
  unfold dr
  simp (disch := first | assumption | omega) only [↓sm, ↓reduceIte, ↓if_pos, ↓if_neg, kI, kJ, kR, kV, w32_eq, w64_eq, reduceCtorEq, Int.reduceAdd, Int.reduceMul, Int.reduceSub, o_c63, ↓o_g63_0, ↓o_g63_1, ↓o_g63_2, ↓o_g63_3, ↓o_g63_4, ↓o_g63_5, ↓o_g63_6, ↓o_g63_7, ↓o_g63_8, ↓o_g63_9, ↓o_g63_10, ↓o_g63_11, ↓a_ln64, ↓a_ld64, ↓a_ln65, ↓a_ld65, ↓o_p63_11, o_p63_11, irem_eq, o_g63_11, e, idiv_eq]
theorem r_draw (Z : mX) (s : mS) (m : Int) (m0 : 1 ≤ m) (m1 : m < 100) (x0 : 0 ≤ s.1 141 32) (x1 : s.1 141 32 < 65536) (f : Int → mW → mO) : mm_kI (mm_run (zP Z) 349 [.inr (.inr (some 141)), .inl m] (mk s)) f = f (dr (s.1 141 32) / 8 % m) (mk (uF s 141 32 (dr (s.1 141 32)))) := by
  have e : (uF s 141 32 ((s.1 141 32 * 3251 + 11467) % 65536)).1 141 32 = (s.1 141 32 * 3251 + 11467) % 65536 := by simp [uF_1]
  have q0 := Int.emod_nonneg (s.1 141 32 * 3251 + 11467) (show (65536 : Int) ≠ 0 by omega)
  have q1 := Int.emod_lt_of_pos (s.1 141 32 * 3251 + 11467) (show (0 : Int) < 65536 by omega)
  have q2 := Int.ediv_nonneg q0 (show (0 : Int) ≤ 8 by omega)
  rw [B_X12_draw]
  unfold dr
  simp (disch := first | assumption | omega) only [↓sm, ↓reduceIte, ↓if_pos, ↓if_neg, kI, kJ, kR, kV, w32_eq, w64_eq, reduceCtorEq, Int.reduceAdd, Int.reduceMul, Int.reduceSub, o_c141, ↓o_g141_32, ↓o_p141_32, o_p141_32, irem_eq, o_g141_32, e, idiv_eq]
