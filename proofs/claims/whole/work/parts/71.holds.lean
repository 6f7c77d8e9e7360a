/-! what the steps of the autumns ask -/
def cmpB (a g n : Int) : Bool := if g = 60 then decide (a < n) else if g = 62 then decide (n < a) else decide (a = n)
def hoB (S : Int → Int) (i : Int) : Bool :=
  if S (104 + 6 * i) = 2209 then decide (S (74 + 6 * S (104 + 6 * i + 1)) = S (104 + 6 * i + 2))
  else if S (104 + 6 * i) = 2211 then cmpB (pc (S (74 + 6 * S (104 + 6 * i + 1) + 2))) (S (104 + 6 * i + 5)) (S (104 + 6 * i + 2))
  else if S (104 + 6 * i) = 2226 then decide (0 < S (74 + 6 * S (104 + 6 * i + 1) + 3))
  else cmpB (S (10 + S (104 + 6 * i + 1))) (S (104 + 6 * i + 5)) (S (104 + 6 * i + 2))
theorem c_compares (Z : mX) (w : mW) (a g n : Int) (f : Int → mW → mO) : mm_kI (mm_run (zP Z) 36 [.inl a, .inl g, .inl n] w) f = f (b2i (cmpB a g n)) w := by
  rw [B_X4_compares]
  unfold cmpB
  by_cases h0 : g = 60
  · by_cases h : a < n
    · simp (disch := first | assumption | omega) only [↓sm, ↓reduceIte, ↓if_pos, ↓if_neg, kI, kJ, kR, kV, w32_eq, w64_eq, reduceCtorEq, Int.reduceAdd, Int.reduceMul, Int.reduceSub, h0, h, b2i]
      simp [h]
    · simp (disch := first | assumption | omega) only [↓sm, ↓reduceIte, ↓if_pos, ↓if_neg, kI, kJ, kR, kV, w32_eq, w64_eq, reduceCtorEq, Int.reduceAdd, Int.reduceMul, Int.reduceSub, h0, h, b2i]
      simp [h]
  · by_cases h1 : g = 62
    · by_cases h : n < a
      · simp (disch := first | assumption | omega) only [↓sm, ↓reduceIte, ↓if_pos, ↓if_neg, kI, kJ, kR, kV, w32_eq, w64_eq, reduceCtorEq, Int.reduceAdd, Int.reduceMul, Int.reduceSub, h0, h1, h, b2i]
        simp [h]
      · simp (disch := first | assumption | omega) only [↓sm, ↓reduceIte, ↓if_pos, ↓if_neg, kI, kJ, kR, kV, w32_eq, w64_eq, reduceCtorEq, Int.reduceAdd, Int.reduceMul, Int.reduceSub, h0, h1, h, b2i]
        simp [h]
    · by_cases h : a = n
      · simp (disch := first | assumption | omega) only [↓sm, ↓reduceIte, ↓if_pos, ↓if_neg, kI, kJ, kR, kV, w32_eq, w64_eq, reduceCtorEq, Int.reduceAdd, Int.reduceMul, Int.reduceSub, h0, h1, h, b2i]
        simp
      · simp (disch := first | assumption | omega) only [↓sm, ↓reduceIte, ↓if_pos, ↓if_neg, kI, kJ, kR, kV, w32_eq, w64_eq, reduceCtorEq, Int.reduceAdd, Int.reduceMul, Int.reduceSub, h0, h1, h, b2i]
        simp [h]
theorem b2i_01 (b : Bool) : b2i b = 0 ∨ b2i b = 1 := by cases b <;> simp [b2i]
theorem c_holds {s : mS} {S N : Int → Int} (h : CS s 7 S N) (hw : WF S) (Z : mX) {n : Int} {op : Int → Prop} (hA : AC s 33 S n op) (hP : PR S n) (n60 : n ≤ 60) (i : Int) (i0 : 0 ≤ i) (i1 : i < n) (hW : 2200 ≤ S (104 + 6 * i)) (f : Int → mW → mO) : mm_kI (mm_run (zP Z) 35 [.inr (.inr (some 63)), .inl i] (mk s)) f = f (b2i (hoB S i)) (mk s) := by
  obtain ⟨a1, a2, a3, a4, a5⟩ := hA i i0 i1
  obtain ⟨p1, p2, p3, p4, p5, p6, p7⟩ := hP i i0 i1
  have a2 := a2 (by omega)
  obtain ⟨a4, a6⟩ := a4 hW
  have w := wf0 hw
  have nn := wf_n hw
  have hcase : S (104 + 6 * i) = 2202 ∨ S (104 + 6 * i) = 2209 ∨ S (104 + 6 * i) = 2211 ∨ S (104 + 6 * i) = 2226 := by omega
  rw [B_X4_holds]
  unfold hoB
  rcases hcase with e | e | e | e
  · have q := p7 e
    rw [e] at a1
    have a1 : s.2 34 i = 3 := a1
    simp only [e]
    simp (disch := first | assumption | omega) only [↓sm, ↓reduceIte, ↓if_pos, ↓if_neg, kI, kJ, kR, kV, w32_eq, w64_eq, reduceCtorEq, Int.reduceAdd, Int.reduceMul, Int.reduceSub, o_c63, ↓o_g63_0, ↓o_g63_1, ↓o_g63_2, ↓o_g63_3, ↓o_g63_4, ↓o_g63_5, ↓o_g63_6, ↓o_g63_7, ↓o_g63_8, ↓o_g63_9, ↓o_g63_10, ↓o_g63_11, ↓a_ln64, ↓a_ld64, ↓a_ln65, ↓a_ld65, o_c7, o_c7, ↓o_g7_4, ↓o_g7_5, ↓o_g7_7, ↓o_g7_8, ↓o_g7_9, ↓o_g7_11, ↓o_g7_12, ↓o_g7_13, ↓o_g7_14, ↓o_g7_15, ↓o_g7_16, ↓o_g7_17, ↓q_wide h, ↓q_high h, ↓q_odds h, ↓q_year h, ↓q_less h, ↓q_pups h, ↓q_thorns h Z, ↓q_berries h Z, ↓q_hours h hw Z, ↓q_needs h hw Z, ↓q_at h hw Z, ↓q_want h hw Z, ↓q_knows h hw Z, ↓q_caught h hw Z, ↓q_marks h hw Z, ↓q_torn h hw Z, o_c33, ↓o_g33_0, ↓o_g33_1, ↓o_g33_2, ↓o_g33_3, ↓o_g33_4, ↓o_g33_5, ↓o_g33_6, ↓o_g33_7, ↓a_ln34, ↓a_ld34, ↓a_ln35, ↓a_ld35, ↓a_ln36, ↓a_ld36, ↓a_ln37, ↓a_ld37, ↓a_ln38, ↓a_ld38, ↓g_35 Z, ↓g_37 Z, ↓g_34 Z, ↓g_36 Z, a1, a2, a4, a6, ↓c_compares Z, ↓q_thorns h Z, q_thorns h Z, b2i_01]
  · have q := p2 (by omega)
    rw [e] at a1
    have a1 : s.2 34 i = 9 := a1
    simp only [e]
    by_cases hh : S (74 + 6 * S (104 + 6 * i + 1)) = S (104 + 6 * i + 2)
    · simp (disch := first | assumption | omega) only [↓sm, ↓reduceIte, ↓if_pos, ↓if_neg, kI, kJ, kR, kV, w32_eq, w64_eq, reduceCtorEq, Int.reduceAdd, Int.reduceMul, Int.reduceSub, o_c63, ↓o_g63_0, ↓o_g63_1, ↓o_g63_2, ↓o_g63_3, ↓o_g63_4, ↓o_g63_5, ↓o_g63_6, ↓o_g63_7, ↓o_g63_8, ↓o_g63_9, ↓o_g63_10, ↓o_g63_11, ↓a_ln64, ↓a_ld64, ↓a_ln65, ↓a_ld65, o_c7, o_c7, ↓o_g7_4, ↓o_g7_5, ↓o_g7_7, ↓o_g7_8, ↓o_g7_9, ↓o_g7_11, ↓o_g7_12, ↓o_g7_13, ↓o_g7_14, ↓o_g7_15, ↓o_g7_16, ↓o_g7_17, o_c33, ↓o_g33_0, ↓o_g33_1, ↓o_g33_2, ↓o_g33_3, ↓o_g33_4, ↓o_g33_5, ↓o_g33_6, ↓o_g33_7, ↓a_ln34, ↓a_ld34, ↓a_ln35, ↓a_ld35, ↓a_ln36, ↓a_ld36, ↓a_ln37, ↓a_ld37, ↓a_ln38, ↓a_ld38, ↓g_35 Z, ↓g_37 Z, ↓g_34 Z, ↓g_36 Z, a1, a2, a4, a6, ↓q_at h hw Z, q_at h hw Z, hh, b2i]
      simp
    · simp (disch := first | assumption | omega) only [↓sm, ↓reduceIte, ↓if_pos, ↓if_neg, kI, kJ, kR, kV, w32_eq, w64_eq, reduceCtorEq, Int.reduceAdd, Int.reduceMul, Int.reduceSub, o_c63, ↓o_g63_0, ↓o_g63_1, ↓o_g63_2, ↓o_g63_3, ↓o_g63_4, ↓o_g63_5, ↓o_g63_6, ↓o_g63_7, ↓o_g63_8, ↓o_g63_9, ↓o_g63_10, ↓o_g63_11, ↓a_ln64, ↓a_ld64, ↓a_ln65, ↓a_ld65, o_c7, o_c7, ↓o_g7_4, ↓o_g7_5, ↓o_g7_7, ↓o_g7_8, ↓o_g7_9, ↓o_g7_11, ↓o_g7_12, ↓o_g7_13, ↓o_g7_14, ↓o_g7_15, ↓o_g7_16, ↓o_g7_17, o_c33, ↓o_g33_0, ↓o_g33_1, ↓o_g33_2, ↓o_g33_3, ↓o_g33_4, ↓o_g33_5, ↓o_g33_6, ↓o_g33_7, ↓a_ln34, ↓a_ld34, ↓a_ln35, ↓a_ld35, ↓a_ln36, ↓a_ld36, ↓a_ln37, ↓a_ld37, ↓a_ln38, ↓a_ld38, ↓g_35 Z, ↓g_37 Z, ↓g_34 Z, ↓g_36 Z, a1, a2, a4, a6, ↓q_at h hw Z, q_at h hw Z, hh, b2i]
      simp [hh]
  · have q := p2 (by omega)
    rw [e] at a1
    have a1 : s.2 34 i = 11 := a1
    simp only [e]
    simp (disch := first | assumption | omega) only [↓sm, ↓reduceIte, ↓if_pos, ↓if_neg, kI, kJ, kR, kV, w32_eq, w64_eq, reduceCtorEq, Int.reduceAdd, Int.reduceMul, Int.reduceSub, o_c63, ↓o_g63_0, ↓o_g63_1, ↓o_g63_2, ↓o_g63_3, ↓o_g63_4, ↓o_g63_5, ↓o_g63_6, ↓o_g63_7, ↓o_g63_8, ↓o_g63_9, ↓o_g63_10, ↓o_g63_11, ↓a_ln64, ↓a_ld64, ↓a_ln65, ↓a_ld65, o_c7, o_c33, ↓o_g33_0, ↓o_g33_1, ↓o_g33_2, ↓o_g33_3, ↓o_g33_4, ↓o_g33_5, ↓o_g33_6, ↓o_g33_7, ↓a_ln34, ↓a_ld34, ↓a_ln35, ↓a_ld35, ↓a_ln36, ↓a_ld36, ↓a_ln37, ↓a_ld37, ↓a_ln38, ↓a_ld38, ↓g_35 Z, ↓g_37 Z, ↓g_34 Z, ↓g_36 Z, a1, a2, a4, a6, ↓c_compares Z, ↓c_touch h hw Z, c_touch h hw Z, b2i_01]
  · have q := p2 (by omega)
    rw [e] at a1
    have a1 : s.2 34 i = 23 := a1
    simp only [e]
    by_cases hh : 0 < S (74 + 6 * S (104 + 6 * i + 1) + 3)
    · simp (disch := first | assumption | omega) only [↓sm, ↓reduceIte, ↓if_pos, ↓if_neg, kI, kJ, kR, kV, w32_eq, w64_eq, reduceCtorEq, Int.reduceAdd, Int.reduceMul, Int.reduceSub, o_c63, ↓o_g63_0, ↓o_g63_1, ↓o_g63_2, ↓o_g63_3, ↓o_g63_4, ↓o_g63_5, ↓o_g63_6, ↓o_g63_7, ↓o_g63_8, ↓o_g63_9, ↓o_g63_10, ↓o_g63_11, ↓a_ln64, ↓a_ld64, ↓a_ln65, ↓a_ld65, o_c7, o_c33, ↓o_g33_0, ↓o_g33_1, ↓o_g33_2, ↓o_g33_3, ↓o_g33_4, ↓o_g33_5, ↓o_g33_6, ↓o_g33_7, ↓a_ln34, ↓a_ld34, ↓a_ln35, ↓a_ld35, ↓a_ln36, ↓a_ld36, ↓a_ln37, ↓a_ld37, ↓a_ln38, ↓a_ld38, ↓g_35 Z, ↓g_37 Z, ↓g_34 Z, ↓g_36 Z, a1, a2, a4, a6, ↓c_isCaught_t h hw Z, c_isCaught_t h hw Z, hh, b2i, true_or, or_true]
      simp [hh]
    · simp (disch := first | assumption | omega) only [↓sm, ↓reduceIte, ↓if_pos, ↓if_neg, kI, kJ, kR, kV, w32_eq, w64_eq, reduceCtorEq, Int.reduceAdd, Int.reduceMul, Int.reduceSub, o_c63, ↓o_g63_0, ↓o_g63_1, ↓o_g63_2, ↓o_g63_3, ↓o_g63_4, ↓o_g63_5, ↓o_g63_6, ↓o_g63_7, ↓o_g63_8, ↓o_g63_9, ↓o_g63_10, ↓o_g63_11, ↓a_ln64, ↓a_ld64, ↓a_ln65, ↓a_ld65, o_c7, o_c33, ↓o_g33_0, ↓o_g33_1, ↓o_g33_2, ↓o_g33_3, ↓o_g33_4, ↓o_g33_5, ↓o_g33_6, ↓o_g33_7, ↓a_ln34, ↓a_ld34, ↓a_ln35, ↓a_ld35, ↓a_ln36, ↓a_ld36, ↓a_ln37, ↓a_ld37, ↓a_ln38, ↓a_ld38, ↓g_35 Z, ↓g_37 Z, ↓g_34 Z, ↓g_36 Z, a1, a2, a4, a6, ↓c_isCaught_f h hw Z, c_isCaught_f h hw Z, hh, b2i, true_or, or_true]
      simp [hh]
