/-! one step done, on both sides -/
def DeedS (Z : mX) (S N : Int → Int) (x n i : Int) : Prop := ∃ v S', (v = 0 ∨ v = 1) ∧ WF S' ∧ Kp S S' ∧ ∀ s : mS, CS s 7 S N → AC s 33 S n (fun _ => False) → s.1 63 11 = x → ∃ s',
  (S (104 + 6 * i) = 21 → ∀ f : Int → mW → mO, mm_kI (mm_run (zP Z) 43 [.inr (.inr (some 63))] (mk s)) f = f v (mk s')) ∧ (S (104 + 6 * i) ≠ 21 → ∀ f : Int → mW → mO, mm_kI (mm_run (zP Z) 37 [.inr (.inr (some 63)), .inl i] (mk s)) f = f v (mk s')) ∧ CS s' 7 S' N ∧ Ag liA liF s s' ∧
  ∀ t : mS, t.2 142 = S → LR s t → ∃ t', (∀ f : Int → mW → mO, mm_kI (mm_run (zP Z) 354 [.inr (.inr (some 141)), .inl ((104 + 6 * i))] (mk t)) f = f v (mk t')) ∧ t'.2 142 = S' ∧ LR s' t' ∧ Ag lrA lrF t t'
theorem do_step (Z : mX) {S : Int → Int} (N : Int → Int) (hw : WF S) (x n i : Int) (hP : PR S n) (n60 : n ≤ 60) (i0 : 0 ≤ i) (i1 : i < n) (x0 : 0 ≤ x) (x1 : x < 65536) (hW : 16 ≤ S (104 + 6 * i) ∧ S (104 + 6 * i) ≤ 21) : DeedS Z S N x n i := by
  obtain ⟨p1, p2, p3, p4, p5, p6, p7⟩ := hP i i0 i1
  have w := wf0 hw
  have hcase : S (104 + 6 * i) = 16 ∨ S (104 + 6 * i) = 17 ∨ S (104 + 6 * i) = 18 ∨ S (104 + 6 * i) = 19 ∨ S (104 + 6 * i) = 20 ∨ S (104 + 6 * i) = 21 := by omega
  rcases hcase with e0 | e0 | e0 | e0 | e0 | e0
  · have q2 := p2 (by omega)
    have q3 := p3 e0
    obtain ⟨v, S', hv, wS, kS, H⟩ := do_goes Z N hw (S (104 + 6 * i + 1)) (S (104 + 6 * i + 2)) q2.1 q2.2 q3.1 (by omega)
    refine ⟨v, S', hv, wS, kS, fun s h hA hx => ?_⟩
    obtain ⟨a1, a2, a3, a4, a5⟩ := hA i i0 i1
    have a2 := a2 (by omega)
    have a3 := a3 (by omega)
    rw [e0] at a1
    have a1 : s.2 34 i = 12 := a1
    obtain ⟨s', c, cs, ag, R⟩ := H s h
    refine ⟨s', fun hh => absurd hh (by omega), fun _ f => ?_, cs, ag, fun t e hL => ?_⟩
    · rw [B_X4_does]
      simp (disch := first | assumption | omega) only [↓sm, ↓reduceIte, ↓if_pos, ↓if_neg, kI, kJ, kR, kV, w32_eq, w64_eq, reduceCtorEq, Int.reduceAdd, Int.reduceMul, Int.reduceSub, o_c63, ↓o_g63_0, ↓o_g63_1, ↓o_g63_2, ↓o_g63_3, ↓o_g63_4, ↓o_g63_5, ↓o_g63_6, ↓o_g63_7, ↓o_g63_8, ↓o_g63_9, ↓o_g63_10, ↓o_g63_11, ↓a_ln64, ↓a_ld64, ↓a_ln65, ↓a_ld65, o_c63, o_c33, ↓o_g33_0, ↓o_g33_1, ↓o_g33_2, ↓o_g33_3, ↓o_g33_4, ↓o_g33_5, ↓o_g33_6, ↓o_g33_7, ↓a_ln34, ↓a_ld34, ↓a_ln35, ↓a_ld35, ↓a_ln36, ↓a_ld36, ↓a_ln37, ↓a_ld37, ↓a_ln38, ↓a_ld38, ↓g_34 Z, ↓g_35 Z, ↓g_36 Z, a1, a2, a3, ↓c, c, hv]
    · obtain ⟨t', k1, k2⟩ := R t e hL
      refine ⟨t', fun f => ?_, k2⟩
      rw [B_X12_does]
      simp (disch := first | assumption | omega) only [↓sm, ↓reduceIte, ↓if_pos, ↓if_neg, kI, kJ, kR, kV, w32_eq, w64_eq, reduceCtorEq, Int.reduceAdd, Int.reduceMul, Int.reduceSub, o_c141, ↓o_g141_0, ↓o_g141_1, ↓o_g141_5, ↓o_g141_6, ↓o_g141_7, ↓o_g141_8, ↓o_g141_9, ↓o_g141_21, ↓o_g141_25, ↓o_g141_26, ↓o_g141_27, ↓o_g141_28, ↓o_g141_29, ↓o_g141_30, ↓o_g141_31, ↓o_g141_34, ↓o_g141_35, ↓o_g141_36, ↓r_at e, ↓r_atw e, e0, ↓k1, hv]
  · have q2 := p2 (by omega)
    have q3 := p4 e0
    obtain ⟨v, S', hv, wS, kS, H⟩ := do_frees Z N hw (S (104 + 6 * i + 1)) (S (104 + 6 * i + 2)) q2.1 q2.2 q3.1 q3.2
    refine ⟨v, S', hv, wS, kS, fun s h hA hx => ?_⟩
    obtain ⟨a1, a2, a3, a4, a5⟩ := hA i i0 i1
    have a2 := a2 (by omega)
    have a3 := a3 (by omega)
    rw [e0] at a1
    have a1 : s.2 34 i = 17 := a1
    obtain ⟨s', c, cs, ag, R⟩ := H s h
    refine ⟨s', fun hh => absurd hh (by omega), fun _ f => ?_, cs, ag, fun t e hL => ?_⟩
    · rw [B_X4_does]
      simp (disch := first | assumption | omega) only [↓sm, ↓reduceIte, ↓if_pos, ↓if_neg, kI, kJ, kR, kV, w32_eq, w64_eq, reduceCtorEq, Int.reduceAdd, Int.reduceMul, Int.reduceSub, o_c63, ↓o_g63_0, ↓o_g63_1, ↓o_g63_2, ↓o_g63_3, ↓o_g63_4, ↓o_g63_5, ↓o_g63_6, ↓o_g63_7, ↓o_g63_8, ↓o_g63_9, ↓o_g63_10, ↓o_g63_11, ↓a_ln64, ↓a_ld64, ↓a_ln65, ↓a_ld65, o_c63, o_c33, ↓o_g33_0, ↓o_g33_1, ↓o_g33_2, ↓o_g33_3, ↓o_g33_4, ↓o_g33_5, ↓o_g33_6, ↓o_g33_7, ↓a_ln34, ↓a_ld34, ↓a_ln35, ↓a_ld35, ↓a_ln36, ↓a_ld36, ↓a_ln37, ↓a_ld37, ↓a_ln38, ↓a_ld38, ↓g_34 Z, ↓g_35 Z, ↓g_36 Z, a1, a2, a3, ↓c, c, hv]
    · obtain ⟨t', k1, k2⟩ := R t e hL
      refine ⟨t', fun f => ?_, k2⟩
      rw [B_X12_does]
      simp (disch := first | assumption | omega) only [↓sm, ↓reduceIte, ↓if_pos, ↓if_neg, kI, kJ, kR, kV, w32_eq, w64_eq, reduceCtorEq, Int.reduceAdd, Int.reduceMul, Int.reduceSub, o_c141, ↓o_g141_0, ↓o_g141_1, ↓o_g141_5, ↓o_g141_6, ↓o_g141_7, ↓o_g141_8, ↓o_g141_9, ↓o_g141_21, ↓o_g141_25, ↓o_g141_26, ↓o_g141_27, ↓o_g141_28, ↓o_g141_29, ↓o_g141_30, ↓o_g141_31, ↓o_g141_34, ↓o_g141_35, ↓o_g141_36, ↓r_at e, ↓r_atw e, e0, ↓k1, hv]
  · have q2 := p2 (by omega)
    obtain ⟨v, u, S', hv, wS, kS, H⟩ := do_tears Z N hw (S (104 + 6 * i + 1)) q2.1 q2.2
    have hv01 : v = 0 ∨ v = 1 := by rw [hv]; split <;> simp
    refine ⟨v, S', hv01, wS, kS, fun s h hA hx => ?_⟩
    obtain ⟨a1, a2, a3, a4, a5⟩ := hA i i0 i1
    have a2 := a2 (by omega)
    rw [e0] at a1
    have a1 : s.2 34 i = 18 := a1
    obtain ⟨s', c, cs, ag, R⟩ := H s h
    refine ⟨s', fun hh => absurd hh (by omega), fun _ f => ?_, cs, ag, fun t e hL => ?_⟩
    · rw [B_X4_does]
      simp (disch := first | assumption | omega) only [↓sm, ↓reduceIte, ↓if_pos, ↓if_neg, kI, kJ, kR, kV, w32_eq, w64_eq, reduceCtorEq, Int.reduceAdd, Int.reduceMul, Int.reduceSub, o_c63, ↓o_g63_0, ↓o_g63_1, ↓o_g63_2, ↓o_g63_3, ↓o_g63_4, ↓o_g63_5, ↓o_g63_6, ↓o_g63_7, ↓o_g63_8, ↓o_g63_9, ↓o_g63_10, ↓o_g63_11, ↓a_ln64, ↓a_ld64, ↓a_ln65, ↓a_ld65, o_c63, o_c33, ↓o_g33_0, ↓o_g33_1, ↓o_g33_2, ↓o_g33_3, ↓o_g33_4, ↓o_g33_5, ↓o_g33_6, ↓o_g33_7, ↓a_ln34, ↓a_ld34, ↓a_ln35, ↓a_ld35, ↓a_ln36, ↓a_ld36, ↓a_ln37, ↓a_ld37, ↓a_ln38, ↓a_ld38, ↓g_34 Z, ↓g_35 Z, ↓g_36 Z, a1, a2, ↓c, c, hv01]
    · obtain ⟨t', k1, k2⟩ := R t e hL
      refine ⟨t', fun f => ?_, k2⟩
      rw [B_X12_does, hv]
      by_cases hu : 0 < u
      · simp (disch := first | assumption | omega) only [↓sm, ↓reduceIte, ↓if_pos, ↓if_neg, kI, kJ, kR, kV, w32_eq, w64_eq, reduceCtorEq, Int.reduceAdd, Int.reduceMul, Int.reduceSub, o_c141, ↓o_g141_0, ↓o_g141_1, ↓o_g141_5, ↓o_g141_6, ↓o_g141_7, ↓o_g141_8, ↓o_g141_9, ↓o_g141_21, ↓o_g141_25, ↓o_g141_26, ↓o_g141_27, ↓o_g141_28, ↓o_g141_29, ↓o_g141_30, ↓o_g141_31, ↓o_g141_34, ↓o_g141_35, ↓o_g141_36, ↓r_at e, ↓r_atw e, e0, ↓k1, hu]
      · simp (disch := first | assumption | omega) only [↓sm, ↓reduceIte, ↓if_pos, ↓if_neg, kI, kJ, kR, kV, w32_eq, w64_eq, reduceCtorEq, Int.reduceAdd, Int.reduceMul, Int.reduceSub, o_c141, ↓o_g141_0, ↓o_g141_1, ↓o_g141_5, ↓o_g141_6, ↓o_g141_7, ↓o_g141_8, ↓o_g141_9, ↓o_g141_21, ↓o_g141_25, ↓o_g141_26, ↓o_g141_27, ↓o_g141_28, ↓o_g141_29, ↓o_g141_30, ↓o_g141_31, ↓o_g141_34, ↓o_g141_35, ↓o_g141_36, ↓r_at e, ↓r_atw e, e0, ↓k1, hu]
  · have q2 := p2 (by omega)
    obtain ⟨v, u, S', hv, wS, kS, H⟩ := do_picks Z N hw (S (104 + 6 * i + 1)) q2.1 q2.2
    have hv01 : v = 0 ∨ v = 1 := by rw [hv]; split <;> simp
    refine ⟨v, S', hv01, wS, kS, fun s h hA hx => ?_⟩
    obtain ⟨a1, a2, a3, a4, a5⟩ := hA i i0 i1
    have a2 := a2 (by omega)
    rw [e0] at a1
    have a1 : s.2 34 i = 19 := a1
    obtain ⟨s', c, cs, ag, R⟩ := H s h
    refine ⟨s', fun hh => absurd hh (by omega), fun _ f => ?_, cs, ag, fun t e hL => ?_⟩
    · rw [B_X4_does]
      simp (disch := first | assumption | omega) only [↓sm, ↓reduceIte, ↓if_pos, ↓if_neg, kI, kJ, kR, kV, w32_eq, w64_eq, reduceCtorEq, Int.reduceAdd, Int.reduceMul, Int.reduceSub, o_c63, ↓o_g63_0, ↓o_g63_1, ↓o_g63_2, ↓o_g63_3, ↓o_g63_4, ↓o_g63_5, ↓o_g63_6, ↓o_g63_7, ↓o_g63_8, ↓o_g63_9, ↓o_g63_10, ↓o_g63_11, ↓a_ln64, ↓a_ld64, ↓a_ln65, ↓a_ld65, o_c63, o_c33, ↓o_g33_0, ↓o_g33_1, ↓o_g33_2, ↓o_g33_3, ↓o_g33_4, ↓o_g33_5, ↓o_g33_6, ↓o_g33_7, ↓a_ln34, ↓a_ld34, ↓a_ln35, ↓a_ld35, ↓a_ln36, ↓a_ld36, ↓a_ln37, ↓a_ld37, ↓a_ln38, ↓a_ld38, ↓g_34 Z, ↓g_35 Z, ↓g_36 Z, a1, a2, ↓c, c, hv01]
    · obtain ⟨t', k1, k2⟩ := R t e hL
      refine ⟨t', fun f => ?_, k2⟩
      rw [B_X12_does, hv]
      by_cases hu : 0 < u
      · simp (disch := first | assumption | omega) only [↓sm, ↓reduceIte, ↓if_pos, ↓if_neg, kI, kJ, kR, kV, w32_eq, w64_eq, reduceCtorEq, Int.reduceAdd, Int.reduceMul, Int.reduceSub, o_c141, ↓o_g141_0, ↓o_g141_1, ↓o_g141_5, ↓o_g141_6, ↓o_g141_7, ↓o_g141_8, ↓o_g141_9, ↓o_g141_21, ↓o_g141_25, ↓o_g141_26, ↓o_g141_27, ↓o_g141_28, ↓o_g141_29, ↓o_g141_30, ↓o_g141_31, ↓o_g141_34, ↓o_g141_35, ↓o_g141_36, ↓r_at e, ↓r_atw e, e0, ↓k1, hu]
      · simp (disch := first | assumption | omega) only [↓sm, ↓reduceIte, ↓if_pos, ↓if_neg, kI, kJ, kR, kV, w32_eq, w64_eq, reduceCtorEq, Int.reduceAdd, Int.reduceMul, Int.reduceSub, o_c141, ↓o_g141_0, ↓o_g141_1, ↓o_g141_5, ↓o_g141_6, ↓o_g141_7, ↓o_g141_8, ↓o_g141_9, ↓o_g141_21, ↓o_g141_25, ↓o_g141_26, ↓o_g141_27, ↓o_g141_28, ↓o_g141_29, ↓o_g141_30, ↓o_g141_31, ↓o_g141_34, ↓o_g141_35, ↓o_g141_36, ↓r_at e, ↓r_atw e, e0, ↓k1, hu]
  · have q2 := p5 e0
    obtain ⟨v, S', hv, wS, kS, H⟩ := do_ages Z N hw (S (104 + 6 * i + 1)) (by omega) (by omega)
    refine ⟨v, S', hv, wS, kS, fun s h hA hx => ?_⟩
    obtain ⟨a1, a2, a3, a4, a5⟩ := hA i i0 i1
    have a2 := a2 (by omega)
    rw [e0] at a1
    have a1 : s.2 34 i = 20 := a1
    obtain ⟨s', c, cs, ag, R⟩ := H s h
    refine ⟨s', fun hh => absurd hh (by omega), fun _ f => ?_, cs, ag, fun t e hL => ?_⟩
    · rw [B_X4_does]
      simp (disch := first | assumption | omega) only [↓sm, ↓reduceIte, ↓if_pos, ↓if_neg, kI, kJ, kR, kV, w32_eq, w64_eq, reduceCtorEq, Int.reduceAdd, Int.reduceMul, Int.reduceSub, o_c63, ↓o_g63_0, ↓o_g63_1, ↓o_g63_2, ↓o_g63_3, ↓o_g63_4, ↓o_g63_5, ↓o_g63_6, ↓o_g63_7, ↓o_g63_8, ↓o_g63_9, ↓o_g63_10, ↓o_g63_11, ↓a_ln64, ↓a_ld64, ↓a_ln65, ↓a_ld65, o_c63, o_c33, ↓o_g33_0, ↓o_g33_1, ↓o_g33_2, ↓o_g33_3, ↓o_g33_4, ↓o_g33_5, ↓o_g33_6, ↓o_g33_7, ↓a_ln34, ↓a_ld34, ↓a_ln35, ↓a_ld35, ↓a_ln36, ↓a_ld36, ↓a_ln37, ↓a_ld37, ↓a_ln38, ↓a_ld38, ↓g_34 Z, ↓g_35 Z, ↓g_36 Z, a1, a2, ↓c, c, hv]
    · obtain ⟨t', k1, k2⟩ := R t e hL
      refine ⟨t', fun f => ?_, k2⟩
      rw [B_X12_does]
      simp (disch := first | assumption | omega) only [↓sm, ↓reduceIte, ↓if_pos, ↓if_neg, kI, kJ, kR, kV, w32_eq, w64_eq, reduceCtorEq, Int.reduceAdd, Int.reduceMul, Int.reduceSub, o_c141, ↓o_g141_0, ↓o_g141_1, ↓o_g141_5, ↓o_g141_6, ↓o_g141_7, ↓o_g141_8, ↓o_g141_9, ↓o_g141_21, ↓o_g141_25, ↓o_g141_26, ↓o_g141_27, ↓o_g141_28, ↓o_g141_29, ↓o_g141_30, ↓o_g141_31, ↓o_g141_34, ↓o_g141_35, ↓o_g141_36, ↓r_at e, ↓r_atw e, e0, ↓k1, hv]
  · obtain ⟨v, S', hv, wS, kS, H⟩ := do_any Z N hw x x0 x1
    refine ⟨v, S', hv, wS, kS, fun s h hA hx => ?_⟩
    obtain ⟨s', c, cs, ag, R⟩ := H s h hx
    refine ⟨s', fun _ f => c f, fun hh => absurd e0 hh, cs, ag, fun t e hL => ?_⟩
    obtain ⟨t', k1, k2⟩ := R t e hL
    refine ⟨t', fun f => ?_, k2⟩
    rw [B_X12_does]
    simp (disch := first | assumption | omega) only [↓sm, ↓reduceIte, ↓if_pos, ↓if_neg, kI, kJ, kR, kV, w32_eq, w64_eq, reduceCtorEq, Int.reduceAdd, Int.reduceMul, Int.reduceSub, o_c141, ↓o_g141_0, ↓o_g141_1, ↓o_g141_5, ↓o_g141_6, ↓o_g141_7, ↓o_g141_8, ↓o_g141_9, ↓o_g141_21, ↓o_g141_25, ↓o_g141_26, ↓o_g141_27, ↓o_g141_28, ↓o_g141_29, ↓o_g141_30, ↓o_g141_31, ↓o_g141_34, ↓o_g141_35, ↓o_g141_36, ↓r_at e, ↓r_atw e, e0, ↓k1, hv]
