/-! a deed drawn -/
def Deed0 (Z : mX) (S N : Int → Int) (x : Int) (a b : Nat) (as bs : List mV) : Prop := ∃ v S', (v = 0 ∨ v = 1) ∧ WF S' ∧ Kp S S' ∧ ∀ s : mS, CS s 7 S N → s.1 63 11 = x → ∃ s', (∀ f : Int → mW → mO, mm_kI (mm_run (zP Z) a (.inr (.inr (some 63)) :: as) (mk s)) f = f v (mk s')) ∧ CS s' 7 S' N ∧ Ag liA liF s s' ∧
  ∀ t : mS, t.2 142 = S → LR s t → ∃ t', (∀ f : Int → mW → mO, mm_kI (mm_run (zP Z) b (.inr (.inr (some 141)) :: bs) (mk t)) f = f v (mk t')) ∧ t'.2 142 = S' ∧ LR s' t' ∧ Ag lrA lrF t t'
theorem LR_dr {s t : mS} (h : LR s t) (x : Int) (x0 : 0 ≤ x) (x1 : x < 65536) : LR (uF s 63 11 x) (uF t 141 32 x) := by
  obtain ⟨l1, l2, l3, l4, l5, l6, l7, l8, l9⟩ := h
  unfold LR
  simp only [uF_1, uF_2]
  exact ⟨l1, l2, l3, l4, l5, l6, rfl, x0, x1⟩
theorem do_any (Z : mX) {S : Int → Int} (N : Int → Int) (hw : WF S) (x : Int) (x0 : 0 ≤ x) (x1 : x < 65536) : Deed0 Z S N x 43 353 [] [] := by
  have w := wf0 hw
  by_cases h3 : S 3 = 0
  · refine ⟨0, S, Or.inl rfl, hw, Kp_refl _, fun s h hx => ⟨s, fun f => ?_, h, Ag_refl _ _ _, fun t e hL => ⟨t, fun f => ?_, e, hL, Ag_refl _ _ _⟩⟩⟩
    · rw [B_X4_doesAny]
      simp (disch := first | assumption | omega) only [↓sm, ↓reduceIte, ↓if_pos, ↓if_neg, kI, kJ, kR, kV, w32_eq, w64_eq, reduceCtorEq, Int.reduceAdd, Int.reduceMul, Int.reduceSub, o_c63, ↓o_g63_0, ↓o_g63_1, ↓o_g63_2, ↓o_g63_3, ↓o_g63_4, ↓o_g63_5, ↓o_g63_6, ↓o_g63_7, ↓o_g63_8, ↓o_g63_9, ↓o_g63_10, ↓o_g63_11, ↓a_ln64, ↓a_ld64, ↓a_ln65, ↓a_ld65, o_c7, ↓o_g7_4, ↓o_g7_5, ↓o_g7_7, ↓o_g7_8, ↓o_g7_9, ↓o_g7_11, ↓o_g7_12, ↓o_g7_13, ↓o_g7_14, ↓o_g7_15, ↓o_g7_16, ↓o_g7_17, ↓q_wide h, ↓q_high h, ↓q_odds h, ↓q_year h, ↓q_less h, ↓q_pups h, ↓q_thorns h Z, ↓q_berries h Z, ↓q_hours h hw Z, ↓q_needs h hw Z, ↓q_at h hw Z, ↓q_want h hw Z, ↓q_knows h hw Z, ↓q_caught h hw Z, ↓q_marks h hw Z, ↓q_torn h hw Z, h3]
    · rw [B_X12_doesAny]
      simp (disch := first | assumption | omega) only [↓sm, ↓reduceIte, ↓if_pos, ↓if_neg, kI, kJ, kR, kV, w32_eq, w64_eq, reduceCtorEq, Int.reduceAdd, Int.reduceMul, Int.reduceSub, o_c141, ↓o_g141_0, ↓o_g141_1, ↓o_g141_5, ↓o_g141_6, ↓o_g141_7, ↓o_g141_8, ↓o_g141_9, ↓o_g141_21, ↓o_g141_25, ↓o_g141_26, ↓o_g141_27, ↓o_g141_28, ↓o_g141_29, ↓o_g141_30, ↓o_g141_31, ↓o_g141_34, ↓o_g141_35, ↓o_g141_36, ↓r_at e, h3]
  · have d1 := dr_r x
    have d2 := dr_r (dr x)
    generalize hp : dr x / 8 % S 3 = p
    generalize hk : dr (dr x) / 8 % 4 = k
    have p0 : 0 ≤ p := by rw [← hp]; exact Int.emod_nonneg _ h3
    have p1 : p < S 3 := by rw [← hp]; exact Int.emod_lt_of_pos _ (by omega)
    have k0 : 0 ≤ k := by omega
    have k1 : k ≤ 3 := by omega
    have cs2 : ∀ s : mS, CS s 7 S N → CS (uF (uF s 63 11 (dr x)) 63 11 (dr (dr x))) 7 S N := fun s h => CS_fr h (fun k => by rw [uF_1, if_neg (by omega), uF_1, if_neg (by omega)]) (fun j _ _ => rfl)
    have ag2 : ∀ s : mS, Ag liA liF s (uF (uF s 63 11 (dr x)) 63 11 (dr (dr x))) := fun s => Ag_uF (F := liF) (Ag_uF (F := liF) (Ag_refl _ _ _) (by unfold liF; omega) _) (by unfold liF; omega) _
    have ar2 : ∀ t : mS, Ag lrA lrF t (uF (uF t 141 32 (dr x)) 141 32 (dr (dr x))) := fun t => Ag_uF (F := lrF) (Ag_uF (F := lrF) (Ag_refl _ _ _) (by unfold lrF; omega) _) (by unfold lrF; omega) _
    have cd : ∀ s : mS, s.1 63 11 = x → (∀ f : Int → mW → mO, mm_kI (mm_run (zP Z) 44 [.inr (.inr (some 63)), .inl ((S 3))] (mk s)) f = f p (mk (uF s 63 11 (dr x)))) ∧ ∀ f : Int → mW → mO, mm_kI (mm_run (zP Z) 44 [.inr (.inr (some 63)), .inl 4] (mk (uF s 63 11 (dr x)))) f = f k (mk (uF (uF s 63 11 (dr x)) 63 11 (dr (dr x)))) := by
      intro s hx
      have e : (uF s 63 11 (dr x)).1 63 11 = dr x := by rw [uF_1, if_pos ⟨rfl, rfl⟩]
      refine ⟨fun f => ?_, fun f => ?_⟩
      · have := c_draw Z s (S 3) (by omega) (by omega) (by omega) (by omega) f
        rw [hx, hp] at this
        exact this
      · have := c_draw Z (uF s 63 11 (dr x)) 4 (by omega) (by omega) (by omega) (by omega) f
        rw [e, hk] at this
        exact this
    have rd : ∀ t : mS, t.1 141 32 = x → (∀ f : Int → mW → mO, mm_kI (mm_run (zP Z) 349 [.inr (.inr (some 141)), .inl ((S 3))] (mk t)) f = f p (mk (uF t 141 32 (dr x)))) ∧ ∀ f : Int → mW → mO, mm_kI (mm_run (zP Z) 349 [.inr (.inr (some 141)), .inl 4] (mk (uF t 141 32 (dr x)))) f = f k (mk (uF (uF t 141 32 (dr x)) 141 32 (dr (dr x)))) := by
      intro s hx
      have e : (uF s 141 32 (dr x)).1 141 32 = dr x := by rw [uF_1, if_pos ⟨rfl, rfl⟩]
      refine ⟨fun f => ?_, fun f => ?_⟩
      · have := r_draw Z s (S 3) (by omega) (by omega) (by omega) (by omega) f
        rw [hx, hp] at this
        exact this
      · have := r_draw Z (uF s 141 32 (dr x)) 4 (by omega) (by omega) (by omega) (by omega) f
        rw [e, hk] at this
        exact this
    by_cases hc : 0 < S (74 + 6 * p + 3)
    · obtain ⟨v, u, S', hv, wS, kS, H⟩ := do_tears Z N hw p p0 p1
      refine ⟨v, S', by rw [hv]; split <;> simp, wS, kS, fun s h hx => ?_⟩
      obtain ⟨s', c, cs, ag, R⟩ := H _ (cs2 s h)
      obtain ⟨c1, c2⟩ := cd s hx
      refine ⟨s', fun f => ?_, cs, Ag_trans (ag2 s) ag, fun t e hL => ?_⟩
      · have hv01 : v = 0 ∨ v = 1 := by rw [hv]; split <;> simp
        rw [B_X4_doesAny]
        simp (disch := first | assumption | omega) only [↓sm, ↓reduceIte, ↓if_pos, ↓if_neg, kI, kJ, kR, kV, w32_eq, w64_eq, reduceCtorEq, Int.reduceAdd, Int.reduceMul, Int.reduceSub, o_c63, ↓o_g63_0, ↓o_g63_1, ↓o_g63_2, ↓o_g63_3, ↓o_g63_4, ↓o_g63_5, ↓o_g63_6, ↓o_g63_7, ↓o_g63_8, ↓o_g63_9, ↓o_g63_10, ↓o_g63_11, ↓a_ln64, ↓a_ld64, ↓a_ln65, ↓a_ld65, o_c7, ↓o_g7_4, ↓o_g7_5, ↓o_g7_7, ↓o_g7_8, ↓o_g7_9, ↓o_g7_11, ↓o_g7_12, ↓o_g7_13, ↓o_g7_14, ↓o_g7_15, ↓o_g7_16, ↓o_g7_17, ↓q_wide h, ↓q_high h, ↓q_odds h, ↓q_year h, ↓q_less h, ↓q_pups h, ↓q_thorns h Z, ↓q_berries h Z, ↓q_hours h hw Z, ↓q_needs h hw Z, ↓q_at h hw Z, ↓q_want h hw Z, ↓q_knows h hw Z, ↓q_caught h hw Z, ↓q_marks h hw Z, ↓q_torn h hw Z, o_c63, ↓c1, ↓c2, ↓c_isCaught_t (cs2 s h) hw Z, ↓c, hv01]
      · obtain ⟨r1, r2⟩ := rd t (by rw [← hL.2.2.2.2.2.2.1]; exact hx)
        obtain ⟨t', k1', k2, k3, k4⟩ := R (uF (uF t 141 32 (dr x)) 141 32 (dr (dr x))) e (LR_dr (LR_dr hL _ d1.1 d1.2) _ d2.1 d2.2)
        have e2 : (uF (uF t 141 32 (dr x)) 141 32 (dr (dr x))).2 142 = S := e
        refine ⟨t', fun f => ?_, k2, k3, Ag_trans (ar2 t) k4⟩
        rw [B_X12_doesAny, hv]
        by_cases hu : 0 < u
        · simp (disch := first | assumption | omega) only [↓sm, ↓reduceIte, ↓if_pos, ↓if_neg, kI, kJ, kR, kV, w32_eq, w64_eq, reduceCtorEq, Int.reduceAdd, Int.reduceMul, Int.reduceSub, o_c141, ↓o_g141_0, ↓o_g141_1, ↓o_g141_5, ↓o_g141_6, ↓o_g141_7, ↓o_g141_8, ↓o_g141_9, ↓o_g141_21, ↓o_g141_25, ↓o_g141_26, ↓o_g141_27, ↓o_g141_28, ↓o_g141_29, ↓o_g141_30, ↓o_g141_31, ↓o_g141_34, ↓o_g141_35, ↓o_g141_36, ↓r_at e, ↓r1, ↓r2, ↓r_isCaught_t e2 hw Z, ↓k1', hu]
        · simp (disch := first | assumption | omega) only [↓sm, ↓reduceIte, ↓if_pos, ↓if_neg, kI, kJ, kR, kV, w32_eq, w64_eq, reduceCtorEq, Int.reduceAdd, Int.reduceMul, Int.reduceSub, o_c141, ↓o_g141_0, ↓o_g141_1, ↓o_g141_5, ↓o_g141_6, ↓o_g141_7, ↓o_g141_8, ↓o_g141_9, ↓o_g141_21, ↓o_g141_25, ↓o_g141_26, ↓o_g141_27, ↓o_g141_28, ↓o_g141_29, ↓o_g141_30, ↓o_g141_31, ↓o_g141_34, ↓o_g141_35, ↓o_g141_36, ↓r_at e, ↓r1, ↓r2, ↓r_isCaught_t e2 hw Z, ↓k1', hu]
    · obtain ⟨v, S', hv, wS, kS, H⟩ := do_goes Z N hw p k p0 p1 k0 k1
      refine ⟨v, S', hv, wS, kS, fun s h hx => ?_⟩
      obtain ⟨s', c, cs, ag, R⟩ := H _ (cs2 s h)
      obtain ⟨c1, c2⟩ := cd s hx
      refine ⟨s', fun f => ?_, cs, Ag_trans (ag2 s) ag, fun t e hL => ?_⟩
      · rw [B_X4_doesAny]
        simp (disch := first | assumption | omega) only [↓sm, ↓reduceIte, ↓if_pos, ↓if_neg, kI, kJ, kR, kV, w32_eq, w64_eq, reduceCtorEq, Int.reduceAdd, Int.reduceMul, Int.reduceSub, o_c63, ↓o_g63_0, ↓o_g63_1, ↓o_g63_2, ↓o_g63_3, ↓o_g63_4, ↓o_g63_5, ↓o_g63_6, ↓o_g63_7, ↓o_g63_8, ↓o_g63_9, ↓o_g63_10, ↓o_g63_11, ↓a_ln64, ↓a_ld64, ↓a_ln65, ↓a_ld65, o_c7, ↓o_g7_4, ↓o_g7_5, ↓o_g7_7, ↓o_g7_8, ↓o_g7_9, ↓o_g7_11, ↓o_g7_12, ↓o_g7_13, ↓o_g7_14, ↓o_g7_15, ↓o_g7_16, ↓o_g7_17, ↓q_wide h, ↓q_high h, ↓q_odds h, ↓q_year h, ↓q_less h, ↓q_pups h, ↓q_thorns h Z, ↓q_berries h Z, ↓q_hours h hw Z, ↓q_needs h hw Z, ↓q_at h hw Z, ↓q_want h hw Z, ↓q_knows h hw Z, ↓q_caught h hw Z, ↓q_marks h hw Z, ↓q_torn h hw Z, o_c63, ↓c1, ↓c2, ↓c_isCaught_f (cs2 s h) hw Z, ↓c, hv]
      · obtain ⟨r1, r2⟩ := rd t (by rw [← hL.2.2.2.2.2.2.1]; exact hx)
        obtain ⟨t', k1', k2, k3, k4⟩ := R (uF (uF t 141 32 (dr x)) 141 32 (dr (dr x))) e (LR_dr (LR_dr hL _ d1.1 d1.2) _ d2.1 d2.2)
        have e2 : (uF (uF t 141 32 (dr x)) 141 32 (dr (dr x))).2 142 = S := e
        refine ⟨t', fun f => ?_, k2, k3, Ag_trans (ar2 t) k4⟩
        rw [B_X12_doesAny]
        simp (disch := first | assumption | omega) only [↓sm, ↓reduceIte, ↓if_pos, ↓if_neg, kI, kJ, kR, kV, w32_eq, w64_eq, reduceCtorEq, Int.reduceAdd, Int.reduceMul, Int.reduceSub, o_c141, ↓o_g141_0, ↓o_g141_1, ↓o_g141_5, ↓o_g141_6, ↓o_g141_7, ↓o_g141_8, ↓o_g141_9, ↓o_g141_21, ↓o_g141_25, ↓o_g141_26, ↓o_g141_27, ↓o_g141_28, ↓o_g141_29, ↓o_g141_30, ↓o_g141_31, ↓o_g141_34, ↓o_g141_35, ↓o_g141_36, ↓r_at e, ↓r1, ↓r2, ↓r_isCaught_f e2 hw Z, ↓k1', hv]
