/-! years -/
def m9 (x : Int) : Int := if x < 9 then x else 9
theorem m9_r {x : Int} (h : 0 ≤ x) : 0 ≤ m9 x ∧ m9 x ≤ 9 := by unfold m9; split <;> omega
def agP (S : Int → Int) (y i : Int) : Int → Int := fun j => if 10 ≤ j ∧ j < 10 + i ∧ S j ≠ 0 then m9 (S j + y) else if 35 ≤ j ∧ j < 35 + i ∧ S (j - 25) ≠ 0 then m9 (S j + y) else S j
theorem agP_o {S : Int → Int} {y i j : Int} (h1 : ¬ (10 ≤ j ∧ j < 10 + i)) (h2 : ¬ (35 ≤ j ∧ j < 35 + i)) : agP S y i j = S j := by
  unfold agP
  rw [if_neg (by omega), if_neg (by omega)]
theorem agP_0 (S : Int → Int) (y : Int) : agP S y 0 = S := by
  funext j
  exact agP_o (by omega) (by omega)
theorem agP_s0 {S : Int → Int} {y i : Int} (hz : S (10 + i) = 0) : agP S y (i + 1) = agP S y i := by
  funext j
  unfold agP
  by_cases h1 : j = 10 + i
  · subst h1
    rw [if_neg (by omega), if_neg (show ¬ (10 ≤ 10 + i ∧ 10 + i < 10 + i ∧ S (10 + i) ≠ 0) by omega)]
    by_cases h2 : 35 ≤ 10 + i ∧ 10 + i < 35 + i ∧ S (10 + i - 25) ≠ 0
    · rw [if_pos (by omega), if_pos h2]
    · rw [if_neg (by omega), if_neg h2]
  · by_cases h3 : j = 35 + i
    · subst h3
      rw [show 35 + i - 25 = 10 + i by omega]
      by_cases h4 : 10 ≤ 35 + i ∧ 35 + i < 10 + i ∧ S (35 + i) ≠ 0
      · omega
      · rw [if_neg (by omega), if_neg (by omega), if_neg h4, if_neg (by omega)]
    · have e1 : (10 ≤ j ∧ j < 10 + (i + 1) ∧ S j ≠ 0) = (10 ≤ j ∧ j < 10 + i ∧ S j ≠ 0) := by apply propext; omega
      have e2 : (35 ≤ j ∧ j < 35 + (i + 1) ∧ S (j - 25) ≠ 0) = (35 ≤ j ∧ j < 35 + i ∧ S (j - 25) ≠ 0) := by apply propext; omega
      simp only [e1, e2]
theorem agP_s1 {S : Int → Int} {y i : Int} (i0 : 0 ≤ i) (i1 : i < 25) (hz : S (10 + i) ≠ 0) : agP S y (i + 1) = mm_upd (mm_upd (agP S y i) (10 + i) (m9 (S (10 + i) + y))) (35 + i) (m9 (S (35 + i) + y)) := by
  funext j
  unfold mm_upd agP
  by_cases h1 : j = 10 + i
  · subst h1
    rw [if_pos (by omega), if_neg (by omega), if_pos rfl]
  · by_cases h3 : j = 35 + i
    · subst h3
      rw [if_neg (by omega), if_pos (by rw [show 35 + i - 25 = 10 + i by omega]; omega), if_pos rfl]
    · have e1 : (10 ≤ j ∧ j < 10 + (i + 1) ∧ S j ≠ 0) = (10 ≤ j ∧ j < 10 + i ∧ S j ≠ 0) := by apply propext; omega
      have e2 : (35 ≤ j ∧ j < 35 + (i + 1) ∧ S (j - 25) ≠ 0) = (35 ≤ j ∧ j < 35 + i ∧ S (j - 25) ≠ 0) := by apply propext; omega
      simp only [e1, e2, if_neg h1, if_neg h3]
theorem agP_wf {S : Int → Int} (hw : WF S) {y i : Int} (y0 : 0 ≤ y) (i0 : 0 ≤ i) (i1 : i ≤ ncl S) : WF (agP S y i) := by
  have w := wf0 hw
  have n := wf_n hw
  have e : ∀ j, j < 10 ∨ 60 ≤ j → agP S y i j = S j := fun j hj => agP_o (by omega) (by omega)
  have en : ncl (agP S y i) = ncl S := by unfold ncl; rw [e 0 (by omega), e 1 (by omega)]
  unfold WF at *
  rw [en, e 0 (by omega), e 1 (by omega), e 2 (by omega), e 3 (by omega), e 4 (by omega), e 5 (by omega)]
  refine ⟨hw.1, fun c c0 c1 => ?_, fun l l0 l1 => ?_, fun p' q0 q1 => ?_⟩
  · obtain ⟨a, b, c', d, k⟩ := hw.2.1 c c0 c1
    have m1 := m9_r (x := S (10 + c) + y) (by omega)
    have m2 := m9_r (x := S (35 + c) + y) (by omega)
    have e1 : agP S y i (10 + c) = if c < i ∧ S (10 + c) ≠ 0 then m9 (S (10 + c) + y) else S (10 + c) := by
      unfold agP
      by_cases h : c < i ∧ S (10 + c) ≠ 0
      · rw [if_pos (by omega), if_pos h]
      · rw [if_neg (by omega), if_neg (by omega), if_neg h]
    have e2 : agP S y i (35 + c) = if c < i ∧ S (10 + c) ≠ 0 then m9 (S (35 + c) + y) else S (35 + c) := by
      unfold agP
      rw [show 35 + c - 25 = 10 + c by omega]
      by_cases h : c < i ∧ S (10 + c) ≠ 0
      · rw [if_neg (by omega), if_pos (by omega), if_pos h]
      · rw [if_neg (by omega), if_neg (by omega), if_neg h]
    rw [e1, e2]
    by_cases h : c < i ∧ S (10 + c) ≠ 0
    · rw [if_pos h, if_pos h]
      omega
    · rw [if_neg h, if_neg h]
      omega
  · rw [e _ (by omega), e _ (by omega)]
    exact hw.2.2.1 l l0 l1
  · rw [e _ (by omega), e _ (by omega), e _ (by omega), e _ (by omega), e _ (by omega), e _ (by omega)]
    exact hw.2.2.2 p' q0 q1
theorem agP_n {S : Int → Int} {y i : Int} (i1 : i ≤ 25) : ncl (agP S y i) = ncl S := by
  unfold ncl
  rw [agP_o (by omega) (by omega), agP_o (by omega) (by omega)]
theorem agP_5 {S : Int → Int} {y i v : Int} (i1 : i ≤ 25) : agP (mm_upd S 5 v) y i = mm_upd (agP S y i) 5 v := by
  funext j
  by_cases h : j = 5
  · subst h
    rw [up_eq rfl, agP_o (by omega) (by omega), up_eq rfl]
  · rw [up_ne h]
    unfold agP
    rw [up_ne h]
    by_cases h1 : 10 ≤ j ∧ j < 10 + i ∧ S j ≠ 0
    · rw [if_pos h1, if_pos h1]
    · rw [if_neg h1, if_neg h1]
      by_cases h2 : j - 25 = 5
      · rw [if_neg (by omega), if_neg (by omega)]
      · rw [up_ne h2]
def ageS (S : Int → Int) (y : Int) : Int → Int := mm_upd (agP S y (ncl S)) 5 (S 5 + y)
theorem ageS_wf {S : Int → Int} (hw : WF S) {y : Int} (y0 : 0 ≤ y) (y1 : S 5 + y ≤ 9999) : WF (ageS S y) := by
  have w := wf0 hw
  have n := wf_n hw
  exact wf_num (agP_wf hw y0 (by omega) (by omega)) (by omega)
theorem ageS_kp {S : Int → Int} (hw : WF S) (y : Int) : Kp S (ageS S y) := by
  have n := wf_n hw
  refine Kp_up ⟨fun j hj => agP_o (by omega) (by omega), agP_o (by omega) (by omega), agP_o (by omega) (by omega), agP_o (by omega) (by omega), ?_⟩ (by omega) (by omega) _
  rw [agP_o (by omega) (by omega)]
  exact Int.le_refl _
theorem ageS_0 {S : Int → Int} (hw : WF S) : ageS S 0 = S := by
  have n := wf_n hw
  unfold ageS
  have e : agP S 0 (ncl S) = S := by
    funext j
    have h9 : ∀ x : Int, x ≤ 9 → m9 (x + 0) = x := fun x hx => by unfold m9; split <;> omega
    unfold agP
    by_cases h1 : 10 ≤ j ∧ j < 10 + ncl S ∧ S j ≠ 0
    · rw [if_pos h1]
      have := wf_c hw (c := j - 10) (by omega) (by omega)
      rw [show 10 + (j - 10) = j by omega] at this
      exact h9 _ (by omega)
    · rw [if_neg h1]
      by_cases h2 : 35 ≤ j ∧ j < 35 + ncl S ∧ S (j - 25) ≠ 0
      · rw [if_pos h2]
        have := wf_c hw (c := j - 35) (by omega) (by omega)
        rw [show 35 + (j - 35) = j by omega] at this
        exact h9 _ (by omega)
      · rw [if_neg h2]
  rw [e]
  exact up_id (by omega)
theorem ageS_s {S : Int → Int} (hw : WF S) {y : Int} (y0 : 0 ≤ y) : ageS (ageS S y) 1 = ageS S (y + 1) := by
  have n := wf_n hw
  have en : ncl (ageS S y) = ncl S := Kp_ncl (ageS_kp hw y)
  have e5 : ageS S y 5 = S 5 + y := up_eq rfl
  have hm : ∀ x : Int, m9 (m9 (x + y) + 1) = m9 (x + (y + 1)) := fun x => by unfold m9; split <;> split <;> (try split) <;> omega
  unfold ageS at *
  rw [en, e5, agP_5 (by omega)]
  funext j
  by_cases h : j = 5
  · rw [up_eq h, up_eq h]; omega
  · rw [up_ne h, up_ne h, up_ne h]
    have e1 : ∀ j, 10 ≤ j → j < 10 + ncl S → (agP S y (ncl S) j = 0 ↔ S j = 0) := fun j j0 j1 => by
      have := wf_c hw (c := j - 10) (by omega) (by omega)
      rw [show 10 + (j - 10) = j by omega] at this
      unfold agP m9
      by_cases hz : S j = 0
      · rw [if_neg (by omega), if_neg (by omega)]
      · rw [if_pos (by omega)]
        split <;> omega
    unfold agP
    by_cases h1 : 10 ≤ j ∧ j < 10 + ncl S ∧ S j ≠ 0
    · have g := e1 j h1.1 h1.2.1
      unfold agP at g
      rw [if_pos (show 10 ≤ j ∧ j < 10 + ncl S ∧ _ from ⟨h1.1, h1.2.1, fun x => h1.2.2 (g.mp x)⟩), if_pos h1, if_pos h1, hm]
    · by_cases h1' : 10 ≤ j ∧ j < 10 + ncl S
      · have g := e1 j h1'.1 h1'.2
        unfold agP at g
        have hz : S j = 0 := by omega
        rw [if_neg (fun x => x.2.2 (g.mpr hz)), if_neg (show ¬ (35 ≤ j ∧ j < 35 + ncl S ∧ _) from fun x => by omega), if_neg h1, if_neg (by omega), if_neg h1, if_neg (by omega)]
      · rw [if_neg (show ¬ (10 ≤ j ∧ j < 10 + ncl S ∧ _) from fun x => h1' ⟨x.1, x.2.1⟩), if_neg h1]
        by_cases h2 : 35 ≤ j ∧ j < 35 + ncl S ∧ S (j - 25) ≠ 0
        · have g := e1 (j - 25) (by omega) (by omega)
          unfold agP at g
          rw [if_pos (show 35 ≤ j ∧ j < 35 + ncl S ∧ _ from ⟨h2.1, h2.2.1, fun x => h2.2.2 (g.mp x)⟩), if_pos h2, if_neg h1, if_pos h2, hm]
        · by_cases h2' : 35 ≤ j ∧ j < 35 + ncl S
          · have g := e1 (j - 25) (by omega) (by omega)
            unfold agP at g
            have hz : S (j - 25) = 0 := by omega
            rw [if_neg (fun x => x.2.2 (g.mpr hz)), if_neg h2, if_neg h1, if_neg h2]
          · rw [if_neg (show ¬ (35 ≤ j ∧ j < 35 + ncl S ∧ _) from fun x => h2' ⟨x.1, x.2.1⟩), if_neg h2, if_neg h1, if_neg h2]
theorem lp_age {S N : Int → Int} (hw : WF S) (Z : mX) (y : Int) (y0 : 0 ≤ y) (y1 : y ≤ 9999) : ∀ i : Int, i ≤ ncl S → ∀ s : mS, CS s 7 (agP S y i) N → 0 ≤ i → ∃ s', mm_at (zP Z) 76 8 [some (.inr (.inr (some 7))), some (.inl y), some (.inl i)] [] (mk s) = some (none, mk s') ∧ CS s' 7 (agP S y (ncl S)) N ∧ Ag scl sclF s s' := by
  have n := wf_n hw
  refine up ?_ ?_
  · intro s h i0
    have w1 := agP_wf hw y0 i0 (Int.le_refl _)
    have en := agP_n (S := S) (y := y) (i := ncl S) (by omega)
    refine ⟨s, ?_, h, Ag_refl _ _ _⟩
    rw [B_X5_age_8]
    simp (disch := first | assumption | omega) only [↓sm, ↓reduceIte, ↓if_pos, ↓if_neg, kI, kJ, kR, kV, w32_eq, w64_eq, reduceCtorEq, Int.reduceAdd, Int.reduceMul, Int.reduceSub, o_c7, ↓o_g7_4, ↓o_g7_5, ↓o_g7_7, ↓o_g7_8, ↓o_g7_9, ↓o_g7_11, ↓o_g7_12, ↓o_g7_13, ↓o_g7_14, ↓o_g7_15, ↓o_g7_16, ↓o_g7_17, ↓c_cells h w1 Z, en]
  · intro i hi ih s h i0
    have w1 := agP_wf hw y0 i0 (by omega)
    have en := agP_n (S := S) (y := y) (i := i) (by omega)
    have ea : agP S y i (10 + i) = S (10 + i) := agP_o (by omega) (by omega)
    have wc := wf_c hw i0 (by omega)
    by_cases hz : S (10 + i) = 0
    · have e := agP_s0 (y := y) hz
      rw [← e] at h
      obtain ⟨s', g1, g2, g3⟩ := ih s h (by omega)
      refine ⟨s', ?_, g2, g3⟩
      rw [e] at h
      rw [B_X5_age_8]
      simp (disch := first | assumption | omega) only [↓sm, ↓reduceIte, ↓if_pos, ↓if_neg, kI, kJ, kR, kV, w32_eq, w64_eq, reduceCtorEq, Int.reduceAdd, Int.reduceMul, Int.reduceSub, o_c7, ↓o_g7_4, ↓o_g7_5, ↓o_g7_7, ↓o_g7_8, ↓o_g7_9, ↓o_g7_11, ↓o_g7_12, ↓o_g7_13, ↓o_g7_14, ↓o_g7_15, ↓o_g7_16, ↓o_g7_17, ↓c_cells h w1 Z, en, ↓q_thorns h Z, ea, hz, g1]
    · have e := agP_s1 (y := y) i0 (by omega) hz
      have eb : agP S y i (35 + i) = S (35 + i) := agP_o (by omega) (by omega)
      have m1 := m9_r (x := S (10 + i) + y) (by omega)
      have h1 : CS (uA s 8 i (m9 (S (10 + i) + y))) 7 (mm_upd (agP S y i) (10 + i) (m9 (S (10 + i) + y))) N := cs_cell h w1 (k := 0) rfl (by omega) i0 (by omega) (by omega) _
      have w2 : WF (mm_upd (agP S y i) (10 + i) (m9 (S (10 + i) + y))) := wf_cell w1 (k := 0) (c := i) (by omega) (by omega) i0 (by omega) (by omega) (by omega) (by omega)
      have h2 : CS (uA (uA s 8 i (m9 (S (10 + i) + y))) 9 i (m9 (S (35 + i) + y))) 7 (agP S y (i + 1)) N := by
        rw [e]
        exact cs_cell h1 w2 (k := 1) rfl (by omega) i0 (by omega) (by omega) _
      obtain ⟨s', g1, g2, g3⟩ := ih _ h2 (by omega)
      refine ⟨s', ?_, g2, Ag_trans (Ag_uA (Ag_uA (Ag_refl _ _ _) (by unfold scl; omega) _ _) (by unfold scl; omega) _ _) g3⟩
      have gb := q_berries h1 Z i i0 (by omega)
      rw [up_ne (by omega), eb] at gb
      rw [B_X5_age_8]
      unfold m9 at *
      simp (disch := first | assumption | omega) only [↓sm, ↓reduceIte, ↓if_pos, ↓if_neg, kI, kJ, kR, kV, w32_eq, w64_eq, reduceCtorEq, Int.reduceAdd, Int.reduceMul, Int.reduceSub, o_c7, ↓o_g7_4, ↓o_g7_5, ↓o_g7_7, ↓o_g7_8, ↓o_g7_9, ↓o_g7_11, ↓o_g7_12, ↓o_g7_13, ↓o_g7_14, ↓o_g7_15, ↓o_g7_16, ↓o_g7_17, ↓c_cells h w1 Z, en, ↓q_thorns h Z, ea, hz, ↓p_8, ↓e_8, ↓p_9, ↓e_9, ↓p_10, ↓e_10, ↓p_11, ↓e_11, ↓p_13, ↓e_13, ↓p_14, ↓e_14, ↓p_15, ↓e_15, ↓p_16, ↓e_16, ↓p_17, ↓e_17, ↓p_18, ↓e_18, ↓gb, g1]
theorem c_age {s : mS} {S N : Int → Int} (h : CS s 7 S N) (hw : WF S) (Z : mX) (y : Int) (y0 : 0 ≤ y) (y1 : S 5 + y ≤ 9999) : ∃ s', (∀ f : mW → mO, mm_kV (mm_run (zP Z) 76 [.inr (.inr (some 7)), .inl y] (mk s)) f = f (mk s')) ∧ CS s' 7 (ageS S y) N ∧ Ag scl sclF s s' := by
  have w := wf0 hw
  have n := wf_n hw
  have h1 : CS (uF s 7 3 (S 5 + y)) 7 (mm_upd S 5 (S 5 + y)) N := cs_num h (Or.inl ⟨rfl, rfl⟩) _ hw
  have w1 : WF (mm_upd S 5 (S 5 + y)) := wf_num hw (by omega)
  have en : ncl (mm_upd S 5 (S 5 + y)) = ncl S := ncl_up (by omega)
  obtain ⟨s', g1, g2, g3⟩ := lp_age w1 Z y y0 (by omega) 0 (by omega) (uF s 7 3 (S 5 + y)) (by rw [agP_0]; exact h1) (by omega)
  rw [en, agP_5 (by omega)] at g2
  refine ⟨s', fun f => ?_, g2, Ag_trans (Ag_uF (Ag_refl _ _ _) (show sclF 7 3 from rfl) _) g3⟩
  rw [B_X5_age]
  simp (disch := first | assumption | omega) only [↓sm, ↓reduceIte, ↓if_pos, ↓if_neg, kI, kJ, kR, kV, w32_eq, w64_eq, reduceCtorEq, Int.reduceAdd, Int.reduceMul, Int.reduceSub, o_c7, ↓o_g7_4, ↓o_g7_5, ↓o_g7_7, ↓o_g7_8, ↓o_g7_9, ↓o_g7_11, ↓o_g7_12, ↓o_g7_13, ↓o_g7_14, ↓o_g7_15, ↓o_g7_16, ↓o_g7_17, ↓q_wide h, ↓q_high h, ↓q_odds h, ↓q_year h, ↓q_less h, ↓q_pups h, ↓q_thorns h Z, ↓q_berries h Z, ↓q_hours h hw Z, ↓q_needs h hw Z, ↓q_at h hw Z, ↓q_want h hw Z, ↓q_knows h hw Z, ↓q_caught h hw Z, ↓q_marks h hw Z, ↓q_torn h hw Z, ↓o_p7_3, g1]
theorem c_canAge_t {s : mS} {S N : Int → Int} (h : CS s 7 S N) (hw : WF S) (Z : mX) (y : Int) (y0 : 0 ≤ y) (y1 : S 5 + y ≤ 9999) (f : Int → mW → mO) : mm_kI (mm_run (zP Z) 75 [.inr (.inr (some 7)), .inl y] (mk s)) f = f 1 (mk s) := by
  have w := wf0 hw
  rw [B_X5_canAge]
  simp (disch := first | assumption | omega) only [↓sm, ↓reduceIte, ↓if_pos, ↓if_neg, kI, kJ, kR, kV, w32_eq, w64_eq, reduceCtorEq, Int.reduceAdd, Int.reduceMul, Int.reduceSub, o_c7, ↓o_g7_4, ↓o_g7_5, ↓o_g7_7, ↓o_g7_8, ↓o_g7_9, ↓o_g7_11, ↓o_g7_12, ↓o_g7_13, ↓o_g7_14, ↓o_g7_15, ↓o_g7_16, ↓o_g7_17, ↓q_wide h, ↓q_high h, ↓q_odds h, ↓q_year h, ↓q_less h, ↓q_pups h, ↓q_thorns h Z, ↓q_berries h Z, ↓q_hours h hw Z, ↓q_needs h hw Z, ↓q_at h hw Z, ↓q_want h hw Z, ↓q_knows h hw Z, ↓q_caught h hw Z, ↓q_marks h hw Z, ↓q_torn h hw Z]
theorem c_canAge_f {s : mS} {S N : Int → Int} (h : CS s 7 S N) (hw : WF S) (Z : mX) (y : Int) (y0 : y ≤ 9999) (y1 : ¬ S 5 + y ≤ 9999) (f : Int → mW → mO) : mm_kI (mm_run (zP Z) 75 [.inr (.inr (some 7)), .inl y] (mk s)) f = f 0 (mk s) := by
  have w := wf0 hw
  rw [B_X5_canAge]
  simp (disch := first | assumption | omega) only [↓sm, ↓reduceIte, ↓if_pos, ↓if_neg, kI, kJ, kR, kV, w32_eq, w64_eq, reduceCtorEq, Int.reduceAdd, Int.reduceMul, Int.reduceSub, o_c7, ↓o_g7_4, ↓o_g7_5, ↓o_g7_7, ↓o_g7_8, ↓o_g7_9, ↓o_g7_11, ↓o_g7_12, ↓o_g7_13, ↓o_g7_14, ↓o_g7_15, ↓o_g7_16, ↓o_g7_17, ↓q_wide h, ↓q_high h, ↓q_odds h, ↓q_year h, ↓q_less h, ↓q_pups h, ↓q_thorns h Z, ↓q_berries h Z, ↓q_hours h hw Z, ↓q_needs h hw Z, ↓q_at h hw Z, ↓q_want h hw Z, ↓q_knows h hw Z, ↓q_caught h hw Z, ↓q_marks h hw Z, ↓q_torn h hw Z]
theorem lp_yearGoes {S : Int → Int} (hw : WF S) (Z : mX) : ∀ i : Int, i ≤ ncl S → ∀ s : mS, s.2 142 = agP S 1 i → 0 ≤ i → ∃ s', mm_at (zP Z) 300 2 [some (.inr (.inr (some 141))), some (.inl i)] [] (mk s) = some (none, mk s') ∧ s'.2 142 = ageS S 1 ∧ Ag a142 noF s s' := by
  have n := wf_n hw
  have w := wf0 hw
  refine up ?_ ?_
  · intro s e i0
    have w1 := agP_wf hw (y := 1) (by omega) i0 (Int.le_refl _)
    have en := agP_n (S := S) (y := 1) (i := ncl S) (by omega)
    have e5 : agP S 1 (ncl S) 5 = S 5 := agP_o (by omega) (by omega)
    refine ⟨uA s 142 5 (S 5 + 1), ?_, by rw [uA_s, e]; rfl, Ag_uA (Ag_refl _ _ _) a142_ _ _⟩
    rw [B_X12_yearGoes_2]
    simp (disch := first | assumption | omega) only [↓sm, ↓reduceIte, ↓if_pos, ↓if_neg, kI, kJ, kR, kV, w32_eq, w64_eq, reduceCtorEq, Int.reduceAdd, Int.reduceMul, Int.reduceSub, o_c141, ↓o_g141_0, ↓o_g141_1, ↓o_g141_5, ↓o_g141_6, ↓o_g141_7, ↓o_g141_8, ↓o_g141_9, ↓o_g141_21, ↓o_g141_25, ↓o_g141_26, ↓o_g141_27, ↓o_g141_28, ↓o_g141_29, ↓o_g141_30, ↓o_g141_31, ↓o_g141_34, ↓o_g141_35, ↓o_g141_36, ↓r_cellsOf e w1 Z, en, ↓r_at e, e5, ↓a_st142]
  · intro i hi ih s e i0
    have w1 := agP_wf hw (y := 1) (by omega) i0 (by omega)
    have en := agP_n (S := S) (y := 1) (i := i) (by omega)
    have ea : agP S 1 i (10 + i) = S (10 + i) := agP_o (by omega) (by omega)
    have wc := wf_c hw i0 (by omega)
    by_cases hz : S (10 + i) = 0
    · have g := agP_s0 (y := 1) hz
      obtain ⟨s', g1, g2, g3⟩ := ih s (by rw [g]; exact e) (by omega)
      refine ⟨s', ?_, g2, g3⟩
      rw [B_X12_yearGoes_2]
      simp (disch := first | assumption | omega) only [↓sm, ↓reduceIte, ↓if_pos, ↓if_neg, kI, kJ, kR, kV, w32_eq, w64_eq, reduceCtorEq, Int.reduceAdd, Int.reduceMul, Int.reduceSub, o_c141, ↓o_g141_0, ↓o_g141_1, ↓o_g141_5, ↓o_g141_6, ↓o_g141_7, ↓o_g141_8, ↓o_g141_9, ↓o_g141_21, ↓o_g141_25, ↓o_g141_26, ↓o_g141_27, ↓o_g141_28, ↓o_g141_29, ↓o_g141_30, ↓o_g141_31, ↓o_g141_34, ↓o_g141_35, ↓o_g141_36, ↓r_cellsOf e w1 Z, en, ↓r_atw e, ea, hz, g1]
    · have g := agP_s1 (y := 1) i0 (by omega) hz
      have eb : agP S 1 i (35 + i) = S (35 + i) := agP_o (by omega) (by omega)
      have e1 : (uA s 142 (10 + i) (m9 (S (10 + i) + 1))).2 142 = mm_upd (agP S 1 i) (10 + i) (m9 (S (10 + i) + 1)) := by rw [uA_s, e]
      obtain ⟨s', g1, g2, g3⟩ := ih (uA (uA s 142 (10 + i) (m9 (S (10 + i) + 1))) 142 (35 + i) (m9 (S (35 + i) + 1))) (by rw [uA_s, e1, g]) (by omega)
      refine ⟨s', ?_, g2, Ag_trans (Ag_uA (Ag_uA (Ag_refl _ _ _) a142_ _ _) a142_ _ _) g3⟩
      have gb : ∀ f : Int → mO, (mm_ld 0 (mk (uA s 142 (10 + i) (m9 (S (10 + i) + 1)))) 142 (mm_w32 (35 + i))).bind f = f (S (35 + i)) := fun f => by
        rw [r_atw e1 f _ (by omega) (by omega), up_ne (by omega), eb]
      have gb2 : ∀ f : Int → mO, (mm_ld 0 (mk (uA s 142 (10 + i) (m9 (S (10 + i) + 1)))) 142 (35 + i)).bind f = f (S (35 + i)) := fun f => by
        rw [r_at e1 f _ (by omega) (by omega), up_ne (by omega), eb]
      rw [B_X12_yearGoes_2]
      unfold m9 at *
      simp (disch := first | assumption | omega) only [↓sm, ↓reduceIte, ↓if_pos, ↓if_neg, kI, kJ, kR, kV, w32_eq, w64_eq, reduceCtorEq, Int.reduceAdd, Int.reduceMul, Int.reduceSub, o_c141, ↓o_g141_0, ↓o_g141_1, ↓o_g141_5, ↓o_g141_6, ↓o_g141_7, ↓o_g141_8, ↓o_g141_9, ↓o_g141_21, ↓o_g141_25, ↓o_g141_26, ↓o_g141_27, ↓o_g141_28, ↓o_g141_29, ↓o_g141_30, ↓o_g141_31, ↓o_g141_34, ↓o_g141_35, ↓o_g141_36, ↓r_cellsOf e w1 Z, en, ↓r_atw e, ea, hz, ↓r_stw, ↓gb, gb2, a_st142, g1]
theorem lp_yearsGo {S : Int → Int} (hw : WF S) (Z : mX) (y : Int) (y1 : S 5 + y ≤ 9999) : ∀ i : Int, i ≤ y → ∀ s : mS, s.2 142 = ageS S i → 0 ≤ i → ∃ s', mm_at (zP Z) 301 2 [some (.inr (.inr (some 141))), some (.inl y), some (.inl i)] [] (mk s) = some (none, mk s') ∧ s'.2 142 = ageS S y ∧ Ag a142 noF s s' := by
  have w := wf0 hw
  refine up ?_ ?_
  · intro s e i0
    refine ⟨s, ?_, e, Ag_refl _ _ _⟩
    rw [B_X12_yearsGo_2]
    simp (disch := first | assumption | omega) only [↓sm, ↓reduceIte, ↓if_pos, ↓if_neg, kI, kJ, kR, kV, w32_eq, w64_eq, reduceCtorEq, Int.reduceAdd, Int.reduceMul, Int.reduceSub]
  · intro i hi ih s e i0
    have w1 := ageS_wf hw i0 (by omega)
    have n1 := wf_n w1
    obtain ⟨s1, a1, a2, a3⟩ := lp_yearGoes w1 Z 0 (by omega) s (by rw [agP_0]; exact e) (by omega)
    rw [ageS_s hw i0] at a2
    obtain ⟨s', g1, g2, g3⟩ := ih s1 a2 (by omega)
    refine ⟨s', ?_, g2, Ag_trans a3 g3⟩
    rw [B_X12_yearsGo_2]
    simp (disch := first | assumption | omega) only [↓sm, ↓reduceIte, ↓if_pos, ↓if_neg, kI, kJ, kR, kV, w32_eq, w64_eq, reduceCtorEq, Int.reduceAdd, Int.reduceMul, Int.reduceSub, o_c141, B_X12_yearGoes, a1, g1]
theorem r_yearsGo {s : mS} {S : Int → Int} (e : s.2 142 = S) (hw : WF S) (Z : mX) (y : Int) (y0 : 0 ≤ y) (y1 : S 5 + y ≤ 9999) : ∃ s', (∀ f : mW → mO, mm_kV (mm_run (zP Z) 301 [.inr (.inr (some 141)), .inl y] (mk s)) f = f (mk s')) ∧ s'.2 142 = ageS S y ∧ Ag a142 noF s s' := by
  obtain ⟨s', g1, g2, g3⟩ := lp_yearsGo hw Z y y1 0 y0 s (by rw [ageS_0 hw]; exact e) (by omega)
  refine ⟨s', fun f => ?_, g2, g3⟩
  rw [B_X12_yearsGo, g1, kV]
theorem op_year (Z : mX) (s : mS) (hI : Inv s) (y : Int) : OpI Z s 156 302 [.inl y] := by
  have h := hI.2.2.1.2
  have hw := hI.2.2.1.1
  have w := wf0 hw
  by_cases hy : 1 ≤ y ∧ y ≤ 99
  · by_cases hb : s.2 142 5 + y ≤ 9999
    · obtain ⟨s', g, cs, ag⟩ := c_age h hw Z y (by omega) hb
      have w1 := ageS_wf hw (y := y) (by omega) hb
      refine op_mut hI (thS (ageS (s.2 142) y)) 0 (fun f => ?_) cs ag (fun t e1 e2 => ?_) w1 (ageS_kp hw y) (fun _ _ _ => rfl)
      · rw [B_X11_year]
        simp (disch := first | assumption | omega) only [↓sm, ↓reduceIte, ↓if_pos, ↓if_neg, kI, kJ, kR, kV, w32_eq, w64_eq, reduceCtorEq, Int.reduceAdd, Int.reduceMul, Int.reduceSub, o_c3, ↓o_g3_0, ↓o_g3_1, ↓o_g3_2, ↓o_g3_3, ↓o_g3_4, ↓o_g3_5, ↓o_g3_6, ↓o_g3_7, ↓o_g3_8, ↓o_g3_9, ↓o_g3_10, ↓o_g3_11, ↓o_g3_12, ↓o_g3_13, ↓o_g3_14, ↓o_g3_15, ↓o_g3_16, ↓o_g3_17, ↓a_ln4, ↓a_ld4, ↓a_ln61, ↓a_ld61, ↓a_ln62, ↓a_ld62, o_c7, ↓o_g7_4, ↓o_g7_5, ↓o_g7_7, ↓o_g7_8, ↓o_g7_9, ↓o_g7_11, ↓o_g7_12, ↓o_g7_13, ↓o_g7_14, ↓o_g7_15, ↓o_g7_16, ↓o_g7_17, ↓q_wide h, ↓q_high h, ↓q_odds h, ↓q_year h, ↓q_less h, ↓q_pups h, ↓q_thorns h Z, ↓q_berries h Z, ↓q_hours h hw Z, ↓q_needs h hw Z, ↓q_at h hw Z, ↓q_want h hw Z, ↓q_knows h hw Z, ↓q_caught h hw Z, ↓q_marks h hw Z, ↓q_torn h hw Z, ↓c_cells h hw Z, ↓c_hasCell_t h hw Z, ↓c_hasCell_f h hw Z, ↓c_hasLesson_t h hw Z, ↓c_hasLesson_f h hw Z, ↓c_hasPupil_t h hw Z, ↓c_hasPupil_f h hw Z, ↓c_isCellNumber_t h hw Z, ↓c_isCellNumber_f h hw Z, ↓c_beside h hw Z, ↓c_touch h hw Z, ↓c_catchOf h hw Z, ↓c_clearSet h hw Z, ↓c_isCaught_t h hw Z, ↓c_isCaught_f h hw Z, ↓c_caughtSet h hw Z, ↓c_pupilsAt h hw Z, ↓c_pupilsWhoKnow h hw Z, ↓c_areNear h hw Z, ↓c_canHelp h hw Z, ↓c_helperSet h hw Z, ↓c_nextLesson h hw Z, ↓c_isNearSome h hw Z, ↓c_freedSet h hw Z, ↓d_none Z, ↓d_done Z, ↓d_refused Z, ↓d_granted Z, ↓k_isIn_t Z, ↓c_canAge_t h hw Z, ↓g, ↓c_sum8 cs w1 Z]
      · have e := e1
        obtain ⟨t', r1, r2, r3⟩ := r_yearsGo e hw Z y (by omega) hb
        refine ⟨t', fun f => ?_, r2, (r3.1 143 (by unfold a142; omega)).trans e2, Ag_mono r3 (fun q hq => Or.inr (Or.inl hq)) (fun q k hq => hq.elim)⟩
        rw [B_X12_year]
        simp (disch := first | assumption | omega) only [↓sm, ↓reduceIte, ↓if_pos, ↓if_neg, kI, kJ, kR, kV, w32_eq, w64_eq, reduceCtorEq, Int.reduceAdd, Int.reduceMul, Int.reduceSub, o_c141, ↓o_g141_0, ↓o_g141_1, ↓o_g141_5, ↓o_g141_6, ↓o_g141_7, ↓o_g141_8, ↓o_g141_9, ↓o_g141_21, ↓o_g141_25, ↓o_g141_26, ↓o_g141_27, ↓o_g141_28, ↓o_g141_29, ↓o_g141_30, ↓o_g141_31, ↓o_g141_34, ↓o_g141_35, ↓o_g141_36, ↓r_pupilAt e hw Z, ↓r_at e, ↓r_atw e, ↓r_cellsOf e hw Z, ↓r_isCell_t e hw Z, ↓r_isCell_f e hw Z, ↓r_isLesson_t e hw Z, ↓r_isLesson_f e hw Z, ↓r_isPupil_t e hw Z, ↓r_isPupil_f e hw Z, ↓r_pupilOf e hw Z, ↓r_needsOf e hw Z, ↓r_catchBy e hw Z, ↓r_catchOf e hw Z, ↓r_isCaught_t e hw Z, ↓r_isCaught_f e hw Z, ↓r_allCaught e hw Z, ↓r_whoIs0 e hw Z, ↓r_whoIs1 e hw Z, ↓r_sideOf e hw Z, ↓r_isNear e hw Z, ↓r_nextLesson e hw Z, ↓r_canFree e hw Z, ↓r_nearTo e hw Z, ↓r_isIn Z, ↓r_pupilRow Z, ↓r_lessonRow Z, ↓k_bits Z, ↓d_refuse Z, ↓d_gives Z, ↓d_is0 Z, ↓d_is1 Z, ↓d_isFrom_t Z, ↓d_isFrom_f Z, ↓d_orNone_t Z, ↓d_orNone_f Z, ↓r1, ↓r_allOf r2 w1 Z]
        rfl
    · refine op_rd hI (-1) 4 (fun f => ?_) (fun t e f => ?_)
      · rw [B_X11_year]
        simp (disch := first | assumption | omega) only [↓sm, ↓reduceIte, ↓if_pos, ↓if_neg, kI, kJ, kR, kV, w32_eq, w64_eq, reduceCtorEq, Int.reduceAdd, Int.reduceMul, Int.reduceSub, o_c3, ↓o_g3_0, ↓o_g3_1, ↓o_g3_2, ↓o_g3_3, ↓o_g3_4, ↓o_g3_5, ↓o_g3_6, ↓o_g3_7, ↓o_g3_8, ↓o_g3_9, ↓o_g3_10, ↓o_g3_11, ↓o_g3_12, ↓o_g3_13, ↓o_g3_14, ↓o_g3_15, ↓o_g3_16, ↓o_g3_17, ↓a_ln4, ↓a_ld4, ↓a_ln61, ↓a_ld61, ↓a_ln62, ↓a_ld62, o_c7, ↓o_g7_4, ↓o_g7_5, ↓o_g7_7, ↓o_g7_8, ↓o_g7_9, ↓o_g7_11, ↓o_g7_12, ↓o_g7_13, ↓o_g7_14, ↓o_g7_15, ↓o_g7_16, ↓o_g7_17, ↓q_wide h, ↓q_high h, ↓q_odds h, ↓q_year h, ↓q_less h, ↓q_pups h, ↓q_thorns h Z, ↓q_berries h Z, ↓q_hours h hw Z, ↓q_needs h hw Z, ↓q_at h hw Z, ↓q_want h hw Z, ↓q_knows h hw Z, ↓q_caught h hw Z, ↓q_marks h hw Z, ↓q_torn h hw Z, ↓c_cells h hw Z, ↓c_hasCell_t h hw Z, ↓c_hasCell_f h hw Z, ↓c_hasLesson_t h hw Z, ↓c_hasLesson_f h hw Z, ↓c_hasPupil_t h hw Z, ↓c_hasPupil_f h hw Z, ↓c_isCellNumber_t h hw Z, ↓c_isCellNumber_f h hw Z, ↓c_beside h hw Z, ↓c_touch h hw Z, ↓c_catchOf h hw Z, ↓c_clearSet h hw Z, ↓c_isCaught_t h hw Z, ↓c_isCaught_f h hw Z, ↓c_caughtSet h hw Z, ↓c_pupilsAt h hw Z, ↓c_pupilsWhoKnow h hw Z, ↓c_areNear h hw Z, ↓c_canHelp h hw Z, ↓c_helperSet h hw Z, ↓c_nextLesson h hw Z, ↓c_isNearSome h hw Z, ↓c_freedSet h hw Z, ↓d_none Z, ↓d_done Z, ↓d_refused Z, ↓d_granted Z, ↓k_isIn_t Z, ↓c_canAge_f h hw Z]
      · rw [B_X12_year]
        simp (disch := first | assumption | omega) only [↓sm, ↓reduceIte, ↓if_pos, ↓if_neg, kI, kJ, kR, kV, w32_eq, w64_eq, reduceCtorEq, Int.reduceAdd, Int.reduceMul, Int.reduceSub, o_c141, ↓o_g141_0, ↓o_g141_1, ↓o_g141_5, ↓o_g141_6, ↓o_g141_7, ↓o_g141_8, ↓o_g141_9, ↓o_g141_21, ↓o_g141_25, ↓o_g141_26, ↓o_g141_27, ↓o_g141_28, ↓o_g141_29, ↓o_g141_30, ↓o_g141_31, ↓o_g141_34, ↓o_g141_35, ↓o_g141_36, ↓r_pupilAt e hw Z, ↓r_at e, ↓r_atw e, ↓r_cellsOf e hw Z, ↓r_isCell_t e hw Z, ↓r_isCell_f e hw Z, ↓r_isLesson_t e hw Z, ↓r_isLesson_f e hw Z, ↓r_isPupil_t e hw Z, ↓r_isPupil_f e hw Z, ↓r_pupilOf e hw Z, ↓r_needsOf e hw Z, ↓r_catchBy e hw Z, ↓r_catchOf e hw Z, ↓r_isCaught_t e hw Z, ↓r_isCaught_f e hw Z, ↓r_allCaught e hw Z, ↓r_whoIs0 e hw Z, ↓r_whoIs1 e hw Z, ↓r_sideOf e hw Z, ↓r_isNear e hw Z, ↓r_nextLesson e hw Z, ↓r_canFree e hw Z, ↓r_nearTo e hw Z, ↓r_isIn Z, ↓r_pupilRow Z, ↓r_lessonRow Z, ↓k_bits Z, ↓d_refuse Z, ↓d_gives Z, ↓d_is0 Z, ↓d_is1 Z, ↓d_isFrom_t Z, ↓d_isFrom_f Z, ↓d_orNone_t Z, ↓d_orNone_f Z]
  · refine op_rd hI (-1) 1 (fun f => ?_) (fun t e f => ?_)
    · rw [B_X11_year]
      simp (disch := first | assumption | omega) only [↓sm, ↓reduceIte, ↓if_pos, ↓if_neg, kI, kJ, kR, kV, w32_eq, w64_eq, reduceCtorEq, Int.reduceAdd, Int.reduceMul, Int.reduceSub, o_c3, ↓o_g3_0, ↓o_g3_1, ↓o_g3_2, ↓o_g3_3, ↓o_g3_4, ↓o_g3_5, ↓o_g3_6, ↓o_g3_7, ↓o_g3_8, ↓o_g3_9, ↓o_g3_10, ↓o_g3_11, ↓o_g3_12, ↓o_g3_13, ↓o_g3_14, ↓o_g3_15, ↓o_g3_16, ↓o_g3_17, ↓a_ln4, ↓a_ld4, ↓a_ln61, ↓a_ld61, ↓a_ln62, ↓a_ld62, ↓d_none Z, ↓d_done Z, ↓d_refused Z, ↓d_granted Z, ↓k_isIn_f Z]
    · rw [B_X12_year]
      simp (disch := first | assumption | omega) only [↓sm, ↓reduceIte, ↓if_pos, ↓if_neg, kI, kJ, kR, kV, w32_eq, w64_eq, reduceCtorEq, Int.reduceAdd, Int.reduceMul, Int.reduceSub, o_c141, ↓o_g141_0, ↓o_g141_1, ↓o_g141_5, ↓o_g141_6, ↓o_g141_7, ↓o_g141_8, ↓o_g141_9, ↓o_g141_21, ↓o_g141_25, ↓o_g141_26, ↓o_g141_27, ↓o_g141_28, ↓o_g141_29, ↓o_g141_30, ↓o_g141_31, ↓o_g141_34, ↓o_g141_35, ↓o_g141_36, ↓d_refuse Z, ↓d_gives Z, ↓d_is0 Z, ↓d_is1 Z, ↓d_isFrom_t Z, ↓d_isFrom_f Z, ↓d_orNone_t Z, ↓d_orNone_f Z]
