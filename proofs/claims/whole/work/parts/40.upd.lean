/-! writing to the school: both sides -/
theorem k_isIn_t (Z : mX) (a l m : Int) (w : mW) (h0 : l ≤ a) (h1 : a ≤ m) (f : Int → mW → mO) : mm_kI (mm_run (zP Z) 208 [.inl a, .inl l, .inl m] w) f = f 1 w := by
  rw [k_isIn, decide_eq_true ⟨h0, h1⟩]
  rfl
theorem k_isIn_f (Z : mX) (a l m : Int) (w : mW) (hn : ¬ (l ≤ a ∧ a ≤ m)) (f : Int → mW → mO) : mm_kI (mm_run (zP Z) 208 [.inl a, .inl l, .inl m] w) f = f 0 w := by
  rw [k_isIn, decide_eq_false hn]
  rfl
theorem up_ne {S : Int → Int} {i v j : Int} (h : j ≠ i) : mm_upd S i v j = S j := if_neg h
theorem up_eq {S : Int → Int} {i v j : Int} (h : j = i) : mm_upd S i v j = v := if_pos h
theorem uA_s (s : mS) (q : Nat) (i v : Int) : (uA s q i v).2 q = mm_upd (s.2 q) i v := by
  funext j
  rw [uA_2]
  unfold mm_upd
  simp
theorem uA_n (s : mS) {q q' : Nat} (h : q' ≠ q) (i v : Int) : (uA s q i v).2 q' = s.2 q' := by
  funext j
  rw [uA_2, if_neg (fun e => h e.1)]
theorem up_id {S : Int → Int} {i v : Int} (h : S i = v) : mm_upd S i v = S := by
  funext j
  unfold mm_upd
  split
  · rename_i e
    rw [e, h]
  · rfl
theorem cs_pup {s : mS} {S N : Int → Int} (h : CS s 7 S N) (hw : WF S) {q k : Nat} {p I : Int} (hq : q = 13 + k) (hk : k < 6) (p0 : 0 ≤ p) (p1 : p < S 3) (hI : I = 74 + 6 * p + k) (v : Int) : CS (uA s q p v) 7 (mm_upd S I v) N := by
  subst hq
  subst hI
  have w := wf0 hw
  have e : ∀ j, j ≠ 74 + 6 * p + k → mm_upd S (74 + 6 * p + k) v j = S j := fun j hj => if_neg hj
  have g : ∀ q, q ≠ 13 + k → (uA s (13 + k) p v).2 q = s.2 q := fun q hq => uA_n s hq p v
  have u : ∀ (k' : Nat) (p' : Int), k' < 6 → 0 ≤ p' → s.2 (13 + k') p' = S (74 + 6 * p' + k') → (uA s (13 + k) p v).2 (13 + k') p' = mm_upd S (74 + 6 * p + k) v (74 + 6 * p' + k') := by
    intro k' p' hk' _ hx
    rw [uA_2]
    unfold mm_upd
    by_cases c : k' = k ∧ p' = p
    · rw [if_pos (by omega), if_pos (by omega)]
    · rw [if_neg (by omega), if_neg (by omega), hx]
  unfold CS at *
  rw [e 0 (by omega), e 1 (by omega), e 2 (by omega), e 3 (by omega), e 4 (by omega), e 5 (by omega)]
  refine ⟨h.1, fun c c0 c1 => ?_, fun l l0 l1 => ?_, fun p' q0 q1 => ?_, fun p' q0 q1 => ?_⟩
  · rw [e _ (by omega), e _ (by omega), g _ (by omega), g _ (by omega)]
    exact h.2.1 c c0 c1
  · rw [e _ (by omega), e _ (by omega), g _ (by omega), g _ (by omega), g _ (by omega)]
    exact h.2.2.1 l l0 l1
  · obtain ⟨a0, a1, a2, a3, a4, a5, a6⟩ := h.2.2.2.1 p' q0 q1
    refine ⟨?_, u 1 p' (by omega) q0 a1, u 2 p' (by omega) q0 a2, u 3 p' (by omega) q0 a3, u 4 p' (by omega) q0 a4, u 5 p' (by omega) q0 a5, ?_⟩
    · have := u 0 p' (by omega) q0 (by simpa using a0)
      simpa using this
    · rw [g _ (by omega)]
      exact a6
  · rw [uA_2, uA_2, if_neg (by omega), if_neg (by omega)]
    exact h.2.2.2.2 p' q0 q1
theorem cs_cell {s : mS} {S N : Int → Int} (h : CS s 7 S N) (hw : WF S) {q k : Nat} {c I : Int} (hq : q = 8 + k) (hk : k < 2) (c0 : 0 ≤ c) (c1 : c < 25) (hI : I = 10 + 25 * k + c) (v : Int) : CS (uA s q c v) 7 (mm_upd S I v) N := by
  subst hq
  subst hI
  have w := wf0 hw
  have e : ∀ j, j ≠ 10 + 25 * k + c → mm_upd S (10 + 25 * k + c) v j = S j := fun j hj => if_neg hj
  have g : ∀ q, q ≠ 8 + k → (uA s (8 + k) c v).2 q = s.2 q := fun q hq => uA_n s hq c v
  unfold CS at *
  rw [e 0 (by omega), e 1 (by omega), e 2 (by omega), e 3 (by omega), e 4 (by omega), e 5 (by omega)]
  refine ⟨h.1, fun c' q0 q1 => ?_, fun l l0 l1 => ?_, fun p' q0 q1 => ?_, fun p' q0 q1 => ?_⟩
  · obtain ⟨a0, a1⟩ := h.2.1 c' q0 q1
    rw [uA_2, uA_2]
    unfold mm_upd
    have hk' : k = 0 ∨ k = 1 := by omega
    by_cases hc : c' = c
    · subst hc
      rcases hk' with rfl | rfl
      · rw [if_pos (by omega), if_pos (by omega), if_neg (by omega), if_neg (by omega)]
        exact ⟨rfl, a1⟩
      · rw [if_neg (by omega), if_neg (by omega), if_pos (by omega), if_pos (by omega)]
        exact ⟨a0, rfl⟩
    · rw [if_neg (by omega), if_neg (by omega), if_neg (by omega), if_neg (by omega)]
      exact ⟨a0, a1⟩
  · rw [e _ (by omega), e _ (by omega), g _ (by omega), g _ (by omega), g _ (by omega)]
    exact h.2.2.1 l l0 l1
  · rw [e _ (by omega), e _ (by omega), e _ (by omega), e _ (by omega), e _ (by omega), e _ (by omega), g _ (by omega), g _ (by omega), g _ (by omega), g _ (by omega), g _ (by omega), g _ (by omega), g _ (by omega)]
    exact h.2.2.2.1 p' q0 q1
  · rw [g _ (by omega), g _ (by omega)]
    exact h.2.2.2.2 p' q0 q1
theorem cs_num {s : mS} {S N : Int → Int} (h : CS s 7 S N) {k : Nat} {I : Int} (hk : k = 3 ∧ I = 5 ∨ k = 2 ∧ I = 4) (v : Int) (hw : WF S) : CS (uF s 7 k v) 7 (mm_upd S I v) N := by
  have w := wf0 hw
  have e : ∀ j, j ≠ I → mm_upd S I v j = S j := fun j hj => if_neg hj
  unfold CS at *
  obtain ⟨⟨b0, b1, b2, b3, b4, b5⟩, h2, h3, h4, h5⟩ := h
  rw [e 0 (by omega), e 1 (by omega), e 2 (by omega), e 3 (by omega), uF_2]
  refine ⟨?_, fun c c0 c1 => ?_, fun l l0 l1 => ?_, fun p' q0 q1 => ?_, h5⟩
  · simp only [uF_1]
    rcases hk with ⟨rfl, rfl⟩ | ⟨rfl, rfl⟩
    · rw [e 4 (by omega), up_eq (j := 5) rfl]
      simp [b0, b1, b2, b3, b4, b5]
    · rw [e 5 (by omega), up_eq (j := 4) rfl]
      simp [b0, b1, b2, b3, b4, b5]
  · rw [e _ (by omega), e _ (by omega)]
    exact h2 c c0 c1
  · rw [e _ (by omega), e _ (by omega)]
    exact h3 l l0 l1
  · rw [e _ (by omega), e _ (by omega), e _ (by omega), e _ (by omega), e _ (by omega), e _ (by omega)]
    exact h4 p' q0 q1
theorem ncl_up {S : Int → Int} {I v : Int} (h : 2 ≤ I) : ncl (mm_upd S I v) = ncl S := by
  unfold ncl
  rw [up_ne (by omega), up_ne (by omega)]
theorem wf_pup {S : Int → Int} (hw : WF S) {k p I v : Int} (k0 : 0 ≤ k) (k1 : k < 6) (p0 : 0 ≤ p) (p1 : p < S 3) (hI : I = 74 + 6 * p + k)
    (hv : (k = 0 → 0 ≤ v ∧ v < ncl S) ∧ (k = 1 → 0 ≤ v ∧ v ≤ 9) ∧ (k = 2 → 0 ≤ v ∧ v < 128) ∧ (k = 3 → 0 ≤ v ∧ v ≤ 18) ∧ (4 ≤ k → 0 ≤ v ∧ v ≤ 9999)) : WF (mm_upd S I v) := by
  have w := wf0 hw
  subst hI
  have e : ∀ j, j ≠ 74 + 6 * p + k → mm_upd S (74 + 6 * p + k) v j = S j := fun j hj => if_neg hj
  unfold WF at *
  rw [ncl_up (by omega), e 0 (by omega), e 1 (by omega), e 2 (by omega), e 3 (by omega), e 4 (by omega), e 5 (by omega)]
  refine ⟨hw.1, fun c c0 c1 => ?_, fun l l0 l1 => ?_, fun p' q0 q1 => ?_⟩
  · rw [e _ (by omega), e _ (by omega)]
    exact hw.2.1 c c0 c1
  · rw [e _ (by omega), e _ (by omega)]
    exact hw.2.2.1 l l0 l1
  · have := hw.2.2.2 p' q0 q1
    by_cases hp : p' = p
    · subst hp
      by_cases hk0 : k = 0
      · subst hk0
        rw [up_eq (by omega), e _ (by omega), e _ (by omega), e _ (by omega), e _ (by omega), e _ (by omega)]
        omega
      · rw [e (74 + 6 * p') (by omega)]
        have hk : k = 1 ∨ k = 2 ∨ k = 3 ∨ k = 4 ∨ k = 5 := by omega
        rcases hk with rfl | rfl | rfl | rfl | rfl
        · rw [up_eq rfl, e _ (by omega), e _ (by omega), e _ (by omega), e _ (by omega)]
          omega
        · rw [e (74 + 6 * p' + 1) (by omega), up_eq rfl, e _ (by omega), e _ (by omega), e _ (by omega)]
          omega
        · rw [e (74 + 6 * p' + 1) (by omega), e (74 + 6 * p' + 2) (by omega), up_eq rfl, e _ (by omega), e _ (by omega)]
          omega
        · rw [e (74 + 6 * p' + 1) (by omega), e (74 + 6 * p' + 2) (by omega), e (74 + 6 * p' + 3) (by omega), up_eq rfl, e _ (by omega)]
          omega
        · rw [e (74 + 6 * p' + 1) (by omega), e (74 + 6 * p' + 2) (by omega), e (74 + 6 * p' + 3) (by omega), e (74 + 6 * p' + 4) (by omega), up_eq rfl]
          omega
    · rw [e _ (by omega), e _ (by omega), e _ (by omega), e _ (by omega), e _ (by omega), e _ (by omega)]
      exact this
theorem wf_cell {S : Int → Int} (hw : WF S) {k c I v : Int} (k0 : 0 ≤ k) (k1 : k < 2) (c0 : 0 ≤ c) (c1 : c < ncl S) (hI : I = 10 + 25 * k + c) (v0 : 0 ≤ v) (v1 : v ≤ 9) : WF (mm_upd S I v) := by
  have w := wf0 hw
  have n := wf_n hw
  subst hI
  have e : ∀ j, j ≠ 10 + 25 * k + c → mm_upd S (10 + 25 * k + c) v j = S j := fun j hj => if_neg hj
  unfold WF at *
  rw [ncl_up (by omega), e 0 (by omega), e 1 (by omega), e 2 (by omega), e 3 (by omega), e 4 (by omega), e 5 (by omega)]
  refine ⟨hw.1, fun c' q0 q1 => ?_, fun l l0 l1 => ?_, fun p' q0 q1 => ?_⟩
  · have := hw.2.1 c' q0 q1
    by_cases hc : c' = c
    · subst hc
      have hk : k = 0 ∨ k = 1 := by omega
      rcases hk with rfl | rfl
      · rw [up_eq (by omega), e _ (by omega)]
        omega
      · rw [e (10 + c') (by omega), up_eq (by omega)]
        omega
    · rw [e _ (by omega), e _ (by omega)]
      exact this
  · rw [e _ (by omega), e _ (by omega)]
    exact hw.2.2.1 l l0 l1
  · rw [e _ (by omega), e _ (by omega), e _ (by omega), e _ (by omega), e _ (by omega), e _ (by omega)]
    exact hw.2.2.2 p' q0 q1
theorem wf_num {S : Int → Int} (hw : WF S) {I v : Int} (hI : I = 4 ∧ 0 ≤ v ∧ v ≤ 16 ∨ I = 5 ∧ 0 ≤ v ∧ v ≤ 9999) : WF (mm_upd S I v) := by
  have w := wf0 hw
  have e : ∀ j, j ≠ I → mm_upd S I v j = S j := fun j hj => if_neg hj
  unfold WF at *
  rw [ncl_up (by omega), e 0 (by omega), e 1 (by omega), e 2 (by omega), e 3 (by omega)]
  refine ⟨?_, fun c c0 c1 => ?_, fun l l0 l1 => ?_, fun p' q0 q1 => ?_⟩
  · rcases hI with ⟨rfl, h⟩ | ⟨rfl, h⟩
    · rw [up_eq rfl, e 5 (by omega)]
      omega
    · rw [e 4 (by omega), up_eq rfl]
      omega
  · rw [e _ (by omega), e _ (by omega)]
    exact hw.2.1 c c0 c1
  · rw [e _ (by omega), e _ (by omega)]
    exact hw.2.2.1 l l0 l1
  · rw [e _ (by omega), e _ (by omega), e _ (by omega), e _ (by omega), e _ (by omega), e _ (by omega)]
    exact hw.2.2.2 p' q0 q1
theorem sd_r {S : Int → Int} (hw : WF S) {c k : Int} (c0 : 0 ≤ c) (c1 : c < ncl S) (k0 : 0 ≤ k) (k1 : k ≤ 3) (hs : sd S c k ≠ -1) : 0 ≤ sd S c k ∧ sd S c k < ncl S := by
  have w := wf0 hw
  have n := wf_n hw
  revert hs
  unfold sd
  by_cases h0 : k = 0
  · rw [if_pos h0]
    have : c % S 0 ≤ c := by
      by_cases hc : c < S 0
      · rw [Int.emod_eq_of_lt c0 hc]; omega
      · have := Int.emod_lt_of_pos c (show 0 < S 0 by omega); omega
    split <;> omega
  rw [if_neg h0]
  by_cases h1 : k = 1
  · rw [if_pos h1]
    have key : c % S 0 < S 0 - 1 → c + 1 < ncl S := by
      intro hc
      have h2 : c / S 0 < S 1 := by
        apply Int.ediv_lt_of_lt_mul (by omega)
        rw [Int.mul_comm]
        exact c1
      have h3 := Int.emod_add_mul_ediv c (S 0)
      have h4 : S 0 * (c / S 0) ≤ S 0 * (S 1 - 1) := Int.mul_le_mul_of_nonneg_left (by omega) (by omega)
      have h5 : S 0 * (S 1 - 1) = ncl S - S 0 := by unfold ncl; rw [Int.mul_sub, Int.mul_one]
      omega
    split <;> omega
  rw [if_neg h1]
  by_cases h2 : k = 2
  · rw [if_pos h2]
    split <;> omega
  rw [if_neg h2]
  split <;> omega
def sclF (q _k : Nat) : Prop := q = 7
/-- a step -/
def stS (S : Int → Int) (p k : Int) : Int → Int := mm_upd (mm_upd S (74 + 6 * p) (sd S (S (74 + 6 * p)) k)) (74 + 6 * p + 3) (ct S p (sd S (S (74 + 6 * p)) k) (S (74 + 6 * p + 1)))
theorem st_wf {S : Int → Int} (hw : WF S) {p k : Int} (p0 : 0 ≤ p) (p1 : p < S 3) (k0 : 0 ≤ k) (k1 : k ≤ 3) (hs : sd S (S (74 + 6 * p)) k ≠ -1) : WF (stS S p k) := by
  have wp := wf_p hw p0 p1
  have n := wf_n hw
  have r := sd_r hw wp.1 wp.2.1 k0 k1 hs
  have c := ct_r hw p0 p1 r.1 (by omega) wp.2.2.1 wp.2.2.2.1
  unfold stS
  refine wf_pup (wf_pup hw (k := 0) (p := p) (by omega) (by omega) p0 p1 (by omega) (by omega)) (k := 3) (p := p) (by omega) (by omega) p0 (by rw [up_ne (by omega)]; exact p1) rfl (by omega)
theorem c_canStep_t {s : mS} {S N : Int → Int} (h : CS s 7 S N) (hw : WF S) (Z : mX) (p k : Int) (p0 : 0 ≤ p) (p1 : p < S 3) (k0 : 0 ≤ k) (k1 : k ≤ 3) (hc : ¬ 0 < S (74 + 6 * p + 3)) (hs : sd S (S (74 + 6 * p)) k ≠ -1) (f : Int → mW → mO) : mm_kI (mm_run (zP Z) 67 [.inr (.inr (some 7)), .inl p, .inl k] (mk s)) f = f 1 (mk s) := by
  have wp := wf_p hw p0 p1
  rw [B_X5_canStep]
  simp (disch := first | assumption | omega) only [↓sm, ↓reduceIte, ↓if_pos, ↓if_neg, kI, kJ, kR, kV, w32_eq, w64_eq, reduceCtorEq, Int.reduceAdd, Int.reduceMul, Int.reduceSub, o_c7, ↓o_g7_4, ↓o_g7_5, ↓o_g7_7, ↓o_g7_8, ↓o_g7_9, ↓o_g7_11, ↓o_g7_12, ↓o_g7_13, ↓o_g7_14, ↓o_g7_15, ↓o_g7_16, ↓o_g7_17, ↓q_wide h, ↓q_high h, ↓q_odds h, ↓q_year h, ↓q_less h, ↓q_pups h, ↓q_thorns h Z, ↓q_berries h Z, ↓q_hours h hw Z, ↓q_needs h hw Z, ↓q_at h hw Z, ↓q_want h hw Z, ↓q_knows h hw Z, ↓q_caught h hw Z, ↓q_marks h hw Z, ↓q_torn h hw Z, ↓c_cells h hw Z, ↓c_hasCell_t h hw Z, ↓c_hasCell_f h hw Z, ↓c_hasLesson_t h hw Z, ↓c_hasLesson_f h hw Z, ↓c_hasPupil_t h hw Z, ↓c_hasPupil_f h hw Z, ↓c_isCellNumber_t h hw Z, ↓c_isCellNumber_f h hw Z, ↓c_beside h hw Z, ↓c_touch h hw Z, ↓c_catchOf h hw Z, ↓c_clearSet h hw Z, ↓c_isCaught_t h hw Z, ↓c_isCaught_f h hw Z, ↓c_caughtSet h hw Z, ↓c_pupilsAt h hw Z, ↓c_pupilsWhoKnow h hw Z, ↓c_areNear h hw Z, ↓c_canHelp h hw Z, ↓c_helperSet h hw Z, ↓c_nextLesson h hw Z, ↓c_isNearSome h hw Z, ↓c_freedSet h hw Z]
theorem c_canStep_f {s : mS} {S N : Int → Int} (h : CS s 7 S N) (hw : WF S) (Z : mX) (p k : Int) (p0 : 0 ≤ p) (p1 : p < S 3) (k0 : 0 ≤ k) (k1 : k ≤ 3) (hn : 0 < S (74 + 6 * p + 3) ∨ sd S (S (74 + 6 * p)) k = -1) (f : Int → mW → mO) : mm_kI (mm_run (zP Z) 67 [.inr (.inr (some 7)), .inl p, .inl k] (mk s)) f = f 0 (mk s) := by
  have wp := wf_p hw p0 p1
  rw [B_X5_canStep]
  by_cases hc : 0 < S (74 + 6 * p + 3)
  · simp (disch := first | assumption | omega) only [↓sm, ↓reduceIte, ↓if_pos, ↓if_neg, kI, kJ, kR, kV, w32_eq, w64_eq, reduceCtorEq, Int.reduceAdd, Int.reduceMul, Int.reduceSub, o_c7, ↓o_g7_4, ↓o_g7_5, ↓o_g7_7, ↓o_g7_8, ↓o_g7_9, ↓o_g7_11, ↓o_g7_12, ↓o_g7_13, ↓o_g7_14, ↓o_g7_15, ↓o_g7_16, ↓o_g7_17, ↓q_wide h, ↓q_high h, ↓q_odds h, ↓q_year h, ↓q_less h, ↓q_pups h, ↓q_thorns h Z, ↓q_berries h Z, ↓q_hours h hw Z, ↓q_needs h hw Z, ↓q_at h hw Z, ↓q_want h hw Z, ↓q_knows h hw Z, ↓q_caught h hw Z, ↓q_marks h hw Z, ↓q_torn h hw Z, ↓c_cells h hw Z, ↓c_hasCell_t h hw Z, ↓c_hasCell_f h hw Z, ↓c_hasLesson_t h hw Z, ↓c_hasLesson_f h hw Z, ↓c_hasPupil_t h hw Z, ↓c_hasPupil_f h hw Z, ↓c_isCellNumber_t h hw Z, ↓c_isCellNumber_f h hw Z, ↓c_beside h hw Z, ↓c_touch h hw Z, ↓c_catchOf h hw Z, ↓c_clearSet h hw Z, ↓c_isCaught_t h hw Z, ↓c_isCaught_f h hw Z, ↓c_caughtSet h hw Z, ↓c_pupilsAt h hw Z, ↓c_pupilsWhoKnow h hw Z, ↓c_areNear h hw Z, ↓c_canHelp h hw Z, ↓c_helperSet h hw Z, ↓c_nextLesson h hw Z, ↓c_isNearSome h hw Z, ↓c_freedSet h hw Z]
  · have hs : sd S (S (74 + 6 * p)) k = -1 := by omega
    simp (disch := first | assumption | omega) only [↓sm, ↓reduceIte, ↓if_pos, ↓if_neg, kI, kJ, kR, kV, w32_eq, w64_eq, reduceCtorEq, Int.reduceAdd, Int.reduceMul, Int.reduceSub, o_c7, ↓o_g7_4, ↓o_g7_5, ↓o_g7_7, ↓o_g7_8, ↓o_g7_9, ↓o_g7_11, ↓o_g7_12, ↓o_g7_13, ↓o_g7_14, ↓o_g7_15, ↓o_g7_16, ↓o_g7_17, ↓q_wide h, ↓q_high h, ↓q_odds h, ↓q_year h, ↓q_less h, ↓q_pups h, ↓q_thorns h Z, ↓q_berries h Z, ↓q_hours h hw Z, ↓q_needs h hw Z, ↓q_at h hw Z, ↓q_want h hw Z, ↓q_knows h hw Z, ↓q_caught h hw Z, ↓q_marks h hw Z, ↓q_torn h hw Z, ↓c_cells h hw Z, ↓c_hasCell_t h hw Z, ↓c_hasCell_f h hw Z, ↓c_hasLesson_t h hw Z, ↓c_hasLesson_f h hw Z, ↓c_hasPupil_t h hw Z, ↓c_hasPupil_f h hw Z, ↓c_isCellNumber_t h hw Z, ↓c_isCellNumber_f h hw Z, ↓c_beside h hw Z, ↓c_touch h hw Z, ↓c_catchOf h hw Z, ↓c_clearSet h hw Z, ↓c_isCaught_t h hw Z, ↓c_isCaught_f h hw Z, ↓c_caughtSet h hw Z, ↓c_pupilsAt h hw Z, ↓c_pupilsWhoKnow h hw Z, ↓c_areNear h hw Z, ↓c_canHelp h hw Z, ↓c_helperSet h hw Z, ↓c_nextLesson h hw Z, ↓c_isNearSome h hw Z, ↓c_freedSet h hw Z, hs]
theorem c_step {s : mS} {S N : Int → Int} (h : CS s 7 S N) (hw : WF S) (Z : mX) (p k : Int) (p0 : 0 ≤ p) (p1 : p < S 3) (k0 : 0 ≤ k) (k1 : k ≤ 3) (hs : sd S (S (74 + 6 * p)) k ≠ -1) :
    ∃ s', (∀ f : Int → mW → mO, mm_kI (mm_run (zP Z) 68 [.inr (.inr (some 7)), .inl p, .inl k] (mk s)) f = f (ct S p (sd S (S (74 + 6 * p)) k) (S (74 + 6 * p + 1))) (mk s')) ∧ CS s' 7 (stS S p k) N ∧ Ag scl sclF s s' := by
  have w := wf0 hw
  have wp := wf_p hw p0 p1
  have n := wf_n hw
  have r := sd_r hw wp.1 wp.2.1 k0 k1 hs
  refine ⟨uA (uA s 13 p (sd S (S (74 + 6 * p)) k)) 16 p (ct S p (sd S (S (74 + 6 * p)) k) (S (74 + 6 * p + 1))), fun f => ?_, ?_, ?_⟩
  · rw [B_X5_step]
    simp (disch := first | assumption | omega) only [↓sm, ↓reduceIte, ↓if_pos, ↓if_neg, kI, kJ, kR, kV, w32_eq, w64_eq, reduceCtorEq, Int.reduceAdd, Int.reduceMul, Int.reduceSub, o_c7, ↓o_g7_4, ↓o_g7_5, ↓o_g7_7, ↓o_g7_8, ↓o_g7_9, ↓o_g7_11, ↓o_g7_12, ↓o_g7_13, ↓o_g7_14, ↓o_g7_15, ↓o_g7_16, ↓o_g7_17, ↓q_wide h, ↓q_high h, ↓q_odds h, ↓q_year h, ↓q_less h, ↓q_pups h, ↓q_thorns h Z, ↓q_berries h Z, ↓q_hours h hw Z, ↓q_needs h hw Z, ↓q_at h hw Z, ↓q_want h hw Z, ↓q_knows h hw Z, ↓q_caught h hw Z, ↓q_marks h hw Z, ↓q_torn h hw Z, ↓c_cells h hw Z, ↓c_hasCell_t h hw Z, ↓c_hasCell_f h hw Z, ↓c_hasLesson_t h hw Z, ↓c_hasLesson_f h hw Z, ↓c_hasPupil_t h hw Z, ↓c_hasPupil_f h hw Z, ↓c_isCellNumber_t h hw Z, ↓c_isCellNumber_f h hw Z, ↓c_beside h hw Z, ↓c_touch h hw Z, ↓c_catchOf h hw Z, ↓c_clearSet h hw Z, ↓c_isCaught_t h hw Z, ↓c_isCaught_f h hw Z, ↓c_caughtSet h hw Z, ↓c_pupilsAt h hw Z, ↓c_pupilsWhoKnow h hw Z, ↓c_areNear h hw Z, ↓c_canHelp h hw Z, ↓c_helperSet h hw Z, ↓c_nextLesson h hw Z, ↓c_isNearSome h hw Z, ↓c_freedSet h hw Z, ↓p_8, ↓e_8, ↓p_9, ↓e_9, ↓p_10, ↓e_10, ↓p_11, ↓e_11, ↓p_13, ↓e_13, ↓p_14, ↓e_14, ↓p_15, ↓e_15, ↓p_16, ↓e_16, ↓p_17, ↓e_17, ↓p_18, ↓e_18]
  · unfold stS
    refine cs_pup (cs_pup h hw (k := 0) rfl (by omega) p0 p1 (by omega) _) (wf_pup hw (k := 0) (p := p) (by omega) (by omega) p0 p1 (by omega) (by omega)) (k := 3) rfl (by omega) p0 (by rw [up_ne (by omega)]; exact p1) (by omega) _
  · exact Ag_uA (Ag_uA (Ag_refl _ _ _) (by unfold scl; omega) _ _) (by unfold scl; omega) _ _
theorem r_st {s : mS} {S : Int → Int} (e : s.2 142 = S) (f : mW → mO) (i v : Int) (h0 : 0 ≤ i) (h1 : i < 2464) : (mm_st 0 (mk s) 142 i v).bind f = f (mk (uA s 142 i v)) := a_st142 s f i v h0 h1
theorem r_stw {s : mS} (f : mW → mO) (i v : Int) (h0 : 0 ≤ i) (h1 : i < 2464) : (mm_st 0 (mk s) 142 (mm_w32 i) v).bind f = f (mk (uA s 142 i v)) := by
  rw [w32_eq (by omega) (by omega), a_st142 s f i v h0 h1]
theorem r_stwv {s : mS} (f : mW → mO) (i v : Int) (h0 : 0 ≤ i) (h1 : i < 2464) (v0 : -2147483648 ≤ v) (v1 : v < 2147483648) : (mm_st 0 (mk s) 142 (mm_w32 i) (mm_w32 v)).bind f = f (mk (uA s 142 i v)) := by
  rw [w32_eq (x := i) (by omega) (by omega), w32_eq (x := v) v0 v1, a_st142 s f i v h0 h1]
theorem r_goes {s : mS} {S : Int → Int} (e : s.2 142 = S) (hw : WF S) (Z : mX) (p k : Int) (p0 : 0 ≤ p) (p1 : p < S 3) (k0 : 0 ≤ k) (k1 : k ≤ 3) (hc : ¬ 0 < S (74 + 6 * p + 3)) (hs : sd S (S (74 + 6 * p)) k ≠ -1) (f : Int → mW → mO) :
    mm_kI (mm_run (zP Z) 290 [.inr (.inr (some 141)), .inl p, .inl k] (mk s)) f = f (ct S p (sd S (S (74 + 6 * p)) k) (S (74 + 6 * p + 1))) (mk (uA (uA s 142 (74 + 6 * p) (sd S (S (74 + 6 * p)) k)) 142 (74 + 6 * p + 3) (ct S p (sd S (S (74 + 6 * p)) k) (S (74 + 6 * p + 1))))) := by
  have w := wf0 hw
  have wp := wf_p hw p0 p1
  have n := wf_n hw
  have r := sd_r hw wp.1 wp.2.1 k0 k1 hs
  rw [B_X12_goes]
  simp (disch := first | assumption | omega) only [↓sm, ↓reduceIte, ↓if_pos, ↓if_neg, kI, kJ, kR, kV, w32_eq, w64_eq, reduceCtorEq, Int.reduceAdd, Int.reduceMul, Int.reduceSub, o_c141, ↓o_g141_0, ↓o_g141_1, ↓o_g141_5, ↓o_g141_6, ↓o_g141_7, ↓o_g141_8, ↓o_g141_9, ↓o_g141_21, ↓o_g141_25, ↓o_g141_26, ↓o_g141_27, ↓o_g141_28, ↓o_g141_29, ↓o_g141_30, ↓o_g141_31, ↓o_g141_34, ↓o_g141_35, ↓o_g141_36, ↓r_pupilAt e hw Z, ↓r_at e, ↓r_atw e, ↓r_cellsOf e hw Z, ↓r_isCell_t e hw Z, ↓r_isCell_f e hw Z, ↓r_isLesson_t e hw Z, ↓r_isLesson_f e hw Z, ↓r_isPupil_t e hw Z, ↓r_isPupil_f e hw Z, ↓r_pupilOf e hw Z, ↓r_needsOf e hw Z, ↓r_catchBy e hw Z, ↓r_catchOf e hw Z, ↓r_isCaught_t e hw Z, ↓r_isCaught_f e hw Z, ↓r_allCaught e hw Z, ↓r_whoIs0 e hw Z, ↓r_whoIs1 e hw Z, ↓r_sideOf e hw Z, ↓r_isNear e hw Z, ↓r_nextLesson e hw Z, ↓r_canFree e hw Z, ↓r_nearTo e hw Z, ↓r_isIn Z, ↓r_pupilRow Z, ↓r_lessonRow Z, ↓k_bits Z, Int.add_zero, ↓a_st142, ↓r_stw]
theorem r_goes_f {s : mS} {S : Int → Int} (e : s.2 142 = S) (hw : WF S) (Z : mX) (p k : Int) (p0 : 0 ≤ p) (p1 : p < S 3) (k0 : 0 ≤ k) (k1 : k ≤ 3) (hn : 0 < S (74 + 6 * p + 3) ∨ sd S (S (74 + 6 * p)) k = -1) (f : Int → mW → mO) : mm_kI (mm_run (zP Z) 290 [.inr (.inr (some 141)), .inl p, .inl k] (mk s)) f = f (-1) (mk s) := by
  have w := wf0 hw
  have wp := wf_p hw p0 p1
  have n := wf_n hw
  rw [B_X12_goes]
  by_cases hc : 0 < S (74 + 6 * p + 3)
  · simp (disch := first | assumption | omega) only [↓sm, ↓reduceIte, ↓if_pos, ↓if_neg, kI, kJ, kR, kV, w32_eq, w64_eq, reduceCtorEq, Int.reduceAdd, Int.reduceMul, Int.reduceSub, o_c141, ↓o_g141_0, ↓o_g141_1, ↓o_g141_5, ↓o_g141_6, ↓o_g141_7, ↓o_g141_8, ↓o_g141_9, ↓o_g141_21, ↓o_g141_25, ↓o_g141_26, ↓o_g141_27, ↓o_g141_28, ↓o_g141_29, ↓o_g141_30, ↓o_g141_31, ↓o_g141_34, ↓o_g141_35, ↓o_g141_36, ↓r_pupilAt e hw Z, ↓r_at e, ↓r_atw e, ↓r_cellsOf e hw Z, ↓r_isCell_t e hw Z, ↓r_isCell_f e hw Z, ↓r_isLesson_t e hw Z, ↓r_isLesson_f e hw Z, ↓r_isPupil_t e hw Z, ↓r_isPupil_f e hw Z, ↓r_pupilOf e hw Z, ↓r_needsOf e hw Z, ↓r_catchBy e hw Z, ↓r_catchOf e hw Z, ↓r_isCaught_t e hw Z, ↓r_isCaught_f e hw Z, ↓r_allCaught e hw Z, ↓r_whoIs0 e hw Z, ↓r_whoIs1 e hw Z, ↓r_sideOf e hw Z, ↓r_isNear e hw Z, ↓r_nextLesson e hw Z, ↓r_canFree e hw Z, ↓r_nearTo e hw Z, ↓r_isIn Z, ↓r_pupilRow Z, ↓r_lessonRow Z, ↓k_bits Z, Int.add_zero]
  · have hs : sd S (S (74 + 6 * p)) k = -1 := by omega
    simp (disch := first | assumption | omega) only [↓sm, ↓reduceIte, ↓if_pos, ↓if_neg, kI, kJ, kR, kV, w32_eq, w64_eq, reduceCtorEq, Int.reduceAdd, Int.reduceMul, Int.reduceSub, o_c141, ↓o_g141_0, ↓o_g141_1, ↓o_g141_5, ↓o_g141_6, ↓o_g141_7, ↓o_g141_8, ↓o_g141_9, ↓o_g141_21, ↓o_g141_25, ↓o_g141_26, ↓o_g141_27, ↓o_g141_28, ↓o_g141_29, ↓o_g141_30, ↓o_g141_31, ↓o_g141_34, ↓o_g141_35, ↓o_g141_36, ↓r_pupilAt e hw Z, ↓r_at e, ↓r_atw e, ↓r_cellsOf e hw Z, ↓r_isCell_t e hw Z, ↓r_isCell_f e hw Z, ↓r_isLesson_t e hw Z, ↓r_isLesson_f e hw Z, ↓r_isPupil_t e hw Z, ↓r_isPupil_f e hw Z, ↓r_pupilOf e hw Z, ↓r_needsOf e hw Z, ↓r_catchBy e hw Z, ↓r_catchOf e hw Z, ↓r_isCaught_t e hw Z, ↓r_isCaught_f e hw Z, ↓r_allCaught e hw Z, ↓r_whoIs0 e hw Z, ↓r_whoIs1 e hw Z, ↓r_sideOf e hw Z, ↓r_isNear e hw Z, ↓r_nextLesson e hw Z, ↓r_canFree e hw Z, ↓r_nearTo e hw Z, ↓r_isIn Z, ↓r_pupilRow Z, ↓r_lessonRow Z, ↓k_bits Z, Int.add_zero, hs]
