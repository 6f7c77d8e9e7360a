/-! walks that cost: pricks, opening -/
def CW (S : Int → Int) (w : Int → Int) : Nat → Int → Int → Int → Prop
  | 0, a, d, x => a = d ∧ x = 0
  | k + 1, a, d, x => ∃ c y, CW S w k a c y ∧ Bs S c d ∧ x = y + w d
theorem CW_r {S : Int → Int} (hw : WF S) {w : Int → Int} : ∀ {k : Nat} {a d x : Int}, 0 ≤ a → a < ncl S → CW S w k a d x → 0 ≤ d ∧ d < ncl S
  | 0, _, _, _, h0, h1, h => by cases h.1; exact ⟨h0, h1⟩
  | k + 1, _, _, _, h0, h1, ⟨_, _, h, b, _⟩ => by
    have r := CW_r hw h0 h1 h
    exact Bs_r hw r.1 r.2 b
/-- the least costs from a cell on -/
def DS (S : Int → Int) (w : Int → Int) (a : Int) (D : Int → Int) : Prop := D a = 0 ∧ (∀ c, 0 ≤ c → c < ncl S → 0 ≤ D c ∧ D c ≤ 1000000 ∧ (D c < 1000000 → ∃ k, CW S w k a c (D c))) ∧
  ∀ c d, 0 ≤ c → c < ncl S → Bs S c d → D d ≤ D c + w d
theorem DS_le {S : Int → Int} (hw : WF S) {w : Int → Int} {a : Int} {D : Int → Int} (a0 : 0 ≤ a) (a1 : a < ncl S) (h : DS S w a D) : ∀ {k : Nat} {d x : Int}, CW S w k a d x → D d ≤ x
  | 0, _, _, ⟨h1, h2⟩ => by rw [← h1, h2, h.1]; exact Int.le_refl _
  | k + 1, _, _, ⟨c, y, hc, b, e⟩ => by
    have r := CW_r hw a0 a1 hc
    have g := h.2.2 c _ r.1 r.2 b
    have := DS_le hw a0 a1 h hc
    omega
/-- how far cells are as the crow flies -/
def man (S : Int → Int) (c a : Int) : Int := absI (c / S 0 - a / S 0) + absI (c % S 0 - a % S 0)
theorem closer {S : Int → Int} (hw : WF S) {c a : Int} (c0 : 0 ≤ c) (c1 : c < ncl S) (a0 : 0 ≤ a) (a1 : a < ncl S) (hn : c ≠ a) : ∃ d, 0 ≤ d ∧ d < ncl S ∧ Bs S d c ∧ man S d a + 1 = man S c a := by
  have w := wf0 hw
  have key : ∃ k, 0 ≤ k ∧ k ≤ 3 ∧ sd S c k ≠ -1 ∧ man S (sd S c k) a + 1 = man S c a := by
    unfold man absI
    by_cases h1 : a % S 0 < c % S 0
    · have hm : 0 < c % S 0 := by
        have := Int.emod_nonneg a (show S 0 ≠ 0 by omega)
        omega
      refine ⟨0, by omega, by omega, ?_, ?_⟩
      · rw [sd_0, if_pos hm]
        have : 0 < c := by
          apply Classical.byContradiction
          intro x
          have hc : c = 0 := by omega
          rw [hc] at hm
          simp at hm
        omega
      · rw [sd_0, if_pos hm]
        generalize S 0 = b at *
        have hd : b = 1 ∨ b = 2 ∨ b = 3 ∨ b = 4 ∨ b = 5 := by omega
        rcases hd with rfl | rfl | rfl | rfl | rfl <;> omega
    by_cases h2 : c % S 0 < a % S 0
    · have hm : c % S 0 < S 0 - 1 := by
        have := Int.emod_lt_of_pos a (show 0 < S 0 by omega)
        omega
      refine ⟨1, by omega, by omega, ?_, ?_⟩
      · rw [sd_1, if_pos hm]
        omega
      · rw [sd_1, if_pos hm]
        generalize S 0 = b at *
        have hd : b = 1 ∨ b = 2 ∨ b = 3 ∨ b = 4 ∨ b = 5 := by omega
        rcases hd with rfl | rfl | rfl | rfl | rfl <;> omega
    have he : c % S 0 = a % S 0 := by omega
    by_cases h3 : a / S 0 < c / S 0
    · have hm : ¬ c < S 0 := by
        have g1 := Int.ediv_nonneg a0 (show 0 ≤ S 0 by omega)
        intro x
        rw [Int.ediv_eq_zero_of_lt c0 x] at h3
        omega
      refine ⟨2, by omega, by omega, ?_, ?_⟩
      · rw [sd_2, if_neg hm]
        omega
      · rw [sd_2, if_neg hm]
        generalize S 0 = b at *
        have hd : b = 1 ∨ b = 2 ∨ b = 3 ∨ b = 4 ∨ b = 5 := by omega
        rcases hd with rfl | rfl | rfl | rfl | rfl <;> omega
    · have hm : c + S 0 < ncl S := by
        generalize ncl S = N at *
        generalize S 0 = b at *
        have hd : b = 1 ∨ b = 2 ∨ b = 3 ∨ b = 4 ∨ b = 5 := by omega
        rcases hd with rfl | rfl | rfl | rfl | rfl <;> omega
      refine ⟨3, by omega, by omega, ?_, ?_⟩
      · rw [sd_3, if_pos hm]
        omega
      · rw [sd_3, if_pos hm]
        generalize S 0 = b at *
        have hd : b = 1 ∨ b = 2 ∨ b = 3 ∨ b = 4 ∨ b = 5 := by omega
        rcases hd with rfl | rfl | rfl | rfl | rfl <;> omega
  obtain ⟨k, k0, k1, hs, hm⟩ := key
  have r := sd_r hw c0 c1 k0 k1 hs
  exact ⟨_, r.1, r.2, Bs_sym hw c0 c1 ⟨k, k0, k1, rfl, hs⟩, hm⟩
theorem man_0 {S : Int → Int} (hw : WF S) {c a : Int} (c0 : 0 ≤ c) (a0 : 0 ≤ a) (h : man S c a = 0) : c = a := by
  have w := wf0 hw
  unfold man absI at h
  generalize S 0 = b at *
  have hd : b = 1 ∨ b = 2 ∨ b = 3 ∨ b = 4 ∨ b = 5 := by omega
  rcases hd with rfl | rfl | rfl | rfl | rfl <;> (split at h <;> split at h <;> omega)
theorem man_r {S : Int → Int} (hw : WF S) {c a : Int} (c0 : 0 ≤ c) (c1 : c < ncl S) (a0 : 0 ≤ a) (a1 : a < ncl S) : 0 ≤ man S c a ∧ man S c a ≤ 24 := by
  have w := wf0 hw
  have n := wf_n hw
  unfold man absI
  generalize ncl S = N at *
  generalize S 0 = b at *
  have hd : b = 1 ∨ b = 2 ∨ b = 3 ∨ b = 4 ∨ b = 5 := by omega
  rcases hd with rfl | rfl | rfl | rfl | rfl <;> (split <;> split <;> omega)
theorem DS_man {S : Int → Int} (hw : WF S) {w : Int → Int} {a M : Int} {D : Int → Int} (a0 : 0 ≤ a) (a1 : a < ncl S) (hM : ∀ c, 0 ≤ c → c < ncl S → 0 ≤ w c ∧ w c ≤ M) (h : DS S w a D) : ∀ (m : Nat) (c : Int), 0 ≤ c → c < ncl S → man S c a = m → D c ≤ M * m
  | 0, c, c0, c1, e => by
    have := man_0 hw c0 a0 e
    rw [this, h.1]
    simp
  | m + 1, c, c0, c1, e => by
    by_cases hn : c = a
    · have hM0 := hM c c0 c1
      rw [hn, h.1]
      exact Int.mul_nonneg (by omega) (by omega)
    · obtain ⟨d, d0, d1, b, hm⟩ := closer hw c0 c1 a0 a1 hn
      have ih := DS_man hw a0 a1 hM h m d d0 d1 (by omega)
      have g := h.2.2 d c d0 d1 b
      have := (hM c c0 c1).2
      have e2 : M * ((m + 1 : Nat) : Int) = M * m + M := by rw [Int.natCast_add, Int.mul_add]; simp
      omega
/-- the reference's relaxing -/
def a151 (q : Nat) : Prop := q = 151
theorem a151_ : a151 151 := rfl
def wtS (S : Int → Int) (p k : Int) : Int → Int := fun c => if k = 0 then ct S p c (S (74 + 6 * p + 1)) else if ct S p c (S (74 + 6 * p + 1)) < 1 then ct S p c (S (74 + 6 * p + 1)) else 1
theorem wtS_r {S : Int → Int} (hw : WF S) {p k : Int} (p0 : 0 ≤ p) (p1 : p < S 3) {c : Int} (c0 : 0 ≤ c) (c1 : c < ncl S) : 0 ≤ wtS S p k c ∧ wtS S p k c ≤ 18 ∧ (k ≠ 0 → wtS S p k c ≤ 1) := by
  have wp := wf_p hw p0 p1
  have n := wf_n hw
  have r := ct_r hw p0 p1 c0 (show c < 25 by omega) wp.2.2.1 wp.2.2.2.1
  unfold wtS
  split
  · omega
  · split <;> omega
theorem r_stepCost {s : mS} {S : Int → Int} (e : s.2 142 = S) (hw : WF S) (Z : mX) (p c k : Int) (p0 : 0 ≤ p) (p1 : p < S 3) (c0 : 0 ≤ c) (c1 : c < 25) (f : Int → mW → mO) : mm_kI (mm_run (zP Z) 317 [.inr (.inr (some 141)), .inl p, .inl c, .inl k] (mk s)) f = f (wtS S p k c) (mk s) := by
  unfold wtS
  by_cases hk : k = 0
  · rw [if_pos hk, B_X12_stepCost]
    simp (disch := first | assumption | omega) only [↓sm, ↓reduceIte, ↓if_pos, ↓if_neg, kI, kJ, kR, kV, w32_eq, w64_eq, reduceCtorEq, Int.reduceAdd, Int.reduceMul, Int.reduceSub, o_c141, ↓o_g141_0, ↓o_g141_1, ↓o_g141_5, ↓o_g141_6, ↓o_g141_7, ↓o_g141_8, ↓o_g141_9, ↓o_g141_21, ↓o_g141_25, ↓o_g141_26, ↓o_g141_27, ↓o_g141_28, ↓o_g141_29, ↓o_g141_30, ↓o_g141_31, ↓o_g141_34, ↓o_g141_35, ↓o_g141_36, ↓r_pupilAt e hw Z, ↓r_at e, ↓r_atw e, ↓r_cellsOf e hw Z, ↓r_isCell_t e hw Z, ↓r_isCell_f e hw Z, ↓r_isLesson_t e hw Z, ↓r_isLesson_f e hw Z, ↓r_isPupil_t e hw Z, ↓r_isPupil_f e hw Z, ↓r_pupilOf e hw Z, ↓r_needsOf e hw Z, ↓r_catchBy e hw Z, ↓r_catchOf e hw Z, ↓r_isCaught_t e hw Z, ↓r_isCaught_f e hw Z, ↓r_allCaught e hw Z, ↓r_whoIs0 e hw Z, ↓r_whoIs1 e hw Z, ↓r_sideOf e hw Z, ↓r_isNear e hw Z, ↓r_nextLesson e hw Z, ↓r_canFree e hw Z, ↓r_nearTo e hw Z, ↓r_isIn Z, ↓r_pupilRow Z, ↓r_lessonRow Z, ↓k_bits Z]
  · rw [if_neg hk, B_X12_stepCost]
    simp (disch := first | assumption | omega) only [↓sm, ↓reduceIte, ↓if_pos, ↓if_neg, kI, kJ, kR, kV, w32_eq, w64_eq, reduceCtorEq, Int.reduceAdd, Int.reduceMul, Int.reduceSub, o_c141, ↓o_g141_0, ↓o_g141_1, ↓o_g141_5, ↓o_g141_6, ↓o_g141_7, ↓o_g141_8, ↓o_g141_9, ↓o_g141_21, ↓o_g141_25, ↓o_g141_26, ↓o_g141_27, ↓o_g141_28, ↓o_g141_29, ↓o_g141_30, ↓o_g141_31, ↓o_g141_34, ↓o_g141_35, ↓o_g141_36, ↓r_pupilAt e hw Z, ↓r_at e, ↓r_atw e, ↓r_cellsOf e hw Z, ↓r_isCell_t e hw Z, ↓r_isCell_f e hw Z, ↓r_isLesson_t e hw Z, ↓r_isLesson_f e hw Z, ↓r_isPupil_t e hw Z, ↓r_isPupil_f e hw Z, ↓r_pupilOf e hw Z, ↓r_needsOf e hw Z, ↓r_catchBy e hw Z, ↓r_catchOf e hw Z, ↓r_isCaught_t e hw Z, ↓r_isCaught_f e hw Z, ↓r_allCaught e hw Z, ↓r_whoIs0 e hw Z, ↓r_whoIs1 e hw Z, ↓r_sideOf e hw Z, ↓r_isNear e hw Z, ↓r_nextLesson e hw Z, ↓r_canFree e hw Z, ↓r_nearTo e hw Z, ↓r_isIn Z, ↓r_pupilRow Z, ↓r_lessonRow Z, ↓k_bits Z]
def DI (S : Int → Int) (w : Int → Int) (a : Int) (D : Int → Int) : Prop := D a = 0 ∧ ∀ c, 0 ≤ c → c < 25 → 0 ≤ D c ∧ D c ≤ 1000000 ∧ (D c < 1000000 → ∃ k, CW S w k a c (D c))
def Ee (S : Int → Int) (w : Int → Int) (D : Int → Int) (k : Int) : Prop := ∀ j, 0 ≤ j → j < k → sd S (j / 4) (j % 4) ≠ -1 → D (sd S (j / 4) (j % 4)) ≤ D (j / 4) + w (sd S (j / 4) (j % 4))
theorem lp_costI {S : Int → Int} (hw : WF S) (Z : mX) (p k : Int) (p0 : 0 ≤ p) (p1 : p < S 3) : ∀ i : Int, i ≤ 25 → ∀ s : mS, 0 ≤ i → s.2 142 = S → (∀ c, 0 ≤ c → c < i → s.2 151 c = if c = S (74 + 6 * p) then 0 else 1000000) →
    ∃ s', mm_at (zP Z) 318 2 [some (.inr (.inr (some 141))), some (.inl p), some (.inl k), some (.inl i), none, none, none] [] (mk s) = mm_at (zP Z) 318 22 [some (.inr (.inr (some 141))), some (.inl p), some (.inl k), some (.inl 1), none, none, none] [] (mk s') ∧ (∀ c, 0 ≤ c → c < 25 → s'.2 151 c = if c = S (74 + 6 * p) then 0 else 1000000) ∧ Ag a151 noF s s' := by
  have w := wf0 hw
  refine up ?_ ?_
  · intro s i0 e hs
    refine ⟨s, ?_, hs, Ag_refl _ _ _⟩
    rw [B_X12_laysCost_2]
    simp (disch := first | assumption | omega) only [↓sm, ↓reduceIte, ↓if_pos, ↓if_neg, kI, kJ, kR, kV, w32_eq, w64_eq, reduceCtorEq, Int.reduceAdd, Int.reduceMul, Int.reduceSub]
  · intro i hi ih s i0 e hs
    have st : ∀ v, v = (if i = S (74 + 6 * p) then 0 else 1000000) → ∀ c, 0 ≤ c → c < i + 1 → (uA s 151 i v).2 151 c = if c = S (74 + 6 * p) then 0 else 1000000 := by
      intro v hv c c0 c1
      rw [uA_s]
      by_cases e : c = i
      · rw [up_eq e, e, hv]
      · rw [up_ne e]
        exact hs c c0 (by omega)
    by_cases hq : i = S (74 + 6 * p)
    · obtain ⟨s', g1, g2, g3⟩ := ih (uA s 151 i 0) (by omega) ((uA_n s (by decide) _ _).trans e) (st 0 (by rw [if_pos hq]))
      refine ⟨s', ?_, g2, Ag_trans (Ag_uA (Ag_refl _ _ _) a151_ _ _) g3⟩
      rw [B_X12_laysCost_2]
      simp (disch := first | assumption | omega) only [↓sm, ↓reduceIte, ↓if_pos, ↓if_neg, kI, kJ, kR, kV, w32_eq, w64_eq, reduceCtorEq, Int.reduceAdd, Int.reduceMul, Int.reduceSub, o_c141, ↓o_g141_0, ↓o_g141_1, ↓o_g141_5, ↓o_g141_6, ↓o_g141_7, ↓o_g141_8, ↓o_g141_9, ↓o_g141_21, ↓o_g141_25, ↓o_g141_26, ↓o_g141_27, ↓o_g141_28, ↓o_g141_29, ↓o_g141_30, ↓o_g141_31, ↓o_g141_34, ↓o_g141_35, ↓o_g141_36, ↓r_pupilAt e hw Z, ↓a_st151, g1]
    · obtain ⟨s', g1, g2, g3⟩ := ih (uA s 151 i 1000000) (by omega) ((uA_n s (by decide) _ _).trans e) (st 1000000 (by rw [if_neg hq]))
      refine ⟨s', ?_, g2, Ag_trans (Ag_uA (Ag_refl _ _ _) a151_ _ _) g3⟩
      rw [B_X12_laysCost_2]
      simp (disch := first | assumption | omega) only [↓sm, ↓reduceIte, ↓if_pos, ↓if_neg, kI, kJ, kR, kV, w32_eq, w64_eq, reduceCtorEq, Int.reduceAdd, Int.reduceMul, Int.reduceSub, o_c141, ↓o_g141_0, ↓o_g141_1, ↓o_g141_5, ↓o_g141_6, ↓o_g141_7, ↓o_g141_8, ↓o_g141_9, ↓o_g141_21, ↓o_g141_25, ↓o_g141_26, ↓o_g141_27, ↓o_g141_28, ↓o_g141_29, ↓o_g141_30, ↓o_g141_31, ↓o_g141_34, ↓o_g141_35, ↓o_g141_36, ↓r_pupilAt e hw Z, ↓a_st151, g1]
theorem lp_costP {S : Int → Int} (hw : WF S) (Z : mX) (p kk : Int) (p0 : 0 ≤ p) (p1 : p < S 3) : ∀ m : Nat, ∀ s : mS, s.2 142 = S → DI S (wtS S p kk) (S (74 + 6 * p)) (s.2 151) → (sumI (s.2 151) 25).toNat = m →
    ∃ s', mm_at (zP Z) 318 22 [some (.inr (.inr (some 141))), some (.inl p), some (.inl kk), some (.inl 1), none, none, none] [] (mk s) = some (none, mk s') ∧ DI S (wtS S p kk) (S (74 + 6 * p)) (s'.2 151) ∧ Ee S (wtS S p kk) (s'.2 151) (4 * ncl S) ∧ Ag a151 noF s s' := by
  have n := wf_n hw
  have wp := wf_p hw p0 p1
  intro m
  induction m using Nat.strongRecOn with
  | _ m IH =>
    intro s e hF hm
    have inner : ∀ k : Int, k ≤ 4 * ncl S → ∀ (s : mS) (fl : Int), 0 ≤ k → s.2 142 = S → DI S (wtS S p kk) (S (74 + 6 * p)) (s.2 151) → (fl = 0 ∧ Ee S (wtS S p kk) (s.2 151) k ∧ (sumI (s.2 151) 25).toNat = m ∨ fl = 1 ∧ (sumI (s.2 151) 25).toNat < m) →
        ∃ s', mm_at (zP Z) 318 28 [some (.inr (.inr (some 141))), some (.inl p), some (.inl kk), some (.inl fl), some (.inl k), none, none] [] (mk s) = some (none, mk s') ∧ DI S (wtS S p kk) (S (74 + 6 * p)) (s'.2 151) ∧ Ee S (wtS S p kk) (s'.2 151) (4 * ncl S) ∧ Ag a151 noF s s' := by
      refine up ?_ ?_
      · intro s fl k0 e hF hfl
        rcases hfl with ⟨rfl, hE, _⟩ | ⟨rfl, hlt⟩
        · refine ⟨s, ?_, hF, hE, Ag_refl _ _ _⟩
          rw [B_X12_laysCost_28]
          simp (disch := first | assumption | omega) only [↓sm, ↓reduceIte, ↓if_pos, ↓if_neg, kI, kJ, kR, kV, w32_eq, w64_eq, reduceCtorEq, Int.reduceAdd, Int.reduceMul, Int.reduceSub, o_c141, ↓o_g141_0, ↓o_g141_1, ↓o_g141_5, ↓o_g141_6, ↓o_g141_7, ↓o_g141_8, ↓o_g141_9, ↓o_g141_21, ↓o_g141_25, ↓o_g141_26, ↓o_g141_27, ↓o_g141_28, ↓o_g141_29, ↓o_g141_30, ↓o_g141_31, ↓o_g141_34, ↓o_g141_35, ↓o_g141_36, ↓r_cellsOf e hw Z, B_X12_laysCost_22]
        · obtain ⟨s', g1, g2⟩ := IH _ hlt s e hF rfl
          refine ⟨s', ?_, g2⟩
          rw [B_X12_laysCost_28]
          simp (disch := first | assumption | omega) only [↓sm, ↓reduceIte, ↓if_pos, ↓if_neg, kI, kJ, kR, kV, w32_eq, w64_eq, reduceCtorEq, Int.reduceAdd, Int.reduceMul, Int.reduceSub, o_c141, ↓o_g141_0, ↓o_g141_1, ↓o_g141_5, ↓o_g141_6, ↓o_g141_7, ↓o_g141_8, ↓o_g141_9, ↓o_g141_21, ↓o_g141_25, ↓o_g141_26, ↓o_g141_27, ↓o_g141_28, ↓o_g141_29, ↓o_g141_30, ↓o_g141_31, ↓o_g141_34, ↓o_g141_35, ↓o_g141_36, ↓r_cellsOf e hw Z, g1]
      · intro k hk ih s fl k0 e hF hfl
        have hc0 : 0 ≤ k / 4 := by omega
        have hc1 : k / 4 < ncl S := by omega
        have hk0 : 0 ≤ k % 4 := by omega
        have hk1 : k % 4 ≤ 3 := by omega
        have stay : sd S (k / 4) (k % 4) = -1 ∨ (s.2 151) (sd S (k / 4) (k % 4)) ≤ (s.2 151) (k / 4) + wtS S p kk (sd S (k / 4) (k % 4)) → (fl = 0 ∧ Ee S (wtS S p kk) (s.2 151) (k + 1) ∧ (sumI (s.2 151) 25).toNat = m ∨ fl = 1 ∧ (sumI (s.2 151) 25).toNat < m) := by
          intro hs
          rcases hfl with ⟨h1, hE, h2⟩ | h1
          · refine Or.inl ⟨h1, fun j j0 j1 x1 => ?_, h2⟩
            by_cases ej : j = k
            · subst ej
              rcases hs with h | h
              · exact absurd h x1
              · exact h
            · exact hE j j0 (by omega) x1
          · exact Or.inr h1
        rw [B_X12_laysCost_28]
        by_cases hs : sd S (k / 4) (k % 4) = -1
        · obtain ⟨s', g1, g2⟩ := ih s fl (by omega) e hF (stay (Or.inl hs))
          refine ⟨s', ?_, g2⟩
          simp (disch := first | assumption | omega) only [↓sm, ↓reduceIte, ↓if_pos, ↓if_neg, kI, kJ, kR, kV, w32_eq, w64_eq, reduceCtorEq, Int.reduceAdd, Int.reduceMul, Int.reduceSub, o_c141, ↓o_g141_0, ↓o_g141_1, ↓o_g141_5, ↓o_g141_6, ↓o_g141_7, ↓o_g141_8, ↓o_g141_9, ↓o_g141_21, ↓o_g141_25, ↓o_g141_26, ↓o_g141_27, ↓o_g141_28, ↓o_g141_29, ↓o_g141_30, ↓o_g141_31, ↓o_g141_34, ↓o_g141_35, ↓o_g141_36, ↓r_cellsOf e hw Z, idiv_eq, irem_eq, ↓r_sideOf e hw Z, hs, g1]
        · have r := sd_r hw hc0 hc1 hk0 hk1 hs
          have rw1 := wtS_r hw (k := kk) p0 p1 r.1 r.2
          have f1 := hF.2 (sd S (k / 4) (k % 4)) r.1 (by omega)
          have f2 := hF.2 (k / 4) hc0 (by omega)
          by_cases hlt : s.2 151 (k / 4) + wtS S p kk (sd S (k / 4) (k % 4)) < s.2 151 (sd S (k / 4) (k % 4))
          · have hto : sd S (k / 4) (k % 4) ≠ S (74 + 6 * p) := fun x => by
              have h0 : s.2 151 (sd S (k / 4) (k % 4)) = 0 := by rw [x]; exact hF.1
              omega
            have e' : (uA s 151 (sd S (k / 4) (k % 4)) (s.2 151 (k / 4) + wtS S p kk (sd S (k / 4) (k % 4)))).2 151 = mm_upd (s.2 151) (sd S (k / 4) (k % 4)) (s.2 151 (k / 4) + wtS S p kk (sd S (k / 4) (k % 4))) := uA_s _ _ _ _
            have hF' : DI S (wtS S p kk) (S (74 + 6 * p)) ((uA s 151 (sd S (k / 4) (k % 4)) (s.2 151 (k / 4) + wtS S p kk (sd S (k / 4) (k % 4)))).2 151) := by
              rw [e']
              refine ⟨by rw [up_ne (fun x => hto x.symm)]; exact hF.1, fun c c0 c1 => ?_⟩
              by_cases ec : c = sd S (k / 4) (k % 4)
              · rw [up_eq ec]
                refine ⟨by omega, by omega, fun _ => ?_⟩
                obtain ⟨q, hq⟩ := f2.2.2 (by omega)
                exact ⟨q + 1, _, _, hq, ⟨k % 4, hk0, hk1, ec.symm, by rw [ec]; exact hs⟩, by rw [ec]⟩
              · rw [up_ne ec]
                exact hF.2 c c0 c1
            have g0 := sumI_ge (s.2 151) 1000000 25 (fun i i0 i1 => ⟨(hF.2 i i0 (by omega)).1, (hF.2 i i0 (by omega)).2.1⟩)
            have g0' := sumI_ge ((uA s 151 (sd S (k / 4) (k % 4)) (s.2 151 (k / 4) + wtS S p kk (sd S (k / 4) (k % 4)))).2 151) 1000000 25 (fun i i0 i1 => ⟨(hF'.2 i i0 (by omega)).1, (hF'.2 i i0 (by omega)).2.1⟩)
            have hsum : (sumI ((uA s 151 (sd S (k / 4) (k % 4)) (s.2 151 (k / 4) + wtS S p kk (sd S (k / 4) (k % 4)))).2 151) 25).toNat < m := by
              have := sum_dn (s.2 151) (v := s.2 151 (k / 4) + wtS S p kk (sd S (k / 4) (k % 4))) r.1 25 (by omega)
              rw [← e'] at this
              omega
            obtain ⟨s', g1, g2, g3, g4⟩ := ih (uA s 151 (sd S (k / 4) (k % 4)) (s.2 151 (k / 4) + wtS S p kk (sd S (k / 4) (k % 4)))) 1 (by omega) ((uA_n s (by decide) _ _).trans e) hF' (Or.inr ⟨rfl, hsum⟩)
            refine ⟨s', ?_, g2, g3, Ag_trans (Ag_uA (Ag_refl _ _ _) a151_ _ _) g4⟩
            simp (disch := first | assumption | omega) only [↓sm, ↓reduceIte, ↓if_pos, ↓if_neg, kI, kJ, kR, kV, w32_eq, w64_eq, reduceCtorEq, Int.reduceAdd, Int.reduceMul, Int.reduceSub, o_c141, ↓o_g141_0, ↓o_g141_1, ↓o_g141_5, ↓o_g141_6, ↓o_g141_7, ↓o_g141_8, ↓o_g141_9, ↓o_g141_21, ↓o_g141_25, ↓o_g141_26, ↓o_g141_27, ↓o_g141_28, ↓o_g141_29, ↓o_g141_30, ↓o_g141_31, ↓o_g141_34, ↓o_g141_35, ↓o_g141_36, ↓r_cellsOf e hw Z, idiv_eq, irem_eq, ↓r_sideOf e hw Z, r_sideOf e hw Z, ↓r_stepCost e hw Z, hs, ↓a_ld151, a_ld151, a_st151, g1]
          · obtain ⟨s', g1, g2⟩ := ih s fl (by omega) e hF (stay (Or.inr (by omega)))
            refine ⟨s', ?_, g2⟩
            simp (disch := first | assumption | omega) only [↓sm, ↓reduceIte, ↓if_pos, ↓if_neg, kI, kJ, kR, kV, w32_eq, w64_eq, reduceCtorEq, Int.reduceAdd, Int.reduceMul, Int.reduceSub, o_c141, ↓o_g141_0, ↓o_g141_1, ↓o_g141_5, ↓o_g141_6, ↓o_g141_7, ↓o_g141_8, ↓o_g141_9, ↓o_g141_21, ↓o_g141_25, ↓o_g141_26, ↓o_g141_27, ↓o_g141_28, ↓o_g141_29, ↓o_g141_30, ↓o_g141_31, ↓o_g141_34, ↓o_g141_35, ↓o_g141_36, ↓r_cellsOf e hw Z, idiv_eq, irem_eq, ↓r_sideOf e hw Z, r_sideOf e hw Z, ↓r_stepCost e hw Z, hs, ↓a_ld151, a_ld151, g1]
    obtain ⟨s', g1, g2⟩ := inner 0 (by omega) s 0 (by omega) e hF (Or.inl ⟨rfl, fun j j0 j1 => by omega, hm⟩)
    refine ⟨s', ?_, g2⟩
    rw [B_X12_laysCost_22]
    simp (disch := first | assumption | omega) only [↓sm, ↓reduceIte, ↓if_pos, ↓if_neg, kI, kJ, kR, kV, w32_eq, w64_eq, reduceCtorEq, Int.reduceAdd, Int.reduceMul, Int.reduceSub, g1]
theorem r_laysCost {s : mS} {S : Int → Int} (e : s.2 142 = S) (hw : WF S) (Z : mX) (p k : Int) (p0 : 0 ≤ p) (p1 : p < S 3) : ∃ s', (∀ f : mW → mO, mm_kV (mm_run (zP Z) 318 [.inr (.inr (some 141)), .inl p, .inl k] (mk s)) f = f (mk s')) ∧ DS S (wtS S p k) (S (74 + 6 * p)) (s'.2 151) ∧ Ag a151 noF s s' := by
  have n := wf_n hw
  have wp := wf_p hw p0 p1
  obtain ⟨s1, a1, a2, a3⟩ := lp_costI hw Z p k p0 p1 0 (by omega) s (by omega) e (fun c c0 c1 => by omega)
  have e1 : s1.2 142 = S := (a3.1 142 (by unfold a151; omega)).trans e
  have hF : DI S (wtS S p k) (S (74 + 6 * p)) (s1.2 151) := by
    refine ⟨by rw [a2 _ wp.1 (by omega), if_pos rfl], fun c c0 c1 => ?_⟩
    rw [a2 c c0 c1]
    by_cases ec : c = S (74 + 6 * p)
    · rw [if_pos ec]
      exact ⟨by omega, by omega, fun _ => ⟨0, ec.symm, rfl⟩⟩
    · rw [if_neg ec]
      exact ⟨by omega, by omega, fun h => by omega⟩
  obtain ⟨s', g1, g2, g3, g4⟩ := lp_costP hw Z p k p0 p1 _ s1 e1 hF rfl
  refine ⟨s', fun f => ?_, ⟨g2.1, fun c c0 c1 => g2.2 c c0 (by omega), fun c d c0 c1 b => ?_⟩, Ag_trans a3 g4⟩
  · rw [B_X12_laysCost, a1, g1, kV]
  · obtain ⟨x, x0, x1, ex, hx⟩ := b
    have g := g3 (4 * c + x) (by omega) (by omega)
    rw [show (4 * c + x) / 4 = c by omega, show (4 * c + x) % 4 = x by omega, ex] at g
    exact g hx
