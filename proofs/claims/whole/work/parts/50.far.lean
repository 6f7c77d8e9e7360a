/-! the reference's distances -/
def a150 (q : Nat) : Prop := q = 150
theorem a150_ : a150 150 := rfl
theorem r_isClear_t {s : mS} {S : Int → Int} (e : s.2 142 = S) (hw : WF S) (Z : mX) (p c : Int) (p0 : 0 ≤ p) (p1 : p < S 3) (c0 : 0 ≤ c) (c1 : c < 25) (hk : decide (ct S p c (S (74 + 6 * p + 1)) = 0) = true) (f : Int → mW → mO) : mm_kI (mm_run (zP Z) 308 [.inr (.inr (some 141)), .inl p, .inl c] (mk s)) f = f 1 (mk s) := by
  have hk : ct S p c (S (74 + 6 * p + 1)) = 0 := of_decide_eq_true hk
  rw [B_X12_isClear]
  simp (disch := first | assumption | omega) only [↓sm, ↓reduceIte, ↓if_pos, ↓if_neg, kI, kJ, kR, kV, w32_eq, w64_eq, reduceCtorEq, Int.reduceAdd, Int.reduceMul, Int.reduceSub, o_c141, ↓o_g141_0, ↓o_g141_1, ↓o_g141_5, ↓o_g141_6, ↓o_g141_7, ↓o_g141_8, ↓o_g141_9, ↓o_g141_21, ↓o_g141_25, ↓o_g141_26, ↓o_g141_27, ↓o_g141_28, ↓o_g141_29, ↓o_g141_30, ↓o_g141_31, ↓o_g141_34, ↓o_g141_35, ↓o_g141_36, ↓r_pupilAt e hw Z, ↓r_at e, ↓r_atw e, ↓r_cellsOf e hw Z, ↓r_isCell_t e hw Z, ↓r_isCell_f e hw Z, ↓r_isLesson_t e hw Z, ↓r_isLesson_f e hw Z, ↓r_isPupil_t e hw Z, ↓r_isPupil_f e hw Z, ↓r_pupilOf e hw Z, ↓r_needsOf e hw Z, ↓r_catchBy e hw Z, ↓r_catchOf e hw Z, ↓r_isCaught_t e hw Z, ↓r_isCaught_f e hw Z, ↓r_allCaught e hw Z, ↓r_whoIs0 e hw Z, ↓r_whoIs1 e hw Z, ↓r_sideOf e hw Z, ↓r_isNear e hw Z, ↓r_nextLesson e hw Z, ↓r_canFree e hw Z, ↓r_nearTo e hw Z, ↓r_isIn Z, ↓r_pupilRow Z, ↓r_lessonRow Z, ↓k_bits Z, hk]
theorem r_isClear_f {s : mS} {S : Int → Int} (e : s.2 142 = S) (hw : WF S) (Z : mX) (p c : Int) (p0 : 0 ≤ p) (p1 : p < S 3) (c0 : 0 ≤ c) (c1 : c < 25) (hk : decide (ct S p c (S (74 + 6 * p + 1)) = 0) = false) (f : Int → mW → mO) : mm_kI (mm_run (zP Z) 308 [.inr (.inr (some 141)), .inl p, .inl c] (mk s)) f = f 0 (mk s) := by
  have hk : ¬ ct S p c (S (74 + 6 * p + 1)) = 0 := of_decide_eq_false hk
  rw [B_X12_isClear]
  simp (disch := first | assumption | omega) only [↓sm, ↓reduceIte, ↓if_pos, ↓if_neg, kI, kJ, kR, kV, w32_eq, w64_eq, reduceCtorEq, Int.reduceAdd, Int.reduceMul, Int.reduceSub, o_c141, ↓o_g141_0, ↓o_g141_1, ↓o_g141_5, ↓o_g141_6, ↓o_g141_7, ↓o_g141_8, ↓o_g141_9, ↓o_g141_21, ↓o_g141_25, ↓o_g141_26, ↓o_g141_27, ↓o_g141_28, ↓o_g141_29, ↓o_g141_30, ↓o_g141_31, ↓o_g141_34, ↓o_g141_35, ↓o_g141_36, ↓r_pupilAt e hw Z, ↓r_at e, ↓r_atw e, ↓r_cellsOf e hw Z, ↓r_isCell_t e hw Z, ↓r_isCell_f e hw Z, ↓r_isLesson_t e hw Z, ↓r_isLesson_f e hw Z, ↓r_isPupil_t e hw Z, ↓r_isPupil_f e hw Z, ↓r_pupilOf e hw Z, ↓r_needsOf e hw Z, ↓r_catchBy e hw Z, ↓r_catchOf e hw Z, ↓r_isCaught_t e hw Z, ↓r_isCaught_f e hw Z, ↓r_allCaught e hw Z, ↓r_whoIs0 e hw Z, ↓r_whoIs1 e hw Z, ↓r_sideOf e hw Z, ↓r_isNear e hw Z, ↓r_nextLesson e hw Z, ↓r_canFree e hw Z, ↓r_nearTo e hw Z, ↓r_isIn Z, ↓r_pupilRow Z, ↓r_lessonRow Z, ↓k_bits Z, hk]
def Kc (S : Int → Int) (p : Int) : Int → Bool := fun c => decide (ct S p c (S (74 + 6 * p + 1)) = 0)
theorem clr_Kc (S : Int → Int) (p : Int) : clr S p (S (74 + 6 * p + 1)) = bz (Kc S p) (ncl S) := rfl
def FI (S : Int → Int) (K : Int → Bool) (to : Int) (F : Int → Int) : Prop := F to = 0 ∧ ∀ c, 0 ≤ c → c < 25 → 0 ≤ F c ∧ F c ≤ 1000000 ∧ (F c < 1000000 → Wk S K (F c).toNat c to)
/-- the sum of a row goes down where one of its numbers does -/
theorem sum_dn (F : Int → Int) {c v : Int} (c0 : 0 ≤ c) : ∀ n : Nat, c < n → sumI (mm_upd F c v) n = sumI F n - F c + v
  | 0, h => by omega
  | n + 1, h => by
    unfold sumI
    by_cases e : c = n
    · have : sumI (mm_upd F c v) n = sumI F n := sumI_ext _ _ n (fun i i0 i1 => up_ne (by omega))
      rw [this, up_eq e.symm, e]
      omega
    · rw [sum_dn F c0 n (by omega), up_ne (by omega)]
      omega
theorem lp_farI (Z : mX) (p to : Int) : ∀ i : Int, i ≤ 25 → ∀ s : mS, 0 ≤ i → (∀ c, 0 ≤ c → c < i → s.2 150 c = if c = to then 0 else 1000000) →
    ∃ s', mm_at (zP Z) 309 2 [some (.inr (.inr (some 141))), some (.inl p), some (.inl to), some (.inl i), none, none, none] [] (mk s) = mm_at (zP Z) 309 19 [some (.inr (.inr (some 141))), some (.inl p), none, some (.inl 1), none, none, none] [] (mk s') ∧ (∀ c, 0 ≤ c → c < 25 → s'.2 150 c = if c = to then 0 else 1000000) ∧ Ag a150 noF s s' := by
  refine up ?_ ?_
  · intro s i0 hs
    refine ⟨s, ?_, hs, Ag_refl _ _ _⟩
    rw [B_X12_laysFar_2]
    simp (disch := first | assumption | omega) only [↓sm, ↓reduceIte, ↓if_pos, ↓if_neg, kI, kJ, kR, kV, w32_eq, w64_eq, reduceCtorEq, Int.reduceAdd, Int.reduceMul, Int.reduceSub]
  · intro i hi ih s i0 hs
    have st : ∀ v, v = (if i = to then 0 else 1000000) → ∀ c, 0 ≤ c → c < i + 1 → (uA s 150 i v).2 150 c = if c = to then 0 else 1000000 := by
      intro v hv c c0 c1
      rw [uA_s]
      by_cases e : c = i
      · rw [up_eq e, e, hv]
      · rw [up_ne e]
        exact hs c c0 (by omega)
    by_cases e : i = to
    · obtain ⟨s', g1, g2, g3⟩ := ih (uA s 150 i 0) (by omega) (st 0 (by rw [if_pos e]))
      refine ⟨s', ?_, g2, Ag_trans (Ag_uA (Ag_refl _ _ _) a150_ _ _) g3⟩
      rw [B_X12_laysFar_2]
      simp (disch := first | assumption | omega) only [↓sm, ↓reduceIte, ↓if_pos, ↓if_neg, kI, kJ, kR, kV, w32_eq, w64_eq, reduceCtorEq, Int.reduceAdd, Int.reduceMul, Int.reduceSub, o_c141, ↓o_g141_0, ↓o_g141_1, ↓o_g141_5, ↓o_g141_6, ↓o_g141_7, ↓o_g141_8, ↓o_g141_9, ↓o_g141_21, ↓o_g141_25, ↓o_g141_26, ↓o_g141_27, ↓o_g141_28, ↓o_g141_29, ↓o_g141_30, ↓o_g141_31, ↓o_g141_34, ↓o_g141_35, ↓o_g141_36, ↓a_st150, g1]
    · obtain ⟨s', g1, g2, g3⟩ := ih (uA s 150 i 1000000) (by omega) (st 1000000 (by rw [if_neg e]))
      refine ⟨s', ?_, g2, Ag_trans (Ag_uA (Ag_refl _ _ _) a150_ _ _) g3⟩
      rw [B_X12_laysFar_2]
      simp (disch := first | assumption | omega) only [↓sm, ↓reduceIte, ↓if_pos, ↓if_neg, kI, kJ, kR, kV, w32_eq, w64_eq, reduceCtorEq, Int.reduceAdd, Int.reduceMul, Int.reduceSub, o_c141, ↓o_g141_0, ↓o_g141_1, ↓o_g141_5, ↓o_g141_6, ↓o_g141_7, ↓o_g141_8, ↓o_g141_9, ↓o_g141_21, ↓o_g141_25, ↓o_g141_26, ↓o_g141_27, ↓o_g141_28, ↓o_g141_29, ↓o_g141_30, ↓o_g141_31, ↓o_g141_34, ↓o_g141_35, ↓o_g141_36, ↓a_st150, g1]
/-- edges looked at so far leave nothing to mend -/
def Ed (S : Int → Int) (K : Int → Bool) (F : Int → Int) (k : Int) : Prop := ∀ j, 0 ≤ j → j < k → sd S (j / 4) (j % 4) ≠ -1 → K (sd S (j / 4) (j % 4)) = true → F (j / 4) ≤ F (sd S (j / 4) (j % 4)) + 1
theorem lp_farP {S : Int → Int} (hw : WF S) (Z : mX) (p to : Int) (p0 : 0 ≤ p) (p1 : p < S 3) (t0 : 0 ≤ to) (t1 : to < ncl S) : ∀ m : Nat, ∀ s : mS, s.2 142 = S → FI S (Kc S p) to (s.2 150) → (sumI (s.2 150) 25).toNat = m →
    ∃ s', mm_at (zP Z) 309 19 [some (.inr (.inr (some 141))), some (.inl p), none, some (.inl 1), none, none, none] [] (mk s) = some (none, mk s') ∧ FI S (Kc S p) to (s'.2 150) ∧ Ed S (Kc S p) (s'.2 150) (4 * ncl S) ∧ Ag a150 noF s s' := by
  have n := wf_n hw
  intro m
  induction m using Nat.strongRecOn with
  | _ m IH =>
    intro s e hF hm
    have inner : ∀ k : Int, k ≤ 4 * ncl S → ∀ (s : mS) (fl : Int), 0 ≤ k → s.2 142 = S → FI S (Kc S p) to (s.2 150) → (fl = 0 ∧ Ed S (Kc S p) (s.2 150) k ∧ (sumI (s.2 150) 25).toNat = m ∨ fl = 1 ∧ (sumI (s.2 150) 25).toNat < m) →
        ∃ s', mm_at (zP Z) 309 25 [some (.inr (.inr (some 141))), some (.inl p), none, some (.inl fl), some (.inl k), none, none] [] (mk s) = some (none, mk s') ∧ FI S (Kc S p) to (s'.2 150) ∧ Ed S (Kc S p) (s'.2 150) (4 * ncl S) ∧ Ag a150 noF s s' := by
      refine up ?_ ?_
      · intro s fl k0 e hF hfl
        rcases hfl with ⟨rfl, hE, _⟩ | ⟨rfl, hlt⟩
        · refine ⟨s, ?_, hF, hE, Ag_refl _ _ _⟩
          rw [B_X12_laysFar_25]
          simp (disch := first | assumption | omega) only [↓sm, ↓reduceIte, ↓if_pos, ↓if_neg, kI, kJ, kR, kV, w32_eq, w64_eq, reduceCtorEq, Int.reduceAdd, Int.reduceMul, Int.reduceSub, o_c141, ↓o_g141_0, ↓o_g141_1, ↓o_g141_5, ↓o_g141_6, ↓o_g141_7, ↓o_g141_8, ↓o_g141_9, ↓o_g141_21, ↓o_g141_25, ↓o_g141_26, ↓o_g141_27, ↓o_g141_28, ↓o_g141_29, ↓o_g141_30, ↓o_g141_31, ↓o_g141_34, ↓o_g141_35, ↓o_g141_36, ↓r_cellsOf e hw Z, B_X12_laysFar_19]
        · obtain ⟨s', g1, g2⟩ := IH _ hlt s e hF rfl
          refine ⟨s', ?_, g2⟩
          rw [B_X12_laysFar_25]
          simp (disch := first | assumption | omega) only [↓sm, ↓reduceIte, ↓if_pos, ↓if_neg, kI, kJ, kR, kV, w32_eq, w64_eq, reduceCtorEq, Int.reduceAdd, Int.reduceMul, Int.reduceSub, o_c141, ↓o_g141_0, ↓o_g141_1, ↓o_g141_5, ↓o_g141_6, ↓o_g141_7, ↓o_g141_8, ↓o_g141_9, ↓o_g141_21, ↓o_g141_25, ↓o_g141_26, ↓o_g141_27, ↓o_g141_28, ↓o_g141_29, ↓o_g141_30, ↓o_g141_31, ↓o_g141_34, ↓o_g141_35, ↓o_g141_36, ↓r_cellsOf e hw Z, g1]
      · intro k hk ih s fl k0 e hF hfl
        have hc0 : 0 ≤ k / 4 := by omega
        have hc1 : k / 4 < ncl S := by omega
        have hk0 : 0 ≤ k % 4 := by omega
        have hk1 : k % 4 ≤ 3 := by omega
        have stay : sd S (k / 4) (k % 4) = -1 ∨ Kc S p (sd S (k / 4) (k % 4)) = false ∨ (s.2 150) (k / 4) ≤ (s.2 150) (sd S (k / 4) (k % 4)) + 1 → (fl = 0 ∧ Ed S (Kc S p) (s.2 150) (k + 1) ∧ (sumI (s.2 150) 25).toNat = m ∨ fl = 1 ∧ (sumI (s.2 150) 25).toNat < m) := by
          intro hs
          rcases hfl with ⟨h1, hE, h2⟩ | h1
          · refine Or.inl ⟨h1, fun j j0 j1 x1 x2 => ?_, h2⟩
            by_cases ej : j = k
            · subst ej
              rcases hs with h | h | h
              · exact absurd h x1
              · rw [h] at x2; cases x2
              · exact h
            · exact hE j j0 (by omega) x1 x2
          · exact Or.inr h1
        rw [B_X12_laysFar_25]
        by_cases hs : sd S (k / 4) (k % 4) = -1
        · obtain ⟨s', g1, g2⟩ := ih s fl (by omega) e hF (stay (Or.inl hs))
          refine ⟨s', ?_, g2⟩
          simp (disch := first | assumption | omega) only [↓sm, ↓reduceIte, ↓if_pos, ↓if_neg, kI, kJ, kR, kV, w32_eq, w64_eq, reduceCtorEq, Int.reduceAdd, Int.reduceMul, Int.reduceSub, o_c141, ↓o_g141_0, ↓o_g141_1, ↓o_g141_5, ↓o_g141_6, ↓o_g141_7, ↓o_g141_8, ↓o_g141_9, ↓o_g141_21, ↓o_g141_25, ↓o_g141_26, ↓o_g141_27, ↓o_g141_28, ↓o_g141_29, ↓o_g141_30, ↓o_g141_31, ↓o_g141_34, ↓o_g141_35, ↓o_g141_36, ↓r_cellsOf e hw Z, idiv_eq, irem_eq, ↓r_sideOf e hw Z, hs, g1]
        · have r := sd_r hw hc0 hc1 hk0 hk1 hs
          cases hK : Kc S p (sd S (k / 4) (k % 4))
          · obtain ⟨s', g1, g2⟩ := ih s fl (by omega) e hF (stay (Or.inr (Or.inl hK)))
            have hK' : decide (ct S p (sd S (k / 4) (k % 4)) (S (74 + 6 * p + 1)) = 0) = false := hK
            refine ⟨s', ?_, g2⟩
            simp (disch := first | assumption | omega) only [↓sm, ↓reduceIte, ↓if_pos, ↓if_neg, kI, kJ, kR, kV, w32_eq, w64_eq, reduceCtorEq, Int.reduceAdd, Int.reduceMul, Int.reduceSub, o_c141, ↓o_g141_0, ↓o_g141_1, ↓o_g141_5, ↓o_g141_6, ↓o_g141_7, ↓o_g141_8, ↓o_g141_9, ↓o_g141_21, ↓o_g141_25, ↓o_g141_26, ↓o_g141_27, ↓o_g141_28, ↓o_g141_29, ↓o_g141_30, ↓o_g141_31, ↓o_g141_34, ↓o_g141_35, ↓o_g141_36, ↓r_cellsOf e hw Z, idiv_eq, irem_eq, ↓r_sideOf e hw Z, r_sideOf e hw Z, ↓r_isClear_f e hw Z, hs, g1]
          · have hK' : decide (ct S p (sd S (k / 4) (k % 4)) (S (74 + 6 * p + 1)) = 0) = true := hK
            have f1 := hF.2 (sd S (k / 4) (k % 4)) r.1 (by omega)
            have f2 := hF.2 (k / 4) hc0 (by omega)
            by_cases hlt : s.2 150 (sd S (k / 4) (k % 4)) + 1 < s.2 150 (k / 4)
            · have hto : k / 4 ≠ to := fun x => by
                have h0 : s.2 150 (k / 4) = 0 := by rw [x]; exact hF.1
                omega
              have e' : (uA s 150 (k / 4) (s.2 150 (sd S (k / 4) (k % 4)) + 1)).2 150 = mm_upd (s.2 150) (k / 4) (s.2 150 (sd S (k / 4) (k % 4)) + 1) := uA_s _ _ _ _
              have hF' : FI S (Kc S p) to ((uA s 150 (k / 4) (s.2 150 (sd S (k / 4) (k % 4)) + 1)).2 150) := by
                rw [e']
                refine ⟨by rw [up_ne (fun x => hto x.symm)]; exact hF.1, fun c c0 c1 => ?_⟩
                by_cases ec : c = k / 4
                · rw [up_eq ec]
                  refine ⟨by omega, by omega, fun _ => ?_⟩
                  rw [show (s.2 150 (sd S (k / 4) (k % 4)) + 1).toNat = (s.2 150 (sd S (k / 4) (k % 4))).toNat + 1 by omega, ec]
                  exact ⟨_, ⟨k % 4, hk0, hk1, rfl, hs⟩, hK, f1.2.2 (by omega)⟩
                · rw [up_ne ec]
                  exact hF.2 c c0 c1
              have g0 := sumI_ge (s.2 150) 1000000 25 (fun i i0 i1 => ⟨(hF.2 i i0 (by omega)).1, (hF.2 i i0 (by omega)).2.1⟩)
              have g0' := sumI_ge ((uA s 150 (k / 4) (s.2 150 (sd S (k / 4) (k % 4)) + 1)).2 150) 1000000 25 (fun i i0 i1 => ⟨(hF'.2 i i0 (by omega)).1, (hF'.2 i i0 (by omega)).2.1⟩)
              have hsum : (sumI ((uA s 150 (k / 4) (s.2 150 (sd S (k / 4) (k % 4)) + 1)).2 150) 25).toNat < m := by
                have := sum_dn (s.2 150) (v := s.2 150 (sd S (k / 4) (k % 4)) + 1) hc0 25 (by omega)
                rw [← e'] at this
                omega
              obtain ⟨s', g1, g2, g3, g4⟩ := ih (uA s 150 (k / 4) (s.2 150 (sd S (k / 4) (k % 4)) + 1)) 1 (by omega) ((uA_n s (by decide) _ _).trans e) hF' (Or.inr ⟨rfl, hsum⟩)
              refine ⟨s', ?_, g2, g3, Ag_trans (Ag_uA (Ag_refl _ _ _) a150_ _ _) g4⟩
              simp (disch := first | assumption | omega) only [↓sm, ↓reduceIte, ↓if_pos, ↓if_neg, kI, kJ, kR, kV, w32_eq, w64_eq, reduceCtorEq, Int.reduceAdd, Int.reduceMul, Int.reduceSub, o_c141, ↓o_g141_0, ↓o_g141_1, ↓o_g141_5, ↓o_g141_6, ↓o_g141_7, ↓o_g141_8, ↓o_g141_9, ↓o_g141_21, ↓o_g141_25, ↓o_g141_26, ↓o_g141_27, ↓o_g141_28, ↓o_g141_29, ↓o_g141_30, ↓o_g141_31, ↓o_g141_34, ↓o_g141_35, ↓o_g141_36, ↓r_cellsOf e hw Z, idiv_eq, irem_eq, ↓r_sideOf e hw Z, r_sideOf e hw Z, ↓r_isClear_t e hw Z, hs, ↓a_ld150, a_ld150, a_st150, g1]
            · obtain ⟨s', g1, g2⟩ := ih s fl (by omega) e hF (stay (Or.inr (Or.inr (by omega))))
              refine ⟨s', ?_, g2⟩
              simp (disch := first | assumption | omega) only [↓sm, ↓reduceIte, ↓if_pos, ↓if_neg, kI, kJ, kR, kV, w32_eq, w64_eq, reduceCtorEq, Int.reduceAdd, Int.reduceMul, Int.reduceSub, o_c141, ↓o_g141_0, ↓o_g141_1, ↓o_g141_5, ↓o_g141_6, ↓o_g141_7, ↓o_g141_8, ↓o_g141_9, ↓o_g141_21, ↓o_g141_25, ↓o_g141_26, ↓o_g141_27, ↓o_g141_28, ↓o_g141_29, ↓o_g141_30, ↓o_g141_31, ↓o_g141_34, ↓o_g141_35, ↓o_g141_36, ↓r_cellsOf e hw Z, idiv_eq, irem_eq, ↓r_sideOf e hw Z, r_sideOf e hw Z, ↓r_isClear_t e hw Z, hs, ↓a_ld150, a_ld150, g1]
    obtain ⟨s', g1, g2⟩ := inner 0 (by omega) s 0 (by omega) e hF (Or.inl ⟨rfl, fun j j0 j1 => by omega, hm⟩)
    refine ⟨s', ?_, g2⟩
    rw [B_X12_laysFar_19]
    simp (disch := first | assumption | omega) only [↓sm, ↓reduceIte, ↓if_pos, ↓if_neg, kI, kJ, kR, kV, w32_eq, w64_eq, reduceCtorEq, Int.reduceAdd, Int.reduceMul, Int.reduceSub, g1]
theorem Ed_FD {S : Int → Int} (hw : WF S) {K : Int → Bool} {to : Int} {F : Int → Int} (hF : FI S K to F) (hE : Ed S K F (4 * ncl S)) : FD S K to F := by
  have n := wf_n hw
  intro c c0 c1
  have h := hF.2 c c0 (by omega)
  refine ⟨h.1, h.2.1, h.2.2, ?_⟩
  have key : ∀ (k : Nat) (c : Int), 0 ≤ c → c < ncl S → Wk S K k c to → F c ≤ k := by
    intro k
    induction k with
    | zero =>
      intro c _ _ hW
      cases hW
      rw [hF.1]
      exact Int.le_refl _
    | succ k ih =>
      rintro c c0 c1 ⟨d, b, hk, hW⟩
      have r := Bs_r hw c0 c1 b
      obtain ⟨x, x0, x1, ex, hx⟩ := b
      have := ih d r.1 r.2 hW
      have g := hE (4 * c + x) (by omega) (by omega)
      rw [show (4 * c + x) / 4 = c by omega, show (4 * c + x) % 4 = x by omega, ex] at g
      have := g hx hk
      omega
  exact fun k hW => key k c c0 c1 hW
theorem r_laysFar {s : mS} {S : Int → Int} (e : s.2 142 = S) (hw : WF S) (Z : mX) (p to : Int) (p0 : 0 ≤ p) (p1 : p < S 3) (t0 : 0 ≤ to) (t1 : to < ncl S) : ∃ s', (∀ f : mW → mO, mm_kV (mm_run (zP Z) 309 [.inr (.inr (some 141)), .inl p, .inl to] (mk s)) f = f (mk s')) ∧ FD S (Kc S p) to (s'.2 150) ∧ Ag a150 noF s s' := by
  have n := wf_n hw
  obtain ⟨s1, a1, a2, a3⟩ := lp_farI Z p to 0 (by omega) s (by omega) (fun c c0 c1 => by omega)
  have e1 : s1.2 142 = S := (a3.1 142 (by unfold a150; omega)).trans e
  have hF : FI S (Kc S p) to (s1.2 150) := by
    refine ⟨by rw [a2 to t0 (by omega), if_pos rfl], fun c c0 c1 => ?_⟩
    rw [a2 c c0 c1]
    by_cases ec : c = to
    · rw [if_pos ec]
      exact ⟨by omega, by omega, fun _ => ec⟩
    · rw [if_neg ec]
      exact ⟨by omega, by omega, fun h => by omega⟩
  obtain ⟨s', g1, g2, g3, g4⟩ := lp_farP hw Z p to p0 p1 t0 t1 _ s1 e1 hF rfl
  refine ⟨s', fun f => ?_, Ed_FD hw g2 g3, Ag_trans a3 g4⟩
  rw [B_X12_laysFar, a1, g1, kV]
theorem Ag_142 {F : Nat → Nat → Prop} {s t : mS} (h : Ag a150 F s t) : t.2 142 = s.2 142 := h.1 142 (by unfold a150; omega)
/-- by how many steps, in the reference's words -/
theorem r_stepsTo {s : mS} {S : Int → Int} (e : s.2 142 = S) (hw : WF S) (Z : mX) (p to : Int) (p0 : 0 ≤ p) (p1 : p < S 3) (t0 : 0 ≤ to) (t1 : to < ncl S) : ∃ s' F, (∀ f : Int → mW → mO, mm_kI (mm_run (zP Z) 310 [.inr (.inr (some 141)), .inl p, .inl to] (mk s)) f = f (if 0 < S (74 + 6 * p + 3) ∧ S (74 + 6 * p) ≠ to then 1000000 else F (S (74 + 6 * p))) (mk s')) ∧ s'.2 150 = F ∧ FD S (Kc S p) to F ∧ Ag a150 noF s s' := by
  have w := wf0 hw
  have n := wf_n hw
  have wp := wf_p hw p0 p1
  obtain ⟨s', g1, g2, g3⟩ := r_laysFar e hw Z p to p0 p1 t0 t1
  have e' : s'.2 142 = S := (Ag_142 g3).trans e
  refine ⟨s', s'.2 150, fun f => ?_, rfl, g2, g3⟩
  by_cases hc : 0 < S (74 + 6 * p + 3)
  · by_cases ha : S (74 + 6 * p) = to
    · rw [if_neg (fun x => x.2 ha), B_X12_stepsTo]
      have e := e'
      simp (disch := first | assumption | omega) only [↓sm, ↓reduceIte, ↓if_pos, ↓if_neg, kI, kJ, kR, kV, w32_eq, w64_eq, reduceCtorEq, Int.reduceAdd, Int.reduceMul, Int.reduceSub, o_c141, ↓o_g141_0, ↓o_g141_1, ↓o_g141_5, ↓o_g141_6, ↓o_g141_7, ↓o_g141_8, ↓o_g141_9, ↓o_g141_21, ↓o_g141_25, ↓o_g141_26, ↓o_g141_27, ↓o_g141_28, ↓o_g141_29, ↓o_g141_30, ↓o_g141_31, ↓o_g141_34, ↓o_g141_35, ↓o_g141_36, ↓g1, ↓r_pupilAt e hw Z, ↓r_at e, ↓r_atw e, ↓r_cellsOf e hw Z, ↓r_isCell_t e hw Z, ↓r_isCell_f e hw Z, ↓r_isLesson_t e hw Z, ↓r_isLesson_f e hw Z, ↓r_isPupil_t e hw Z, ↓r_isPupil_f e hw Z, ↓r_pupilOf e hw Z, ↓r_needsOf e hw Z, ↓r_catchBy e hw Z, ↓r_catchOf e hw Z, ↓r_isCaught_t e hw Z, ↓r_isCaught_f e hw Z, ↓r_allCaught e hw Z, ↓r_whoIs0 e hw Z, ↓r_whoIs1 e hw Z, ↓r_sideOf e hw Z, ↓r_isNear e hw Z, ↓r_nextLesson e hw Z, ↓r_canFree e hw Z, ↓r_nearTo e hw Z, ↓r_isIn Z, ↓r_pupilRow Z, ↓r_lessonRow Z, ↓k_bits Z, B_X12_stepsTo_16, ↓a_ld150]
    · rw [if_pos ⟨hc, ha⟩, B_X12_stepsTo]
      have e := e'
      simp (disch := first | assumption | omega) only [↓sm, ↓reduceIte, ↓if_pos, ↓if_neg, kI, kJ, kR, kV, w32_eq, w64_eq, reduceCtorEq, Int.reduceAdd, Int.reduceMul, Int.reduceSub, o_c141, ↓o_g141_0, ↓o_g141_1, ↓o_g141_5, ↓o_g141_6, ↓o_g141_7, ↓o_g141_8, ↓o_g141_9, ↓o_g141_21, ↓o_g141_25, ↓o_g141_26, ↓o_g141_27, ↓o_g141_28, ↓o_g141_29, ↓o_g141_30, ↓o_g141_31, ↓o_g141_34, ↓o_g141_35, ↓o_g141_36, ↓g1, ↓r_pupilAt e hw Z, ↓r_at e, ↓r_atw e, ↓r_cellsOf e hw Z, ↓r_isCell_t e hw Z, ↓r_isCell_f e hw Z, ↓r_isLesson_t e hw Z, ↓r_isLesson_f e hw Z, ↓r_isPupil_t e hw Z, ↓r_isPupil_f e hw Z, ↓r_pupilOf e hw Z, ↓r_needsOf e hw Z, ↓r_catchBy e hw Z, ↓r_catchOf e hw Z, ↓r_isCaught_t e hw Z, ↓r_isCaught_f e hw Z, ↓r_allCaught e hw Z, ↓r_whoIs0 e hw Z, ↓r_whoIs1 e hw Z, ↓r_sideOf e hw Z, ↓r_isNear e hw Z, ↓r_nextLesson e hw Z, ↓r_canFree e hw Z, ↓r_nearTo e hw Z, ↓r_isIn Z, ↓r_pupilRow Z, ↓r_lessonRow Z, ↓k_bits Z, ha]
  · rw [if_neg (fun x => hc x.1), B_X12_stepsTo]
    have e := e'
    simp (disch := first | assumption | omega) only [↓sm, ↓reduceIte, ↓if_pos, ↓if_neg, kI, kJ, kR, kV, w32_eq, w64_eq, reduceCtorEq, Int.reduceAdd, Int.reduceMul, Int.reduceSub, o_c141, ↓o_g141_0, ↓o_g141_1, ↓o_g141_5, ↓o_g141_6, ↓o_g141_7, ↓o_g141_8, ↓o_g141_9, ↓o_g141_21, ↓o_g141_25, ↓o_g141_26, ↓o_g141_27, ↓o_g141_28, ↓o_g141_29, ↓o_g141_30, ↓o_g141_31, ↓o_g141_34, ↓o_g141_35, ↓o_g141_36, ↓g1, ↓r_pupilAt e hw Z, ↓r_at e, ↓r_atw e, ↓r_cellsOf e hw Z, ↓r_isCell_t e hw Z, ↓r_isCell_f e hw Z, ↓r_isLesson_t e hw Z, ↓r_isLesson_f e hw Z, ↓r_isPupil_t e hw Z, ↓r_isPupil_f e hw Z, ↓r_pupilOf e hw Z, ↓r_needsOf e hw Z, ↓r_catchBy e hw Z, ↓r_catchOf e hw Z, ↓r_isCaught_t e hw Z, ↓r_isCaught_f e hw Z, ↓r_allCaught e hw Z, ↓r_whoIs0 e hw Z, ↓r_whoIs1 e hw Z, ↓r_sideOf e hw Z, ↓r_isNear e hw Z, ↓r_nextLesson e hw Z, ↓r_canFree e hw Z, ↓r_nearTo e hw Z, ↓r_isIn Z, ↓r_pupilRow Z, ↓r_lessonRow Z, ↓k_bits Z, B_X12_stepsTo_16, ↓a_ld150]
