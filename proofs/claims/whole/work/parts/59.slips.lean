/-! chance, slips -/
theorem pw_r {b n : Int} (b0 : 0 ≤ b) (b1 : b ≤ 16) (n0 : 0 ≤ n) (n1 : n ≤ 15) : 0 ≤ b ^ n.toNat ∧ b ^ n.toNat ≤ 1152921504606846976 := by
  have key : ∀ b : Nat, b < 17 → ∀ k : Nat, k < 16 → b ^ k ≤ 1152921504606846976 := by decide +kernel
  have g := key b.toNat (by omega) n.toNat (by omega)
  have e : b ^ n.toNat = ((b.toNat ^ n.toNat : Nat) : Int) := by
    rw [Int.natCast_pow, Int.toNat_of_nonneg b0]
  rw [e]
  omega
theorem pw_s (b : Int) {n : Int} (n0 : 0 ≤ n) : b ^ (n + 1).toNat = b ^ n.toNat * b := by rw [show (n + 1).toNat = n.toNat + 1 by omega, Int.pow_succ]
theorem lp_chance {s : mS} {S : Int → Int} (e : s.2 142 = S) (hw : WF S) (Z : mX) (v : Int) (v0 : 0 ≤ v) (v1 : v ≤ 15) (T U : Int) (hT : ∀ (t : mS) (f : Int → mW → mO), mm_kI (mm_run (zP Z) 219 [.inr (.inr (some 141)), .inr (.inl (((16 - S 4) ^ v.toNat))), .inr (.inl ((16 ^ v.toNat)))] (mk t)) f = f 1 (mk (uF (uF (uF t 141 3 T) 141 4 U) 141 2 0))) :
    ∀ i : Int, i ≤ v → 0 ≤ i → mm_at (zP Z) 346 30 [some (.inr (.inr (some 141))), none, none, some (.inl v), some (.inr (.inl (((16 - S 4) ^ i.toNat)))), none, some (.inr (.inl ((16 ^ i.toNat)))), none, some (.inl i)] [] (mk s) = some (some (.inl 1), mk (uF (uF (uF s 141 3 T) 141 4 U) 141 2 0)) := by
  have w := wf0 hw
  refine up ?_ ?_
  · intro i0
    rw [B_X12_chance_30]
    simp (disch := first | assumption | omega) only [↓sm, ↓reduceIte, ↓if_pos, ↓if_neg, kI, kJ, kR, kV, w32_eq, w64_eq, reduceCtorEq, Int.reduceAdd, Int.reduceMul, Int.reduceSub, o_c141, ↓o_g141_0, ↓o_g141_1, ↓o_g141_5, ↓o_g141_6, ↓o_g141_7, ↓o_g141_8, ↓o_g141_9, ↓o_g141_21, ↓o_g141_25, ↓o_g141_26, ↓o_g141_27, ↓o_g141_28, ↓o_g141_29, ↓o_g141_30, ↓o_g141_31, ↓o_g141_34, ↓o_g141_35, ↓o_g141_36, ↓hT]
  · intro i hi ih i0
    have g := ih (by omega)
    have r1 := pw_r (b := 16 - S 4) (by omega) (by omega) (n := i + 1) (by omega) (by omega)
    have r2 := pw_r (b := 16) (by omega) (by omega) (n := i + 1) (by omega) (by omega)
    rw [pw_s _ i0] at r1 r2 g
    rw [pw_s 16 i0] at g
    rw [B_X12_chance_30]
    simp (disch := first | assumption | omega) only [↓sm, ↓reduceIte, ↓if_pos, ↓if_neg, kI, kJ, kR, kV, w32_eq, w64_eq, reduceCtorEq, Int.reduceAdd, Int.reduceMul, Int.reduceSub, o_c141, ↓o_g141_0, ↓o_g141_1, ↓o_g141_5, ↓o_g141_6, ↓o_g141_7, ↓o_g141_8, ↓o_g141_9, ↓o_g141_21, ↓o_g141_25, ↓o_g141_26, ↓o_g141_27, ↓o_g141_28, ↓o_g141_29, ↓o_g141_30, ↓o_g141_31, ↓o_g141_34, ↓o_g141_35, ↓o_g141_36, ↓r_at e, g]
theorem op_chance (Z : mX) (s : mS) (hI : Inv s) (p c : Int) : OpI Z s 182 346 [.inl p, .inl c] := by
  have h := hI.2.2.1.2
  have hw := hI.2.2.1.1
  have n := wf_n hw
  have w := wf0 hw
  by_cases hp : 0 ≤ p ∧ p < s.2 142 3
  · by_cases hc : 0 ≤ c ∧ c < ncl (s.2 142)
    · by_cases hf : frS (s.2 142) p c = -1 ∨ 15 < frS (s.2 142) p c
      · refine op_rds hI 0 6 s (fun f => ?_) (Ag_refl _ _ _) (fun t e => ?_)
        · rw [B_X11_chance]
          by_cases hf1 : frS (s.2 142) p c = -1
          · simp (disch := first | assumption | omega) only [↓sm, ↓reduceIte, ↓if_pos, ↓if_neg, kI, kJ, kR, kV, w32_eq, w64_eq, reduceCtorEq, Int.reduceAdd, Int.reduceMul, Int.reduceSub, o_c3, ↓o_g3_0, ↓o_g3_1, ↓o_g3_2, ↓o_g3_3, ↓o_g3_4, ↓o_g3_5, ↓o_g3_6, ↓o_g3_7, ↓o_g3_8, ↓o_g3_9, ↓o_g3_10, ↓o_g3_11, ↓o_g3_12, ↓o_g3_13, ↓o_g3_14, ↓o_g3_15, ↓o_g3_16, ↓o_g3_17, ↓a_ln4, ↓a_ld4, ↓a_ln61, ↓a_ld61, ↓a_ln62, ↓a_ld62, o_c7, ↓o_g7_4, ↓o_g7_5, ↓o_g7_7, ↓o_g7_8, ↓o_g7_9, ↓o_g7_11, ↓o_g7_12, ↓o_g7_13, ↓o_g7_14, ↓o_g7_15, ↓o_g7_16, ↓o_g7_17, ↓q_wide h, ↓q_high h, ↓q_odds h, ↓q_year h, ↓q_less h, ↓q_pups h, ↓q_thorns h Z, ↓q_berries h Z, ↓q_hours h hw Z, ↓q_needs h hw Z, ↓q_at h hw Z, ↓q_want h hw Z, ↓q_knows h hw Z, ↓q_caught h hw Z, ↓q_marks h hw Z, ↓q_torn h hw Z, ↓c_cells h hw Z, ↓c_hasCell_t h hw Z, ↓c_hasCell_f h hw Z, ↓c_hasLesson_t h hw Z, ↓c_hasLesson_f h hw Z, ↓c_hasPupil_t h hw Z, ↓c_hasPupil_f h hw Z, ↓c_isCellNumber_t h hw Z, ↓c_isCellNumber_f h hw Z, ↓c_beside h hw Z, ↓c_touch h hw Z, ↓c_catchOf h hw Z, ↓c_clearSet h hw Z, ↓c_isCaught_t h hw Z, ↓c_isCaught_f h hw Z, ↓c_caughtSet h hw Z, ↓c_pupilsAt h hw Z, ↓c_pupilsWhoKnow h hw Z, ↓c_areNear h hw Z, ↓c_canHelp h hw Z, ↓c_helperSet h hw Z, ↓c_nextLesson h hw Z, ↓c_isNearSome h hw Z, ↓c_freedSet h hw Z, ↓d_none Z, ↓d_done Z, ↓d_refused Z, ↓d_granted Z, o_c66, ↓c_steps h hw Z, hf1]
          · simp (disch := first | assumption | omega) only [↓sm, ↓reduceIte, ↓if_pos, ↓if_neg, kI, kJ, kR, kV, w32_eq, w64_eq, reduceCtorEq, Int.reduceAdd, Int.reduceMul, Int.reduceSub, o_c3, ↓o_g3_0, ↓o_g3_1, ↓o_g3_2, ↓o_g3_3, ↓o_g3_4, ↓o_g3_5, ↓o_g3_6, ↓o_g3_7, ↓o_g3_8, ↓o_g3_9, ↓o_g3_10, ↓o_g3_11, ↓o_g3_12, ↓o_g3_13, ↓o_g3_14, ↓o_g3_15, ↓o_g3_16, ↓o_g3_17, ↓a_ln4, ↓a_ld4, ↓a_ln61, ↓a_ld61, ↓a_ln62, ↓a_ld62, o_c7, ↓o_g7_4, ↓o_g7_5, ↓o_g7_7, ↓o_g7_8, ↓o_g7_9, ↓o_g7_11, ↓o_g7_12, ↓o_g7_13, ↓o_g7_14, ↓o_g7_15, ↓o_g7_16, ↓o_g7_17, ↓q_wide h, ↓q_high h, ↓q_odds h, ↓q_year h, ↓q_less h, ↓q_pups h, ↓q_thorns h Z, ↓q_berries h Z, ↓q_hours h hw Z, ↓q_needs h hw Z, ↓q_at h hw Z, ↓q_want h hw Z, ↓q_knows h hw Z, ↓q_caught h hw Z, ↓q_marks h hw Z, ↓q_torn h hw Z, ↓c_cells h hw Z, ↓c_hasCell_t h hw Z, ↓c_hasCell_f h hw Z, ↓c_hasLesson_t h hw Z, ↓c_hasLesson_f h hw Z, ↓c_hasPupil_t h hw Z, ↓c_hasPupil_f h hw Z, ↓c_isCellNumber_t h hw Z, ↓c_isCellNumber_f h hw Z, ↓c_beside h hw Z, ↓c_touch h hw Z, ↓c_catchOf h hw Z, ↓c_clearSet h hw Z, ↓c_isCaught_t h hw Z, ↓c_isCaught_f h hw Z, ↓c_caughtSet h hw Z, ↓c_pupilsAt h hw Z, ↓c_pupilsWhoKnow h hw Z, ↓c_areNear h hw Z, ↓c_canHelp h hw Z, ↓c_helperSet h hw Z, ↓c_nextLesson h hw Z, ↓c_isNearSome h hw Z, ↓c_freedSet h hw Z, ↓d_none Z, ↓d_done Z, ↓d_refused Z, ↓d_granted Z, o_c66, ↓c_steps h hw Z]
        · obtain ⟨t', F, g1, g2, g3, g4⟩ := r_stepsTo e hw Z p c hp.1 hp.2 hc.1 hc.2
          have g1' : ∀ f : Int → mW → mO, mm_kI (mm_run (zP Z) 310 [.inr (.inr (some 141)), .inl p, .inl c] (mk t)) f = f (stV (s.2 142) p c F) (mk t') := g1
          have r := stV_r hw hp.1 hp.2 g3
          have q := frS_FD hw hp.1 hp.2 hc.1 hc.2 g3
          have hlt : 15 < stV (s.2 142) p c F := by
            by_cases hx : stV (s.2 142) p c F < 1000000
            · rw [if_pos hx] at q; omega
            · omega
          refine ⟨t', fun f => ?_, a150_rsc g4⟩
          rw [B_X12_chance]
          simp (disch := first | assumption | omega) only [↓sm, ↓reduceIte, ↓if_pos, ↓if_neg, kI, kJ, kR, kV, w32_eq, w64_eq, reduceCtorEq, Int.reduceAdd, Int.reduceMul, Int.reduceSub, o_c141, ↓o_g141_0, ↓o_g141_1, ↓o_g141_5, ↓o_g141_6, ↓o_g141_7, ↓o_g141_8, ↓o_g141_9, ↓o_g141_21, ↓o_g141_25, ↓o_g141_26, ↓o_g141_27, ↓o_g141_28, ↓o_g141_29, ↓o_g141_30, ↓o_g141_31, ↓o_g141_34, ↓o_g141_35, ↓o_g141_36, ↓r_pupilAt e hw Z, ↓r_at e, ↓r_atw e, ↓r_cellsOf e hw Z, ↓r_isCell_t e hw Z, ↓r_isCell_f e hw Z, ↓r_isLesson_t e hw Z, ↓r_isLesson_f e hw Z, ↓r_isPupil_t e hw Z, ↓r_isPupil_f e hw Z, ↓r_pupilOf e hw Z, ↓r_needsOf e hw Z, ↓r_catchBy e hw Z, ↓r_catchOf e hw Z, ↓r_isCaught_t e hw Z, ↓r_isCaught_f e hw Z, ↓r_allCaught e hw Z, ↓r_whoIs0 e hw Z, ↓r_whoIs1 e hw Z, ↓r_sideOf e hw Z, ↓r_isNear e hw Z, ↓r_nextLesson e hw Z, ↓r_canFree e hw Z, ↓r_nearTo e hw Z, ↓r_isIn Z, ↓r_pupilRow Z, ↓r_lessonRow Z, ↓k_bits Z, ↓d_refuse Z, ↓d_gives Z, ↓d_is0 Z, ↓d_is1 Z, ↓d_isFrom_t Z, ↓d_isFrom_f Z, ↓d_orNone_t Z, ↓d_orNone_f Z, ↓g1']
      · have hf1 : ¬ frS (s.2 142) p c = -1 := fun x => hf (Or.inl x)
        have hf2 : frS (s.2 142) p c ≤ 15 := by omega
        have hf3 : 0 ≤ frS (s.2 142) p c := by
          unfold frS
          rcases stf_spec (nx (s.2 142) (if 0 < s.2 142 (74 + 6 * p + 3) then 0 else clr (s.2 142) p (s.2 142 (74 + 6 * p + 1)))) c 25 0 (mm_ishl 1 (s.2 142 (74 + 6 * p))) with ⟨x, _⟩ | ⟨j, x1, x2, _⟩
          · exact absurd x hf1
          · omega
        have r1 := pw_r (b := 16 - s.2 142 4) (by omega) (by omega) hf3 hf2
        have r2 := pw_r (b := 16) (by omega) (by omega) hf3 hf2
        have r3 : (0 : Int) < 16 ^ (frS (s.2 142) p c).toNat := Int.pow_pos (by decide)
        obtain ⟨T, U, hT1, hT2⟩ := tell Z ((16 - s.2 142 4) ^ (frS (s.2 142) p c).toNat) (16 ^ (frS (s.2 142) p c).toNat) r1.1 r3 (by omega)
        refine op_fr hI 1 0 T U s (fun f => ?_) (Ag_refl _ _ _) (fun t e => ?_)
        · rw [B_X11_chance]
          simp (disch := first | assumption | omega) only [↓sm, ↓reduceIte, ↓if_pos, ↓if_neg, kI, kJ, kR, kV, w32_eq, w64_eq, reduceCtorEq, Int.reduceAdd, Int.reduceMul, Int.reduceSub, o_c3, ↓o_g3_0, ↓o_g3_1, ↓o_g3_2, ↓o_g3_3, ↓o_g3_4, ↓o_g3_5, ↓o_g3_6, ↓o_g3_7, ↓o_g3_8, ↓o_g3_9, ↓o_g3_10, ↓o_g3_11, ↓o_g3_12, ↓o_g3_13, ↓o_g3_14, ↓o_g3_15, ↓o_g3_16, ↓o_g3_17, ↓a_ln4, ↓a_ld4, ↓a_ln61, ↓a_ld61, ↓a_ln62, ↓a_ld62, o_c7, ↓o_g7_4, ↓o_g7_5, ↓o_g7_7, ↓o_g7_8, ↓o_g7_9, ↓o_g7_11, ↓o_g7_12, ↓o_g7_13, ↓o_g7_14, ↓o_g7_15, ↓o_g7_16, ↓o_g7_17, ↓q_wide h, ↓q_high h, ↓q_odds h, ↓q_year h, ↓q_less h, ↓q_pups h, ↓q_thorns h Z, ↓q_berries h Z, ↓q_hours h hw Z, ↓q_needs h hw Z, ↓q_at h hw Z, ↓q_want h hw Z, ↓q_knows h hw Z, ↓q_caught h hw Z, ↓q_marks h hw Z, ↓q_torn h hw Z, ↓c_cells h hw Z, ↓c_hasCell_t h hw Z, ↓c_hasCell_f h hw Z, ↓c_hasLesson_t h hw Z, ↓c_hasLesson_f h hw Z, ↓c_hasPupil_t h hw Z, ↓c_hasPupil_f h hw Z, ↓c_isCellNumber_t h hw Z, ↓c_isCellNumber_f h hw Z, ↓c_beside h hw Z, ↓c_touch h hw Z, ↓c_catchOf h hw Z, ↓c_clearSet h hw Z, ↓c_isCaught_t h hw Z, ↓c_isCaught_f h hw Z, ↓c_caughtSet h hw Z, ↓c_pupilsAt h hw Z, ↓c_pupilsWhoKnow h hw Z, ↓c_areNear h hw Z, ↓c_canHelp h hw Z, ↓c_helperSet h hw Z, ↓c_nextLesson h hw Z, ↓c_isNearSome h hw Z, ↓c_freedSet h hw Z, ↓d_none Z, ↓d_done Z, ↓d_refused Z, ↓d_granted Z, o_c66, ↓c_steps h hw Z, hf1, k_power Z, ↓k_power Z, ↓hT1, hT1]
        · obtain ⟨t', F, g1, g2, g3, g4⟩ := r_stepsTo e hw Z p c hp.1 hp.2 hc.1 hc.2
          have g1' : ∀ f : Int → mW → mO, mm_kI (mm_run (zP Z) 310 [.inr (.inr (some 141)), .inl p, .inl c] (mk t)) f = f (stV (s.2 142) p c F) (mk t') := g1
          have q := frS_FD hw hp.1 hp.2 hc.1 hc.2 g3
          have hlt : stV (s.2 142) p c F < 1000000 := by
            apply Classical.byContradiction
            intro x
            rw [if_neg x] at q
            exact hf1 q
          rw [if_pos hlt] at q
          have e' : t'.2 142 = s.2 142 := (Ag_142 g4).trans e
          have l := lp_chance e' hw Z (frS (s.2 142) p c) hf3 hf2 T U hT2 0 hf3 (by omega)
          rw [show Int.toNat 0 = 0 from rfl, Int.pow_zero, Int.pow_zero] at l
          refine ⟨t', fun f => ?_, a150_rsc g4⟩
          rw [B_X12_chance]
          rw [q] at l
          simp (disch := first | assumption | omega) only [↓sm, ↓reduceIte, ↓if_pos, ↓if_neg, kI, kJ, kR, kV, w32_eq, w64_eq, reduceCtorEq, Int.reduceAdd, Int.reduceMul, Int.reduceSub, o_c141, ↓o_g141_0, ↓o_g141_1, ↓o_g141_5, ↓o_g141_6, ↓o_g141_7, ↓o_g141_8, ↓o_g141_9, ↓o_g141_21, ↓o_g141_25, ↓o_g141_26, ↓o_g141_27, ↓o_g141_28, ↓o_g141_29, ↓o_g141_30, ↓o_g141_31, ↓o_g141_34, ↓o_g141_35, ↓o_g141_36, ↓r_pupilAt e hw Z, ↓r_at e, ↓r_atw e, ↓r_cellsOf e hw Z, ↓r_isCell_t e hw Z, ↓r_isCell_f e hw Z, ↓r_isLesson_t e hw Z, ↓r_isLesson_f e hw Z, ↓r_isPupil_t e hw Z, ↓r_isPupil_f e hw Z, ↓r_pupilOf e hw Z, ↓r_needsOf e hw Z, ↓r_catchBy e hw Z, ↓r_catchOf e hw Z, ↓r_isCaught_t e hw Z, ↓r_isCaught_f e hw Z, ↓r_allCaught e hw Z, ↓r_whoIs0 e hw Z, ↓r_whoIs1 e hw Z, ↓r_sideOf e hw Z, ↓r_isNear e hw Z, ↓r_nextLesson e hw Z, ↓r_canFree e hw Z, ↓r_nearTo e hw Z, ↓r_isIn Z, ↓r_pupilRow Z, ↓r_lessonRow Z, ↓k_bits Z, ↓d_refuse Z, ↓d_gives Z, ↓d_is0 Z, ↓d_is1 Z, ↓d_isFrom_t Z, ↓d_isFrom_f Z, ↓d_orNone_t Z, ↓d_orNone_f Z, ↓g1', l]
    · refine op_rd hI 0 1 (fun f => ?_) (fun t e f => ?_)
      · rw [B_X11_chance]
        simp (disch := first | assumption | omega) only [↓sm, ↓reduceIte, ↓if_pos, ↓if_neg, kI, kJ, kR, kV, w32_eq, w64_eq, reduceCtorEq, Int.reduceAdd, Int.reduceMul, Int.reduceSub, o_c3, ↓o_g3_0, ↓o_g3_1, ↓o_g3_2, ↓o_g3_3, ↓o_g3_4, ↓o_g3_5, ↓o_g3_6, ↓o_g3_7, ↓o_g3_8, ↓o_g3_9, ↓o_g3_10, ↓o_g3_11, ↓o_g3_12, ↓o_g3_13, ↓o_g3_14, ↓o_g3_15, ↓o_g3_16, ↓o_g3_17, ↓a_ln4, ↓a_ld4, ↓a_ln61, ↓a_ld61, ↓a_ln62, ↓a_ld62, o_c7, ↓o_g7_4, ↓o_g7_5, ↓o_g7_7, ↓o_g7_8, ↓o_g7_9, ↓o_g7_11, ↓o_g7_12, ↓o_g7_13, ↓o_g7_14, ↓o_g7_15, ↓o_g7_16, ↓o_g7_17, ↓q_wide h, ↓q_high h, ↓q_odds h, ↓q_year h, ↓q_less h, ↓q_pups h, ↓q_thorns h Z, ↓q_berries h Z, ↓q_hours h hw Z, ↓q_needs h hw Z, ↓q_at h hw Z, ↓q_want h hw Z, ↓q_knows h hw Z, ↓q_caught h hw Z, ↓q_marks h hw Z, ↓q_torn h hw Z, ↓c_cells h hw Z, ↓c_hasCell_t h hw Z, ↓c_hasCell_f h hw Z, ↓c_hasLesson_t h hw Z, ↓c_hasLesson_f h hw Z, ↓c_hasPupil_t h hw Z, ↓c_hasPupil_f h hw Z, ↓c_isCellNumber_t h hw Z, ↓c_isCellNumber_f h hw Z, ↓c_beside h hw Z, ↓c_touch h hw Z, ↓c_catchOf h hw Z, ↓c_clearSet h hw Z, ↓c_isCaught_t h hw Z, ↓c_isCaught_f h hw Z, ↓c_caughtSet h hw Z, ↓c_pupilsAt h hw Z, ↓c_pupilsWhoKnow h hw Z, ↓c_areNear h hw Z, ↓c_canHelp h hw Z, ↓c_helperSet h hw Z, ↓c_nextLesson h hw Z, ↓c_isNearSome h hw Z, ↓c_freedSet h hw Z, ↓d_none Z, ↓d_done Z, ↓d_refused Z, ↓d_granted Z]
      · rw [B_X12_chance]
        simp (disch := first | assumption | omega) only [↓sm, ↓reduceIte, ↓if_pos, ↓if_neg, kI, kJ, kR, kV, w32_eq, w64_eq, reduceCtorEq, Int.reduceAdd, Int.reduceMul, Int.reduceSub, o_c141, ↓o_g141_0, ↓o_g141_1, ↓o_g141_5, ↓o_g141_6, ↓o_g141_7, ↓o_g141_8, ↓o_g141_9, ↓o_g141_21, ↓o_g141_25, ↓o_g141_26, ↓o_g141_27, ↓o_g141_28, ↓o_g141_29, ↓o_g141_30, ↓o_g141_31, ↓o_g141_34, ↓o_g141_35, ↓o_g141_36, ↓r_pupilAt e hw Z, ↓r_at e, ↓r_atw e, ↓r_cellsOf e hw Z, ↓r_isCell_t e hw Z, ↓r_isCell_f e hw Z, ↓r_isLesson_t e hw Z, ↓r_isLesson_f e hw Z, ↓r_isPupil_t e hw Z, ↓r_isPupil_f e hw Z, ↓r_pupilOf e hw Z, ↓r_needsOf e hw Z, ↓r_catchBy e hw Z, ↓r_catchOf e hw Z, ↓r_isCaught_t e hw Z, ↓r_isCaught_f e hw Z, ↓r_allCaught e hw Z, ↓r_whoIs0 e hw Z, ↓r_whoIs1 e hw Z, ↓r_sideOf e hw Z, ↓r_isNear e hw Z, ↓r_nextLesson e hw Z, ↓r_canFree e hw Z, ↓r_nearTo e hw Z, ↓r_isIn Z, ↓r_pupilRow Z, ↓r_lessonRow Z, ↓k_bits Z, ↓d_refuse Z, ↓d_gives Z, ↓d_is0 Z, ↓d_is1 Z, ↓d_isFrom_t Z, ↓d_isFrom_f Z, ↓d_orNone_t Z, ↓d_orNone_f Z]
  · refine op_rd hI 0 1 (fun f => ?_) (fun t e f => ?_)
    · rw [B_X11_chance]
      simp (disch := first | assumption | omega) only [↓sm, ↓reduceIte, ↓if_pos, ↓if_neg, kI, kJ, kR, kV, w32_eq, w64_eq, reduceCtorEq, Int.reduceAdd, Int.reduceMul, Int.reduceSub, o_c3, ↓o_g3_0, ↓o_g3_1, ↓o_g3_2, ↓o_g3_3, ↓o_g3_4, ↓o_g3_5, ↓o_g3_6, ↓o_g3_7, ↓o_g3_8, ↓o_g3_9, ↓o_g3_10, ↓o_g3_11, ↓o_g3_12, ↓o_g3_13, ↓o_g3_14, ↓o_g3_15, ↓o_g3_16, ↓o_g3_17, ↓a_ln4, ↓a_ld4, ↓a_ln61, ↓a_ld61, ↓a_ln62, ↓a_ld62, o_c7, ↓o_g7_4, ↓o_g7_5, ↓o_g7_7, ↓o_g7_8, ↓o_g7_9, ↓o_g7_11, ↓o_g7_12, ↓o_g7_13, ↓o_g7_14, ↓o_g7_15, ↓o_g7_16, ↓o_g7_17, ↓q_wide h, ↓q_high h, ↓q_odds h, ↓q_year h, ↓q_less h, ↓q_pups h, ↓q_thorns h Z, ↓q_berries h Z, ↓q_hours h hw Z, ↓q_needs h hw Z, ↓q_at h hw Z, ↓q_want h hw Z, ↓q_knows h hw Z, ↓q_caught h hw Z, ↓q_marks h hw Z, ↓q_torn h hw Z, ↓c_cells h hw Z, ↓c_hasCell_t h hw Z, ↓c_hasCell_f h hw Z, ↓c_hasLesson_t h hw Z, ↓c_hasLesson_f h hw Z, ↓c_hasPupil_t h hw Z, ↓c_hasPupil_f h hw Z, ↓c_isCellNumber_t h hw Z, ↓c_isCellNumber_f h hw Z, ↓c_beside h hw Z, ↓c_touch h hw Z, ↓c_catchOf h hw Z, ↓c_clearSet h hw Z, ↓c_isCaught_t h hw Z, ↓c_isCaught_f h hw Z, ↓c_caughtSet h hw Z, ↓c_pupilsAt h hw Z, ↓c_pupilsWhoKnow h hw Z, ↓c_areNear h hw Z, ↓c_canHelp h hw Z, ↓c_helperSet h hw Z, ↓c_nextLesson h hw Z, ↓c_isNearSome h hw Z, ↓c_freedSet h hw Z, ↓d_none Z, ↓d_done Z, ↓d_refused Z, ↓d_granted Z]
    · rw [B_X12_chance]
      simp (disch := first | assumption | omega) only [↓sm, ↓reduceIte, ↓if_pos, ↓if_neg, kI, kJ, kR, kV, w32_eq, w64_eq, reduceCtorEq, Int.reduceAdd, Int.reduceMul, Int.reduceSub, o_c141, ↓o_g141_0, ↓o_g141_1, ↓o_g141_5, ↓o_g141_6, ↓o_g141_7, ↓o_g141_8, ↓o_g141_9, ↓o_g141_21, ↓o_g141_25, ↓o_g141_26, ↓o_g141_27, ↓o_g141_28, ↓o_g141_29, ↓o_g141_30, ↓o_g141_31, ↓o_g141_34, ↓o_g141_35, ↓o_g141_36, ↓r_pupilAt e hw Z, ↓r_at e, ↓r_atw e, ↓r_cellsOf e hw Z, ↓r_isCell_t e hw Z, ↓r_isCell_f e hw Z, ↓r_isLesson_t e hw Z, ↓r_isLesson_f e hw Z, ↓r_isPupil_t e hw Z, ↓r_isPupil_f e hw Z, ↓r_pupilOf e hw Z, ↓r_needsOf e hw Z, ↓r_catchBy e hw Z, ↓r_catchOf e hw Z, ↓r_isCaught_t e hw Z, ↓r_isCaught_f e hw Z, ↓r_allCaught e hw Z, ↓r_whoIs0 e hw Z, ↓r_whoIs1 e hw Z, ↓r_sideOf e hw Z, ↓r_isNear e hw Z, ↓r_nextLesson e hw Z, ↓r_canFree e hw Z, ↓r_nearTo e hw Z, ↓r_isIn Z, ↓r_pupilRow Z, ↓r_lessonRow Z, ↓k_bits Z, ↓d_refuse Z, ↓d_gives Z, ↓d_is0 Z, ↓d_is1 Z, ↓d_isFrom_t Z, ↓d_isFrom_f Z, ↓d_orNone_t Z, ↓d_orNone_f Z]
/-! slips: the class's terms, the reference's row -/
def wyI (n : Int) : Nat → Int
  | 0 => 1
  | i + 1 => mm_ldiv (mm_w64 (wyI n i * (n - i))) (i + 1)
def tmI (o n : Int) (i : Nat) : Int := mm_w64 (mm_w64 (wyI n i * o ^ i) * (16 - o) ^ (n - i).toNat)
def dps (o : Int) : Int → List Int → List Int
  | _, [] => []
  | q, x :: r => mm_w64 (mm_w64 (x * (16 - o)) + mm_w64 (q * o)) :: dps o x r
def dpl (o : Int) : Nat → List Int
  | 0 => [1, 0, 0, 0, 0, 0, 0, 0, 0, 0, 0, 0, 0]
  | n + 1 => dps o 0 (dpl o n)
theorem dp_tm : ∀ o : Nat, o < 17 → ∀ n : Nat, n < 13 → dpl (o : Int) n = (List.range 13).map (fun i => if i ≤ n then tmI (o : Int) (n : Int) i else 0) := by decide +kernel
theorem tm_r : ∀ o : Nat, o < 17 → ∀ n : Nat, n < 13 → ∀ i : Nat, i < 13 → i ≤ n → 0 ≤ tmI (o : Int) (n : Int) i ∧ tmI (o : Int) (n : Int) i ≤ 281474976710656 := by decide +kernel
theorem dpl_len (o : Int) : ∀ n, (dpl o n).length = 13
  | 0 => rfl
  | n + 1 => by
    have key : ∀ (l : List Int) (q : Int), (dps o q l).length = l.length := by
      intro l
      induction l with
      | nil => intro q; rfl
      | cons x r ih => intro q; simp [dps, ih]
    show (dps o 0 (dpl o n)).length = 13
    rw [key, dpl_len o n]
theorem dps_get (o : Int) : ∀ (l : List Int) (q : Int) (i : Nat), i < l.length → (dps o q l).getD i 0 = mm_w64 (mm_w64 (l.getD i 0 * (16 - o)) + mm_w64 ((if i = 0 then q else l.getD (i - 1) 0) * o))
  | [], _, _, h => by simp at h
  | x :: r, q, 0, _ => by simp [dps]
  | x :: r, q, i + 1, h => by
    have ih := dps_get o r x i (by simpa using h)
    simp only [dps, List.getD_cons_succ, ih]
    cases i with
    | zero => simp
    | succ i => simp
/-- the sum of the terms from k on, the first m looked at -/
def smI (o n k : Int) : Nat → Int
  | 0 => 0
  | i + 1 => if (i : Int) < k then smI o n k i else mm_w64 (smI o n k i + tmI o n i)
theorem smI_r {o n : Int} (k : Int) (o0 : 0 ≤ o) (o1 : o ≤ 16) (n0 : 0 ≤ n) (n1 : n ≤ 12) : ∀ i : Nat, (i : Int) ≤ n + 1 → 0 ≤ smI o n k i ∧ smI o n k i ≤ 281474976710656 * i
  | 0, _ => by simp [smI]
  | i + 1, hi => by
    have ih := smI_r k o0 o1 n0 n1 i (by omega)
    have g := tm_r o.toNat (by omega) n.toNat (by omega) i (by omega) (by omega)
    rw [Int.toNat_of_nonneg o0, Int.toNat_of_nonneg n0] at g
    unfold smI
    split
    · omega
    · rw [w64_eq (by omega) (by omega)]
      omega
theorem wy_r : ∀ n : Nat, n < 13 → ∀ i : Nat, i < 14 → i ≤ n + 1 → 0 ≤ wyI (n : Int) i ∧ wyI (n : Int) i ≤ 1000 := by decide +kernel
theorem lp_cslips {s : mS} {S N : Int → Int} (h : CS s 7 S N) (hw : WF S) (Z : mX) (n k : Int) (n0 : 0 ≤ n) (n1 : n ≤ 12) (k0 : 0 ≤ k) (k1 : k ≤ 12) (T U : Int) (hT : ∀ (s : mS) (f : mW → mO), mm_kV (mm_run (zP Z) 194 [.inr (.inr (some 3)), .inr (.inl ((smI (S 4) n k (n.toNat + 1)))), .inr (.inl ((16 ^ n.toNat)))] (mk s)) f = f (mk (uF (uF s 3 16 T) 3 17 U))) :
    ∀ i : Int, i ≤ n + 1 → 0 ≤ i → mm_at (zP Z) 183 20 [some (.inr (.inr (some 3))), some (.inl n), some (.inl k), some (.inr (.inl ((wyI n i.toNat)))), none, some (.inr (.inl ((smI (S 4) n k i.toNat)))), none, some (.inl i)] [] (mk s) = some (some (.inl 1), mk (uF (uF (uF s 3 16 T) 3 17 U) 3 15 0)) := by
  have w := wf0 hw
  refine up ?_ ?_
  · intro i0
    rw [B_X11_slips_20, show (n + 1).toNat = n.toNat + 1 by omega]
    simp (disch := first | assumption | omega) only [↓sm, ↓reduceIte, ↓if_pos, ↓if_neg, kI, kJ, kR, kV, w32_eq, w64_eq, reduceCtorEq, Int.reduceAdd, Int.reduceMul, Int.reduceSub, o_c3, ↓o_g3_0, ↓o_g3_1, ↓o_g3_2, ↓o_g3_3, ↓o_g3_4, ↓o_g3_5, ↓o_g3_6, ↓o_g3_7, ↓o_g3_8, ↓o_g3_9, ↓o_g3_10, ↓o_g3_11, ↓o_g3_12, ↓o_g3_13, ↓o_g3_14, ↓o_g3_15, ↓o_g3_16, ↓o_g3_17, ↓a_ln4, ↓a_ld4, ↓a_ln61, ↓a_ld61, ↓a_ln62, ↓a_ld62, ↓d_none Z, ↓d_done Z, ↓d_refused Z, ↓d_granted Z, ↓k_power Z, k_power Z, ↓hT, hT]
  · intro i hi ih i0
    have g := ih (by omega)
    rw [show (i + 1).toNat = i.toNat + 1 by omega, show wyI n (i.toNat + 1) = mm_ldiv (mm_w64 (wyI n i.toNat * (n - (i.toNat : Int)))) ((i.toNat : Int) + 1) from rfl,
      show smI (S 4) n k (i.toNat + 1) = if ((i.toNat : Int) < k) then smI (S 4) n k i.toNat else mm_w64 (smI (S 4) n k i.toNat + tmI (S 4) n i.toNat) from rfl, Int.toNat_of_nonneg i0] at g
    rw [B_X11_slips_20]
    by_cases hk : i < k
    · rw [if_pos hk] at g
      simp (disch := first | assumption | omega) only [↓sm, ↓reduceIte, ↓if_pos, ↓if_neg, kI, kJ, kR, kV, w32_eq, w64_eq, reduceCtorEq, Int.reduceAdd, Int.reduceMul, Int.reduceSub, B_X11_slips_48, g]
    · rw [if_neg hk] at g
      unfold tmI at g
      rw [Int.toNat_of_nonneg i0] at g
      simp (disch := first | assumption | omega) only [↓sm, ↓reduceIte, ↓if_pos, ↓if_neg, kI, kJ, kR, kV, w32_eq, w64_eq, reduceCtorEq, Int.reduceAdd, Int.reduceMul, Int.reduceSub, o_c3, ↓o_g3_0, ↓o_g3_1, ↓o_g3_2, ↓o_g3_3, ↓o_g3_4, ↓o_g3_5, ↓o_g3_6, ↓o_g3_7, ↓o_g3_8, ↓o_g3_9, ↓o_g3_10, ↓o_g3_11, ↓o_g3_12, ↓o_g3_13, ↓o_g3_14, ↓o_g3_15, ↓o_g3_16, ↓o_g3_17, ↓a_ln4, ↓a_ld4, ↓a_ln61, ↓a_ld61, ↓a_ln62, ↓a_ld62, o_c7, ↓o_g7_4, ↓o_g7_5, ↓o_g7_7, ↓o_g7_8, ↓o_g7_9, ↓o_g7_11, ↓o_g7_12, ↓o_g7_13, ↓o_g7_14, ↓o_g7_15, ↓o_g7_16, ↓o_g7_17, ↓q_wide h, ↓q_high h, ↓q_odds h, ↓q_year h, ↓q_less h, ↓q_pups h, ↓q_thorns h Z, ↓q_berries h Z, ↓q_hours h hw Z, ↓q_needs h hw Z, ↓q_at h hw Z, ↓q_want h hw Z, ↓q_knows h hw Z, ↓q_caught h hw Z, ↓q_marks h hw Z, ↓q_torn h hw Z, ↓k_power Z, k_power Z, B_X11_slips_48]
      simp (disch := first | assumption | omega) only [↓sm, ↓reduceIte, ↓if_pos, ↓if_neg, kI, kJ, kR, kV, w32_eq, w64_eq, reduceCtorEq, Int.reduceAdd, Int.reduceMul, Int.reduceSub, w32_eq, g]
/-! the reference's row of odds -/
def a156 (q : Nat) : Prop := q = 156
theorem a156_ : a156 156 := rfl
def rowIs (s : mS) (l : List Int) : Prop := ∀ i : Nat, i < 13 → s.2 156 i = l.getD i 0
theorem lp_rs20 (Z : mX) (n k : Int) : ∀ i : Int, i ≤ 13 → ∀ s : mS, 0 ≤ i → (∀ j : Int, 0 ≤ j → j < i → s.2 156 j = if j = 0 then 1 else 0) →
    ∃ s', mm_at (zP Z) 347 20 [some (.inr (.inr (some 141))), some (.inl n), some (.inl k), some (.inr (.inl 1)), none, some (.inl i), none, none] [] (mk s) = mm_at (zP Z) 347 36 [some (.inr (.inr (some 141))), some (.inl n), some (.inl k), some (.inr (.inl 1)), none, some (.inl 0), none, none] [] (mk s') ∧ (∀ j : Int, 0 ≤ j → j < 13 → s'.2 156 j = if j = 0 then 1 else 0) ∧ Ag a156 noF s s' := by
  refine up ?_ ?_
  · intro s i0 hs
    refine ⟨s, ?_, hs, Ag_refl _ _ _⟩
    rw [B_X12_slips_20]
    simp (disch := first | assumption | omega) only [↓sm, ↓reduceIte, ↓if_pos, ↓if_neg, kI, kJ, kR, kV, w32_eq, w64_eq, reduceCtorEq, Int.reduceAdd, Int.reduceMul, Int.reduceSub]
  · intro i hi ih s i0 hs
    have st : ∀ v, v = (if i = 0 then 1 else 0) → ∀ c, 0 ≤ c → c < i + 1 → (uA s 156 i v).2 156 c = if c = 0 then 1 else 0 := by
      intro v hv c c0 c1
      rw [uA_s]
      by_cases e : c = i
      · rw [up_eq e, e, hv]
      · rw [up_ne e]
        exact hs c c0 (by omega)
    by_cases e : i = 0
    · obtain ⟨s', g1, g2, g3⟩ := ih (uA s 156 i 1) (by omega) (st 1 (by rw [if_pos e]))
      refine ⟨s', ?_, g2, Ag_trans (Ag_uA (Ag_refl _ _ _) a156_ _ _) g3⟩
      rw [B_X12_slips_20]
      simp (disch := first | assumption | omega) only [↓sm, ↓reduceIte, ↓if_pos, ↓if_neg, kI, kJ, kR, kV, w32_eq, w64_eq, reduceCtorEq, Int.reduceAdd, Int.reduceMul, Int.reduceSub, o_c141, ↓o_g141_0, ↓o_g141_1, ↓o_g141_5, ↓o_g141_6, ↓o_g141_7, ↓o_g141_8, ↓o_g141_9, ↓o_g141_21, ↓o_g141_25, ↓o_g141_26, ↓o_g141_27, ↓o_g141_28, ↓o_g141_29, ↓o_g141_30, ↓o_g141_31, ↓o_g141_34, ↓o_g141_35, ↓o_g141_36, ↓a_st156, g1]
    · obtain ⟨s', g1, g2, g3⟩ := ih (uA s 156 i 0) (by omega) (st 0 (by rw [if_neg e]))
      refine ⟨s', ?_, g2, Ag_trans (Ag_uA (Ag_refl _ _ _) a156_ _ _) g3⟩
      rw [B_X12_slips_20]
      simp (disch := first | assumption | omega) only [↓sm, ↓reduceIte, ↓if_pos, ↓if_neg, kI, kJ, kR, kV, w32_eq, w64_eq, reduceCtorEq, Int.reduceAdd, Int.reduceMul, Int.reduceSub, o_c141, ↓o_g141_0, ↓o_g141_1, ↓o_g141_5, ↓o_g141_6, ↓o_g141_7, ↓o_g141_8, ↓o_g141_9, ↓o_g141_21, ↓o_g141_25, ↓o_g141_26, ↓o_g141_27, ↓o_g141_28, ↓o_g141_29, ↓o_g141_30, ↓o_g141_31, ↓o_g141_34, ↓o_g141_35, ↓o_g141_36, ↓a_st156, g1]
theorem lp_rs41 {S : Int → Int} (hw : WF S) (Z : mX) (n k all m : Int) (l : List Int) (hl : l.length = 13) : ∀ i : Nat, i ≤ 13 → ∀ s : mS, s.2 142 = S → (∀ j : Nat, j < 13 → s.2 156 j = if j < i then l.getD j 0 else (dps (S 4) 0 l).getD j 0) →
    ∃ s', mm_at (zP Z) 347 41 [some (.inr (.inr (some 141))), some (.inl n), some (.inl k), some (.inr (.inl all)), none, some (.inl m), some (.inl (((i : Int) - 1))), none] [] (mk s) = mm_at (zP Z) 347 36 [some (.inr (.inr (some 141))), some (.inl n), some (.inl k), some (.inr (.inl ((mm_w64 (all * 16))))), none, some (.inl ((mm_w32 (m + 1)))), none, none] [] (mk s') ∧ rowIs s' (dps (S 4) 0 l) ∧ Ag a156 noF s s' := by
  have w := wf0 hw
  intro i
  induction i with
  | zero =>
    intro _ s e hs
    refine ⟨s, ?_, fun j hj => by rw [hs j hj, if_neg (by omega)], Ag_refl _ _ _⟩
    rw [B_X12_slips_41]
    simp (disch := first | assumption | omega) only [↓sm, ↓reduceIte, ↓if_pos, ↓if_neg, kI, kJ, kR, kV, w32_eq, w64_eq, reduceCtorEq, Int.reduceAdd, Int.reduceMul, Int.reduceSub]
  | succ i ih =>
    intro hi s e hs
    have h0 := hs i (by omega)
    rw [if_pos (by omega)] at h0
    have hg := dps_get (S 4) l 0 i (by omega)
    have st : ∀ v, v = (dps (S 4) 0 l).getD i 0 → ∀ j : Nat, j < 13 → (uA s 156 i v).2 156 j = if j < i then l.getD j 0 else (dps (S 4) 0 l).getD j 0 := by
      intro v hv j hj
      rw [uA_s]
      by_cases ej : (j : Int) = i
      · have : j = i := by omega
        subst this
        rw [up_eq rfl, if_neg (by omega), hv]
      · rw [up_ne ej, hs j hj]
        by_cases hlt : j < i
        · rw [if_pos (by omega), if_pos hlt]
        · rw [if_neg (by omega), if_neg hlt]
    rw [show ((i + 1 : Nat) : Int) - 1 = (i : Int) by omega]
    by_cases hz : i = 0
    · subst hz
      rw [if_pos rfl, Int.zero_mul, show mm_w64 0 = 0 from rfl] at hg
      obtain ⟨s', g1, g2, g3⟩ := ih (by omega) (uA s 156 ((0 : Nat) : Int) (mm_w64 (mm_w64 (l.getD 0 0 * (16 - S 4)) + 0))) ((uA_n s (by decide) _ _).trans e) (st _ hg.symm)
      refine ⟨s', ?_, g2, Ag_trans (Ag_uA (Ag_refl _ _ _) a156_ _ _) g3⟩
      simp only [show ((0 : Nat) : Int) = 0 from rfl] at *
      rw [B_X12_slips_41]
      simp (disch := first | assumption | omega) only [↓sm, ↓reduceIte, ↓if_pos, ↓if_neg, kI, kJ, kR, kV, w32_eq, w64_eq, reduceCtorEq, Int.reduceAdd, Int.reduceMul, Int.reduceSub, o_c141, ↓o_g141_0, ↓o_g141_1, ↓o_g141_5, ↓o_g141_6, ↓o_g141_7, ↓o_g141_8, ↓o_g141_9, ↓o_g141_21, ↓o_g141_25, ↓o_g141_26, ↓o_g141_27, ↓o_g141_28, ↓o_g141_29, ↓o_g141_30, ↓o_g141_31, ↓o_g141_34, ↓o_g141_35, ↓o_g141_36, ↓a_ld156, ↓r_at e, h0, ↓a_st156, a_st156]
      rw [show (0 : Int) - 1 = 0 + -1 by decide] at g1
      exact g1
    · rw [if_neg hz] at hg
      have h1 := hs (i - 1) (by omega)
      rw [if_pos (by omega), show ((i - 1 : Nat) : Int) = (i : Int) - 1 by omega] at h1
      obtain ⟨s', g1, g2, g3⟩ := ih (by omega) (uA s 156 i (mm_w64 (mm_w64 (l.getD i 0 * (16 - S 4)) + mm_w64 (l.getD (i - 1) 0 * S 4)))) ((uA_n s (by decide) _ _).trans e) (st _ hg.symm)
      refine ⟨s', ?_, g2, Ag_trans (Ag_uA (Ag_refl _ _ _) a156_ _ _) g3⟩
      rw [show (i : Int) - 1 = (i : Int) + -1 by omega] at g1
      rw [B_X12_slips_41]
      have h1' : ∀ f : Int → mO, (mm_ld 3 (mk s) 156 (mm_w32 ((i : Int) - 1))).bind f = f (l.getD (i - 1) 0) := fun f => by
        rw [w32_eq (by omega) (by omega), a_ld156 s f _ (by omega) (by omega), h1]
      simp (disch := first | assumption | omega) only [↓sm, ↓reduceIte, ↓if_pos, ↓if_neg, kI, kJ, kR, kV, w32_eq, w64_eq, reduceCtorEq, Int.reduceAdd, Int.reduceMul, Int.reduceSub, o_c141, ↓o_g141_0, ↓o_g141_1, ↓o_g141_5, ↓o_g141_6, ↓o_g141_7, ↓o_g141_8, ↓o_g141_9, ↓o_g141_21, ↓o_g141_25, ↓o_g141_26, ↓o_g141_27, ↓o_g141_28, ↓o_g141_29, ↓o_g141_30, ↓o_g141_31, ↓o_g141_34, ↓o_g141_35, ↓o_g141_36, ↓a_ld156, ↓h1', ↓r_at e, h0, ↓a_st156, a_st156]
      exact g1
theorem lp_rs36 {S : Int → Int} (hw : WF S) (Z : mX) (n k : Int) (n1 : n ≤ 12) : ∀ m : Int, m ≤ n → ∀ s : mS, s.2 142 = S → 0 ≤ m → rowIs s (dpl (S 4) m.toNat) →
    ∃ s', mm_at (zP Z) 347 36 [some (.inr (.inr (some 141))), some (.inl n), some (.inl k), some (.inr (.inl ((16 ^ m.toNat)))), none, some (.inl m), none, none] [] (mk s) = mm_at (zP Z) 347 88 [some (.inr (.inr (some 141))), none, none, some (.inr (.inl ((16 ^ n.toNat)))), none, some (.inr (.inl 0)), none, some (.inl k)] [] (mk s') ∧ rowIs s' (dpl (S 4) n.toNat) ∧ Ag a156 noF s s' := by
  refine up ?_ ?_
  · intro s e m0 hr
    refine ⟨s, ?_, hr, Ag_refl _ _ _⟩
    rw [B_X12_slips_36]
    simp (disch := first | assumption | omega) only [↓sm, ↓reduceIte, ↓if_pos, ↓if_neg, kI, kJ, kR, kV, w32_eq, w64_eq, reduceCtorEq, Int.reduceAdd, Int.reduceMul, Int.reduceSub]
  · intro m hm ih s e m0 hr
    obtain ⟨s1, a1, a2, a3⟩ := lp_rs41 hw Z n k (16 ^ m.toNat) m (dpl (S 4) m.toNat) (dpl_len _ _) 13 (by omega) s e (fun j hj => by rw [if_pos hj]; exact hr j hj)
    have r2 := pw_r (b := 16) (by omega) (by omega) (n := m + 1) (by omega) (by omega)
    rw [pw_s 16 m0] at r2
    obtain ⟨s', g1, g2, g3⟩ := ih s1 ((a3.1 142 (by unfold a156; omega)).trans e) (by omega) (by rw [show (m + 1).toNat = m.toNat + 1 by omega]; exact a2)
    rw [pw_s 16 m0] at g1
    rw [w64_eq (by omega) (by omega), w32_eq (by omega) (by omega), show ((13 : Nat) : Int) - 1 = 12 by decide] at a1
    refine ⟨s', ?_, g2, Ag_trans a3 g3⟩
    rw [B_X12_slips_36]
    simp (disch := first | assumption | omega) only [↓sm, ↓reduceIte, ↓if_pos, ↓if_neg, kI, kJ, kR, kV, w32_eq, w64_eq, reduceCtorEq, Int.reduceAdd, Int.reduceMul, Int.reduceSub, a1, g1]
theorem lp_rs88 (Z : mX) (s : mS) (o n k : Int) (o0 : 0 ≤ o) (o1 : o ≤ 16) (n0 : 0 ≤ n) (n1 : n ≤ 12) (k0 : 0 ≤ k) (k1 : k ≤ 12) (hr : rowIs s (dpl o n.toNat)) (T U : Int) (hT : ∀ (t : mS) (f : Int → mW → mO), mm_kI (mm_run (zP Z) 219 [.inr (.inr (some 141)), .inr (.inl ((smI o n k (n.toNat + 1)))), .inr (.inl ((16 ^ n.toNat)))] (mk t)) f = f 1 (mk (uF (uF (uF t 141 3 T) 141 4 U) 141 2 0))) :
    ∀ i : Int, i ≤ 13 → k ≤ i → mm_at (zP Z) 347 88 [some (.inr (.inr (some 141))), none, none, some (.inr (.inl ((16 ^ n.toNat)))), none, some (.inr (.inl ((smI o n k (if i ≤ n then i.toNat else n.toNat + 1))))), none, some (.inl i)] [] (mk s) = some (some (.inl 1), mk (uF (uF (uF s 141 3 T) 141 4 U) 141 2 0)) := by
  have row : ∀ i : Nat, i < 13 → s.2 156 i = if i ≤ n.toNat then tmI o n i else 0 := by
    intro i hi
    have g := dp_tm o.toNat (by omega) n.toNat (by omega)
    rw [Int.toNat_of_nonneg o0, Int.toNat_of_nonneg n0] at g
    rw [hr i hi, g, List.getD_eq_getElem?_getD, List.getElem?_map, List.getElem?_range hi]
    rfl
  refine up ?_ ?_
  · intro _
    rw [B_X12_slips_88, if_neg (by omega : ¬ (13 : Int) ≤ n)]
    simp (disch := first | assumption | omega) only [↓sm, ↓reduceIte, ↓if_pos, ↓if_neg, kI, kJ, kR, kV, w32_eq, w64_eq, reduceCtorEq, Int.reduceAdd, Int.reduceMul, Int.reduceSub, o_c141, ↓hT]
  · intro i hi ih ik
    have g := ih (by omega)
    have hrow := row i.toNat (by omega)
    rw [Int.toNat_of_nonneg (show 0 ≤ i by omega)] at hrow
    have sr := smI_r k o0 o1 n0 n1 (n.toNat + 1) (by omega)
    rw [B_X12_slips_88]
    by_cases hn : i ≤ n
    · rw [if_pos (by omega)] at hrow
      have e1 : smI o n k (if i + 1 ≤ n then (i + 1).toNat else n.toNat + 1) = mm_w64 (smI o n k i.toNat + tmI o n i.toNat) := by
        have : (if i + 1 ≤ n then (i + 1).toNat else n.toNat + 1) = i.toNat + 1 := by split <;> omega
        rw [this]
        show (if (i.toNat : Int) < k then _ else _) = _
        rw [if_neg (by omega)]
      rw [e1] at g
      rw [if_pos hn]
      simp (disch := first | assumption | omega) only [↓sm, ↓reduceIte, ↓if_pos, ↓if_neg, kI, kJ, kR, kV, w32_eq, w64_eq, reduceCtorEq, Int.reduceAdd, Int.reduceMul, Int.reduceSub, o_c141, ↓o_g141_0, ↓o_g141_1, ↓o_g141_5, ↓o_g141_6, ↓o_g141_7, ↓o_g141_8, ↓o_g141_9, ↓o_g141_21, ↓o_g141_25, ↓o_g141_26, ↓o_g141_27, ↓o_g141_28, ↓o_g141_29, ↓o_g141_30, ↓o_g141_31, ↓o_g141_34, ↓o_g141_35, ↓o_g141_36, ↓a_ld156, hrow, g]
    · rw [if_neg (by omega)] at hrow
      rw [if_neg (by omega)] at g
      rw [if_neg hn]
      simp (disch := first | assumption | omega) only [↓sm, ↓reduceIte, ↓if_pos, ↓if_neg, kI, kJ, kR, kV, w32_eq, w64_eq, reduceCtorEq, Int.reduceAdd, Int.reduceMul, Int.reduceSub, o_c141, ↓o_g141_0, ↓o_g141_1, ↓o_g141_5, ↓o_g141_6, ↓o_g141_7, ↓o_g141_8, ↓o_g141_9, ↓o_g141_21, ↓o_g141_25, ↓o_g141_26, ↓o_g141_27, ↓o_g141_28, ↓o_g141_29, ↓o_g141_30, ↓o_g141_31, ↓o_g141_34, ↓o_g141_35, ↓o_g141_36, ↓a_ld156, hrow, Int.add_zero, g]
theorem op_slips (Z : mX) (s : mS) (hI : Inv s) (n k : Int) : OpI Z s 183 347 [.inl n, .inl k] := by
  have h := hI.2.2.1.2
  have hw := hI.2.2.1.1
  have w := wf0 hw
  by_cases hn : 0 ≤ n ∧ n ≤ 12
  · by_cases hk : 0 ≤ k ∧ k ≤ 12
    · have sr := smI_r (o := s.2 142 4) k (by omega) (by omega) hn.1 hn.2 (n.toNat + 1) (by omega)
      have r2 := pw_r (b := 16) (by omega) (by omega) hn.1 (by omega)
      have r3 : (0 : Int) < 16 ^ n.toNat := Int.pow_pos (by decide)
      obtain ⟨T, U, hT1, hT2⟩ := tell Z (smI (s.2 142 4) n k (n.toNat + 1)) (16 ^ n.toNat) sr.1 r3 (by omega)
      refine op_fr hI 1 0 T U s (fun f => ?_) (Ag_refl _ _ _) (fun t e => ?_)
      · have g := lp_cslips h hw Z n k hn.1 hn.2 hk.1 hk.2 T U hT1 0 (by omega) (by omega)
        rw [show wyI n (Int.toNat 0) = 1 from rfl, show smI (s.2 142 4) n k (Int.toNat 0) = 0 from rfl] at g
        rw [B_X11_slips]
        simp (disch := first | assumption | omega) only [↓sm, ↓reduceIte, ↓if_pos, ↓if_neg, kI, kJ, kR, kV, w32_eq, w64_eq, reduceCtorEq, Int.reduceAdd, Int.reduceMul, Int.reduceSub, o_c3, ↓o_g3_0, ↓o_g3_1, ↓o_g3_2, ↓o_g3_3, ↓o_g3_4, ↓o_g3_5, ↓o_g3_6, ↓o_g3_7, ↓o_g3_8, ↓o_g3_9, ↓o_g3_10, ↓o_g3_11, ↓o_g3_12, ↓o_g3_13, ↓o_g3_14, ↓o_g3_15, ↓o_g3_16, ↓o_g3_17, ↓a_ln4, ↓a_ld4, ↓a_ln61, ↓a_ld61, ↓a_ln62, ↓a_ld62, ↓k_isIn_t Z, g]
      · obtain ⟨t1, a1, a2, a3⟩ := lp_rs20 Z n k 0 (by omega) t (by omega) (fun j j0 j1 => by omega)
        have e1 : t1.2 142 = s.2 142 := (a3.1 142 (by unfold a156; omega)).trans e
        obtain ⟨t2, b1, b2, b3⟩ := lp_rs36 hw Z n k hn.2 0 hn.1 t1 e1 (by omega) (fun j hj => by
          rw [a2 j (by omega) (by omega)]
          have : j = 0 ∨ j = 1 ∨ j = 2 ∨ j = 3 ∨ j = 4 ∨ j = 5 ∨ j = 6 ∨ j = 7 ∨ j = 8 ∨ j = 9 ∨ j = 10 ∨ j = 11 ∨ j = 12 := by omega
          rcases this with rfl | rfl | rfl | rfl | rfl | rfl | rfl | rfl | rfl | rfl | rfl | rfl | rfl <;> rfl)
        have c := lp_rs88 Z t2 (s.2 142 4) n k (by omega) (by omega) hn.1 hn.2 hk.1 hk.2 b2 T U hT2 k (by omega) (by omega)
        have ec : smI (s.2 142 4) n k (if k ≤ n then k.toNat else n.toNat + 1) = 0 := by
          have : ∀ i : Nat, (i : Int) ≤ k → smI (s.2 142 4) n k i = 0 := by
            intro i
            induction i with
            | zero => intro _; rfl
            | succ i ih =>
              intro hi
              show (if (i : Int) < k then _ else _) = _
              rw [if_pos (by omega)]
              exact ih (by omega)
          split
          · exact this _ (by omega)
          · exact this _ (by omega)
        rw [ec] at c
        rw [show Int.toNat 0 = 0 from rfl, Int.pow_zero] at b1
        refine ⟨t2, fun f => ?_, Ag_mono (Ag_trans a3 b3) (fun q hq => by unfold a156 at hq; unfold srA; omega) (fun _ _ h => h.elim)⟩
        rw [B_X12_slips]
        simp (disch := first | assumption | omega) only [↓sm, ↓reduceIte, ↓if_pos, ↓if_neg, kI, kJ, kR, kV, w32_eq, w64_eq, reduceCtorEq, Int.reduceAdd, Int.reduceMul, Int.reduceSub, ↓d_refuse Z, ↓d_gives Z, ↓d_is0 Z, ↓d_is1 Z, ↓d_isFrom_t Z, ↓d_isFrom_f Z, ↓d_orNone_t Z, ↓d_orNone_f Z, a1, b1, c]
    · refine op_rd hI 0 1 (fun f => ?_) (fun t e f => ?_)
      · rw [B_X11_slips]
        simp (disch := first | assumption | omega) only [↓sm, ↓reduceIte, ↓if_pos, ↓if_neg, kI, kJ, kR, kV, w32_eq, w64_eq, reduceCtorEq, Int.reduceAdd, Int.reduceMul, Int.reduceSub, o_c3, ↓o_g3_0, ↓o_g3_1, ↓o_g3_2, ↓o_g3_3, ↓o_g3_4, ↓o_g3_5, ↓o_g3_6, ↓o_g3_7, ↓o_g3_8, ↓o_g3_9, ↓o_g3_10, ↓o_g3_11, ↓o_g3_12, ↓o_g3_13, ↓o_g3_14, ↓o_g3_15, ↓o_g3_16, ↓o_g3_17, ↓a_ln4, ↓a_ld4, ↓a_ln61, ↓a_ld61, ↓a_ln62, ↓a_ld62, ↓d_none Z, ↓d_done Z, ↓d_refused Z, ↓d_granted Z, ↓k_isIn_t Z, ↓k_isIn_f Z]
      · rw [B_X12_slips]
        simp (disch := first | assumption | omega) only [↓sm, ↓reduceIte, ↓if_pos, ↓if_neg, kI, kJ, kR, kV, w32_eq, w64_eq, reduceCtorEq, Int.reduceAdd, Int.reduceMul, Int.reduceSub, o_c141, ↓o_g141_0, ↓o_g141_1, ↓o_g141_5, ↓o_g141_6, ↓o_g141_7, ↓o_g141_8, ↓o_g141_9, ↓o_g141_21, ↓o_g141_25, ↓o_g141_26, ↓o_g141_27, ↓o_g141_28, ↓o_g141_29, ↓o_g141_30, ↓o_g141_31, ↓o_g141_34, ↓o_g141_35, ↓o_g141_36, ↓d_refuse Z, ↓d_gives Z, ↓d_is0 Z, ↓d_is1 Z, ↓d_isFrom_t Z, ↓d_isFrom_f Z, ↓d_orNone_t Z, ↓d_orNone_f Z]
  · refine op_rd hI 0 1 (fun f => ?_) (fun t e f => ?_)
    · rw [B_X11_slips]
      simp (disch := first | assumption | omega) only [↓sm, ↓reduceIte, ↓if_pos, ↓if_neg, kI, kJ, kR, kV, w32_eq, w64_eq, reduceCtorEq, Int.reduceAdd, Int.reduceMul, Int.reduceSub, o_c3, ↓o_g3_0, ↓o_g3_1, ↓o_g3_2, ↓o_g3_3, ↓o_g3_4, ↓o_g3_5, ↓o_g3_6, ↓o_g3_7, ↓o_g3_8, ↓o_g3_9, ↓o_g3_10, ↓o_g3_11, ↓o_g3_12, ↓o_g3_13, ↓o_g3_14, ↓o_g3_15, ↓o_g3_16, ↓o_g3_17, ↓a_ln4, ↓a_ld4, ↓a_ln61, ↓a_ld61, ↓a_ln62, ↓a_ld62, ↓d_none Z, ↓d_done Z, ↓d_refused Z, ↓d_granted Z, ↓k_isIn_f Z]
    · rw [B_X12_slips]
      simp (disch := first | assumption | omega) only [↓sm, ↓reduceIte, ↓if_pos, ↓if_neg, kI, kJ, kR, kV, w32_eq, w64_eq, reduceCtorEq, Int.reduceAdd, Int.reduceMul, Int.reduceSub, o_c141, ↓o_g141_0, ↓o_g141_1, ↓o_g141_5, ↓o_g141_6, ↓o_g141_7, ↓o_g141_8, ↓o_g141_9, ↓o_g141_21, ↓o_g141_25, ↓o_g141_26, ↓o_g141_27, ↓o_g141_28, ↓o_g141_29, ↓o_g141_30, ↓o_g141_31, ↓o_g141_34, ↓o_g141_35, ↓o_g141_36, ↓d_refuse Z, ↓d_gives Z, ↓d_is0 Z, ↓d_is1 Z, ↓d_isFrom_t Z, ↓d_isFrom_f Z, ↓d_orNone_t Z, ↓d_orNone_f Z]
