/-! calls that change the school -/
def Kp (S S' : Int → Int) : Prop := (∀ j, 104 ≤ j → S' j = S j) ∧ S' 7 = S 7 ∧ S' 0 = S 0 ∧ S' 1 = S 1 ∧ S 3 ≤ S' 3
theorem Kp_refl (S : Int → Int) : Kp S S := ⟨fun _ _ => rfl, rfl, rfl, rfl, Int.le_refl _⟩
theorem Kp_up {S S' : Int → Int} (h : Kp S S') {I : Int} (h1 : I < 104) (h2 : 8 ≤ I ∨ I = 4 ∨ I = 5) (v : Int) : Kp S (mm_upd S' I v) := by
  obtain ⟨a, b, c, d, e⟩ := h
  refine ⟨fun j hj => ?_, ?_, ?_, ?_, ?_⟩
  · rw [up_ne (by omega)]; exact a j hj
  · rw [up_ne (by omega)]; exact b
  · rw [up_ne (by omega)]; exact c
  · rw [up_ne (by omega)]; exact d
  · rw [up_ne (by omega)]; exact e
theorem Kp_trans {S T U : Int → Int} (h : Kp S T) (h2 : Kp T U) : Kp S U := by
  obtain ⟨a, b, c, d, e⟩ := h
  obtain ⟨a2, b2, c2, d2, e2⟩ := h2
  exact ⟨fun j hj => (a2 j hj).trans (a j hj), b2.trans b, c2.trans c, d2.trans d, by omega⟩
theorem Kp_ncl {S T : Int → Int} (h : Kp S T) : ncl T = ncl S := by unfold ncl; rw [h.2.2.1, h.2.2.2.1]
def rwA (q : Nat) : Prop := srA q ∨ q = 142 ∨ q = 143
theorem op_mut {Z : mX} {s : mS} {a b : Nat} {as : List mV} (hI : Inv s) (v x : Int) {S' N' : Int → Int} {s' : mS}
    (hc : ∀ f : Int → mW → mO, mm_kI (mm_run (zP Z) a (.inr (.inr (some 3)) :: as) (mk s)) f = f v (mk (uF s' 3 15 x))) (cs : CS s' 7 S' N') (ag : Ag scl sclF s s')
    (hr : ∀ t : mS, t.2 142 = s.2 142 → t.2 143 = s.2 143 → ∃ t' : mS, (∀ f : Int → mW → mO, mm_kI (mm_run (zP Z) b (.inr (.inr (some 141)) :: as) (mk t)) f = f v (mk (uF t' 141 2 x))) ∧
      t'.2 142 = S' ∧ t'.2 143 = N' ∧ Ag rwA srF t t')
    (w : WF S') (k : Kp (s.2 142) S') (k2 : ∀ j, 12 ≤ j → j < 48 → N' j = s.2 143 j) : OpI Z s a b as := by
  have g1 : (uF s' 3 15 x).2 142 = s.2 142 := ag.1 142 (by unfold scl; omega)
  have g2 : (uF s' 3 15 x).2 143 = s.2 143 := ag.1 143 (by unfold scl; omega)
  obtain ⟨t', r1, r2, r3, r4⟩ := hr (uF s' 3 15 x) g1 g2
  refine ⟨v, uF s' 3 15 x, uF t' 141 2 x, hc, r1, ?_⟩
  refine inv_school hI (s1 := uF s' 3 15 x) (S' := S') (N' := N') (x := x) ?_ ?_ (by simp [uF_1]) ?_ r2 r3 (by simp [uF_1]) w (fun j j0 _ => k.1 j j0) k.2.1 k2 (Kp_ncl k) k.2.2.2.2
  · exact Ag_uF (Ag_mono ag (fun q hq => Or.inr hq) (fun q k hq => Or.inr hq)) (Or.inl (by unfold scF; omega)) x
  · exact CS_fr cs (fun k => by simp [uF_1]) (fun j _ _ => rfl)
  · exact Ag_uF (Ag_mono r4 (fun q hq => hq) (fun q k hq => hq)) (by unfold srF; omega) x
theorem rw_uA {s t : mS} (h : Ag rwA srF s t) {q : Nat} (hq : q = 142 ∨ q = 143) (i v : Int) : Ag rwA srF s (uA t q i v) := Ag_uA h (Or.inr hq) i v
theorem op_go (Z : mX) (s : mS) (hI : Inv s) (p k : Int) : OpI Z s 152 291 [.inl p, .inl k] := by
  have h := hI.2.2.1.2
  have hw := hI.2.2.1.1
  by_cases hp : 0 ≤ p ∧ p < s.2 142 3
  · by_cases hk : 0 ≤ k ∧ k ≤ 3
    · by_cases hb : 0 < s.2 142 (74 + 6 * p + 3) ∨ sd (s.2 142) (s.2 142 (74 + 6 * p)) k = -1
      · refine op_rd hI (-1) 7 (fun f => ?_) (fun t e f => ?_)
        · rw [B_X11_go]
          simp (disch := first | assumption | omega) only [↓sm, ↓reduceIte, ↓if_pos, ↓if_neg, kI, kJ, kR, kV, w32_eq, w64_eq, reduceCtorEq, Int.reduceAdd, Int.reduceMul, Int.reduceSub, o_c3, ↓o_g3_0, ↓o_g3_1, ↓o_g3_2, ↓o_g3_3, ↓o_g3_4, ↓o_g3_5, ↓o_g3_6, ↓o_g3_7, ↓o_g3_8, ↓o_g3_9, ↓o_g3_10, ↓o_g3_11, ↓o_g3_12, ↓o_g3_13, ↓o_g3_14, ↓o_g3_15, ↓o_g3_16, ↓o_g3_17, ↓a_ln4, ↓a_ld4, ↓a_ln61, ↓a_ld61, ↓a_ln62, ↓a_ld62, o_c7, ↓o_g7_4, ↓o_g7_5, ↓o_g7_7, ↓o_g7_8, ↓o_g7_9, ↓o_g7_11, ↓o_g7_12, ↓o_g7_13, ↓o_g7_14, ↓o_g7_15, ↓o_g7_16, ↓o_g7_17, ↓q_wide h, ↓q_high h, ↓q_odds h, ↓q_year h, ↓q_less h, ↓q_pups h, ↓q_thorns h Z, ↓q_berries h Z, ↓q_hours h hw Z, ↓q_needs h hw Z, ↓q_at h hw Z, ↓q_want h hw Z, ↓q_knows h hw Z, ↓q_caught h hw Z, ↓q_marks h hw Z, ↓q_torn h hw Z, ↓c_cells h hw Z, ↓c_hasCell_t h hw Z, ↓c_hasCell_f h hw Z, ↓c_hasLesson_t h hw Z, ↓c_hasLesson_f h hw Z, ↓c_hasPupil_t h hw Z, ↓c_hasPupil_f h hw Z, ↓c_isCellNumber_t h hw Z, ↓c_isCellNumber_f h hw Z, ↓c_beside h hw Z, ↓c_touch h hw Z, ↓c_catchOf h hw Z, ↓c_clearSet h hw Z, ↓c_isCaught_t h hw Z, ↓c_isCaught_f h hw Z, ↓c_caughtSet h hw Z, ↓c_pupilsAt h hw Z, ↓c_pupilsWhoKnow h hw Z, ↓c_areNear h hw Z, ↓c_canHelp h hw Z, ↓c_helperSet h hw Z, ↓c_nextLesson h hw Z, ↓c_isNearSome h hw Z, ↓c_freedSet h hw Z, ↓d_none Z, ↓d_done Z, ↓d_refused Z, ↓d_granted Z, ↓k_isIn_t Z, ↓c_canStep_f h hw Z]
        · rw [B_X12_go]
          simp (disch := first | assumption | omega) only [↓sm, ↓reduceIte, ↓if_pos, ↓if_neg, kI, kJ, kR, kV, w32_eq, w64_eq, reduceCtorEq, Int.reduceAdd, Int.reduceMul, Int.reduceSub, o_c141, ↓o_g141_0, ↓o_g141_1, ↓o_g141_5, ↓o_g141_6, ↓o_g141_7, ↓o_g141_8, ↓o_g141_9, ↓o_g141_21, ↓o_g141_25, ↓o_g141_26, ↓o_g141_27, ↓o_g141_28, ↓o_g141_29, ↓o_g141_30, ↓o_g141_31, ↓o_g141_34, ↓o_g141_35, ↓o_g141_36, ↓r_pupilAt e hw Z, ↓r_at e, ↓r_atw e, ↓r_cellsOf e hw Z, ↓r_isCell_t e hw Z, ↓r_isCell_f e hw Z, ↓r_isLesson_t e hw Z, ↓r_isLesson_f e hw Z, ↓r_isPupil_t e hw Z, ↓r_isPupil_f e hw Z, ↓r_pupilOf e hw Z, ↓r_needsOf e hw Z, ↓r_catchBy e hw Z, ↓r_catchOf e hw Z, ↓r_isCaught_t e hw Z, ↓r_isCaught_f e hw Z, ↓r_allCaught e hw Z, ↓r_whoIs0 e hw Z, ↓r_whoIs1 e hw Z, ↓r_sideOf e hw Z, ↓r_isNear e hw Z, ↓r_nextLesson e hw Z, ↓r_canFree e hw Z, ↓r_nearTo e hw Z, ↓r_isIn Z, ↓r_pupilRow Z, ↓r_lessonRow Z, ↓k_bits Z, ↓d_refuse Z, ↓d_gives Z, ↓d_is0 Z, ↓d_is1 Z, ↓d_isFrom_t Z, ↓d_isFrom_f Z, ↓d_orNone_t Z, ↓d_orNone_f Z, ↓r_goes_f e hw Z]
      · have hb1 : ¬ 0 < s.2 142 (74 + 6 * p + 3) := by omega
        have hb2 : sd (s.2 142) (s.2 142 (74 + 6 * p)) k ≠ -1 := by omega
        have wp := wf_p hw hp.1 hp.2
        have n := wf_n hw
        have w := wf0 hw
        have r := sd_r hw wp.1 wp.2.1 hk.1 hk.2 hb2
        have c := ct_r hw hp.1 hp.2 r.1 (by omega) wp.2.2.1 wp.2.2.2.1
        obtain ⟨s', g, cs, ag⟩ := c_step h hw Z p k hp.1 hp.2 hk.1 hk.2 hb2
        refine op_mut hI (ct (s.2 142) p (sd (s.2 142) (s.2 142 (74 + 6 * p)) k) (s.2 142 (74 + 6 * p + 1))) 0 (fun f => ?_) cs ag (fun t e1 e2 => ?_) (st_wf hw hp.1 hp.2 hk.1 hk.2 hb2) (Kp_up (Kp_up (Kp_refl _) (by omega) (by omega) _) (by omega) (by omega) _) (fun _ _ _ => rfl)
        · rw [B_X11_go]
          simp (disch := first | assumption | omega) only [↓sm, ↓reduceIte, ↓if_pos, ↓if_neg, kI, kJ, kR, kV, w32_eq, w64_eq, reduceCtorEq, Int.reduceAdd, Int.reduceMul, Int.reduceSub, o_c3, ↓o_g3_0, ↓o_g3_1, ↓o_g3_2, ↓o_g3_3, ↓o_g3_4, ↓o_g3_5, ↓o_g3_6, ↓o_g3_7, ↓o_g3_8, ↓o_g3_9, ↓o_g3_10, ↓o_g3_11, ↓o_g3_12, ↓o_g3_13, ↓o_g3_14, ↓o_g3_15, ↓o_g3_16, ↓o_g3_17, ↓a_ln4, ↓a_ld4, ↓a_ln61, ↓a_ld61, ↓a_ln62, ↓a_ld62, o_c7, ↓o_g7_4, ↓o_g7_5, ↓o_g7_7, ↓o_g7_8, ↓o_g7_9, ↓o_g7_11, ↓o_g7_12, ↓o_g7_13, ↓o_g7_14, ↓o_g7_15, ↓o_g7_16, ↓o_g7_17, ↓q_wide h, ↓q_high h, ↓q_odds h, ↓q_year h, ↓q_less h, ↓q_pups h, ↓q_thorns h Z, ↓q_berries h Z, ↓q_hours h hw Z, ↓q_needs h hw Z, ↓q_at h hw Z, ↓q_want h hw Z, ↓q_knows h hw Z, ↓q_caught h hw Z, ↓q_marks h hw Z, ↓q_torn h hw Z, ↓c_cells h hw Z, ↓c_hasCell_t h hw Z, ↓c_hasCell_f h hw Z, ↓c_hasLesson_t h hw Z, ↓c_hasLesson_f h hw Z, ↓c_hasPupil_t h hw Z, ↓c_hasPupil_f h hw Z, ↓c_isCellNumber_t h hw Z, ↓c_isCellNumber_f h hw Z, ↓c_beside h hw Z, ↓c_touch h hw Z, ↓c_catchOf h hw Z, ↓c_clearSet h hw Z, ↓c_isCaught_t h hw Z, ↓c_isCaught_f h hw Z, ↓c_caughtSet h hw Z, ↓c_pupilsAt h hw Z, ↓c_pupilsWhoKnow h hw Z, ↓c_areNear h hw Z, ↓c_canHelp h hw Z, ↓c_helperSet h hw Z, ↓c_nextLesson h hw Z, ↓c_isNearSome h hw Z, ↓c_freedSet h hw Z, ↓d_none Z, ↓d_done Z, ↓d_refused Z, ↓d_granted Z, ↓k_isIn_t Z, ↓c_canStep_t h hw Z, ↓g]
        · refine ⟨uA (uA t 142 (74 + 6 * p) (sd (s.2 142) (s.2 142 (74 + 6 * p)) k)) 142 (74 + 6 * p + 3) (ct (s.2 142) p (sd (s.2 142) (s.2 142 (74 + 6 * p)) k) (s.2 142 (74 + 6 * p + 1))), fun f => ?_, ?_, ?_, rw_uA (rw_uA (Ag_refl _ _ _) (Or.inl rfl) _ _) (Or.inl rfl) _ _⟩
          · have e := e1
            rw [B_X12_go]
            simp (disch := first | assumption | omega) only [↓sm, ↓reduceIte, ↓if_pos, ↓if_neg, kI, kJ, kR, kV, w32_eq, w64_eq, reduceCtorEq, Int.reduceAdd, Int.reduceMul, Int.reduceSub, o_c141, ↓o_g141_0, ↓o_g141_1, ↓o_g141_5, ↓o_g141_6, ↓o_g141_7, ↓o_g141_8, ↓o_g141_9, ↓o_g141_21, ↓o_g141_25, ↓o_g141_26, ↓o_g141_27, ↓o_g141_28, ↓o_g141_29, ↓o_g141_30, ↓o_g141_31, ↓o_g141_34, ↓o_g141_35, ↓o_g141_36, ↓r_pupilAt e hw Z, ↓r_at e, ↓r_atw e, ↓r_cellsOf e hw Z, ↓r_isCell_t e hw Z, ↓r_isCell_f e hw Z, ↓r_isLesson_t e hw Z, ↓r_isLesson_f e hw Z, ↓r_isPupil_t e hw Z, ↓r_isPupil_f e hw Z, ↓r_pupilOf e hw Z, ↓r_needsOf e hw Z, ↓r_catchBy e hw Z, ↓r_catchOf e hw Z, ↓r_isCaught_t e hw Z, ↓r_isCaught_f e hw Z, ↓r_allCaught e hw Z, ↓r_whoIs0 e hw Z, ↓r_whoIs1 e hw Z, ↓r_sideOf e hw Z, ↓r_isNear e hw Z, ↓r_nextLesson e hw Z, ↓r_canFree e hw Z, ↓r_nearTo e hw Z, ↓r_isIn Z, ↓r_pupilRow Z, ↓r_lessonRow Z, ↓k_bits Z, ↓d_refuse Z, ↓d_gives Z, ↓d_is0 Z, ↓d_is1 Z, ↓d_isFrom_t Z, ↓d_isFrom_f Z, ↓d_orNone_t Z, ↓d_orNone_f Z, ↓r_goes e hw Z]
          · rw [uA_s, uA_s, e1]
            rfl
          · rw [uA_n _ (by decide), uA_n _ (by decide), e2]
    · refine op_rd hI (-1) 1 (fun f => ?_) (fun t e f => ?_)
      · rw [B_X11_go]
        simp (disch := first | assumption | omega) only [↓sm, ↓reduceIte, ↓if_pos, ↓if_neg, kI, kJ, kR, kV, w32_eq, w64_eq, reduceCtorEq, Int.reduceAdd, Int.reduceMul, Int.reduceSub, o_c3, ↓o_g3_0, ↓o_g3_1, ↓o_g3_2, ↓o_g3_3, ↓o_g3_4, ↓o_g3_5, ↓o_g3_6, ↓o_g3_7, ↓o_g3_8, ↓o_g3_9, ↓o_g3_10, ↓o_g3_11, ↓o_g3_12, ↓o_g3_13, ↓o_g3_14, ↓o_g3_15, ↓o_g3_16, ↓o_g3_17, ↓a_ln4, ↓a_ld4, ↓a_ln61, ↓a_ld61, ↓a_ln62, ↓a_ld62, o_c7, ↓o_g7_4, ↓o_g7_5, ↓o_g7_7, ↓o_g7_8, ↓o_g7_9, ↓o_g7_11, ↓o_g7_12, ↓o_g7_13, ↓o_g7_14, ↓o_g7_15, ↓o_g7_16, ↓o_g7_17, ↓q_wide h, ↓q_high h, ↓q_odds h, ↓q_year h, ↓q_less h, ↓q_pups h, ↓q_thorns h Z, ↓q_berries h Z, ↓q_hours h hw Z, ↓q_needs h hw Z, ↓q_at h hw Z, ↓q_want h hw Z, ↓q_knows h hw Z, ↓q_caught h hw Z, ↓q_marks h hw Z, ↓q_torn h hw Z, ↓c_cells h hw Z, ↓c_hasCell_t h hw Z, ↓c_hasCell_f h hw Z, ↓c_hasLesson_t h hw Z, ↓c_hasLesson_f h hw Z, ↓c_hasPupil_t h hw Z, ↓c_hasPupil_f h hw Z, ↓c_isCellNumber_t h hw Z, ↓c_isCellNumber_f h hw Z, ↓c_beside h hw Z, ↓c_touch h hw Z, ↓c_catchOf h hw Z, ↓c_clearSet h hw Z, ↓c_isCaught_t h hw Z, ↓c_isCaught_f h hw Z, ↓c_caughtSet h hw Z, ↓c_pupilsAt h hw Z, ↓c_pupilsWhoKnow h hw Z, ↓c_areNear h hw Z, ↓c_canHelp h hw Z, ↓c_helperSet h hw Z, ↓c_nextLesson h hw Z, ↓c_isNearSome h hw Z, ↓c_freedSet h hw Z, ↓d_none Z, ↓d_done Z, ↓d_refused Z, ↓d_granted Z, ↓k_isIn_f Z]
      · rw [B_X12_go]
        simp (disch := first | assumption | omega) only [↓sm, ↓reduceIte, ↓if_pos, ↓if_neg, kI, kJ, kR, kV, w32_eq, w64_eq, reduceCtorEq, Int.reduceAdd, Int.reduceMul, Int.reduceSub, o_c141, ↓o_g141_0, ↓o_g141_1, ↓o_g141_5, ↓o_g141_6, ↓o_g141_7, ↓o_g141_8, ↓o_g141_9, ↓o_g141_21, ↓o_g141_25, ↓o_g141_26, ↓o_g141_27, ↓o_g141_28, ↓o_g141_29, ↓o_g141_30, ↓o_g141_31, ↓o_g141_34, ↓o_g141_35, ↓o_g141_36, ↓r_pupilAt e hw Z, ↓r_at e, ↓r_atw e, ↓r_cellsOf e hw Z, ↓r_isCell_t e hw Z, ↓r_isCell_f e hw Z, ↓r_isLesson_t e hw Z, ↓r_isLesson_f e hw Z, ↓r_isPupil_t e hw Z, ↓r_isPupil_f e hw Z, ↓r_pupilOf e hw Z, ↓r_needsOf e hw Z, ↓r_catchBy e hw Z, ↓r_catchOf e hw Z, ↓r_isCaught_t e hw Z, ↓r_isCaught_f e hw Z, ↓r_allCaught e hw Z, ↓r_whoIs0 e hw Z, ↓r_whoIs1 e hw Z, ↓r_sideOf e hw Z, ↓r_isNear e hw Z, ↓r_nextLesson e hw Z, ↓r_canFree e hw Z, ↓r_nearTo e hw Z, ↓r_isIn Z, ↓r_pupilRow Z, ↓r_lessonRow Z, ↓k_bits Z, ↓d_refuse Z, ↓d_gives Z, ↓d_is0 Z, ↓d_is1 Z, ↓d_isFrom_t Z, ↓d_isFrom_f Z, ↓d_orNone_t Z, ↓d_orNone_f Z]
  · refine op_rd hI (-1) 1 (fun f => ?_) (fun t e f => ?_)
    · rw [B_X11_go]
      simp (disch := first | assumption | omega) only [↓sm, ↓reduceIte, ↓if_pos, ↓if_neg, kI, kJ, kR, kV, w32_eq, w64_eq, reduceCtorEq, Int.reduceAdd, Int.reduceMul, Int.reduceSub, o_c3, ↓o_g3_0, ↓o_g3_1, ↓o_g3_2, ↓o_g3_3, ↓o_g3_4, ↓o_g3_5, ↓o_g3_6, ↓o_g3_7, ↓o_g3_8, ↓o_g3_9, ↓o_g3_10, ↓o_g3_11, ↓o_g3_12, ↓o_g3_13, ↓o_g3_14, ↓o_g3_15, ↓o_g3_16, ↓o_g3_17, ↓a_ln4, ↓a_ld4, ↓a_ln61, ↓a_ld61, ↓a_ln62, ↓a_ld62, o_c7, ↓o_g7_4, ↓o_g7_5, ↓o_g7_7, ↓o_g7_8, ↓o_g7_9, ↓o_g7_11, ↓o_g7_12, ↓o_g7_13, ↓o_g7_14, ↓o_g7_15, ↓o_g7_16, ↓o_g7_17, ↓q_wide h, ↓q_high h, ↓q_odds h, ↓q_year h, ↓q_less h, ↓q_pups h, ↓q_thorns h Z, ↓q_berries h Z, ↓q_hours h hw Z, ↓q_needs h hw Z, ↓q_at h hw Z, ↓q_want h hw Z, ↓q_knows h hw Z, ↓q_caught h hw Z, ↓q_marks h hw Z, ↓q_torn h hw Z, ↓c_cells h hw Z, ↓c_hasCell_t h hw Z, ↓c_hasCell_f h hw Z, ↓c_hasLesson_t h hw Z, ↓c_hasLesson_f h hw Z, ↓c_hasPupil_t h hw Z, ↓c_hasPupil_f h hw Z, ↓c_isCellNumber_t h hw Z, ↓c_isCellNumber_f h hw Z, ↓c_beside h hw Z, ↓c_touch h hw Z, ↓c_catchOf h hw Z, ↓c_clearSet h hw Z, ↓c_isCaught_t h hw Z, ↓c_isCaught_f h hw Z, ↓c_caughtSet h hw Z, ↓c_pupilsAt h hw Z, ↓c_pupilsWhoKnow h hw Z, ↓c_areNear h hw Z, ↓c_canHelp h hw Z, ↓c_helperSet h hw Z, ↓c_nextLesson h hw Z, ↓c_isNearSome h hw Z, ↓c_freedSet h hw Z, ↓d_none Z, ↓d_done Z, ↓d_refused Z, ↓d_granted Z]
    · rw [B_X12_go]
      simp (disch := first | assumption | omega) only [↓sm, ↓reduceIte, ↓if_pos, ↓if_neg, kI, kJ, kR, kV, w32_eq, w64_eq, reduceCtorEq, Int.reduceAdd, Int.reduceMul, Int.reduceSub, o_c141, ↓o_g141_0, ↓o_g141_1, ↓o_g141_5, ↓o_g141_6, ↓o_g141_7, ↓o_g141_8, ↓o_g141_9, ↓o_g141_21, ↓o_g141_25, ↓o_g141_26, ↓o_g141_27, ↓o_g141_28, ↓o_g141_29, ↓o_g141_30, ↓o_g141_31, ↓o_g141_34, ↓o_g141_35, ↓o_g141_36, ↓r_pupilAt e hw Z, ↓r_at e, ↓r_atw e, ↓r_cellsOf e hw Z, ↓r_isCell_t e hw Z, ↓r_isCell_f e hw Z, ↓r_isLesson_t e hw Z, ↓r_isLesson_f e hw Z, ↓r_isPupil_t e hw Z, ↓r_isPupil_f e hw Z, ↓r_pupilOf e hw Z, ↓r_needsOf e hw Z, ↓r_catchBy e hw Z, ↓r_catchOf e hw Z, ↓r_isCaught_t e hw Z, ↓r_isCaught_f e hw Z, ↓r_allCaught e hw Z, ↓r_whoIs0 e hw Z, ↓r_whoIs1 e hw Z, ↓r_sideOf e hw Z, ↓r_isNear e hw Z, ↓r_nextLesson e hw Z, ↓r_canFree e hw Z, ↓r_nearTo e hw Z, ↓r_isIn Z, ↓r_pupilRow Z, ↓r_lessonRow Z, ↓k_bits Z, ↓d_refuse Z, ↓d_gives Z, ↓d_is0 Z, ↓d_is1 Z, ↓d_isFrom_t Z, ↓d_isFrom_f Z, ↓d_orNone_t Z, ↓d_orNone_f Z]
