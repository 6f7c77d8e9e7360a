/-! reach, far, way, calm -/
theorem op_rds {Z : mX} {s : mS} {a b : Nat} {as : List mV} (hI : Inv s) (v x : Int) (s' : mS)
    (hc : ∀ f : Int → mW → mO, mm_kI (mm_run (zP Z) a (.inr (.inr (some 3)) :: as) (mk s)) f = f v (mk (uF s' 3 15 x))) (cs : csc s s')
    (hr : ∀ t : mS, t.2 142 = s.2 142 → ∃ t', (∀ f : Int → mW → mO, mm_kI (mm_run (zP Z) b (.inr (.inr (some 141)) :: as) (mk t)) f = f v (mk (uF t' 141 2 x))) ∧ rsc t t') : OpI Z s a b as := by
  have e : (uF s' 3 15 x).2 142 = s.2 142 := cs.1 142 (by unfold scA; omega)
  obtain ⟨t', h1, h2⟩ := hr _ e
  exact ⟨v, _, _, hc, h1, inv_read hI (x := x) (Ag_uF cs (by unfold scF; omega) x) (by simp [uF_1]) (Ag_uF h2 (by unfold srF; omega) x) (by simp [uF_1])⟩
theorem a150_rsc {s t : mS} (h : Ag a150 noF s t) : rsc s t := Ag_mono h (fun q hq => by unfold a150 at hq; unfold srA; omega) (fun q k hq => hq.elim)
theorem bz_self {S : Int → Int} (hw : WF S) {x : Int} (hx : sub S x) : bz (fun k => tb x k.toNat) (ncl S) = x := by
  have n := wf_n hw
  refine tb_ext (bz_zr _ (by omega)) hx.1 (fun i hi => ?_)
  rw [tb_bz _ (by omega), Int.toNat_natCast]
  cases h : tb x i
  · rw [Bool.and_false]
  · have := hx.2 i h
    simp [this]
theorem cms_sub {S : Int → Int} (hw : WF S) {p : Int} (p0 : 0 ≤ p) (p1 : p < S 3) : sub S (cms S p) := by
  have wp := wf_p hw p0 p1
  unfold cms
  split
  · exact sub_bit hw wp.1 wp.2.1
  · exact sub_itn hw _ 25 (sub_bit hw wp.1 wp.2.1)
/-- what stepsTo answers -/
def stV (S : Int → Int) (p to : Int) (F : Int → Int) : Int := if 0 < S (74 + 6 * p + 3) ∧ S (74 + 6 * p) ≠ to then 1000000 else F (S (74 + 6 * p))
theorem stV_c {S : Int → Int} {p to : Int} {F : Int → Int} (hc : 0 < S (74 + 6 * p + 3)) (ha : S (74 + 6 * p) ≠ to) : stV S p to F = 1000000 := if_pos ⟨hc, ha⟩
theorem stV_n {S : Int → Int} {p to : Int} {F : Int → Int} (hn : ¬ (0 < S (74 + 6 * p + 3) ∧ S (74 + 6 * p) ≠ to)) : stV S p to F = F (S (74 + 6 * p)) := if_neg hn
theorem stV_r {S : Int → Int} (hw : WF S) {p to : Int} {F : Int → Int} (p0 : 0 ≤ p) (p1 : p < S 3) (h : FD S (Kc S p) to F) : 0 ≤ stV S p to F ∧ (stV S p to F ≤ 24 ∨ stV S p to F = 1000000) := by
  have wp := wf_p hw p0 p1
  have g := FD_24 hw h wp.1 wp.2.1
  have g2 := (h _ wp.1 wp.2.1).1
  unfold stV
  split <;> omega
theorem cms_FD {S : Int → Int} (hw : WF S) {p to : Int} {F : Int → Int} (p0 : 0 ≤ p) (p1 : p < S 3) (t0 : 0 ≤ to) (t1 : to < ncl S) (h : FD S (Kc S p) to F) : tb (cms S p) to.toNat = decide (stV S p to F < 1000000) := by
  have wp := wf_p hw p0 p1
  have n := wf_n hw
  unfold cms
  by_cases hc : 0 < S (74 + 6 * p + 3)
  · rw [if_pos hc, tb_shl1 wp.1 (by omega)]
    by_cases ha : S (74 + 6 * p) = to
    · rw [stV_n (fun x => x.2 ha)]
      have := (h _ wp.1 wp.2.1).2.2.2 0 ha
      rw [ha] at this ⊢
      simp
      omega
    · rw [stV_c hc ha]
      have : ¬ to.toNat = (S (74 + 6 * p)).toNat := by omega
      simp [this]
  · rw [if_neg hc, stV_n (fun x => hc x.1), clr_Kc]
    exact itn25_FD hw h wp.1 wp.2.1 t0 t1
theorem nx0 {S : Int → Int} (x : Int) (hx : zR32 x) : nx S 0 x = x := by
  unfold nx
  refine tb_ext (zr_32 _) hx (fun i _ => ?_)
  rw [tb_or, tb_and, tb_0, Bool.and_false, Bool.or_false]
theorem frS_FD {S : Int → Int} (hw : WF S) {p to : Int} {F : Int → Int} (p0 : 0 ≤ p) (p1 : p < S 3) (t0 : 0 ≤ to) (t1 : to < ncl S) (h : FD S (Kc S p) to F) : frS S p to = if stV S p to F < 1000000 then stV S p to F else -1 := by
  have wp := wf_p hw p0 p1
  have n := wf_n hw
  unfold frS
  by_cases hc : 0 < S (74 + 6 * p + 3)
  · rw [if_pos hc]
    have hz : zR32 (mm_ishl 1 (S (74 + 6 * p))) := zr_32 _
    have hfix := nx0 (S := S) _ hz
    by_cases ha : S (74 + 6 * p) = to
    · rw [stV_n (fun x => x.2 ha)]
      have g1 := (h _ wp.1 wp.2.1).2.2.2 0 ha
      have g0 := (h _ wp.1 wp.2.1).1
      rw [if_pos (by omega)]
      unfold stf
      rw [tb_shl1 wp.1 (by omega), ha]
      simp
      rw [ha] at g0 g1
      omega
    · rw [stV_c hc ha, if_neg (by omega)]
      rcases stf_spec (nx S 0) to 25 0 (mm_ishl 1 (S (74 + 6 * p))) with ⟨g1, _⟩ | ⟨j, _, _, g3, _⟩
      · exact g1
      · rw [itn_fix hfix, tb_shl1 wp.1 (by omega)] at g3
        simp at g3
        omega
  · rw [if_neg hc, stV_n (fun x => hc x.1), clr_Kc]
    exact stf_FD hw h wp.1 wp.2.1 t0 t1
theorem lp_reachOf {S : Int → Int} (hw : WF S) (Z : mX) (p : Int) (p0 : 0 ≤ p) (p1 : p < S 3) : ∀ i : Int, i ≤ ncl S → ∀ s : mS, s.2 142 = S → 0 ≤ i → ∃ s', mm_at (zP Z) 311 4 [some (.inr (.inr (some 141))), some (.inl p), some (.inl ((bz (fun k => tb (cms S p) k.toNat) i))), some (.inl i)] [] (mk s) = some (some (.inl (cms S p)), mk s') ∧ Ag a150 noF s s' := by
  have n := wf_n hw
  refine up ?_ ?_
  · intro s e i0
    refine ⟨s, ?_, Ag_refl _ _ _⟩
    rw [B_X12_reachOf_4, bz_self hw (cms_sub hw p0 p1)]
    simp (disch := first | assumption | omega) only [↓sm, ↓reduceIte, ↓if_pos, ↓if_neg, kI, kJ, kR, kV, w32_eq, w64_eq, reduceCtorEq, Int.reduceAdd, Int.reduceMul, Int.reduceSub, o_c141, ↓o_g141_0, ↓o_g141_1, ↓o_g141_5, ↓o_g141_6, ↓o_g141_7, ↓o_g141_8, ↓o_g141_9, ↓o_g141_21, ↓o_g141_25, ↓o_g141_26, ↓o_g141_27, ↓o_g141_28, ↓o_g141_29, ↓o_g141_30, ↓o_g141_31, ↓o_g141_34, ↓o_g141_35, ↓o_g141_36, ↓r_cellsOf e hw Z]
  · intro i hi ih s e i0
    obtain ⟨s1, F, a1, a2, a3, a4⟩ := r_stepsTo e hw Z p i p0 p1 i0 hi
    have e1 : s1.2 142 = S := (Ag_142 a4).trans e
    obtain ⟨s', g1, g2⟩ := ih s1 e1 (by omega)
    have a1' : ∀ f : Int → mW → mO, mm_kI (mm_run (zP Z) 310 [.inr (.inr (some 141)), .inl p, .inl i] (mk s)) f = f (stV S p i F) (mk s1) := a1
    have hd := cms_FD hw p0 p1 i0 hi a3
    refine ⟨s', ?_, Ag_trans a4 g2⟩
    rw [B_X12_reachOf_4]
    by_cases hlt : stV S p i F < 1000000
    · have o := bz_or1 (fun k => tb (cms S p) k.toNat) i0 (by omega) (by rw [hd]; simpa using hlt)
      simp (disch := first | assumption | omega) only [↓sm, ↓reduceIte, ↓if_pos, ↓if_neg, kI, kJ, kR, kV, w32_eq, w64_eq, reduceCtorEq, Int.reduceAdd, Int.reduceMul, Int.reduceSub, o_c141, ↓o_g141_0, ↓o_g141_1, ↓o_g141_5, ↓o_g141_6, ↓o_g141_7, ↓o_g141_8, ↓o_g141_9, ↓o_g141_21, ↓o_g141_25, ↓o_g141_26, ↓o_g141_27, ↓o_g141_28, ↓o_g141_29, ↓o_g141_30, ↓o_g141_31, ↓o_g141_34, ↓o_g141_35, ↓o_g141_36, ↓r_cellsOf e hw Z, ↓a1', o, g1]
    · have o := bz_or0 (fun k => tb (cms S p) k.toNat) i0 (by rw [hd]; simpa using hlt)
      rw [o] at g1
      simp (disch := first | assumption | omega) only [↓sm, ↓reduceIte, ↓if_pos, ↓if_neg, kI, kJ, kR, kV, w32_eq, w64_eq, reduceCtorEq, Int.reduceAdd, Int.reduceMul, Int.reduceSub, o_c141, ↓o_g141_0, ↓o_g141_1, ↓o_g141_5, ↓o_g141_6, ↓o_g141_7, ↓o_g141_8, ↓o_g141_9, ↓o_g141_21, ↓o_g141_25, ↓o_g141_26, ↓o_g141_27, ↓o_g141_28, ↓o_g141_29, ↓o_g141_30, ↓o_g141_31, ↓o_g141_34, ↓o_g141_35, ↓o_g141_36, ↓r_cellsOf e hw Z, ↓a1', p2_or0 _ (bz_zr (fun k => tb (cms S p) k.toNat) (n := i) (by omega)), g1]
theorem r_reachOf {s : mS} {S : Int → Int} (e : s.2 142 = S) (hw : WF S) (Z : mX) (p : Int) (p0 : 0 ≤ p) (p1 : p < S 3) : ∃ s', (∀ f : Int → mW → mO, mm_kI (mm_run (zP Z) 311 [.inr (.inr (some 141)), .inl p] (mk s)) f = f (cms S p) (mk s')) ∧ Ag a150 noF s s' := by
  have n := wf_n hw
  obtain ⟨s', g1, g2⟩ := lp_reachOf hw Z p p0 p1 0 (by omega) s e (by omega)
  rw [bz_0] at g1
  refine ⟨s', fun f => ?_, g2⟩
  rw [B_X12_reachOf, g1, kI]
theorem op_reach (Z : mX) (s : mS) (hI : Inv s) (p : Int) : OpI Z s 162 312 [.inl p] := by
  have h := hI.2.2.1.2
  have hw := hI.2.2.1.1
  by_cases hp : 0 ≤ p ∧ p < s.2 142 3
  · refine op_rds hI (cms (s.2 142) p) 0 s (fun f => ?_) (Ag_refl _ _ _) (fun t e => ?_)
    · rw [B_X11_reach]
      simp (disch := first | assumption | omega) only [↓sm, ↓reduceIte, ↓if_pos, ↓if_neg, kI, kJ, kR, kV, w32_eq, w64_eq, reduceCtorEq, Int.reduceAdd, Int.reduceMul, Int.reduceSub, o_c3, ↓o_g3_0, ↓o_g3_1, ↓o_g3_2, ↓o_g3_3, ↓o_g3_4, ↓o_g3_5, ↓o_g3_6, ↓o_g3_7, ↓o_g3_8, ↓o_g3_9, ↓o_g3_10, ↓o_g3_11, ↓o_g3_12, ↓o_g3_13, ↓o_g3_14, ↓o_g3_15, ↓o_g3_16, ↓o_g3_17, ↓a_ln4, ↓a_ld4, ↓a_ln61, ↓a_ld61, ↓a_ln62, ↓a_ld62, o_c7, ↓o_g7_4, ↓o_g7_5, ↓o_g7_7, ↓o_g7_8, ↓o_g7_9, ↓o_g7_11, ↓o_g7_12, ↓o_g7_13, ↓o_g7_14, ↓o_g7_15, ↓o_g7_16, ↓o_g7_17, ↓q_wide h, ↓q_high h, ↓q_odds h, ↓q_year h, ↓q_less h, ↓q_pups h, ↓q_thorns h Z, ↓q_berries h Z, ↓q_hours h hw Z, ↓q_needs h hw Z, ↓q_at h hw Z, ↓q_want h hw Z, ↓q_knows h hw Z, ↓q_caught h hw Z, ↓q_marks h hw Z, ↓q_torn h hw Z, ↓c_cells h hw Z, ↓c_hasCell_t h hw Z, ↓c_hasCell_f h hw Z, ↓c_hasLesson_t h hw Z, ↓c_hasLesson_f h hw Z, ↓c_hasPupil_t h hw Z, ↓c_hasPupil_f h hw Z, ↓c_isCellNumber_t h hw Z, ↓c_isCellNumber_f h hw Z, ↓c_beside h hw Z, ↓c_touch h hw Z, ↓c_catchOf h hw Z, ↓c_clearSet h hw Z, ↓c_isCaught_t h hw Z, ↓c_isCaught_f h hw Z, ↓c_caughtSet h hw Z, ↓c_pupilsAt h hw Z, ↓c_pupilsWhoKnow h hw Z, ↓c_areNear h hw Z, ↓c_canHelp h hw Z, ↓c_helperSet h hw Z, ↓c_nextLesson h hw Z, ↓c_isNearSome h hw Z, ↓c_freedSet h hw Z, ↓d_none Z, ↓d_done Z, ↓d_refused Z, ↓d_granted Z, o_c66, ↓c_comeSet h hw Z]
    · obtain ⟨t', g1, g2⟩ := r_reachOf e hw Z p hp.1 hp.2
      refine ⟨t', fun f => ?_, a150_rsc g2⟩
      rw [B_X12_reach]
      simp (disch := first | assumption | omega) only [↓sm, ↓reduceIte, ↓if_pos, ↓if_neg, kI, kJ, kR, kV, w32_eq, w64_eq, reduceCtorEq, Int.reduceAdd, Int.reduceMul, Int.reduceSub, o_c141, ↓o_g141_0, ↓o_g141_1, ↓o_g141_5, ↓o_g141_6, ↓o_g141_7, ↓o_g141_8, ↓o_g141_9, ↓o_g141_21, ↓o_g141_25, ↓o_g141_26, ↓o_g141_27, ↓o_g141_28, ↓o_g141_29, ↓o_g141_30, ↓o_g141_31, ↓o_g141_34, ↓o_g141_35, ↓o_g141_36, ↓r_pupilAt e hw Z, ↓r_at e, ↓r_atw e, ↓r_cellsOf e hw Z, ↓r_isCell_t e hw Z, ↓r_isCell_f e hw Z, ↓r_isLesson_t e hw Z, ↓r_isLesson_f e hw Z, ↓r_isPupil_t e hw Z, ↓r_isPupil_f e hw Z, ↓r_pupilOf e hw Z, ↓r_needsOf e hw Z, ↓r_catchBy e hw Z, ↓r_catchOf e hw Z, ↓r_isCaught_t e hw Z, ↓r_isCaught_f e hw Z, ↓r_allCaught e hw Z, ↓r_whoIs0 e hw Z, ↓r_whoIs1 e hw Z, ↓r_sideOf e hw Z, ↓r_isNear e hw Z, ↓r_nextLesson e hw Z, ↓r_canFree e hw Z, ↓r_nearTo e hw Z, ↓r_isIn Z, ↓r_pupilRow Z, ↓r_lessonRow Z, ↓k_bits Z, ↓d_refuse Z, ↓d_gives Z, ↓d_is0 Z, ↓d_is1 Z, ↓d_isFrom_t Z, ↓d_isFrom_f Z, ↓d_orNone_t Z, ↓d_orNone_f Z, ↓g1]
  · refine op_rd hI (-1) 1 (fun f => ?_) (fun t e f => ?_)
    · rw [B_X11_reach]
      simp (disch := first | assumption | omega) only [↓sm, ↓reduceIte, ↓if_pos, ↓if_neg, kI, kJ, kR, kV, w32_eq, w64_eq, reduceCtorEq, Int.reduceAdd, Int.reduceMul, Int.reduceSub, o_c3, ↓o_g3_0, ↓o_g3_1, ↓o_g3_2, ↓o_g3_3, ↓o_g3_4, ↓o_g3_5, ↓o_g3_6, ↓o_g3_7, ↓o_g3_8, ↓o_g3_9, ↓o_g3_10, ↓o_g3_11, ↓o_g3_12, ↓o_g3_13, ↓o_g3_14, ↓o_g3_15, ↓o_g3_16, ↓o_g3_17, ↓a_ln4, ↓a_ld4, ↓a_ln61, ↓a_ld61, ↓a_ln62, ↓a_ld62, o_c7, ↓o_g7_4, ↓o_g7_5, ↓o_g7_7, ↓o_g7_8, ↓o_g7_9, ↓o_g7_11, ↓o_g7_12, ↓o_g7_13, ↓o_g7_14, ↓o_g7_15, ↓o_g7_16, ↓o_g7_17, ↓q_wide h, ↓q_high h, ↓q_odds h, ↓q_year h, ↓q_less h, ↓q_pups h, ↓q_thorns h Z, ↓q_berries h Z, ↓q_hours h hw Z, ↓q_needs h hw Z, ↓q_at h hw Z, ↓q_want h hw Z, ↓q_knows h hw Z, ↓q_caught h hw Z, ↓q_marks h hw Z, ↓q_torn h hw Z, ↓c_cells h hw Z, ↓c_hasCell_t h hw Z, ↓c_hasCell_f h hw Z, ↓c_hasLesson_t h hw Z, ↓c_hasLesson_f h hw Z, ↓c_hasPupil_t h hw Z, ↓c_hasPupil_f h hw Z, ↓c_isCellNumber_t h hw Z, ↓c_isCellNumber_f h hw Z, ↓c_beside h hw Z, ↓c_touch h hw Z, ↓c_catchOf h hw Z, ↓c_clearSet h hw Z, ↓c_isCaught_t h hw Z, ↓c_isCaught_f h hw Z, ↓c_caughtSet h hw Z, ↓c_pupilsAt h hw Z, ↓c_pupilsWhoKnow h hw Z, ↓c_areNear h hw Z, ↓c_canHelp h hw Z, ↓c_helperSet h hw Z, ↓c_nextLesson h hw Z, ↓c_isNearSome h hw Z, ↓c_freedSet h hw Z, ↓d_none Z, ↓d_done Z, ↓d_refused Z, ↓d_granted Z]
    · rw [B_X12_reach]
      simp (disch := first | assumption | omega) only [↓sm, ↓reduceIte, ↓if_pos, ↓if_neg, kI, kJ, kR, kV, w32_eq, w64_eq, reduceCtorEq, Int.reduceAdd, Int.reduceMul, Int.reduceSub, o_c141, ↓o_g141_0, ↓o_g141_1, ↓o_g141_5, ↓o_g141_6, ↓o_g141_7, ↓o_g141_8, ↓o_g141_9, ↓o_g141_21, ↓o_g141_25, ↓o_g141_26, ↓o_g141_27, ↓o_g141_28, ↓o_g141_29, ↓o_g141_30, ↓o_g141_31, ↓o_g141_34, ↓o_g141_35, ↓o_g141_36, ↓r_pupilAt e hw Z, ↓r_at e, ↓r_atw e, ↓r_cellsOf e hw Z, ↓r_isCell_t e hw Z, ↓r_isCell_f e hw Z, ↓r_isLesson_t e hw Z, ↓r_isLesson_f e hw Z, ↓r_isPupil_t e hw Z, ↓r_isPupil_f e hw Z, ↓r_pupilOf e hw Z, ↓r_needsOf e hw Z, ↓r_catchBy e hw Z, ↓r_catchOf e hw Z, ↓r_isCaught_t e hw Z, ↓r_isCaught_f e hw Z, ↓r_allCaught e hw Z, ↓r_whoIs0 e hw Z, ↓r_whoIs1 e hw Z, ↓r_sideOf e hw Z, ↓r_isNear e hw Z, ↓r_nextLesson e hw Z, ↓r_canFree e hw Z, ↓r_nearTo e hw Z, ↓r_isIn Z, ↓r_pupilRow Z, ↓r_lessonRow Z, ↓k_bits Z, ↓d_refuse Z, ↓d_gives Z, ↓d_is0 Z, ↓d_is1 Z, ↓d_isFrom_t Z, ↓d_isFrom_f Z, ↓d_orNone_t Z, ↓d_orNone_f Z]
/-- a class and a pupil's cell that fall out of reach of the question: status 1 -/
theorem op_far (Z : mX) (s : mS) (hI : Inv s) (p c : Int) : OpI Z s 163 313 [.inl p, .inl c] := by
  have h := hI.2.2.1.2
  have hw := hI.2.2.1.1
  have n := wf_n hw
  by_cases hp : 0 ≤ p ∧ p < s.2 142 3
  · by_cases hc : 0 ≤ c ∧ c < ncl (s.2 142)
    · by_cases hf : frS (s.2 142) p c = -1
      · refine op_rds hI (-1) 6 s (fun f => ?_) (Ag_refl _ _ _) (fun t e => ?_)
        · rw [B_X11_far]
          simp (disch := first | assumption | omega) only [↓sm, ↓reduceIte, ↓if_pos, ↓if_neg, kI, kJ, kR, kV, w32_eq, w64_eq, reduceCtorEq, Int.reduceAdd, Int.reduceMul, Int.reduceSub, o_c3, ↓o_g3_0, ↓o_g3_1, ↓o_g3_2, ↓o_g3_3, ↓o_g3_4, ↓o_g3_5, ↓o_g3_6, ↓o_g3_7, ↓o_g3_8, ↓o_g3_9, ↓o_g3_10, ↓o_g3_11, ↓o_g3_12, ↓o_g3_13, ↓o_g3_14, ↓o_g3_15, ↓o_g3_16, ↓o_g3_17, ↓a_ln4, ↓a_ld4, ↓a_ln61, ↓a_ld61, ↓a_ln62, ↓a_ld62, o_c7, ↓o_g7_4, ↓o_g7_5, ↓o_g7_7, ↓o_g7_8, ↓o_g7_9, ↓o_g7_11, ↓o_g7_12, ↓o_g7_13, ↓o_g7_14, ↓o_g7_15, ↓o_g7_16, ↓o_g7_17, ↓q_wide h, ↓q_high h, ↓q_odds h, ↓q_year h, ↓q_less h, ↓q_pups h, ↓q_thorns h Z, ↓q_berries h Z, ↓q_hours h hw Z, ↓q_needs h hw Z, ↓q_at h hw Z, ↓q_want h hw Z, ↓q_knows h hw Z, ↓q_caught h hw Z, ↓q_marks h hw Z, ↓q_torn h hw Z, ↓c_cells h hw Z, ↓c_hasCell_t h hw Z, ↓c_hasCell_f h hw Z, ↓c_hasLesson_t h hw Z, ↓c_hasLesson_f h hw Z, ↓c_hasPupil_t h hw Z, ↓c_hasPupil_f h hw Z, ↓c_isCellNumber_t h hw Z, ↓c_isCellNumber_f h hw Z, ↓c_beside h hw Z, ↓c_touch h hw Z, ↓c_catchOf h hw Z, ↓c_clearSet h hw Z, ↓c_isCaught_t h hw Z, ↓c_isCaught_f h hw Z, ↓c_caughtSet h hw Z, ↓c_pupilsAt h hw Z, ↓c_pupilsWhoKnow h hw Z, ↓c_areNear h hw Z, ↓c_canHelp h hw Z, ↓c_helperSet h hw Z, ↓c_nextLesson h hw Z, ↓c_isNearSome h hw Z, ↓c_freedSet h hw Z, ↓d_none Z, ↓d_done Z, ↓d_refused Z, ↓d_granted Z, o_c66, ↓c_steps h hw Z, hf]
        · obtain ⟨t', F, g1, g2, g3, g4⟩ := r_stepsTo e hw Z p c hp.1 hp.2 hc.1 hc.2
          have g1' : ∀ f : Int → mW → mO, mm_kI (mm_run (zP Z) 310 [.inr (.inr (some 141)), .inl p, .inl c] (mk t)) f = f (stV (s.2 142) p c F) (mk t') := g1
          have r := stV_r hw hp.1 hp.2 g3
          have k := frS_FD hw hp.1 hp.2 hc.1 hc.2 g3
          rw [hf] at k
          have hlt : ¬ stV (s.2 142) p c F < 1000000 := fun x => by rw [if_pos x] at k; omega
          refine ⟨t', fun f => ?_, a150_rsc g4⟩
          rw [B_X12_far]
          simp (disch := first | assumption | omega) only [↓sm, ↓reduceIte, ↓if_pos, ↓if_neg, kI, kJ, kR, kV, w32_eq, w64_eq, reduceCtorEq, Int.reduceAdd, Int.reduceMul, Int.reduceSub, o_c141, ↓o_g141_0, ↓o_g141_1, ↓o_g141_5, ↓o_g141_6, ↓o_g141_7, ↓o_g141_8, ↓o_g141_9, ↓o_g141_21, ↓o_g141_25, ↓o_g141_26, ↓o_g141_27, ↓o_g141_28, ↓o_g141_29, ↓o_g141_30, ↓o_g141_31, ↓o_g141_34, ↓o_g141_35, ↓o_g141_36, ↓r_pupilAt e hw Z, ↓r_at e, ↓r_atw e, ↓r_cellsOf e hw Z, ↓r_isCell_t e hw Z, ↓r_isCell_f e hw Z, ↓r_isLesson_t e hw Z, ↓r_isLesson_f e hw Z, ↓r_isPupil_t e hw Z, ↓r_isPupil_f e hw Z, ↓r_pupilOf e hw Z, ↓r_needsOf e hw Z, ↓r_catchBy e hw Z, ↓r_catchOf e hw Z, ↓r_isCaught_t e hw Z, ↓r_isCaught_f e hw Z, ↓r_allCaught e hw Z, ↓r_whoIs0 e hw Z, ↓r_whoIs1 e hw Z, ↓r_sideOf e hw Z, ↓r_isNear e hw Z, ↓r_nextLesson e hw Z, ↓r_canFree e hw Z, ↓r_nearTo e hw Z, ↓r_isIn Z, ↓r_pupilRow Z, ↓r_lessonRow Z, ↓k_bits Z, ↓d_refuse Z, ↓d_gives Z, ↓d_is0 Z, ↓d_is1 Z, ↓d_isFrom_t Z, ↓d_isFrom_f Z, ↓d_orNone_t Z, ↓d_orNone_f Z, ↓g1']
      · refine op_rds hI (frS (s.2 142) p c) 0 s (fun f => ?_) (Ag_refl _ _ _) (fun t e => ?_)
        · rw [B_X11_far]
          simp (disch := first | assumption | omega) only [↓sm, ↓reduceIte, ↓if_pos, ↓if_neg, kI, kJ, kR, kV, w32_eq, w64_eq, reduceCtorEq, Int.reduceAdd, Int.reduceMul, Int.reduceSub, o_c3, ↓o_g3_0, ↓o_g3_1, ↓o_g3_2, ↓o_g3_3, ↓o_g3_4, ↓o_g3_5, ↓o_g3_6, ↓o_g3_7, ↓o_g3_8, ↓o_g3_9, ↓o_g3_10, ↓o_g3_11, ↓o_g3_12, ↓o_g3_13, ↓o_g3_14, ↓o_g3_15, ↓o_g3_16, ↓o_g3_17, ↓a_ln4, ↓a_ld4, ↓a_ln61, ↓a_ld61, ↓a_ln62, ↓a_ld62, o_c7, ↓o_g7_4, ↓o_g7_5, ↓o_g7_7, ↓o_g7_8, ↓o_g7_9, ↓o_g7_11, ↓o_g7_12, ↓o_g7_13, ↓o_g7_14, ↓o_g7_15, ↓o_g7_16, ↓o_g7_17, ↓q_wide h, ↓q_high h, ↓q_odds h, ↓q_year h, ↓q_less h, ↓q_pups h, ↓q_thorns h Z, ↓q_berries h Z, ↓q_hours h hw Z, ↓q_needs h hw Z, ↓q_at h hw Z, ↓q_want h hw Z, ↓q_knows h hw Z, ↓q_caught h hw Z, ↓q_marks h hw Z, ↓q_torn h hw Z, ↓c_cells h hw Z, ↓c_hasCell_t h hw Z, ↓c_hasCell_f h hw Z, ↓c_hasLesson_t h hw Z, ↓c_hasLesson_f h hw Z, ↓c_hasPupil_t h hw Z, ↓c_hasPupil_f h hw Z, ↓c_isCellNumber_t h hw Z, ↓c_isCellNumber_f h hw Z, ↓c_beside h hw Z, ↓c_touch h hw Z, ↓c_catchOf h hw Z, ↓c_clearSet h hw Z, ↓c_isCaught_t h hw Z, ↓c_isCaught_f h hw Z, ↓c_caughtSet h hw Z, ↓c_pupilsAt h hw Z, ↓c_pupilsWhoKnow h hw Z, ↓c_areNear h hw Z, ↓c_canHelp h hw Z, ↓c_helperSet h hw Z, ↓c_nextLesson h hw Z, ↓c_isNearSome h hw Z, ↓c_freedSet h hw Z, ↓d_none Z, ↓d_done Z, ↓d_refused Z, ↓d_granted Z, o_c66, ↓c_steps h hw Z, hf]
        · obtain ⟨t', F, g1, g2, g3, g4⟩ := r_stepsTo e hw Z p c hp.1 hp.2 hc.1 hc.2
          have g1' : ∀ f : Int → mW → mO, mm_kI (mm_run (zP Z) 310 [.inr (.inr (some 141)), .inl p, .inl c] (mk t)) f = f (stV (s.2 142) p c F) (mk t') := g1
          have k := frS_FD hw hp.1 hp.2 hc.1 hc.2 g3
          have hlt : stV (s.2 142) p c F < 1000000 := by
            apply Classical.byContradiction
            intro x
            rw [if_neg x] at k
            exact hf k
          rw [if_pos hlt] at k
          rw [k]
          refine ⟨t', fun f => ?_, a150_rsc g4⟩
          rw [B_X12_far]
          simp (disch := first | assumption | omega) only [↓sm, ↓reduceIte, ↓if_pos, ↓if_neg, kI, kJ, kR, kV, w32_eq, w64_eq, reduceCtorEq, Int.reduceAdd, Int.reduceMul, Int.reduceSub, o_c141, ↓o_g141_0, ↓o_g141_1, ↓o_g141_5, ↓o_g141_6, ↓o_g141_7, ↓o_g141_8, ↓o_g141_9, ↓o_g141_21, ↓o_g141_25, ↓o_g141_26, ↓o_g141_27, ↓o_g141_28, ↓o_g141_29, ↓o_g141_30, ↓o_g141_31, ↓o_g141_34, ↓o_g141_35, ↓o_g141_36, ↓r_pupilAt e hw Z, ↓r_at e, ↓r_atw e, ↓r_cellsOf e hw Z, ↓r_isCell_t e hw Z, ↓r_isCell_f e hw Z, ↓r_isLesson_t e hw Z, ↓r_isLesson_f e hw Z, ↓r_isPupil_t e hw Z, ↓r_isPupil_f e hw Z, ↓r_pupilOf e hw Z, ↓r_needsOf e hw Z, ↓r_catchBy e hw Z, ↓r_catchOf e hw Z, ↓r_isCaught_t e hw Z, ↓r_isCaught_f e hw Z, ↓r_allCaught e hw Z, ↓r_whoIs0 e hw Z, ↓r_whoIs1 e hw Z, ↓r_sideOf e hw Z, ↓r_isNear e hw Z, ↓r_nextLesson e hw Z, ↓r_canFree e hw Z, ↓r_nearTo e hw Z, ↓r_isIn Z, ↓r_pupilRow Z, ↓r_lessonRow Z, ↓k_bits Z, ↓d_refuse Z, ↓d_gives Z, ↓d_is0 Z, ↓d_is1 Z, ↓d_isFrom_t Z, ↓d_isFrom_f Z, ↓d_orNone_t Z, ↓d_orNone_f Z, ↓g1']
    · refine op_rd hI (-1) 1 (fun f => ?_) (fun t e f => ?_)
      · rw [B_X11_far]
        simp (disch := first | assumption | omega) only [↓sm, ↓reduceIte, ↓if_pos, ↓if_neg, kI, kJ, kR, kV, w32_eq, w64_eq, reduceCtorEq, Int.reduceAdd, Int.reduceMul, Int.reduceSub, o_c3, ↓o_g3_0, ↓o_g3_1, ↓o_g3_2, ↓o_g3_3, ↓o_g3_4, ↓o_g3_5, ↓o_g3_6, ↓o_g3_7, ↓o_g3_8, ↓o_g3_9, ↓o_g3_10, ↓o_g3_11, ↓o_g3_12, ↓o_g3_13, ↓o_g3_14, ↓o_g3_15, ↓o_g3_16, ↓o_g3_17, ↓a_ln4, ↓a_ld4, ↓a_ln61, ↓a_ld61, ↓a_ln62, ↓a_ld62, o_c7, ↓o_g7_4, ↓o_g7_5, ↓o_g7_7, ↓o_g7_8, ↓o_g7_9, ↓o_g7_11, ↓o_g7_12, ↓o_g7_13, ↓o_g7_14, ↓o_g7_15, ↓o_g7_16, ↓o_g7_17, ↓q_wide h, ↓q_high h, ↓q_odds h, ↓q_year h, ↓q_less h, ↓q_pups h, ↓q_thorns h Z, ↓q_berries h Z, ↓q_hours h hw Z, ↓q_needs h hw Z, ↓q_at h hw Z, ↓q_want h hw Z, ↓q_knows h hw Z, ↓q_caught h hw Z, ↓q_marks h hw Z, ↓q_torn h hw Z, ↓c_cells h hw Z, ↓c_hasCell_t h hw Z, ↓c_hasCell_f h hw Z, ↓c_hasLesson_t h hw Z, ↓c_hasLesson_f h hw Z, ↓c_hasPupil_t h hw Z, ↓c_hasPupil_f h hw Z, ↓c_isCellNumber_t h hw Z, ↓c_isCellNumber_f h hw Z, ↓c_beside h hw Z, ↓c_touch h hw Z, ↓c_catchOf h hw Z, ↓c_clearSet h hw Z, ↓c_isCaught_t h hw Z, ↓c_isCaught_f h hw Z, ↓c_caughtSet h hw Z, ↓c_pupilsAt h hw Z, ↓c_pupilsWhoKnow h hw Z, ↓c_areNear h hw Z, ↓c_canHelp h hw Z, ↓c_helperSet h hw Z, ↓c_nextLesson h hw Z, ↓c_isNearSome h hw Z, ↓c_freedSet h hw Z, ↓d_none Z, ↓d_done Z, ↓d_refused Z, ↓d_granted Z]
      · rw [B_X12_far]
        simp (disch := first | assumption | omega) only [↓sm, ↓reduceIte, ↓if_pos, ↓if_neg, kI, kJ, kR, kV, w32_eq, w64_eq, reduceCtorEq, Int.reduceAdd, Int.reduceMul, Int.reduceSub, o_c141, ↓o_g141_0, ↓o_g141_1, ↓o_g141_5, ↓o_g141_6, ↓o_g141_7, ↓o_g141_8, ↓o_g141_9, ↓o_g141_21, ↓o_g141_25, ↓o_g141_26, ↓o_g141_27, ↓o_g141_28, ↓o_g141_29, ↓o_g141_30, ↓o_g141_31, ↓o_g141_34, ↓o_g141_35, ↓o_g141_36, ↓r_pupilAt e hw Z, ↓r_at e, ↓r_atw e, ↓r_cellsOf e hw Z, ↓r_isCell_t e hw Z, ↓r_isCell_f e hw Z, ↓r_isLesson_t e hw Z, ↓r_isLesson_f e hw Z, ↓r_isPupil_t e hw Z, ↓r_isPupil_f e hw Z, ↓r_pupilOf e hw Z, ↓r_needsOf e hw Z, ↓r_catchBy e hw Z, ↓r_catchOf e hw Z, ↓r_isCaught_t e hw Z, ↓r_isCaught_f e hw Z, ↓r_allCaught e hw Z, ↓r_whoIs0 e hw Z, ↓r_whoIs1 e hw Z, ↓r_sideOf e hw Z, ↓r_isNear e hw Z, ↓r_nextLesson e hw Z, ↓r_canFree e hw Z, ↓r_nearTo e hw Z, ↓r_isIn Z, ↓r_pupilRow Z, ↓r_lessonRow Z, ↓k_bits Z, ↓d_refuse Z, ↓d_gives Z, ↓d_is0 Z, ↓d_is1 Z, ↓d_isFrom_t Z, ↓d_isFrom_f Z, ↓d_orNone_t Z, ↓d_orNone_f Z]
  · refine op_rd hI (-1) 1 (fun f => ?_) (fun t e f => ?_)
    · rw [B_X11_far]
      simp (disch := first | assumption | omega) only [↓sm, ↓reduceIte, ↓if_pos, ↓if_neg, kI, kJ, kR, kV, w32_eq, w64_eq, reduceCtorEq, Int.reduceAdd, Int.reduceMul, Int.reduceSub, o_c3, ↓o_g3_0, ↓o_g3_1, ↓o_g3_2, ↓o_g3_3, ↓o_g3_4, ↓o_g3_5, ↓o_g3_6, ↓o_g3_7, ↓o_g3_8, ↓o_g3_9, ↓o_g3_10, ↓o_g3_11, ↓o_g3_12, ↓o_g3_13, ↓o_g3_14, ↓o_g3_15, ↓o_g3_16, ↓o_g3_17, ↓a_ln4, ↓a_ld4, ↓a_ln61, ↓a_ld61, ↓a_ln62, ↓a_ld62, o_c7, ↓o_g7_4, ↓o_g7_5, ↓o_g7_7, ↓o_g7_8, ↓o_g7_9, ↓o_g7_11, ↓o_g7_12, ↓o_g7_13, ↓o_g7_14, ↓o_g7_15, ↓o_g7_16, ↓o_g7_17, ↓q_wide h, ↓q_high h, ↓q_odds h, ↓q_year h, ↓q_less h, ↓q_pups h, ↓q_thorns h Z, ↓q_berries h Z, ↓q_hours h hw Z, ↓q_needs h hw Z, ↓q_at h hw Z, ↓q_want h hw Z, ↓q_knows h hw Z, ↓q_caught h hw Z, ↓q_marks h hw Z, ↓q_torn h hw Z, ↓c_cells h hw Z, ↓c_hasCell_t h hw Z, ↓c_hasCell_f h hw Z, ↓c_hasLesson_t h hw Z, ↓c_hasLesson_f h hw Z, ↓c_hasPupil_t h hw Z, ↓c_hasPupil_f h hw Z, ↓c_isCellNumber_t h hw Z, ↓c_isCellNumber_f h hw Z, ↓c_beside h hw Z, ↓c_touch h hw Z, ↓c_catchOf h hw Z, ↓c_clearSet h hw Z, ↓c_isCaught_t h hw Z, ↓c_isCaught_f h hw Z, ↓c_caughtSet h hw Z, ↓c_pupilsAt h hw Z, ↓c_pupilsWhoKnow h hw Z, ↓c_areNear h hw Z, ↓c_canHelp h hw Z, ↓c_helperSet h hw Z, ↓c_nextLesson h hw Z, ↓c_isNearSome h hw Z, ↓c_freedSet h hw Z, ↓d_none Z, ↓d_done Z, ↓d_refused Z, ↓d_granted Z]
    · rw [B_X12_far]
      simp (disch := first | assumption | omega) only [↓sm, ↓reduceIte, ↓if_pos, ↓if_neg, kI, kJ, kR, kV, w32_eq, w64_eq, reduceCtorEq, Int.reduceAdd, Int.reduceMul, Int.reduceSub, o_c141, ↓o_g141_0, ↓o_g141_1, ↓o_g141_5, ↓o_g141_6, ↓o_g141_7, ↓o_g141_8, ↓o_g141_9, ↓o_g141_21, ↓o_g141_25, ↓o_g141_26, ↓o_g141_27, ↓o_g141_28, ↓o_g141_29, ↓o_g141_30, ↓o_g141_31, ↓o_g141_34, ↓o_g141_35, ↓o_g141_36, ↓r_pupilAt e hw Z, ↓r_at e, ↓r_atw e, ↓r_cellsOf e hw Z, ↓r_isCell_t e hw Z, ↓r_isCell_f e hw Z, ↓r_isLesson_t e hw Z, ↓r_isLesson_f e hw Z, ↓r_isPupil_t e hw Z, ↓r_isPupil_f e hw Z, ↓r_pupilOf e hw Z, ↓r_needsOf e hw Z, ↓r_catchBy e hw Z, ↓r_catchOf e hw Z, ↓r_isCaught_t e hw Z, ↓r_isCaught_f e hw Z, ↓r_allCaught e hw Z, ↓r_whoIs0 e hw Z, ↓r_whoIs1 e hw Z, ↓r_sideOf e hw Z, ↓r_isNear e hw Z, ↓r_nextLesson e hw Z, ↓r_canFree e hw Z, ↓r_nearTo e hw Z, ↓r_isIn Z, ↓r_pupilRow Z, ↓r_lessonRow Z, ↓k_bits Z, ↓d_refuse Z, ↓d_gives Z, ↓d_is0 Z, ↓d_is1 Z, ↓d_isFrom_t Z, ↓d_isFrom_f Z, ↓d_orNone_t Z, ↓d_orNone_f Z]
/-! the way -/
def cndB (S : Int → Int) (K : Int → Bool) (F : Int → Int) (a i : Int) : Bool := decide (sd S a i ≠ -1) && (K (sd S a i) && decide (F (sd S a i) = F a - 1))
theorem cnd_iff (S : Int → Int) (K : Int → Bool) (F : Int → Int) (a i : Int) : cndB S K F a i = true ↔ sd S a i ≠ -1 ∧ K (sd S a i) = true ∧ F (sd S a i) = F a - 1 := by
  unfold cndB
  simp
def nxo (S : Int → Int) (K : Int → Bool) (F : Int → Int) (a : Int) : Nat → Int → Int → Int
  | 0, _, b => b
  | m + 1, i, b => nxo S K F a m (i + 1) (if cndB S K F a i then (if sd S a i < b then sd S a i else b) else b)
theorem nxo_spec (S : Int → Int) (K : Int → Bool) (F : Int → Int) (a : Int) : ∀ (m : Nat) (i b : Int), nxo S K F a m i b ≤ b ∧ (nxo S K F a m i b = b ∨ ∃ j, i ≤ j ∧ j < i + m ∧ cndB S K F a j = true ∧ nxo S K F a m i b = sd S a j) ∧ ∀ j, i ≤ j → j < i + m → cndB S K F a j = true → nxo S K F a m i b ≤ sd S a j
  | 0, _, _ => ⟨Int.le_refl _, Or.inl rfl, fun j h1 h2 => by omega⟩
  | m + 1, i, b => by
    unfold nxo
    by_cases hc : cndB S K F a i = true
    · rw [if_pos hc]
      obtain ⟨g1, g2, g3⟩ := nxo_spec S K F a m (i + 1) (if sd S a i < b then sd S a i else b)
      have hb : (if sd S a i < b then sd S a i else b) ≤ b ∧ (if sd S a i < b then sd S a i else b) ≤ sd S a i := by split <;> omega
      refine ⟨by omega, ?_, fun j j0 j1 hj => ?_⟩
      · rcases g2 with h | ⟨j, j0, j1, j2, j3⟩
        · by_cases hs : sd S a i < b
          · rw [if_pos hs] at h ⊢
            exact Or.inr ⟨i, by omega, by omega, hc, h⟩
          · rw [if_neg hs] at h ⊢
            exact Or.inl h
        · exact Or.inr ⟨j, by omega, by omega, j2, j3⟩
      · by_cases e : j = i
        · subst e; omega
        · exact g3 j (by omega) (by omega) hj
    · rw [if_neg hc]
      obtain ⟨g1, g2, g3⟩ := nxo_spec S K F a m (i + 1) b
      refine ⟨g1, ?_, fun j j0 j1 hj => ?_⟩
      · rcases g2 with h | ⟨j, j0, j1, j2, j3⟩
        · exact Or.inl h
        · exact Or.inr ⟨j, by omega, by omega, j2, j3⟩
      · by_cases e : j = i
        · subst e; exact absurd hj hc
        · exact g3 j (by omega) (by omega) hj
theorem lp_nextOf {s : mS} {S : Int → Int} (e : s.2 142 = S) (hw : WF S) (Z : mX) (p a : Int) (p0 : 0 ≤ p) (p1 : p < S 3) (a0 : 0 ≤ a) (a1 : a < ncl S) (hF : ∀ c, 0 ≤ c → c < ncl S → 0 ≤ s.2 150 c ∧ s.2 150 c ≤ 1000000) : ∀ i : Int, i ≤ 4 → ∀ b : Int, 0 ≤ i → mm_at (zP Z) 314 4 [some (.inr (.inr (some 141))), some (.inl p), some (.inl a), some (.inl b), some (.inl i), none] [] (mk s) = some (some (.inl (nxo S (Kc S p) (s.2 150) a (4 - i).toNat i b)), mk s) := by
  have n := wf_n hw
  refine up ?_ ?_
  · intro b h0
    rw [B_X12_nextOf_4]
    simp (disch := first | assumption | omega) only [↓sm, ↓reduceIte, ↓if_pos, ↓if_neg, kI, kJ, kR, kV, w32_eq, w64_eq, reduceCtorEq, Int.reduceAdd, Int.reduceMul, Int.reduceSub]
    rfl
  · intro i hi ih b h0
    rw [B_X12_nextOf_4, show (4 - i).toNat = (4 - (i + 1)).toNat + 1 by omega]
    unfold nxo
    by_cases hs : sd S a i = -1
    · rw [if_neg (fun x => ((cnd_iff _ _ _ _ _).mp x).1 hs)]
      simp (disch := first | assumption | omega) only [↓sm, ↓reduceIte, ↓if_pos, ↓if_neg, kI, kJ, kR, kV, w32_eq, w64_eq, reduceCtorEq, Int.reduceAdd, Int.reduceMul, Int.reduceSub, o_c141, ↓o_g141_0, ↓o_g141_1, ↓o_g141_5, ↓o_g141_6, ↓o_g141_7, ↓o_g141_8, ↓o_g141_9, ↓o_g141_21, ↓o_g141_25, ↓o_g141_26, ↓o_g141_27, ↓o_g141_28, ↓o_g141_29, ↓o_g141_30, ↓o_g141_31, ↓o_g141_34, ↓o_g141_35, ↓o_g141_36, ↓r_sideOf e hw Z, hs]
      exact ih b (by omega)
    · have r := sd_r hw a0 a1 h0 (by omega) hs
      cases hK : Kc S p (sd S a i)
      · have hK' : decide (ct S p (sd S a i) (S (74 + 6 * p + 1)) = 0) = false := hK
        have hcb : ¬ (cndB S (Kc S p) (s.2 150) a i = true) := fun x => by
          have := ((cnd_iff _ _ _ _ _).mp x).2.1
          rw [hK] at this
          cases this
        rw [if_neg hcb]
        simp (disch := first | assumption | omega) only [↓sm, ↓reduceIte, ↓if_pos, ↓if_neg, kI, kJ, kR, kV, w32_eq, w64_eq, reduceCtorEq, Int.reduceAdd, Int.reduceMul, Int.reduceSub, o_c141, ↓o_g141_0, ↓o_g141_1, ↓o_g141_5, ↓o_g141_6, ↓o_g141_7, ↓o_g141_8, ↓o_g141_9, ↓o_g141_21, ↓o_g141_25, ↓o_g141_26, ↓o_g141_27, ↓o_g141_28, ↓o_g141_29, ↓o_g141_30, ↓o_g141_31, ↓o_g141_34, ↓o_g141_35, ↓o_g141_36, ↓r_sideOf e hw Z, hs, ↓r_isClear_f e hw Z]
        exact ih b (by omega)
      · have hK' : decide (ct S p (sd S a i) (S (74 + 6 * p + 1)) = 0) = true := hK
        have f1 := hF _ r.1 r.2
        have f2 := hF _ a0 a1
        by_cases hf : s.2 150 (sd S a i) = s.2 150 a - 1
        · rw [if_pos ((cnd_iff _ _ _ _ _).mpr ⟨hs, hK, hf⟩)]
          simp (disch := first | assumption | omega) only [↓sm, ↓reduceIte, ↓if_pos, ↓if_neg, kI, kJ, kR, kV, w32_eq, w64_eq, reduceCtorEq, Int.reduceAdd, Int.reduceMul, Int.reduceSub, o_c141, ↓o_g141_0, ↓o_g141_1, ↓o_g141_5, ↓o_g141_6, ↓o_g141_7, ↓o_g141_8, ↓o_g141_9, ↓o_g141_21, ↓o_g141_25, ↓o_g141_26, ↓o_g141_27, ↓o_g141_28, ↓o_g141_29, ↓o_g141_30, ↓o_g141_31, ↓o_g141_34, ↓o_g141_35, ↓o_g141_36, ↓r_sideOf e hw Z, hs, ↓r_isClear_t e hw Z, ↓a_ld150]
          exact ih _ (by omega)
        · rw [if_neg (fun x => hf ((cnd_iff _ _ _ _ _).mp x).2.2)]
          simp (disch := first | assumption | omega) only [↓sm, ↓reduceIte, ↓if_pos, ↓if_neg, kI, kJ, kR, kV, w32_eq, w64_eq, reduceCtorEq, Int.reduceAdd, Int.reduceMul, Int.reduceSub, o_c141, ↓o_g141_0, ↓o_g141_1, ↓o_g141_5, ↓o_g141_6, ↓o_g141_7, ↓o_g141_8, ↓o_g141_9, ↓o_g141_21, ↓o_g141_25, ↓o_g141_26, ↓o_g141_27, ↓o_g141_28, ↓o_g141_29, ↓o_g141_30, ↓o_g141_31, ↓o_g141_34, ↓o_g141_35, ↓o_g141_36, ↓r_sideOf e hw Z, hs, ↓r_isClear_t e hw Z, ↓a_ld150]
          exact ih b (by omega)
theorem r_nextOf {s : mS} {S : Int → Int} (e : s.2 142 = S) (hw : WF S) (Z : mX) (p a : Int) (p0 : 0 ≤ p) (p1 : p < S 3) (a0 : 0 ≤ a) (a1 : a < ncl S) (hF : ∀ c, 0 ≤ c → c < ncl S → 0 ≤ s.2 150 c ∧ s.2 150 c ≤ 1000000) (f : Int → mW → mO) : mm_kI (mm_run (zP Z) 314 [.inr (.inr (some 141)), .inl p, .inl a] (mk s)) f = f (nxo S (Kc S p) (s.2 150) a 4 0 1000000) (mk s) := by
  have g := lp_nextOf e hw Z p a p0 p1 a0 a1 hF 0 (by omega) 1000000 (by omega)
  rw [B_X12_nextOf, g, kI]
  rfl
/-- both sides' next cell, m steps being left behind it -/
theorem nxo_wyN {S : Int → Int} (hw : WF S) {K : Int → Bool} {c a m : Int} {F : Int → Int} (h : FD S K c F) (a0 : 0 ≤ a) (a1 : a < ncl S) (c0 : 0 ≤ c) (c1 : c < ncl S) (m0 : 0 ≤ m) (m1 : m < 100) (hm : F a = m + 1) :
    nxo S K F a 4 0 1000000 = wyN S (bz K (ncl S)) c a m ∧ F (wyN S (bz K (ncl S)) c a m) = m := by
  have n := wf_n hw
  obtain ⟨h1, h2, h3, h4⟩ := h a a0 a1
  have hW := h3 (by omega)
  rw [show (F a).toNat = m.toNat + 1 by omega] at hW
  have hKc : K c = true := by obtain ⟨_, _, _, hk⟩ := Wk_last hW; exact hk
  -- who is beside, clear, and so far
  have mem : ∀ d, 0 ≤ d → d < ncl S → (tb (mm_iand (mm_iand (ar S (mm_ishl 1 a)) (bz K (ncl S))) (itn (nx S (bz K (ncl S))) m.toNat (mm_ishl 1 c))) d.toNat = true ↔ Bs S a d ∧ K d = true ∧ F d = m) := by
    intro d d0 d1
    obtain ⟨f1, f2, f3, f4⟩ := h d d0 d1
    have hb : tb (ar S (mm_ishl 1 a)) d.toNat = true ↔ Bs S a d := by
      rw [tb_ar hw, Int.toNat_of_nonneg d0, Bool.and_eq_true, decide_eq_true_eq, arB_iff]
      constructor
      · rintro ⟨_, x, b, hx⟩
        rw [tbz_bit a0 (by omega), decide_eq_true_eq] at hx
        subst hx
        exact Bs_sym hw d0 d1 b
      · intro b
        exact ⟨d1, a, Bs_sym hw a0 a1 b, by rw [tbz_bit a0 (by omega)]; simp⟩
    have hk : tb (bz K (ncl S)) d.toNat = true ↔ K d = true := by
      rw [tb_bz _ (by omega), Int.toNat_of_nonneg d0]
      simp [d1]
    have hi : tb (itn (nx S (bz K (ncl S))) m.toNat (mm_ishl 1 c)) d.toNat = true ↔ ∃ j, j ≤ m.toNat ∧ Wk S K j c d := by
      rw [← itn_iff hw K c0 c1 m.toNat d d0 d1]
      unfold tbz
      simp [d0]
    rw [tb_and, tb_and, Bool.and_eq_true, Bool.and_eq_true, hb, hk, hi]
    constructor
    · rintro ⟨⟨b, hkd⟩, j, hj, hW2⟩
      have := f4 j (Wk_rev hw c0 c1 hKc hW2)
      have := h4 (F d).toNat.succ ⟨d, b, hkd, f3 (by omega)⟩
      exact ⟨b, hkd, by omega⟩
    · rintro ⟨b, hkd, hf⟩
      have := f3 (by omega)
      rw [hf] at this
      exact ⟨⟨b, hkd⟩, m.toNat, Nat.le_refl _, Wk_rev hw d0 d1 hkd this⟩
  have cndI : ∀ j, 0 ≤ j → j < 4 → (cndB S K F a j = true ↔ sd S a j ≠ -1 ∧ K (sd S a j) = true ∧ F (sd S a j) = m) := by
    intro j _ _
    rw [cnd_iff, hm, Int.add_sub_cancel]
  obtain ⟨s1, s2, s3⟩ := nxo_spec S K F a 4 0 1000000
  -- there is one
  obtain ⟨d, b, hkd, hWd⟩ := hW
  have rd := Bs_r hw a0 a1 b
  have fd := (h d rd.1 rd.2).2.2.2 _ hWd
  have fd2 := h4 (F d).toNat.succ ⟨d, b, hkd, (h d rd.1 rd.2).2.2.1 (by omega)⟩
  have fd0 := (h d rd.1 rd.2).1
  have hmem := (mem d rd.1 rd.2).mpr ⟨b, hkd, by omega⟩
  unfold wyN
  rcases fs0_r (mm_iand (mm_iand (ar S (mm_ishl 1 a)) (bz K (ncl S))) (itn (nx S (bz K (ncl S))) m.toNat (mm_ishl 1 c))) 25 0 (by omega) with ⟨_, q2⟩ | ⟨q1, q2, q3, q4⟩
  · rw [q2 d rd.1 (by omega)] at hmem
    cases hmem
  · have hlt : fs0 (mm_iand (mm_iand (ar S (mm_ishl 1 a)) (bz K (ncl S))) (itn (nx S (bz K (ncl S))) m.toNat (mm_ishl 1 c))) 25 0 < ncl S := by
      have := (sub_and (sub_and (sub_bz hw (arB S (mm_ishl 1 a))) (bz K (ncl S))) (itn (nx S (bz K (ncl S))) m.toNat (mm_ishl 1 c))).2 _ q3
      omega
    obtain ⟨y1, y2, y3⟩ := (mem _ q1 hlt).mp q3
    refine ⟨?_, y3⟩
    generalize fs0 (mm_iand (mm_iand (ar S (mm_ishl 1 a)) (bz K (ncl S))) (itn (nx S (bz K (ncl S))) m.toNat (mm_ishl 1 c))) 25 0 = y at *
    obtain ⟨k, k0, k1, ek, hk⟩ := y1
    have le1 := s3 k k0 (by omega) ((cndI k k0 (by omega)).mpr ⟨by rw [ek]; exact hk, by rw [ek]; exact y2, by rw [ek]; exact y3⟩)
    rw [ek] at le1
    rcases s2 with e | ⟨j, j0, j1, j2, j3⟩
    · omega
    · obtain ⟨z1, z2, z3⟩ := (cndI j j0 (by omega)).mp j2
      have rj := sd_r hw a0 a1 j0 (by omega) z1
      by_cases hl : sd S a j < y
      · have := q4 (sd S a j) rj.1 hl
        rw [(mem _ rj.1 rj.2).mpr ⟨⟨j, j0, by omega, rfl, z1⟩, z2, z3⟩] at this
        cases this
      · omega
theorem lp_way {s : mS} {S : Int → Int} (e : s.2 142 = S) (hw : WF S) (Z : mX) (p c k : Int) (kk : k ≤ 100) (p0 : 0 ≤ p) (p1 : p < S 3) (c0 : 0 ≤ c) (c1 : c < ncl S) (hF : FD S (Kc S p) c (s.2 150)) : ∀ i : Int, i ≤ k → ∀ a : Int, 0 ≤ i → 0 ≤ a → a < ncl S → k - i ≤ s.2 150 a → s.2 150 a ≤ 24 →
    mm_at (zP Z) 315 36 [some (.inr (.inr (some 141))), some (.inl p), none, some (.inl k), none, some (.inl a), some (.inl i)] [] (mk s) = some (some (.inl (wyS S (bz (Kc S p) (ncl S)) c (k - i).toNat a (s.2 150 a - 1))), mk (uF s 141 2 0)) := by
  have n := wf_n hw
  refine up ?_ ?_
  · intro a i0 a0 a1 _ _
    rw [B_X12_way_36, show (k - k).toNat = 0 by omega]
    simp (disch := first | assumption | omega) only [↓sm, ↓reduceIte, ↓if_pos, ↓if_neg, kI, kJ, kR, kV, w32_eq, w64_eq, reduceCtorEq, Int.reduceAdd, Int.reduceMul, Int.reduceSub, o_c141, ↓o_g141_0, ↓o_g141_1, ↓o_g141_5, ↓o_g141_6, ↓o_g141_7, ↓o_g141_8, ↓o_g141_9, ↓o_g141_21, ↓o_g141_25, ↓o_g141_26, ↓o_g141_27, ↓o_g141_28, ↓o_g141_29, ↓o_g141_30, ↓o_g141_31, ↓o_g141_34, ↓o_g141_35, ↓o_g141_36, ↓d_refuse Z, ↓d_gives Z, ↓d_is0 Z, ↓d_is1 Z, ↓d_isFrom_t Z, ↓d_isFrom_f Z, ↓d_orNone_t Z, ↓d_orNone_f Z]
    rfl
  · intro i hi ih a i0 a0 a1 h1 h2
    obtain ⟨g1, g2⟩ := nxo_wyN hw (m := s.2 150 a - 1) hF a0 a1 c0 c1 (by omega) (by omega) (by omega)
    have r := wyN_r hw (bz (Kc S p) (ncl S)) c a (s.2 150 a - 1)
    have g := ih (wyN S (bz (Kc S p) (ncl S)) c a (s.2 150 a - 1)) (by omega) r.1 r.2 (by omega) (by omega)
    rw [g2] at g
    rw [B_X12_way_36, show (k - i).toNat = (k - (i + 1)).toNat + 1 by omega]
    simp (disch := first | assumption | omega) only [↓sm, ↓reduceIte, ↓if_pos, ↓if_neg, kI, kJ, kR, kV, w32_eq, w64_eq, reduceCtorEq, Int.reduceAdd, Int.reduceMul, Int.reduceSub, o_c141, ↓o_g141_0, ↓o_g141_1, ↓o_g141_5, ↓o_g141_6, ↓o_g141_7, ↓o_g141_8, ↓o_g141_9, ↓o_g141_21, ↓o_g141_25, ↓o_g141_26, ↓o_g141_27, ↓o_g141_28, ↓o_g141_29, ↓o_g141_30, ↓o_g141_31, ↓o_g141_34, ↓o_g141_35, ↓o_g141_36, ↓r_nextOf e hw Z p a p0 p1 a0 a1 (fun c c0 c1 => ⟨(hF c c0 c1).1, (hF c c0 c1).2.1⟩), g1, g]
    rfl
theorem op_way (Z : mX) (s : mS) (hI : Inv s) (p c k : Int) : OpI Z s 164 315 [.inl p, .inl c, .inl k] := by
  have h := hI.2.2.1.2
  have hw := hI.2.2.1.1
  have n := wf_n hw
  have w := wf0 hw
  by_cases hp : 0 ≤ p ∧ p < s.2 142 3
  · have wp := wf_p hw hp.1 hp.2
    by_cases hc : 0 ≤ c ∧ c < ncl (s.2 142)
    · by_cases hk : 0 ≤ k
      · by_cases hf : frS (s.2 142) p c = -1 ∨ frS (s.2 142) p c < k
        · refine op_rds hI (-1) 6 s (fun f => ?_) (Ag_refl _ _ _) (fun t e => ?_)
          · rw [B_X11_way]
            by_cases hf1 : frS (s.2 142) p c = -1
            · simp (disch := first | assumption | omega) only [↓sm, ↓reduceIte, ↓if_pos, ↓if_neg, kI, kJ, kR, kV, w32_eq, w64_eq, reduceCtorEq, Int.reduceAdd, Int.reduceMul, Int.reduceSub, o_c3, ↓o_g3_0, ↓o_g3_1, ↓o_g3_2, ↓o_g3_3, ↓o_g3_4, ↓o_g3_5, ↓o_g3_6, ↓o_g3_7, ↓o_g3_8, ↓o_g3_9, ↓o_g3_10, ↓o_g3_11, ↓o_g3_12, ↓o_g3_13, ↓o_g3_14, ↓o_g3_15, ↓o_g3_16, ↓o_g3_17, ↓a_ln4, ↓a_ld4, ↓a_ln61, ↓a_ld61, ↓a_ln62, ↓a_ld62, o_c7, ↓o_g7_4, ↓o_g7_5, ↓o_g7_7, ↓o_g7_8, ↓o_g7_9, ↓o_g7_11, ↓o_g7_12, ↓o_g7_13, ↓o_g7_14, ↓o_g7_15, ↓o_g7_16, ↓o_g7_17, ↓q_wide h, ↓q_high h, ↓q_odds h, ↓q_year h, ↓q_less h, ↓q_pups h, ↓q_thorns h Z, ↓q_berries h Z, ↓q_hours h hw Z, ↓q_needs h hw Z, ↓q_at h hw Z, ↓q_want h hw Z, ↓q_knows h hw Z, ↓q_caught h hw Z, ↓q_marks h hw Z, ↓q_torn h hw Z, ↓c_cells h hw Z, ↓c_hasCell_t h hw Z, ↓c_hasCell_f h hw Z, ↓c_hasLesson_t h hw Z, ↓c_hasLesson_f h hw Z, ↓c_hasPupil_t h hw Z, ↓c_hasPupil_f h hw Z, ↓c_isCellNumber_t h hw Z, ↓c_isCellNumber_f h hw Z, ↓c_beside h hw Z, ↓c_touch h hw Z, ↓c_catchOf h hw Z, ↓c_clearSet h hw Z, ↓c_isCaught_t h hw Z, ↓c_isCaught_f h hw Z, ↓c_caughtSet h hw Z, ↓c_pupilsAt h hw Z, ↓c_pupilsWhoKnow h hw Z, ↓c_areNear h hw Z, ↓c_canHelp h hw Z, ↓c_helperSet h hw Z, ↓c_nextLesson h hw Z, ↓c_isNearSome h hw Z, ↓c_freedSet h hw Z, ↓d_none Z, ↓d_done Z, ↓d_refused Z, ↓d_granted Z, o_c66, ↓c_steps h hw Z, hf1]
            · simp (disch := first | assumption | omega) only [↓sm, ↓reduceIte, ↓if_pos, ↓if_neg, kI, kJ, kR, kV, w32_eq, w64_eq, reduceCtorEq, Int.reduceAdd, Int.reduceMul, Int.reduceSub, o_c3, ↓o_g3_0, ↓o_g3_1, ↓o_g3_2, ↓o_g3_3, ↓o_g3_4, ↓o_g3_5, ↓o_g3_6, ↓o_g3_7, ↓o_g3_8, ↓o_g3_9, ↓o_g3_10, ↓o_g3_11, ↓o_g3_12, ↓o_g3_13, ↓o_g3_14, ↓o_g3_15, ↓o_g3_16, ↓o_g3_17, ↓a_ln4, ↓a_ld4, ↓a_ln61, ↓a_ld61, ↓a_ln62, ↓a_ld62, o_c7, ↓o_g7_4, ↓o_g7_5, ↓o_g7_7, ↓o_g7_8, ↓o_g7_9, ↓o_g7_11, ↓o_g7_12, ↓o_g7_13, ↓o_g7_14, ↓o_g7_15, ↓o_g7_16, ↓o_g7_17, ↓q_wide h, ↓q_high h, ↓q_odds h, ↓q_year h, ↓q_less h, ↓q_pups h, ↓q_thorns h Z, ↓q_berries h Z, ↓q_hours h hw Z, ↓q_needs h hw Z, ↓q_at h hw Z, ↓q_want h hw Z, ↓q_knows h hw Z, ↓q_caught h hw Z, ↓q_marks h hw Z, ↓q_torn h hw Z, ↓c_cells h hw Z, ↓c_hasCell_t h hw Z, ↓c_hasCell_f h hw Z, ↓c_hasLesson_t h hw Z, ↓c_hasLesson_f h hw Z, ↓c_hasPupil_t h hw Z, ↓c_hasPupil_f h hw Z, ↓c_isCellNumber_t h hw Z, ↓c_isCellNumber_f h hw Z, ↓c_beside h hw Z, ↓c_touch h hw Z, ↓c_catchOf h hw Z, ↓c_clearSet h hw Z, ↓c_isCaught_t h hw Z, ↓c_isCaught_f h hw Z, ↓c_caughtSet h hw Z, ↓c_pupilsAt h hw Z, ↓c_pupilsWhoKnow h hw Z, ↓c_areNear h hw Z, ↓c_canHelp h hw Z, ↓c_helperSet h hw Z, ↓c_nextLesson h hw Z, ↓c_isNearSome h hw Z, ↓c_freedSet h hw Z, ↓d_none Z, ↓d_done Z, ↓d_refused Z, ↓d_granted Z, o_c66, ↓c_steps h hw Z]
          · obtain ⟨t', F, g1, g2, g3, g4⟩ := r_stepsTo e hw Z p c hp.1 hp.2 hc.1 hc.2
            have g1' : ∀ f : Int → mW → mO, mm_kI (mm_run (zP Z) 310 [.inr (.inr (some 141)), .inl p, .inl c] (mk t)) f = f (stV (s.2 142) p c F) (mk t') := g1
            have r := stV_r hw hp.1 hp.2 g3
            have q := frS_FD hw hp.1 hp.2 hc.1 hc.2 g3
            refine ⟨t', fun f => ?_, a150_rsc g4⟩
            rw [B_X12_way]
            by_cases hlt : stV (s.2 142) p c F < 1000000
            · rw [if_pos hlt] at q
              simp (disch := first | assumption | omega) only [↓sm, ↓reduceIte, ↓if_pos, ↓if_neg, kI, kJ, kR, kV, w32_eq, w64_eq, reduceCtorEq, Int.reduceAdd, Int.reduceMul, Int.reduceSub, o_c141, ↓o_g141_0, ↓o_g141_1, ↓o_g141_5, ↓o_g141_6, ↓o_g141_7, ↓o_g141_8, ↓o_g141_9, ↓o_g141_21, ↓o_g141_25, ↓o_g141_26, ↓o_g141_27, ↓o_g141_28, ↓o_g141_29, ↓o_g141_30, ↓o_g141_31, ↓o_g141_34, ↓o_g141_35, ↓o_g141_36, ↓r_pupilAt e hw Z, ↓r_at e, ↓r_atw e, ↓r_cellsOf e hw Z, ↓r_isCell_t e hw Z, ↓r_isCell_f e hw Z, ↓r_isLesson_t e hw Z, ↓r_isLesson_f e hw Z, ↓r_isPupil_t e hw Z, ↓r_isPupil_f e hw Z, ↓r_pupilOf e hw Z, ↓r_needsOf e hw Z, ↓r_catchBy e hw Z, ↓r_catchOf e hw Z, ↓r_isCaught_t e hw Z, ↓r_isCaught_f e hw Z, ↓r_allCaught e hw Z, ↓r_whoIs0 e hw Z, ↓r_whoIs1 e hw Z, ↓r_sideOf e hw Z, ↓r_isNear e hw Z, ↓r_nextLesson e hw Z, ↓r_canFree e hw Z, ↓r_nearTo e hw Z, ↓r_isIn Z, ↓r_pupilRow Z, ↓r_lessonRow Z, ↓k_bits Z, ↓d_refuse Z, ↓d_gives Z, ↓d_is0 Z, ↓d_is1 Z, ↓d_isFrom_t Z, ↓d_isFrom_f Z, ↓d_orNone_t Z, ↓d_orNone_f Z, ↓g1']
            · simp (disch := first | assumption | omega) only [↓sm, ↓reduceIte, ↓if_pos, ↓if_neg, kI, kJ, kR, kV, w32_eq, w64_eq, reduceCtorEq, Int.reduceAdd, Int.reduceMul, Int.reduceSub, o_c141, ↓o_g141_0, ↓o_g141_1, ↓o_g141_5, ↓o_g141_6, ↓o_g141_7, ↓o_g141_8, ↓o_g141_9, ↓o_g141_21, ↓o_g141_25, ↓o_g141_26, ↓o_g141_27, ↓o_g141_28, ↓o_g141_29, ↓o_g141_30, ↓o_g141_31, ↓o_g141_34, ↓o_g141_35, ↓o_g141_36, ↓r_pupilAt e hw Z, ↓r_at e, ↓r_atw e, ↓r_cellsOf e hw Z, ↓r_isCell_t e hw Z, ↓r_isCell_f e hw Z, ↓r_isLesson_t e hw Z, ↓r_isLesson_f e hw Z, ↓r_isPupil_t e hw Z, ↓r_isPupil_f e hw Z, ↓r_pupilOf e hw Z, ↓r_needsOf e hw Z, ↓r_catchBy e hw Z, ↓r_catchOf e hw Z, ↓r_isCaught_t e hw Z, ↓r_isCaught_f e hw Z, ↓r_allCaught e hw Z, ↓r_whoIs0 e hw Z, ↓r_whoIs1 e hw Z, ↓r_sideOf e hw Z, ↓r_isNear e hw Z, ↓r_nextLesson e hw Z, ↓r_canFree e hw Z, ↓r_nearTo e hw Z, ↓r_isIn Z, ↓r_pupilRow Z, ↓r_lessonRow Z, ↓k_bits Z, ↓d_refuse Z, ↓d_gives Z, ↓d_is0 Z, ↓d_is1 Z, ↓d_isFrom_t Z, ↓d_isFrom_f Z, ↓d_orNone_t Z, ↓d_orNone_f Z, ↓g1']
        · have hf1 : ¬ frS (s.2 142) p c = -1 := fun x => hf (Or.inl x)
          have hf2 : k ≤ frS (s.2 142) p c := by omega
          have hf3 : 0 ≤ frS (s.2 142) p c ∧ frS (s.2 142) p c ≤ 25 := by
            unfold frS
            rcases stf_spec (nx (s.2 142) (if 0 < s.2 142 (74 + 6 * p + 3) then 0 else clr (s.2 142) p (s.2 142 (74 + 6 * p + 1)))) c 25 0 (mm_ishl 1 (s.2 142 (74 + 6 * p))) with ⟨x, _⟩ | ⟨j, x1, x2, _⟩
            · exact absurd x hf1
            · omega
          refine op_rds hI (wyS (s.2 142) (clr (s.2 142) p (s.2 142 (74 + 6 * p + 1))) c k.toNat (s.2 142 (74 + 6 * p)) (frS (s.2 142) p c - 1)) 0 s (fun f => ?_) (Ag_refl _ _ _) (fun t e => ?_)
          · rw [B_X11_way]
            simp (disch := first | assumption | omega) only [↓sm, ↓reduceIte, ↓if_pos, ↓if_neg, kI, kJ, kR, kV, w32_eq, w64_eq, reduceCtorEq, Int.reduceAdd, Int.reduceMul, Int.reduceSub, o_c3, ↓o_g3_0, ↓o_g3_1, ↓o_g3_2, ↓o_g3_3, ↓o_g3_4, ↓o_g3_5, ↓o_g3_6, ↓o_g3_7, ↓o_g3_8, ↓o_g3_9, ↓o_g3_10, ↓o_g3_11, ↓o_g3_12, ↓o_g3_13, ↓o_g3_14, ↓o_g3_15, ↓o_g3_16, ↓o_g3_17, ↓a_ln4, ↓a_ld4, ↓a_ln61, ↓a_ld61, ↓a_ln62, ↓a_ld62, o_c7, ↓o_g7_4, ↓o_g7_5, ↓o_g7_7, ↓o_g7_8, ↓o_g7_9, ↓o_g7_11, ↓o_g7_12, ↓o_g7_13, ↓o_g7_14, ↓o_g7_15, ↓o_g7_16, ↓o_g7_17, ↓q_wide h, ↓q_high h, ↓q_odds h, ↓q_year h, ↓q_less h, ↓q_pups h, ↓q_thorns h Z, ↓q_berries h Z, ↓q_hours h hw Z, ↓q_needs h hw Z, ↓q_at h hw Z, ↓q_want h hw Z, ↓q_knows h hw Z, ↓q_caught h hw Z, ↓q_marks h hw Z, ↓q_torn h hw Z, ↓c_cells h hw Z, ↓c_hasCell_t h hw Z, ↓c_hasCell_f h hw Z, ↓c_hasLesson_t h hw Z, ↓c_hasLesson_f h hw Z, ↓c_hasPupil_t h hw Z, ↓c_hasPupil_f h hw Z, ↓c_isCellNumber_t h hw Z, ↓c_isCellNumber_f h hw Z, ↓c_beside h hw Z, ↓c_touch h hw Z, ↓c_catchOf h hw Z, ↓c_clearSet h hw Z, ↓c_isCaught_t h hw Z, ↓c_isCaught_f h hw Z, ↓c_caughtSet h hw Z, ↓c_pupilsAt h hw Z, ↓c_pupilsWhoKnow h hw Z, ↓c_areNear h hw Z, ↓c_canHelp h hw Z, ↓c_helperSet h hw Z, ↓c_nextLesson h hw Z, ↓c_isNearSome h hw Z, ↓c_freedSet h hw Z, ↓d_none Z, ↓d_done Z, ↓d_refused Z, ↓d_granted Z, o_c66, ↓c_steps h hw Z, hf1, ↓c_onWay h hw Z]
          · obtain ⟨t', F, g1, g2, g3, g4⟩ := r_stepsTo e hw Z p c hp.1 hp.2 hc.1 hc.2
            have g1' : ∀ f : Int → mW → mO, mm_kI (mm_run (zP Z) 310 [.inr (.inr (some 141)), .inl p, .inl c] (mk t)) f = f (stV (s.2 142) p c F) (mk t') := g1
            have q := frS_FD hw hp.1 hp.2 hc.1 hc.2 g3
            have r := stV_r hw hp.1 hp.2 g3
            have hlt : stV (s.2 142) p c F < 1000000 := by
              apply Classical.byContradiction
              intro x
              rw [if_neg x] at q
              exact hf1 q
            rw [if_pos hlt] at q
            have e' : t'.2 142 = s.2 142 := (Ag_142 g4).trans e
            have hv : k = 0 ∨ stV (s.2 142) p c F = F (s.2 142 (74 + 6 * p)) := by
              unfold stV at hlt q ⊢
              by_cases hx : 0 < s.2 142 (74 + 6 * p + 3) ∧ s.2 142 (74 + 6 * p) ≠ c
              · rw [if_pos hx] at hlt
                omega
              · rw [if_neg hx]
                exact Or.inr rfl
            have g3' : FD (s.2 142) (Kc (s.2 142) p) c (t'.2 150) := by rw [g2]; exact g3
            have res : mm_at (zP Z) 315 36 [some (.inr (.inr (some 141))), some (.inl p), none, some (.inl k), none, some (.inl ((s.2 142 (74 + 6 * p)))), some (.inl 0)] [] (mk t') = some (some (.inl (wyS (s.2 142) (clr (s.2 142) p (s.2 142 (74 + 6 * p + 1))) c k.toNat (s.2 142 (74 + 6 * p)) (frS (s.2 142) p c - 1))), mk (uF t' 141 2 0)) := by
              rcases hv with hv | hv
              · subst hv
                rw [B_X12_way_36]
                simp (disch := first | assumption | omega) only [↓sm, ↓reduceIte, ↓if_pos, ↓if_neg, kI, kJ, kR, kV, w32_eq, w64_eq, reduceCtorEq, Int.reduceAdd, Int.reduceMul, Int.reduceSub, o_c141, ↓o_g141_0, ↓o_g141_1, ↓o_g141_5, ↓o_g141_6, ↓o_g141_7, ↓o_g141_8, ↓o_g141_9, ↓o_g141_21, ↓o_g141_25, ↓o_g141_26, ↓o_g141_27, ↓o_g141_28, ↓o_g141_29, ↓o_g141_30, ↓o_g141_31, ↓o_g141_34, ↓o_g141_35, ↓o_g141_36, ↓d_refuse Z, ↓d_gives Z, ↓d_is0 Z, ↓d_is1 Z, ↓d_isFrom_t Z, ↓d_isFrom_f Z, ↓d_orNone_t Z, ↓d_orNone_f Z]
                rfl
              · have := lp_way e' hw Z p c k (by omega) hp.1 hp.2 hc.1 hc.2 g3' 0 hk (s.2 142 (74 + 6 * p)) (by omega) wp.1 wp.2.1 (by rw [g2]; omega) (by rw [g2]; omega)
                rw [Int.sub_zero, g2, ← hv, ← q, ← clr_Kc] at this
                exact this
            refine ⟨t', fun f => ?_, a150_rsc g4⟩
            have e := e
            rw [B_X12_way]
            simp (disch := first | assumption | omega) only [↓sm, ↓reduceIte, ↓if_pos, ↓if_neg, kI, kJ, kR, kV, w32_eq, w64_eq, reduceCtorEq, Int.reduceAdd, Int.reduceMul, Int.reduceSub, o_c141, ↓o_g141_0, ↓o_g141_1, ↓o_g141_5, ↓o_g141_6, ↓o_g141_7, ↓o_g141_8, ↓o_g141_9, ↓o_g141_21, ↓o_g141_25, ↓o_g141_26, ↓o_g141_27, ↓o_g141_28, ↓o_g141_29, ↓o_g141_30, ↓o_g141_31, ↓o_g141_34, ↓o_g141_35, ↓o_g141_36, ↓r_pupilAt e hw Z, ↓r_at e, ↓r_atw e, ↓r_cellsOf e hw Z, ↓r_isCell_t e hw Z, ↓r_isCell_f e hw Z, ↓r_isLesson_t e hw Z, ↓r_isLesson_f e hw Z, ↓r_isPupil_t e hw Z, ↓r_isPupil_f e hw Z, ↓r_pupilOf e hw Z, ↓r_needsOf e hw Z, ↓r_catchBy e hw Z, ↓r_catchOf e hw Z, ↓r_isCaught_t e hw Z, ↓r_isCaught_f e hw Z, ↓r_allCaught e hw Z, ↓r_whoIs0 e hw Z, ↓r_whoIs1 e hw Z, ↓r_sideOf e hw Z, ↓r_isNear e hw Z, ↓r_nextLesson e hw Z, ↓r_canFree e hw Z, ↓r_nearTo e hw Z, ↓r_isIn Z, ↓r_pupilRow Z, ↓r_lessonRow Z, ↓k_bits Z, ↓d_refuse Z, ↓d_gives Z, ↓d_is0 Z, ↓d_is1 Z, ↓d_isFrom_t Z, ↓d_isFrom_f Z, ↓d_orNone_t Z, ↓d_orNone_f Z, ↓g1', ↓r_pupilAt e' hw Z, res]
      · refine op_rd hI (-1) 1 (fun f => ?_) (fun t e f => ?_)
        · rw [B_X11_way]
          simp (disch := first | assumption | omega) only [↓sm, ↓reduceIte, ↓if_pos, ↓if_neg, kI, kJ, kR, kV, w32_eq, w64_eq, reduceCtorEq, Int.reduceAdd, Int.reduceMul, Int.reduceSub, o_c3, ↓o_g3_0, ↓o_g3_1, ↓o_g3_2, ↓o_g3_3, ↓o_g3_4, ↓o_g3_5, ↓o_g3_6, ↓o_g3_7, ↓o_g3_8, ↓o_g3_9, ↓o_g3_10, ↓o_g3_11, ↓o_g3_12, ↓o_g3_13, ↓o_g3_14, ↓o_g3_15, ↓o_g3_16, ↓o_g3_17, ↓a_ln4, ↓a_ld4, ↓a_ln61, ↓a_ld61, ↓a_ln62, ↓a_ld62, o_c7, ↓o_g7_4, ↓o_g7_5, ↓o_g7_7, ↓o_g7_8, ↓o_g7_9, ↓o_g7_11, ↓o_g7_12, ↓o_g7_13, ↓o_g7_14, ↓o_g7_15, ↓o_g7_16, ↓o_g7_17, ↓q_wide h, ↓q_high h, ↓q_odds h, ↓q_year h, ↓q_less h, ↓q_pups h, ↓q_thorns h Z, ↓q_berries h Z, ↓q_hours h hw Z, ↓q_needs h hw Z, ↓q_at h hw Z, ↓q_want h hw Z, ↓q_knows h hw Z, ↓q_caught h hw Z, ↓q_marks h hw Z, ↓q_torn h hw Z, ↓c_cells h hw Z, ↓c_hasCell_t h hw Z, ↓c_hasCell_f h hw Z, ↓c_hasLesson_t h hw Z, ↓c_hasLesson_f h hw Z, ↓c_hasPupil_t h hw Z, ↓c_hasPupil_f h hw Z, ↓c_isCellNumber_t h hw Z, ↓c_isCellNumber_f h hw Z, ↓c_beside h hw Z, ↓c_touch h hw Z, ↓c_catchOf h hw Z, ↓c_clearSet h hw Z, ↓c_isCaught_t h hw Z, ↓c_isCaught_f h hw Z, ↓c_caughtSet h hw Z, ↓c_pupilsAt h hw Z, ↓c_pupilsWhoKnow h hw Z, ↓c_areNear h hw Z, ↓c_canHelp h hw Z, ↓c_helperSet h hw Z, ↓c_nextLesson h hw Z, ↓c_isNearSome h hw Z, ↓c_freedSet h hw Z, ↓d_none Z, ↓d_done Z, ↓d_refused Z, ↓d_granted Z]
        · rw [B_X12_way]
          simp (disch := first | assumption | omega) only [↓sm, ↓reduceIte, ↓if_pos, ↓if_neg, kI, kJ, kR, kV, w32_eq, w64_eq, reduceCtorEq, Int.reduceAdd, Int.reduceMul, Int.reduceSub, o_c141, ↓o_g141_0, ↓o_g141_1, ↓o_g141_5, ↓o_g141_6, ↓o_g141_7, ↓o_g141_8, ↓o_g141_9, ↓o_g141_21, ↓o_g141_25, ↓o_g141_26, ↓o_g141_27, ↓o_g141_28, ↓o_g141_29, ↓o_g141_30, ↓o_g141_31, ↓o_g141_34, ↓o_g141_35, ↓o_g141_36, ↓r_pupilAt e hw Z, ↓r_at e, ↓r_atw e, ↓r_cellsOf e hw Z, ↓r_isCell_t e hw Z, ↓r_isCell_f e hw Z, ↓r_isLesson_t e hw Z, ↓r_isLesson_f e hw Z, ↓r_isPupil_t e hw Z, ↓r_isPupil_f e hw Z, ↓r_pupilOf e hw Z, ↓r_needsOf e hw Z, ↓r_catchBy e hw Z, ↓r_catchOf e hw Z, ↓r_isCaught_t e hw Z, ↓r_isCaught_f e hw Z, ↓r_allCaught e hw Z, ↓r_whoIs0 e hw Z, ↓r_whoIs1 e hw Z, ↓r_sideOf e hw Z, ↓r_isNear e hw Z, ↓r_nextLesson e hw Z, ↓r_canFree e hw Z, ↓r_nearTo e hw Z, ↓r_isIn Z, ↓r_pupilRow Z, ↓r_lessonRow Z, ↓k_bits Z, ↓d_refuse Z, ↓d_gives Z, ↓d_is0 Z, ↓d_is1 Z, ↓d_isFrom_t Z, ↓d_isFrom_f Z, ↓d_orNone_t Z, ↓d_orNone_f Z]
    · refine op_rd hI (-1) 1 (fun f => ?_) (fun t e f => ?_)
      · rw [B_X11_way]
        simp (disch := first | assumption | omega) only [↓sm, ↓reduceIte, ↓if_pos, ↓if_neg, kI, kJ, kR, kV, w32_eq, w64_eq, reduceCtorEq, Int.reduceAdd, Int.reduceMul, Int.reduceSub, o_c3, ↓o_g3_0, ↓o_g3_1, ↓o_g3_2, ↓o_g3_3, ↓o_g3_4, ↓o_g3_5, ↓o_g3_6, ↓o_g3_7, ↓o_g3_8, ↓o_g3_9, ↓o_g3_10, ↓o_g3_11, ↓o_g3_12, ↓o_g3_13, ↓o_g3_14, ↓o_g3_15, ↓o_g3_16, ↓o_g3_17, ↓a_ln4, ↓a_ld4, ↓a_ln61, ↓a_ld61, ↓a_ln62, ↓a_ld62, o_c7, ↓o_g7_4, ↓o_g7_5, ↓o_g7_7, ↓o_g7_8, ↓o_g7_9, ↓o_g7_11, ↓o_g7_12, ↓o_g7_13, ↓o_g7_14, ↓o_g7_15, ↓o_g7_16, ↓o_g7_17, ↓q_wide h, ↓q_high h, ↓q_odds h, ↓q_year h, ↓q_less h, ↓q_pups h, ↓q_thorns h Z, ↓q_berries h Z, ↓q_hours h hw Z, ↓q_needs h hw Z, ↓q_at h hw Z, ↓q_want h hw Z, ↓q_knows h hw Z, ↓q_caught h hw Z, ↓q_marks h hw Z, ↓q_torn h hw Z, ↓c_cells h hw Z, ↓c_hasCell_t h hw Z, ↓c_hasCell_f h hw Z, ↓c_hasLesson_t h hw Z, ↓c_hasLesson_f h hw Z, ↓c_hasPupil_t h hw Z, ↓c_hasPupil_f h hw Z, ↓c_isCellNumber_t h hw Z, ↓c_isCellNumber_f h hw Z, ↓c_beside h hw Z, ↓c_touch h hw Z, ↓c_catchOf h hw Z, ↓c_clearSet h hw Z, ↓c_isCaught_t h hw Z, ↓c_isCaught_f h hw Z, ↓c_caughtSet h hw Z, ↓c_pupilsAt h hw Z, ↓c_pupilsWhoKnow h hw Z, ↓c_areNear h hw Z, ↓c_canHelp h hw Z, ↓c_helperSet h hw Z, ↓c_nextLesson h hw Z, ↓c_isNearSome h hw Z, ↓c_freedSet h hw Z, ↓d_none Z, ↓d_done Z, ↓d_refused Z, ↓d_granted Z]
      · rw [B_X12_way]
        simp (disch := first | assumption | omega) only [↓sm, ↓reduceIte, ↓if_pos, ↓if_neg, kI, kJ, kR, kV, w32_eq, w64_eq, reduceCtorEq, Int.reduceAdd, Int.reduceMul, Int.reduceSub, o_c141, ↓o_g141_0, ↓o_g141_1, ↓o_g141_5, ↓o_g141_6, ↓o_g141_7, ↓o_g141_8, ↓o_g141_9, ↓o_g141_21, ↓o_g141_25, ↓o_g141_26, ↓o_g141_27, ↓o_g141_28, ↓o_g141_29, ↓o_g141_30, ↓o_g141_31, ↓o_g141_34, ↓o_g141_35, ↓o_g141_36, ↓r_pupilAt e hw Z, ↓r_at e, ↓r_atw e, ↓r_cellsOf e hw Z, ↓r_isCell_t e hw Z, ↓r_isCell_f e hw Z, ↓r_isLesson_t e hw Z, ↓r_isLesson_f e hw Z, ↓r_isPupil_t e hw Z, ↓r_isPupil_f e hw Z, ↓r_pupilOf e hw Z, ↓r_needsOf e hw Z, ↓r_catchBy e hw Z, ↓r_catchOf e hw Z, ↓r_isCaught_t e hw Z, ↓r_isCaught_f e hw Z, ↓r_allCaught e hw Z, ↓r_whoIs0 e hw Z, ↓r_whoIs1 e hw Z, ↓r_sideOf e hw Z, ↓r_isNear e hw Z, ↓r_nextLesson e hw Z, ↓r_canFree e hw Z, ↓r_nearTo e hw Z, ↓r_isIn Z, ↓r_pupilRow Z, ↓r_lessonRow Z, ↓k_bits Z, ↓d_refuse Z, ↓d_gives Z, ↓d_is0 Z, ↓d_is1 Z, ↓d_isFrom_t Z, ↓d_isFrom_f Z, ↓d_orNone_t Z, ↓d_orNone_f Z]
  · refine op_rd hI (-1) 1 (fun f => ?_) (fun t e f => ?_)
    · rw [B_X11_way]
      simp (disch := first | assumption | omega) only [↓sm, ↓reduceIte, ↓if_pos, ↓if_neg, kI, kJ, kR, kV, w32_eq, w64_eq, reduceCtorEq, Int.reduceAdd, Int.reduceMul, Int.reduceSub, o_c3, ↓o_g3_0, ↓o_g3_1, ↓o_g3_2, ↓o_g3_3, ↓o_g3_4, ↓o_g3_5, ↓o_g3_6, ↓o_g3_7, ↓o_g3_8, ↓o_g3_9, ↓o_g3_10, ↓o_g3_11, ↓o_g3_12, ↓o_g3_13, ↓o_g3_14, ↓o_g3_15, ↓o_g3_16, ↓o_g3_17, ↓a_ln4, ↓a_ld4, ↓a_ln61, ↓a_ld61, ↓a_ln62, ↓a_ld62, o_c7, ↓o_g7_4, ↓o_g7_5, ↓o_g7_7, ↓o_g7_8, ↓o_g7_9, ↓o_g7_11, ↓o_g7_12, ↓o_g7_13, ↓o_g7_14, ↓o_g7_15, ↓o_g7_16, ↓o_g7_17, ↓q_wide h, ↓q_high h, ↓q_odds h, ↓q_year h, ↓q_less h, ↓q_pups h, ↓q_thorns h Z, ↓q_berries h Z, ↓q_hours h hw Z, ↓q_needs h hw Z, ↓q_at h hw Z, ↓q_want h hw Z, ↓q_knows h hw Z, ↓q_caught h hw Z, ↓q_marks h hw Z, ↓q_torn h hw Z, ↓c_cells h hw Z, ↓c_hasCell_t h hw Z, ↓c_hasCell_f h hw Z, ↓c_hasLesson_t h hw Z, ↓c_hasLesson_f h hw Z, ↓c_hasPupil_t h hw Z, ↓c_hasPupil_f h hw Z, ↓c_isCellNumber_t h hw Z, ↓c_isCellNumber_f h hw Z, ↓c_beside h hw Z, ↓c_touch h hw Z, ↓c_catchOf h hw Z, ↓c_clearSet h hw Z, ↓c_isCaught_t h hw Z, ↓c_isCaught_f h hw Z, ↓c_caughtSet h hw Z, ↓c_pupilsAt h hw Z, ↓c_pupilsWhoKnow h hw Z, ↓c_areNear h hw Z, ↓c_canHelp h hw Z, ↓c_helperSet h hw Z, ↓c_nextLesson h hw Z, ↓c_isNearSome h hw Z, ↓c_freedSet h hw Z, ↓d_none Z, ↓d_done Z, ↓d_refused Z, ↓d_granted Z]
    · rw [B_X12_way]
      simp (disch := first | assumption | omega) only [↓sm, ↓reduceIte, ↓if_pos, ↓if_neg, kI, kJ, kR, kV, w32_eq, w64_eq, reduceCtorEq, Int.reduceAdd, Int.reduceMul, Int.reduceSub, o_c141, ↓o_g141_0, ↓o_g141_1, ↓o_g141_5, ↓o_g141_6, ↓o_g141_7, ↓o_g141_8, ↓o_g141_9, ↓o_g141_21, ↓o_g141_25, ↓o_g141_26, ↓o_g141_27, ↓o_g141_28, ↓o_g141_29, ↓o_g141_30, ↓o_g141_31, ↓o_g141_34, ↓o_g141_35, ↓o_g141_36, ↓r_pupilAt e hw Z, ↓r_at e, ↓r_atw e, ↓r_cellsOf e hw Z, ↓r_isCell_t e hw Z, ↓r_isCell_f e hw Z, ↓r_isLesson_t e hw Z, ↓r_isLesson_f e hw Z, ↓r_isPupil_t e hw Z, ↓r_isPupil_f e hw Z, ↓r_pupilOf e hw Z, ↓r_needsOf e hw Z, ↓r_catchBy e hw Z, ↓r_catchOf e hw Z, ↓r_isCaught_t e hw Z, ↓r_isCaught_f e hw Z, ↓r_allCaught e hw Z, ↓r_whoIs0 e hw Z, ↓r_whoIs1 e hw Z, ↓r_sideOf e hw Z, ↓r_isNear e hw Z, ↓r_nextLesson e hw Z, ↓r_canFree e hw Z, ↓r_nearTo e hw Z, ↓r_isIn Z, ↓r_pupilRow Z, ↓r_lessonRow Z, ↓k_bits Z, ↓d_refuse Z, ↓d_gives Z, ↓d_is0 Z, ↓d_is1 Z, ↓d_isFrom_t Z, ↓d_isFrom_f Z, ↓d_orNone_t Z, ↓d_orNone_f Z]
