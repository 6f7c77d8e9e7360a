/-! calm -/
theorem sd_cg {S T : Int → Int} (h0 : T 0 = S 0) (hn : ncl T = ncl S) (c k : Int) : sd T c k = sd S c k := by
  unfold sd
  rw [h0, hn]
theorem Wk_cg {S T : Int → Int} (hw : WF S) {K L : Int → Bool} (hs : ∀ c k, sd T c k = sd S c k) (hK : ∀ c, 0 ≤ c → c < ncl S → L c = K c) : ∀ {k : Nat} {a d : Int}, 0 ≤ a → a < ncl S → Wk S K k a d → Wk T L k a d
  | 0, _, _, _, _, h => h
  | k + 1, _, _, h0, h1, ⟨c, b, hk, h⟩ => by
    have r := Bs_r hw h0 h1 b
    obtain ⟨x, x0, x1, ex, hx⟩ := b
    exact ⟨c, ⟨x, x0, x1, by rw [hs]; exact ex, hx⟩, by rw [hK c r.1 r.2]; exact hk, Wk_cg hw hs hK r.1 r.2 h⟩
theorem FD_cg {S T : Int → Int} (hw : WF S) (hw' : WF T) {K L : Int → Bool} (h0 : T 0 = S 0) (hn : ncl T = ncl S) (hK : ∀ c, 0 ≤ c → c < ncl S → L c = K c) {to : Int} {F : Int → Int} (h : FD T L to F) : FD S K to F := by
  intro c c0 c1
  obtain ⟨h1, h2, h3, h4⟩ := h c c0 (by omega)
  refine ⟨h1, h2, fun x => ?_, fun k hk => ?_⟩
  · exact Wk_cg hw' (fun c k => (sd_cg h0 hn c k).symm) (fun c c0 c1 => (hK c c0 (by omega)).symm) c0 (by omega) (h3 x)
  · exact h4 k (Wk_cg hw (fun c k => sd_cg h0 hn c k) hK c0 c1 hk)
theorem up_up (S : Int → Int) (i u v : Int) : mm_upd (mm_upd S i u) i v = mm_upd S i v := by
  funext j
  unfold mm_upd
  split <;> rfl
theorem ct_up {S : Int → Int} {p v c w : Int} (p0 : 0 ≤ p) (c0 : 0 ≤ c) (c1 : c < 25) : ct (mm_upd S (74 + 6 * p + 1) v) p c w = ct S p c w := by
  unfold ct
  rw [up_ne (by omega), up_ne (by omega)]
def a2q (q : Nat) : Prop := q = 150 ∨ q = 142
theorem lp_calm {S : Int → Int} (hw : WF S) (Z : mX) (p c : Int) (p0 : 0 ≤ p) (p1 : p < S 3) (c0 : 0 ≤ c) (c1 : c < ncl S) : ∀ i : Int, i ≤ 10 → ∀ t : mS, (∃ v, t.2 142 = mm_upd S (74 + 6 * p + 1) v) → 0 ≤ i →
    ∃ t', mm_at (zP Z) 316 26 [some (.inr (.inr (some 141))), some (.inl p), some (.inl c), some (.inl ((74 + 6 * p + 1))), some (.inl ((S (74 + 6 * p + 1)))), some (.inl ((gwS S p c i.toNat))), some (.inl i)] [] (mk t) = some (some (.inl (gwS S p c 10)), mk (uF t' 141 2 (if gwS S p c 10 = -1 then 6 else 0))) ∧ t'.2 142 = S ∧ Ag a2q noF t t' := by
  have n := wf_n hw
  have w := wf0 hw
  have wp := wf_p hw p0 p1
  refine up ?_ ?_
  · rintro t ⟨v, e⟩ i0
    refine ⟨uA t 142 (74 + 6 * p + 1) (S (74 + 6 * p + 1)), ?_, by rw [uA_s, e, up_up, up_id rfl], Ag_uA (Ag_refl _ _ _) (Or.inr rfl) _ _⟩
    rw [B_X12_calm_26, show Int.toNat 10 = 10 from rfl]
    by_cases hg : gwS S p c 10 = -1
    · rw [if_pos hg, hg]
      simp (disch := first | assumption | omega) only [↓sm, ↓reduceIte, ↓if_pos, ↓if_neg, kI, kJ, kR, kV, w32_eq, w64_eq, reduceCtorEq, Int.reduceAdd, Int.reduceMul, Int.reduceSub, o_c141, ↓o_g141_0, ↓o_g141_1, ↓o_g141_5, ↓o_g141_6, ↓o_g141_7, ↓o_g141_8, ↓o_g141_9, ↓o_g141_21, ↓o_g141_25, ↓o_g141_26, ↓o_g141_27, ↓o_g141_28, ↓o_g141_29, ↓o_g141_30, ↓o_g141_31, ↓o_g141_34, ↓o_g141_35, ↓o_g141_36, ↓a_st142, ↓d_orNone_f Z]
    · rw [if_neg hg]
      simp (disch := first | assumption | omega) only [↓sm, ↓reduceIte, ↓if_pos, ↓if_neg, kI, kJ, kR, kV, w32_eq, w64_eq, reduceCtorEq, Int.reduceAdd, Int.reduceMul, Int.reduceSub, o_c141, ↓o_g141_0, ↓o_g141_1, ↓o_g141_5, ↓o_g141_6, ↓o_g141_7, ↓o_g141_8, ↓o_g141_9, ↓o_g141_21, ↓o_g141_25, ↓o_g141_26, ↓o_g141_27, ↓o_g141_28, ↓o_g141_29, ↓o_g141_30, ↓o_g141_31, ↓o_g141_34, ↓o_g141_35, ↓o_g141_36, ↓a_st142, ↓d_orNone_t Z]
  · rintro i hi ih t ⟨v, e⟩ i0
    have e1 : (uA t 142 (74 + 6 * p + 1) i).2 142 = mm_upd S (74 + 6 * p + 1) i := by rw [uA_s, e, up_up]
    have w1 : WF (mm_upd S (74 + 6 * p + 1) i) := wf_pup hw (k := 1) (p := p) (by omega) (by omega) p0 p1 (by omega) (by omega)
    have n1 : ncl (mm_upd S (74 + 6 * p + 1) i) = ncl S := ncl_up (by omega)
    have x3 : (mm_upd S (74 + 6 * p + 1) i) 3 = S 3 := up_ne (by omega)
    have x0 : (mm_upd S (74 + 6 * p + 1) i) 0 = S 0 := up_ne (by omega)
    obtain ⟨t1, g1, g2, g3⟩ := r_laysFar e1 w1 Z p c p0 (by omega) c0 (by omega)
    have e2 : t1.2 142 = mm_upd S (74 + 6 * p + 1) i := (Ag_142 g3).trans e1
    have fd : FD S (fun c => decide (ct S p c i = 0)) c (t1.2 150) := FD_cg hw w1 x0 n1 (fun d d0 d1 => by
      unfold Kc
      rw [ct_up p0 d0 (by omega), up_eq rfl]) g2
    have hgood := itn25_FD hw fd wp.1 wp.2.1 c0 c1
    have gp : ∀ f : Int → mW → mO, mm_kI (mm_run (zP Z) 274 [.inr (.inr (some 141)), .inl p, .inl 0] (mk t1)) f = f (S (74 + 6 * p)) (mk t1) := fun f => by
      rw [r_pupilAt e2 w1 Z p p0 (by omega) f, up_ne (by omega)]
    obtain ⟨t', k1, k2, k3⟩ := ih t1 ⟨i, e2⟩ (by omega)
    have hstep : gwS S p c (i + 1).toNat = if t1.2 150 (S (74 + 6 * p)) < 1000000 then i else gwS S p c i.toNat := by
      rw [show (i + 1).toNat = i.toNat + 1 by omega]
      show (if tb (itn (nx S (clr S p (i.toNat : Int))) 25 (mm_ishl 1 (S (74 + 6 * p)))) c.toNat = true then (i.toNat : Int) else gwS S p c i.toNat) = _
      rw [Int.toNat_of_nonneg i0, show clr S p i = bz (fun c => decide (ct S p c i = 0)) (ncl S) from rfl, hgood]
      simp
    have ag : Ag a2q noF t t1 := Ag_trans (Ag_uA (Ag_refl _ _ _) (Or.inr rfl) _ _) (Ag_mono g3 (fun q hq => Or.inl hq) (fun _ _ h => h))
    refine ⟨t', ?_, k2, Ag_trans ag k3⟩
    rw [B_X12_calm_26]
    by_cases hlt : t1.2 150 (S (74 + 6 * p)) < 1000000
    · rw [hstep, if_pos hlt] at k1
      simp (disch := first | assumption | omega) only [↓sm, ↓reduceIte, ↓if_pos, ↓if_neg, kI, kJ, kR, kV, w32_eq, w64_eq, reduceCtorEq, Int.reduceAdd, Int.reduceMul, Int.reduceSub, o_c141, ↓o_g141_0, ↓o_g141_1, ↓o_g141_5, ↓o_g141_6, ↓o_g141_7, ↓o_g141_8, ↓o_g141_9, ↓o_g141_21, ↓o_g141_25, ↓o_g141_26, ↓o_g141_27, ↓o_g141_28, ↓o_g141_29, ↓o_g141_30, ↓o_g141_31, ↓o_g141_34, ↓o_g141_35, ↓o_g141_36, ↓a_st142, ↓g1, ↓gp, ↓a_ld150, k1]
    · rw [hstep, if_neg hlt] at k1
      simp (disch := first | assumption | omega) only [↓sm, ↓reduceIte, ↓if_pos, ↓if_neg, kI, kJ, kR, kV, w32_eq, w64_eq, reduceCtorEq, Int.reduceAdd, Int.reduceMul, Int.reduceSub, o_c141, ↓o_g141_0, ↓o_g141_1, ↓o_g141_5, ↓o_g141_6, ↓o_g141_7, ↓o_g141_8, ↓o_g141_9, ↓o_g141_21, ↓o_g141_25, ↓o_g141_26, ↓o_g141_27, ↓o_g141_28, ↓o_g141_29, ↓o_g141_30, ↓o_g141_31, ↓o_g141_34, ↓o_g141_35, ↓o_g141_36, ↓a_st142, ↓g1, ↓gp, ↓a_ld150, k1]
theorem op_calm (Z : mX) (s : mS) (hI : Inv s) (p c : Int) : OpI Z s 165 316 [.inl p, .inl c] := by
  have h := hI.2.2.1.2
  have hw := hI.2.2.1.1
  have n := wf_n hw
  have w := wf0 hw
  by_cases hp : 0 ≤ p ∧ p < s.2 142 3
  · have wp := wf_p hw hp.1 hp.2
    by_cases hc : 0 ≤ c ∧ c < ncl (s.2 142)
    · refine op_rds hI (gwS (s.2 142) p c 10) (if gwS (s.2 142) p c 10 = -1 then 6 else 0) s (fun f => ?_) (Ag_refl _ _ _) (fun t e => ?_)
      · by_cases hg : gwS (s.2 142) p c 10 = -1
        · rw [if_pos hg, B_X11_calm]
          simp (disch := first | assumption | omega) only [↓sm, ↓reduceIte, ↓if_pos, ↓if_neg, kI, kJ, kR, kV, w32_eq, w64_eq, reduceCtorEq, Int.reduceAdd, Int.reduceMul, Int.reduceSub, o_c3, ↓o_g3_0, ↓o_g3_1, ↓o_g3_2, ↓o_g3_3, ↓o_g3_4, ↓o_g3_5, ↓o_g3_6, ↓o_g3_7, ↓o_g3_8, ↓o_g3_9, ↓o_g3_10, ↓o_g3_11, ↓o_g3_12, ↓o_g3_13, ↓o_g3_14, ↓o_g3_15, ↓o_g3_16, ↓o_g3_17, ↓a_ln4, ↓a_ld4, ↓a_ln61, ↓a_ld61, ↓a_ln62, ↓a_ld62, o_c7, ↓o_g7_4, ↓o_g7_5, ↓o_g7_7, ↓o_g7_8, ↓o_g7_9, ↓o_g7_11, ↓o_g7_12, ↓o_g7_13, ↓o_g7_14, ↓o_g7_15, ↓o_g7_16, ↓o_g7_17, ↓q_wide h, ↓q_high h, ↓q_odds h, ↓q_year h, ↓q_less h, ↓q_pups h, ↓q_thorns h Z, ↓q_berries h Z, ↓q_hours h hw Z, ↓q_needs h hw Z, ↓q_at h hw Z, ↓q_want h hw Z, ↓q_knows h hw Z, ↓q_caught h hw Z, ↓q_marks h hw Z, ↓q_torn h hw Z, ↓c_cells h hw Z, ↓c_hasCell_t h hw Z, ↓c_hasCell_f h hw Z, ↓c_hasLesson_t h hw Z, ↓c_hasLesson_f h hw Z, ↓c_hasPupil_t h hw Z, ↓c_hasPupil_f h hw Z, ↓c_isCellNumber_t h hw Z, ↓c_isCellNumber_f h hw Z, ↓c_beside h hw Z, ↓c_touch h hw Z, ↓c_catchOf h hw Z, ↓c_clearSet h hw Z, ↓c_isCaught_t h hw Z, ↓c_isCaught_f h hw Z, ↓c_caughtSet h hw Z, ↓c_pupilsAt h hw Z, ↓c_pupilsWhoKnow h hw Z, ↓c_areNear h hw Z, ↓c_canHelp h hw Z, ↓c_helperSet h hw Z, ↓c_nextLesson h hw Z, ↓c_isNearSome h hw Z, ↓c_freedSet h hw Z, ↓d_none Z, ↓d_done Z, ↓d_refused Z, ↓d_granted Z, o_c66, ↓c_greatestWant h hw Z, hg]
        · rw [if_neg hg, B_X11_calm]
          simp (disch := first | assumption | omega) only [↓sm, ↓reduceIte, ↓if_pos, ↓if_neg, kI, kJ, kR, kV, w32_eq, w64_eq, reduceCtorEq, Int.reduceAdd, Int.reduceMul, Int.reduceSub, o_c3, ↓o_g3_0, ↓o_g3_1, ↓o_g3_2, ↓o_g3_3, ↓o_g3_4, ↓o_g3_5, ↓o_g3_6, ↓o_g3_7, ↓o_g3_8, ↓o_g3_9, ↓o_g3_10, ↓o_g3_11, ↓o_g3_12, ↓o_g3_13, ↓o_g3_14, ↓o_g3_15, ↓o_g3_16, ↓o_g3_17, ↓a_ln4, ↓a_ld4, ↓a_ln61, ↓a_ld61, ↓a_ln62, ↓a_ld62, o_c7, ↓o_g7_4, ↓o_g7_5, ↓o_g7_7, ↓o_g7_8, ↓o_g7_9, ↓o_g7_11, ↓o_g7_12, ↓o_g7_13, ↓o_g7_14, ↓o_g7_15, ↓o_g7_16, ↓o_g7_17, ↓q_wide h, ↓q_high h, ↓q_odds h, ↓q_year h, ↓q_less h, ↓q_pups h, ↓q_thorns h Z, ↓q_berries h Z, ↓q_hours h hw Z, ↓q_needs h hw Z, ↓q_at h hw Z, ↓q_want h hw Z, ↓q_knows h hw Z, ↓q_caught h hw Z, ↓q_marks h hw Z, ↓q_torn h hw Z, ↓c_cells h hw Z, ↓c_hasCell_t h hw Z, ↓c_hasCell_f h hw Z, ↓c_hasLesson_t h hw Z, ↓c_hasLesson_f h hw Z, ↓c_hasPupil_t h hw Z, ↓c_hasPupil_f h hw Z, ↓c_isCellNumber_t h hw Z, ↓c_isCellNumber_f h hw Z, ↓c_beside h hw Z, ↓c_touch h hw Z, ↓c_catchOf h hw Z, ↓c_clearSet h hw Z, ↓c_isCaught_t h hw Z, ↓c_isCaught_f h hw Z, ↓c_caughtSet h hw Z, ↓c_pupilsAt h hw Z, ↓c_pupilsWhoKnow h hw Z, ↓c_areNear h hw Z, ↓c_canHelp h hw Z, ↓c_helperSet h hw Z, ↓c_nextLesson h hw Z, ↓c_isNearSome h hw Z, ↓c_freedSet h hw Z, ↓d_none Z, ↓d_done Z, ↓d_refused Z, ↓d_granted Z, o_c66, ↓c_greatestWant h hw Z, hg]
      · obtain ⟨t', g1, g2, g3⟩ := lp_calm hw Z p c hp.1 hp.2 hc.1 hc.2 0 (by omega) t ⟨s.2 142 (74 + 6 * p + 1), by rw [up_id rfl, e]⟩ (by omega)
        rw [show gwS (s.2 142) p c (Int.toNat 0) = -1 from rfl] at g1
        refine ⟨t', fun f => ?_, ⟨fun q hq => ?_, fun q k hq => g3.2 q k (fun x => x)⟩⟩
        · rw [B_X12_calm]
          simp (disch := first | assumption | omega) only [↓sm, ↓reduceIte, ↓if_pos, ↓if_neg, kI, kJ, kR, kV, w32_eq, w64_eq, reduceCtorEq, Int.reduceAdd, Int.reduceMul, Int.reduceSub, o_c141, ↓o_g141_0, ↓o_g141_1, ↓o_g141_5, ↓o_g141_6, ↓o_g141_7, ↓o_g141_8, ↓o_g141_9, ↓o_g141_21, ↓o_g141_25, ↓o_g141_26, ↓o_g141_27, ↓o_g141_28, ↓o_g141_29, ↓o_g141_30, ↓o_g141_31, ↓o_g141_34, ↓o_g141_35, ↓o_g141_36, ↓r_pupilAt e hw Z, ↓r_at e, ↓r_atw e, ↓r_cellsOf e hw Z, ↓r_isCell_t e hw Z, ↓r_isCell_f e hw Z, ↓r_isLesson_t e hw Z, ↓r_isLesson_f e hw Z, ↓r_isPupil_t e hw Z, ↓r_isPupil_f e hw Z, ↓r_pupilOf e hw Z, ↓r_needsOf e hw Z, ↓r_catchBy e hw Z, ↓r_catchOf e hw Z, ↓r_isCaught_t e hw Z, ↓r_isCaught_f e hw Z, ↓r_allCaught e hw Z, ↓r_whoIs0 e hw Z, ↓r_whoIs1 e hw Z, ↓r_sideOf e hw Z, ↓r_isNear e hw Z, ↓r_nextLesson e hw Z, ↓r_canFree e hw Z, ↓r_nearTo e hw Z, ↓r_isIn Z, ↓r_pupilRow Z, ↓r_lessonRow Z, ↓k_bits Z, ↓d_refuse Z, ↓d_gives Z, ↓d_is0 Z, ↓d_is1 Z, ↓d_isFrom_t Z, ↓d_isFrom_f Z, ↓d_orNone_t Z, ↓d_orNone_f Z, g1]
        · by_cases h2 : q = 142
          · rw [h2, g2, e]
          · exact g3.1 q (fun x => by unfold a2q at x; unfold srA at hq; omega)
    · refine op_rd hI (-1) 1 (fun f => ?_) (fun t e f => ?_)
      · rw [B_X11_calm]
        simp (disch := first | assumption | omega) only [↓sm, ↓reduceIte, ↓if_pos, ↓if_neg, kI, kJ, kR, kV, w32_eq, w64_eq, reduceCtorEq, Int.reduceAdd, Int.reduceMul, Int.reduceSub, o_c3, ↓o_g3_0, ↓o_g3_1, ↓o_g3_2, ↓o_g3_3, ↓o_g3_4, ↓o_g3_5, ↓o_g3_6, ↓o_g3_7, ↓o_g3_8, ↓o_g3_9, ↓o_g3_10, ↓o_g3_11, ↓o_g3_12, ↓o_g3_13, ↓o_g3_14, ↓o_g3_15, ↓o_g3_16, ↓o_g3_17, ↓a_ln4, ↓a_ld4, ↓a_ln61, ↓a_ld61, ↓a_ln62, ↓a_ld62, o_c7, ↓o_g7_4, ↓o_g7_5, ↓o_g7_7, ↓o_g7_8, ↓o_g7_9, ↓o_g7_11, ↓o_g7_12, ↓o_g7_13, ↓o_g7_14, ↓o_g7_15, ↓o_g7_16, ↓o_g7_17, ↓q_wide h, ↓q_high h, ↓q_odds h, ↓q_year h, ↓q_less h, ↓q_pups h, ↓q_thorns h Z, ↓q_berries h Z, ↓q_hours h hw Z, ↓q_needs h hw Z, ↓q_at h hw Z, ↓q_want h hw Z, ↓q_knows h hw Z, ↓q_caught h hw Z, ↓q_marks h hw Z, ↓q_torn h hw Z, ↓c_cells h hw Z, ↓c_hasCell_t h hw Z, ↓c_hasCell_f h hw Z, ↓c_hasLesson_t h hw Z, ↓c_hasLesson_f h hw Z, ↓c_hasPupil_t h hw Z, ↓c_hasPupil_f h hw Z, ↓c_isCellNumber_t h hw Z, ↓c_isCellNumber_f h hw Z, ↓c_beside h hw Z, ↓c_touch h hw Z, ↓c_catchOf h hw Z, ↓c_clearSet h hw Z, ↓c_isCaught_t h hw Z, ↓c_isCaught_f h hw Z, ↓c_caughtSet h hw Z, ↓c_pupilsAt h hw Z, ↓c_pupilsWhoKnow h hw Z, ↓c_areNear h hw Z, ↓c_canHelp h hw Z, ↓c_helperSet h hw Z, ↓c_nextLesson h hw Z, ↓c_isNearSome h hw Z, ↓c_freedSet h hw Z, ↓d_none Z, ↓d_done Z, ↓d_refused Z, ↓d_granted Z]
      · rw [B_X12_calm]
        simp (disch := first | assumption | omega) only [↓sm, ↓reduceIte, ↓if_pos, ↓if_neg, kI, kJ, kR, kV, w32_eq, w64_eq, reduceCtorEq, Int.reduceAdd, Int.reduceMul, Int.reduceSub, o_c141, ↓o_g141_0, ↓o_g141_1, ↓o_g141_5, ↓o_g141_6, ↓o_g141_7, ↓o_g141_8, ↓o_g141_9, ↓o_g141_21, ↓o_g141_25, ↓o_g141_26, ↓o_g141_27, ↓o_g141_28, ↓o_g141_29, ↓o_g141_30, ↓o_g141_31, ↓o_g141_34, ↓o_g141_35, ↓o_g141_36, ↓r_pupilAt e hw Z, ↓r_at e, ↓r_atw e, ↓r_cellsOf e hw Z, ↓r_isCell_t e hw Z, ↓r_isCell_f e hw Z, ↓r_isLesson_t e hw Z, ↓r_isLesson_f e hw Z, ↓r_isPupil_t e hw Z, ↓r_isPupil_f e hw Z, ↓r_pupilOf e hw Z, ↓r_needsOf e hw Z, ↓r_catchBy e hw Z, ↓r_catchOf e hw Z, ↓r_isCaught_t e hw Z, ↓r_isCaught_f e hw Z, ↓r_allCaught e hw Z, ↓r_whoIs0 e hw Z, ↓r_whoIs1 e hw Z, ↓r_sideOf e hw Z, ↓r_isNear e hw Z, ↓r_nextLesson e hw Z, ↓r_canFree e hw Z, ↓r_nearTo e hw Z, ↓r_isIn Z, ↓r_pupilRow Z, ↓r_lessonRow Z, ↓k_bits Z, ↓d_refuse Z, ↓d_gives Z, ↓d_is0 Z, ↓d_is1 Z, ↓d_isFrom_t Z, ↓d_isFrom_f Z, ↓d_orNone_t Z, ↓d_orNone_f Z]
  · refine op_rd hI (-1) 1 (fun f => ?_) (fun t e f => ?_)
    · rw [B_X11_calm]
      simp (disch := first | assumption | omega) only [↓sm, ↓reduceIte, ↓if_pos, ↓if_neg, kI, kJ, kR, kV, w32_eq, w64_eq, reduceCtorEq, Int.reduceAdd, Int.reduceMul, Int.reduceSub, o_c3, ↓o_g3_0, ↓o_g3_1, ↓o_g3_2, ↓o_g3_3, ↓o_g3_4, ↓o_g3_5, ↓o_g3_6, ↓o_g3_7, ↓o_g3_8, ↓o_g3_9, ↓o_g3_10, ↓o_g3_11, ↓o_g3_12, ↓o_g3_13, ↓o_g3_14, ↓o_g3_15, ↓o_g3_16, ↓o_g3_17, ↓a_ln4, ↓a_ld4, ↓a_ln61, ↓a_ld61, ↓a_ln62, ↓a_ld62, o_c7, ↓o_g7_4, ↓o_g7_5, ↓o_g7_7, ↓o_g7_8, ↓o_g7_9, ↓o_g7_11, ↓o_g7_12, ↓o_g7_13, ↓o_g7_14, ↓o_g7_15, ↓o_g7_16, ↓o_g7_17, ↓q_wide h, ↓q_high h, ↓q_odds h, ↓q_year h, ↓q_less h, ↓q_pups h, ↓q_thorns h Z, ↓q_berries h Z, ↓q_hours h hw Z, ↓q_needs h hw Z, ↓q_at h hw Z, ↓q_want h hw Z, ↓q_knows h hw Z, ↓q_caught h hw Z, ↓q_marks h hw Z, ↓q_torn h hw Z, ↓c_cells h hw Z, ↓c_hasCell_t h hw Z, ↓c_hasCell_f h hw Z, ↓c_hasLesson_t h hw Z, ↓c_hasLesson_f h hw Z, ↓c_hasPupil_t h hw Z, ↓c_hasPupil_f h hw Z, ↓c_isCellNumber_t h hw Z, ↓c_isCellNumber_f h hw Z, ↓c_beside h hw Z, ↓c_touch h hw Z, ↓c_catchOf h hw Z, ↓c_clearSet h hw Z, ↓c_isCaught_t h hw Z, ↓c_isCaught_f h hw Z, ↓c_caughtSet h hw Z, ↓c_pupilsAt h hw Z, ↓c_pupilsWhoKnow h hw Z, ↓c_areNear h hw Z, ↓c_canHelp h hw Z, ↓c_helperSet h hw Z, ↓c_nextLesson h hw Z, ↓c_isNearSome h hw Z, ↓c_freedSet h hw Z, ↓d_none Z, ↓d_done Z, ↓d_refused Z, ↓d_granted Z]
    · rw [B_X12_calm]
      simp (disch := first | assumption | omega) only [↓sm, ↓reduceIte, ↓if_pos, ↓if_neg, kI, kJ, kR, kV, w32_eq, w64_eq, reduceCtorEq, Int.reduceAdd, Int.reduceMul, Int.reduceSub, o_c141, ↓o_g141_0, ↓o_g141_1, ↓o_g141_5, ↓o_g141_6, ↓o_g141_7, ↓o_g141_8, ↓o_g141_9, ↓o_g141_21, ↓o_g141_25, ↓o_g141_26, ↓o_g141_27, ↓o_g141_28, ↓o_g141_29, ↓o_g141_30, ↓o_g141_31, ↓o_g141_34, ↓o_g141_35, ↓o_g141_36, ↓r_pupilAt e hw Z, ↓r_at e, ↓r_atw e, ↓r_cellsOf e hw Z, ↓r_isCell_t e hw Z, ↓r_isCell_f e hw Z, ↓r_isLesson_t e hw Z, ↓r_isLesson_f e hw Z, ↓r_isPupil_t e hw Z, ↓r_isPupil_f e hw Z, ↓r_pupilOf e hw Z, ↓r_needsOf e hw Z, ↓r_catchBy e hw Z, ↓r_catchOf e hw Z, ↓r_isCaught_t e hw Z, ↓r_isCaught_f e hw Z, ↓r_allCaught e hw Z, ↓r_whoIs0 e hw Z, ↓r_whoIs1 e hw Z, ↓r_sideOf e hw Z, ↓r_isNear e hw Z, ↓r_nextLesson e hw Z, ↓r_canFree e hw Z, ↓r_nearTo e hw Z, ↓r_isIn Z, ↓r_pupilRow Z, ↓r_lessonRow Z, ↓k_bits Z, ↓d_refuse Z, ↓d_gives Z, ↓d_is0 Z, ↓d_is1 Z, ↓d_isFrom_t Z, ↓d_isFrom_f Z, ↓d_orNone_t Z, ↓d_orNone_f Z]
