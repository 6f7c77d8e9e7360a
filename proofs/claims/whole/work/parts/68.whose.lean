/-! whose -/
def allB (K : Int) (D : Int → Int) : Nat → Bool
  | 0 => true
  | n + 1 => allB K D n && tb K (D (n : Int)).toNat
theorem allB_iff (K : Int) (D : Int → Int) : ∀ n : Nat, allB K D n = true ↔ ∀ l : Int, 0 ≤ l → l < n → tb K (D l).toNat = true
  | 0 => ⟨fun _ l h0 h1 => absurd h1 (by omega), fun _ => rfl⟩
  | n + 1 => by
    unfold allB
    rw [Bool.and_eq_true, allB_iff K D n]
    constructor
    · intro ⟨g1, g2⟩ l h0 h1
      by_cases hl : l = n
      · rw [hl]; exact g2
      · exact g1 l h0 (by omega)
    · intro g
      exact ⟨fun l h0 h1 => g l h0 (by omega), g n (by omega) (by omega)⟩
def cellsD (S D : Int → Int) (n : Int) : Prop := ∀ l, 0 ≤ l → l < n → 0 ≤ D l ∧ D l < ncl S
def setD (x : Int) (D : Int → Int) (n : Int) : Prop := zR32 x ∧ ∀ k : Nat, tb x k = true ↔ ∃ l, 0 ≤ l ∧ l < n ∧ (D l).toNat = k
theorem setD_all {x K : Int} {D : Int → Int} {n : Int} (hx : setD x D n) (n0 : 0 ≤ n) (hr : ∀ l, 0 ≤ l → l < n → 0 ≤ D l ∧ D l < 32) : (mm_iand x (mm_ixor K (-1)) = 0) ↔ allB K D n.toNat = true := by
  rw [allB_iff]
  constructor
  · intro h l h0 h1
    have ht : tb x (D l).toNat = true := (hx.2 _).mpr ⟨l, h0, by omega, rfl⟩
    have hr := hr l h0 (by omega)
    have g : tb (mm_iand x (mm_ixor K (-1))) (D l).toNat = false := by rw [h, tb_0]
    rw [tb_and, tb_not, ht] at g
    simp at g
    exact g (by omega)
  · intro h
    refine tb_ext (zr_32 _) (by decide) (fun k hk => ?_)
    rw [tb_and, tb_not, tb_0]
    cases ht : tb x k
    · rfl
    · obtain ⟨l, h0, h1, h2⟩ := (hx.2 k).mp ht
      have := h l h0 (by omega)
      rw [h2] at this
      rw [this]
      simp
theorem setD_0 (D : Int → Int) : setD 0 D 0 := ⟨by decide, fun k => by
  rw [tb_0]
  constructor
  · intro h; cases h
  · rintro ⟨l, h0, h1, _⟩; omega⟩
theorem setD_s {x : Int} {D : Int → Int} {i : Int} (hx : setD x D i) (i0 : 0 ≤ i) (d0 : 0 ≤ D i) (d1 : D i < 31) : setD (mm_ior x (mm_ishl 1 (D i))) D (i + 1) := by
  refine ⟨zr_32 _, fun k => ?_⟩
  rw [tb_or, tb_shl1 d0 d1, Bool.or_eq_true, hx.2 k, decide_eq_true_eq]
  constructor
  · rintro (⟨l, h0, h1, h2⟩ | h)
    · exact ⟨l, h0, by omega, h2⟩
    · exact ⟨i, i0, by omega, h.symm⟩
  · rintro ⟨l, h0, h1, h2⟩
    by_cases e : l = i
    · rw [e] at h2; exact Or.inr h2.symm
    · exact Or.inl ⟨l, h0, by omega, h2⟩
theorem lp_cwhose {s : mS} {S N : Int → Int} (h : CS s 7 S N) (hw : WF S) (Z : mX) {q : Nat} (qa : isT q) (D : Int → Int) (n : Int) (n1 : n ≤ 20) (hD : RD s q D n) (hc : cellsD S D n) : ∀ i : Int, i ≤ n → ∀ x : Int, 0 ≤ i → setD x D i →
    ∃ x', setD x' D n ∧ mm_at (zP Z) 179 29 [some (.inr (.inr (some 3))), none, some (.inl n), some (.inr (.inr (some q))), none, some (.inl x), some (.inl i)] [] (mk s) = some (some (.inl (whS S x')), mk (uF s 3 15 0)) := by
  have nn := wf_n hw
  refine up ?_ ?_
  · intro x i0 hx
    refine ⟨x, hx, ?_⟩
    rw [B_X11_whose_29]
    simp (disch := first | assumption | omega) only [↓sm, ↓reduceIte, ↓if_pos, ↓if_neg, kI, kJ, kR, kV, w32_eq, w64_eq, reduceCtorEq, Int.reduceAdd, Int.reduceMul, Int.reduceSub, o_c3, ↓o_g3_0, ↓o_g3_1, ↓o_g3_2, ↓o_g3_3, ↓o_g3_4, ↓o_g3_5, ↓o_g3_6, ↓o_g3_7, ↓o_g3_8, ↓o_g3_9, ↓o_g3_10, ↓o_g3_11, ↓o_g3_12, ↓o_g3_13, ↓o_g3_14, ↓o_g3_15, ↓o_g3_16, ↓o_g3_17, ↓a_ln4, ↓a_ld4, ↓a_ln61, ↓a_ld61, ↓a_ln62, ↓a_ld62, o_c66, ↓c_who h hw Z, ↓d_none Z, ↓d_done Z, ↓d_refused Z, ↓d_granted Z]
  · intro i hi ih x i0 hx
    obtain ⟨k0, k1⟩ := hc i i0 hi
    have d0 := hD i i0 hi
    obtain ⟨x', g1, g2⟩ := ih _ (by omega) (setD_s hx i0 k0 (by omega))
    refine ⟨x', g1, ?_⟩
    rw [B_X11_whose_29]
    simp (disch := first | assumption | omega) only [↓sm, ↓reduceIte, ↓if_pos, ↓if_neg, kI, kJ, kR, kV, w32_eq, w64_eq, reduceCtorEq, Int.reduceAdd, Int.reduceMul, Int.reduceSub, o_c3, ↓o_g3_0, ↓o_g3_1, ↓o_g3_2, ↓o_g3_3, ↓o_g3_4, ↓o_g3_5, ↓o_g3_6, ↓o_g3_7, ↓o_g3_8, ↓o_g3_9, ↓o_g3_10, ↓o_g3_11, ↓o_g3_12, ↓o_g3_13, ↓o_g3_14, ↓o_g3_15, ↓o_g3_16, ↓o_g3_17, ↓a_ln4, ↓a_ld4, ↓a_ln61, ↓a_ld61, ↓a_ln62, ↓a_ld62, o_c7, t_c qa, ↓c8_at Z s qa, c8_at Z s qa, d0, ↓c_isCellNumber_t h hw Z, ↓k_bit Z, g2]
theorem lp_cwhose5 {s : mS} {S N : Int → Int} (h : CS s 7 S N) (hw : WF S) (Z : mX) {q : Nat} (qa : isT q) (D : Int → Int) (n : Int) (n1 : n ≤ 20) (hD : RD s q D n) (hc : ¬ cellsD S D n) : ∀ i : Int, i ≤ n → ∀ x : Int, 0 ≤ i → cellsD S D i →
    mm_at (zP Z) 179 29 [some (.inr (.inr (some 3))), none, some (.inl n), some (.inr (.inr (some q))), none, some (.inl x), some (.inl i)] [] (mk s) = some (some (.inl (-1)), mk (uF s 3 15 5)) := by
  have nn := wf_n hw
  refine up ?_ ?_
  · intro x i0 hx
    exact absurd hx hc
  · intro i hi ih x i0 hx
    have d0 := hD i i0 hi
    by_cases hk : 0 ≤ D i ∧ D i < ncl S
    · have g2 := ih (mm_ior x (mm_ishl 1 (D i))) (by omega) (fun l l0 l1 => by
        by_cases e : l = i
        · rw [e]; exact hk
        · exact hx l l0 (by omega))
      rw [B_X11_whose_29]
      simp (disch := first | assumption | omega) only [↓sm, ↓reduceIte, ↓if_pos, ↓if_neg, kI, kJ, kR, kV, w32_eq, w64_eq, reduceCtorEq, Int.reduceAdd, Int.reduceMul, Int.reduceSub, o_c3, ↓o_g3_0, ↓o_g3_1, ↓o_g3_2, ↓o_g3_3, ↓o_g3_4, ↓o_g3_5, ↓o_g3_6, ↓o_g3_7, ↓o_g3_8, ↓o_g3_9, ↓o_g3_10, ↓o_g3_11, ↓o_g3_12, ↓o_g3_13, ↓o_g3_14, ↓o_g3_15, ↓o_g3_16, ↓o_g3_17, ↓a_ln4, ↓a_ld4, ↓a_ln61, ↓a_ld61, ↓a_ln62, ↓a_ld62, o_c7, t_c qa, ↓c8_at Z s qa, c8_at Z s qa, d0, ↓c_isCellNumber_t h hw Z, ↓k_bit Z, g2]
    · rw [B_X11_whose_29]
      simp (disch := first | assumption | omega) only [↓sm, ↓reduceIte, ↓if_pos, ↓if_neg, kI, kJ, kR, kV, w32_eq, w64_eq, reduceCtorEq, Int.reduceAdd, Int.reduceMul, Int.reduceSub, o_c3, ↓o_g3_0, ↓o_g3_1, ↓o_g3_2, ↓o_g3_3, ↓o_g3_4, ↓o_g3_5, ↓o_g3_6, ↓o_g3_7, ↓o_g3_8, ↓o_g3_9, ↓o_g3_10, ↓o_g3_11, ↓o_g3_12, ↓o_g3_13, ↓o_g3_14, ↓o_g3_15, ↓o_g3_16, ↓o_g3_17, ↓a_ln4, ↓a_ld4, ↓a_ln61, ↓a_ld61, ↓a_ln62, ↓a_ld62, o_c7, t_c qa, ↓c8_at Z s qa, c8_at Z s qa, d0, ↓c_isCellNumber_f h hw Z, ↓d_none Z, ↓d_done Z, ↓d_refused Z, ↓d_granted Z]
theorem lp_rwhose {s : mS} {S : Int → Int} (e : s.2 142 = S) (hw : WF S) (Z : mX) (D : Int → Int) (a n : Int) (a0 : 0 ≤ a) (a1 : a < 4) (n1 : n ≤ 20) (hD : RE s a D n) (hc : cellsD S D n) : ∀ i : Int, i ≤ n → 0 ≤ i →
    mm_at (zP Z) 338 35 [some (.inr (.inr (some 141))), some (.inl a), some (.inl n), some (.inl i), none, none, none, none] [] (mk s) = mm_at (zP Z) 338 65 [some (.inr (.inr (some 141))), some (.inl a), some (.inl n), some (.inl 0), some (.inl 0), none, none, none] [] (mk s) := by
  have nn := wf_n hw
  refine up ?_ ?_
  · intro i0
    conv => lhs; rw [B_X12_whose_35]
    simp (disch := first | assumption | omega) only [↓sm, ↓reduceIte, ↓if_pos, ↓if_neg, kI, kJ, kR, kV, w32_eq, w64_eq, reduceCtorEq, Int.reduceAdd, Int.reduceMul, Int.reduceSub]
  · intro i hi ih i0
    obtain ⟨k0, k1⟩ := hc i i0 hi
    have d0 := hD i i0 hi
    rw [← ih (by omega)]
    conv => lhs; rw [B_X12_whose_35]
    simp (disch := first | assumption | omega) only [↓sm, ↓reduceIte, ↓if_pos, ↓if_neg, kI, kJ, kR, kV, w32_eq, w64_eq, reduceCtorEq, Int.reduceAdd, Int.reduceMul, Int.reduceSub, o_c141, ↓o_g141_0, ↓o_g141_1, ↓o_g141_5, ↓o_g141_6, ↓o_g141_7, ↓o_g141_8, ↓o_g141_9, ↓o_g141_21, ↓o_g141_25, ↓o_g141_26, ↓o_g141_27, ↓o_g141_28, ↓o_g141_29, ↓o_g141_30, ↓o_g141_31, ↓o_g141_34, ↓o_g141_35, ↓o_g141_36, ↓r_pupilAt e hw Z, ↓r_at e, ↓r_atw e, ↓r_cellsOf e hw Z, ↓r_isCell_t e hw Z, ↓r_isCell_f e hw Z, ↓r_isLesson_t e hw Z, ↓r_isLesson_f e hw Z, ↓r_isPupil_t e hw Z, ↓r_isPupil_f e hw Z, ↓r_pupilOf e hw Z, ↓r_needsOf e hw Z, ↓r_catchBy e hw Z, ↓r_catchOf e hw Z, ↓r_isCaught_t e hw Z, ↓r_isCaught_f e hw Z, ↓r_allCaught e hw Z, ↓r_whoIs0 e hw Z, ↓r_whoIs1 e hw Z, ↓r_sideOf e hw Z, ↓r_isNear e hw Z, ↓r_nextLesson e hw Z, ↓r_canFree e hw Z, ↓r_nearTo e hw Z, ↓r_isIn Z, ↓r_pupilRow Z, ↓r_lessonRow Z, ↓k_bits Z, ↓a_ld146, a_ld146, d0, ↓d_isFrom_t Z]
theorem lp_rwhose5 {s : mS} {S : Int → Int} (e : s.2 142 = S) (hw : WF S) (Z : mX) (D : Int → Int) (a n : Int) (a0 : 0 ≤ a) (a1 : a < 4) (n1 : n ≤ 20) (hD : RE s a D n) (hc : ¬ cellsD S D n) : ∀ i : Int, i ≤ n → 0 ≤ i → cellsD S D i →
    mm_at (zP Z) 338 35 [some (.inr (.inr (some 141))), some (.inl a), some (.inl n), some (.inl i), none, none, none, none] [] (mk s) = some (some (.inl (-1)), mk (uF s 141 2 5)) := by
  have nn := wf_n hw
  refine up ?_ ?_
  · intro i0 hx
    exact absurd hx hc
  · intro i hi ih i0 hx
    have d0 := hD i i0 hi
    by_cases hk : 0 ≤ D i ∧ D i < ncl S
    · have g2 := ih (by omega) (fun l l0 l1 => by
        by_cases e : l = i
        · rw [e]; exact hk
        · exact hx l l0 (by omega))
      rw [B_X12_whose_35]
      simp (disch := first | assumption | omega) only [↓sm, ↓reduceIte, ↓if_pos, ↓if_neg, kI, kJ, kR, kV, w32_eq, w64_eq, reduceCtorEq, Int.reduceAdd, Int.reduceMul, Int.reduceSub, o_c141, ↓o_g141_0, ↓o_g141_1, ↓o_g141_5, ↓o_g141_6, ↓o_g141_7, ↓o_g141_8, ↓o_g141_9, ↓o_g141_21, ↓o_g141_25, ↓o_g141_26, ↓o_g141_27, ↓o_g141_28, ↓o_g141_29, ↓o_g141_30, ↓o_g141_31, ↓o_g141_34, ↓o_g141_35, ↓o_g141_36, ↓r_pupilAt e hw Z, ↓r_at e, ↓r_atw e, ↓r_cellsOf e hw Z, ↓r_isCell_t e hw Z, ↓r_isCell_f e hw Z, ↓r_isLesson_t e hw Z, ↓r_isLesson_f e hw Z, ↓r_isPupil_t e hw Z, ↓r_isPupil_f e hw Z, ↓r_pupilOf e hw Z, ↓r_needsOf e hw Z, ↓r_catchBy e hw Z, ↓r_catchOf e hw Z, ↓r_isCaught_t e hw Z, ↓r_isCaught_f e hw Z, ↓r_allCaught e hw Z, ↓r_whoIs0 e hw Z, ↓r_whoIs1 e hw Z, ↓r_sideOf e hw Z, ↓r_isNear e hw Z, ↓r_nextLesson e hw Z, ↓r_canFree e hw Z, ↓r_nearTo e hw Z, ↓r_isIn Z, ↓r_pupilRow Z, ↓r_lessonRow Z, ↓k_bits Z, ↓a_ld146, a_ld146, d0, ↓d_isFrom_t Z, g2]
    · rw [B_X12_whose_35]
      simp (disch := first | assumption | omega) only [↓sm, ↓reduceIte, ↓if_pos, ↓if_neg, kI, kJ, kR, kV, w32_eq, w64_eq, reduceCtorEq, Int.reduceAdd, Int.reduceMul, Int.reduceSub, o_c141, ↓o_g141_0, ↓o_g141_1, ↓o_g141_5, ↓o_g141_6, ↓o_g141_7, ↓o_g141_8, ↓o_g141_9, ↓o_g141_21, ↓o_g141_25, ↓o_g141_26, ↓o_g141_27, ↓o_g141_28, ↓o_g141_29, ↓o_g141_30, ↓o_g141_31, ↓o_g141_34, ↓o_g141_35, ↓o_g141_36, ↓r_pupilAt e hw Z, ↓r_at e, ↓r_atw e, ↓r_cellsOf e hw Z, ↓r_isCell_t e hw Z, ↓r_isCell_f e hw Z, ↓r_isLesson_t e hw Z, ↓r_isLesson_f e hw Z, ↓r_isPupil_t e hw Z, ↓r_isPupil_f e hw Z, ↓r_pupilOf e hw Z, ↓r_needsOf e hw Z, ↓r_catchBy e hw Z, ↓r_catchOf e hw Z, ↓r_isCaught_t e hw Z, ↓r_isCaught_f e hw Z, ↓r_allCaught e hw Z, ↓r_whoIs0 e hw Z, ↓r_whoIs1 e hw Z, ↓r_sideOf e hw Z, ↓r_isNear e hw Z, ↓r_nextLesson e hw Z, ↓r_canFree e hw Z, ↓r_nearTo e hw Z, ↓r_isIn Z, ↓r_pupilRow Z, ↓r_lessonRow Z, ↓k_bits Z, ↓a_ld146, a_ld146, d0, ↓d_isFrom_f Z, ↓d_refuse Z, ↓d_gives Z, ↓d_is0 Z, ↓d_is1 Z, ↓d_isFrom_t Z, ↓d_isFrom_f Z, ↓d_orNone_t Z, ↓d_orNone_f Z]
theorem lp_rall {s : mS} {S : Int → Int} (e : s.2 142 = S) (hw : WF S) (Z : mX) (D : Int → Int) (a n x p K : Int) (a0 : 0 ≤ a) (a1 : a < 4) (n1 : n ≤ 20) (hD : RE s a D n) (hc : cellsD S D n) : ∀ i : Int, i ≤ n → 0 ≤ i →
    mm_at (zP Z) 338 79 [some (.inr (.inr (some 141))), some (.inl a), some (.inl n), some (.inl x), some (.inl p), some (.inl K), some (.inl ((b2i (allB K D i.toNat)))), some (.inl i)] [] (mk s) = mm_at (zP Z) 338 79 [some (.inr (.inr (some 141))), some (.inl a), some (.inl n), some (.inl x), some (.inl p), some (.inl K), some (.inl ((b2i (allB K D n.toNat)))), some (.inl n)] [] (mk s) := by
  have nn := wf_n hw
  refine up ?_ ?_
  · intro i0
    rfl
  · intro i hi ih i0
    obtain ⟨k0, k1⟩ := hc i i0 hi
    have d0 := hD i i0 hi
    have ea : allB K D (i + 1).toNat = (allB K D i.toNat && tb K (D i).toNat) := by
      rw [show (i + 1).toNat = i.toNat + 1 by omega]
      show (allB K D i.toNat && tb K (D (i.toNat : Int)).toNat) = _
      rw [Int.toNat_of_nonneg i0]
    rw [← ih (by omega), ea]
    conv => lhs; rw [B_X12_whose_79]
    cases h1 : allB K D i.toNat
    · simp (disch := first | assumption | omega) only [↓sm, ↓reduceIte, ↓if_pos, ↓if_neg, kI, kJ, kR, kV, w32_eq, w64_eq, reduceCtorEq, Int.reduceAdd, Int.reduceMul, Int.reduceSub, b2i_0, Bool.false_and]
      rfl
    · cases h2 : tb K (D i).toNat
      · simp (disch := first | assumption | omega) only [↓sm, ↓reduceIte, ↓if_pos, ↓if_neg, kI, kJ, kR, kV, w32_eq, w64_eq, reduceCtorEq, Int.reduceAdd, Int.reduceMul, Int.reduceSub, b2i_0, Bool.true_and, o_c141, ↓o_g141_0, ↓o_g141_1, ↓o_g141_5, ↓o_g141_6, ↓o_g141_7, ↓o_g141_8, ↓o_g141_9, ↓o_g141_21, ↓o_g141_25, ↓o_g141_26, ↓o_g141_27, ↓o_g141_28, ↓o_g141_29, ↓o_g141_30, ↓o_g141_31, ↓o_g141_34, ↓o_g141_35, ↓o_g141_36, ↓a_ld146, a_ld146, d0, ↓r_isIn Z, h2]
        rfl
      · simp (disch := first | assumption | omega) only [↓sm, ↓reduceIte, ↓if_pos, ↓if_neg, kI, kJ, kR, kV, w32_eq, w64_eq, reduceCtorEq, Int.reduceAdd, Int.reduceMul, Int.reduceSub, b2i_0, Bool.true_and, o_c141, ↓o_g141_0, ↓o_g141_1, ↓o_g141_5, ↓o_g141_6, ↓o_g141_7, ↓o_g141_8, ↓o_g141_9, ↓o_g141_21, ↓o_g141_25, ↓o_g141_26, ↓o_g141_27, ↓o_g141_28, ↓o_g141_29, ↓o_g141_30, ↓o_g141_31, ↓o_g141_34, ↓o_g141_35, ↓o_g141_36, ↓a_ld146, a_ld146, d0, ↓r_isIn Z, h2]
        rfl
theorem lp_rpup {S : Int → Int} (hw : WF S) (Z : mX) (D : Int → Int) (a n : Int) (a0 : 0 ≤ a) (a1 : a < 4) (n0 : 0 ≤ n) (n1 : n ≤ 20) (hc : cellsD S D n) : ∀ p : Int, p ≤ S 3 → ∀ s : mS, s.2 142 = S → RE s a D n → 0 ≤ p →
    ∃ s', mm_at (zP Z) 338 65 [some (.inr (.inr (some 141))), some (.inl a), some (.inl n), some (.inl ((bz (fun k => allB (cms S k) D n.toNat) p))), some (.inl p), none, none, none] [] (mk s) = some (some (.inl (bz (fun k => allB (cms S k) D n.toNat) (S 3))), mk (uF s' 141 2 0)) ∧ Ag a150 noF s s' := by
  have w := wf0 hw
  refine up ?_ ?_
  · intro s e hD p0
    refine ⟨s, ?_, Ag_refl _ _ _⟩
    rw [B_X12_whose_65]
    simp (disch := first | assumption | omega) only [↓sm, ↓reduceIte, ↓if_pos, ↓if_neg, kI, kJ, kR, kV, w32_eq, w64_eq, reduceCtorEq, Int.reduceAdd, Int.reduceMul, Int.reduceSub, o_c141, ↓o_g141_0, ↓o_g141_1, ↓o_g141_5, ↓o_g141_6, ↓o_g141_7, ↓o_g141_8, ↓o_g141_9, ↓o_g141_21, ↓o_g141_25, ↓o_g141_26, ↓o_g141_27, ↓o_g141_28, ↓o_g141_29, ↓o_g141_30, ↓o_g141_31, ↓o_g141_34, ↓o_g141_35, ↓o_g141_36, ↓r_pupilAt e hw Z, ↓r_at e, ↓r_atw e, ↓r_cellsOf e hw Z, ↓r_isCell_t e hw Z, ↓r_isCell_f e hw Z, ↓r_isLesson_t e hw Z, ↓r_isLesson_f e hw Z, ↓r_isPupil_t e hw Z, ↓r_isPupil_f e hw Z, ↓r_pupilOf e hw Z, ↓r_needsOf e hw Z, ↓r_catchBy e hw Z, ↓r_catchOf e hw Z, ↓r_isCaught_t e hw Z, ↓r_isCaught_f e hw Z, ↓r_allCaught e hw Z, ↓r_whoIs0 e hw Z, ↓r_whoIs1 e hw Z, ↓r_sideOf e hw Z, ↓r_isNear e hw Z, ↓r_nextLesson e hw Z, ↓r_canFree e hw Z, ↓r_nearTo e hw Z, ↓r_isIn Z, ↓r_pupilRow Z, ↓r_lessonRow Z, ↓k_bits Z, ↓d_refuse Z, ↓d_gives Z, ↓d_is0 Z, ↓d_is1 Z, ↓d_isFrom_t Z, ↓d_isFrom_f Z, ↓d_orNone_t Z, ↓d_orNone_f Z]
  · intro p hp ih s e hD p0
    obtain ⟨s1, a1', a2⟩ := r_reachOf e hw Z p p0 hp
    have e1 : s1.2 142 = S := (Ag_142 a2).trans e
    have hD1 : RE s1 a D n := fun j j0 j1 => by rw [a2.1 146 (by unfold a150; omega)]; exact hD j j0 j1
    obtain ⟨s', g1, g2⟩ := ih s1 e1 hD1 (by omega)
    refine ⟨s', ?_, Ag_trans a2 g2⟩
    have ga := lp_rall e1 hw Z D a n (bz (fun k => allB (cms S k) D n.toNat) p) p (cms S p) a0 a1 n1 hD1 hc 0 n0 (by omega)
    rw [show b2i (allB (cms S p) D (Int.toNat 0)) = 1 from rfl] at ga
    rw [B_X12_whose_65]
    cases h1 : allB (cms S p) D n.toNat
    · have o := bz_or0 (fun k => allB (cms S k) D n.toNat) p0 h1
      rw [o] at g1
      rw [h1] at ga
      simp (disch := first | assumption | omega) only [↓sm, ↓reduceIte, ↓if_pos, ↓if_neg, kI, kJ, kR, kV, w32_eq, w64_eq, reduceCtorEq, Int.reduceAdd, Int.reduceMul, Int.reduceSub, o_c141, ↓o_g141_0, ↓o_g141_1, ↓o_g141_5, ↓o_g141_6, ↓o_g141_7, ↓o_g141_8, ↓o_g141_9, ↓o_g141_21, ↓o_g141_25, ↓o_g141_26, ↓o_g141_27, ↓o_g141_28, ↓o_g141_29, ↓o_g141_30, ↓o_g141_31, ↓o_g141_34, ↓o_g141_35, ↓o_g141_36, ↓r_pupilAt e hw Z, ↓r_at e, ↓r_atw e, ↓r_cellsOf e hw Z, ↓r_isCell_t e hw Z, ↓r_isCell_f e hw Z, ↓r_isLesson_t e hw Z, ↓r_isLesson_f e hw Z, ↓r_isPupil_t e hw Z, ↓r_isPupil_f e hw Z, ↓r_pupilOf e hw Z, ↓r_needsOf e hw Z, ↓r_catchBy e hw Z, ↓r_catchOf e hw Z, ↓r_isCaught_t e hw Z, ↓r_isCaught_f e hw Z, ↓r_allCaught e hw Z, ↓r_whoIs0 e hw Z, ↓r_whoIs1 e hw Z, ↓r_sideOf e hw Z, ↓r_isNear e hw Z, ↓r_nextLesson e hw Z, ↓r_canFree e hw Z, ↓r_nearTo e hw Z, ↓r_isIn Z, ↓r_pupilRow Z, ↓r_lessonRow Z, ↓k_bits Z, ↓a1', ga]
      rw [B_X12_whose_79]
      simp (disch := first | assumption | omega) only [↓sm, ↓reduceIte, ↓if_pos, ↓if_neg, kI, kJ, kR, kV, w32_eq, w64_eq, reduceCtorEq, Int.reduceAdd, Int.reduceMul, Int.reduceSub, b2i_0, p2_or0 _ (bz_zr (fun k => allB (cms S k) D n.toNat) (n := p) (by omega)), g1]
    · have o := bz_or1 (fun k => allB (cms S k) D n.toNat) p0 (by omega) h1
      rw [h1] at ga
      simp (disch := first | assumption | omega) only [↓sm, ↓reduceIte, ↓if_pos, ↓if_neg, kI, kJ, kR, kV, w32_eq, w64_eq, reduceCtorEq, Int.reduceAdd, Int.reduceMul, Int.reduceSub, o_c141, ↓o_g141_0, ↓o_g141_1, ↓o_g141_5, ↓o_g141_6, ↓o_g141_7, ↓o_g141_8, ↓o_g141_9, ↓o_g141_21, ↓o_g141_25, ↓o_g141_26, ↓o_g141_27, ↓o_g141_28, ↓o_g141_29, ↓o_g141_30, ↓o_g141_31, ↓o_g141_34, ↓o_g141_35, ↓o_g141_36, ↓r_pupilAt e hw Z, ↓r_at e, ↓r_atw e, ↓r_cellsOf e hw Z, ↓r_isCell_t e hw Z, ↓r_isCell_f e hw Z, ↓r_isLesson_t e hw Z, ↓r_isLesson_f e hw Z, ↓r_isPupil_t e hw Z, ↓r_isPupil_f e hw Z, ↓r_pupilOf e hw Z, ↓r_needsOf e hw Z, ↓r_catchBy e hw Z, ↓r_catchOf e hw Z, ↓r_isCaught_t e hw Z, ↓r_isCaught_f e hw Z, ↓r_allCaught e hw Z, ↓r_whoIs0 e hw Z, ↓r_whoIs1 e hw Z, ↓r_sideOf e hw Z, ↓r_isNear e hw Z, ↓r_nextLesson e hw Z, ↓r_canFree e hw Z, ↓r_nearTo e hw Z, ↓r_isIn Z, ↓r_pupilRow Z, ↓r_lessonRow Z, ↓k_bits Z, ↓a1', ga]
      rw [B_X12_whose_79]
      simp (disch := first | assumption | omega) only [↓sm, ↓reduceIte, ↓if_pos, ↓if_neg, kI, kJ, kR, kV, w32_eq, w64_eq, reduceCtorEq, Int.reduceAdd, Int.reduceMul, Int.reduceSub, b2i_0, o, g1]
theorem op_whose (Z : mX) (s : mS) (hI : Inv s) (a n : Int) : OpI Z s 179 338 [.inl a, .inl n] := by
  have h := hI.2.2.1.2
  have hw := hI.2.2.1.1
  have hR := hI.2.2.2.1
  have nn := wf_n hw
  have w := wf0 hw
  by_cases ha : 0 ≤ a ∧ a < 4
  case neg =>
    refine op_rd hI (-1) 1 (fun f => ?_) (fun t e f => ?_)
    · rw [B_X11_whose]
      by_cases hn : 0 ≤ n ∧ n ≤ 20
      · simp (disch := first | assumption | omega) only [↓sm, ↓reduceIte, ↓if_pos, ↓if_neg, kI, kJ, kR, kV, w32_eq, w64_eq, reduceCtorEq, Int.reduceAdd, Int.reduceMul, Int.reduceSub, o_c3, ↓o_g3_0, ↓o_g3_1, ↓o_g3_2, ↓o_g3_3, ↓o_g3_4, ↓o_g3_5, ↓o_g3_6, ↓o_g3_7, ↓o_g3_8, ↓o_g3_9, ↓o_g3_10, ↓o_g3_11, ↓o_g3_12, ↓o_g3_13, ↓o_g3_14, ↓o_g3_15, ↓o_g3_16, ↓o_g3_17, ↓a_ln4, ↓a_ld4, ↓a_ln61, ↓a_ld61, ↓a_ln62, ↓a_ld62, ↓d_none Z, ↓d_done Z, ↓d_refused Z, ↓d_granted Z, ↓c_trayAt_f Z, ↓k_isIn_t Z, ↓c_trouble_n Z, B_X11_whose_16, reduceCtorEq]
      · simp (disch := first | assumption | omega) only [↓sm, ↓reduceIte, ↓if_pos, ↓if_neg, kI, kJ, kR, kV, w32_eq, w64_eq, reduceCtorEq, Int.reduceAdd, Int.reduceMul, Int.reduceSub, o_c3, ↓o_g3_0, ↓o_g3_1, ↓o_g3_2, ↓o_g3_3, ↓o_g3_4, ↓o_g3_5, ↓o_g3_6, ↓o_g3_7, ↓o_g3_8, ↓o_g3_9, ↓o_g3_10, ↓o_g3_11, ↓o_g3_12, ↓o_g3_13, ↓o_g3_14, ↓o_g3_15, ↓o_g3_16, ↓o_g3_17, ↓a_ln4, ↓a_ld4, ↓a_ln61, ↓a_ld61, ↓a_ln62, ↓a_ld62, ↓d_none Z, ↓d_done Z, ↓d_refused Z, ↓d_granted Z, ↓c_trayAt_f Z, ↓k_isIn_f Z, B_X11_whose_16, reduceCtorEq]
    · rw [B_X12_whose]
      simp (disch := first | assumption | omega) only [↓sm, ↓reduceIte, ↓if_pos, ↓if_neg, kI, kJ, kR, kV, w32_eq, w64_eq, reduceCtorEq, Int.reduceAdd, Int.reduceMul, Int.reduceSub, o_c141, ↓d_refuse Z, ↓d_gives Z, ↓d_is0 Z, ↓d_is1 Z, ↓d_isFrom_t Z, ↓d_isFrom_f Z, ↓d_orNone_t Z, ↓d_orNone_f Z, ↓r_isTray_f Z]
  case pos =>
    have qa := isT_of (k := a.toNat) (by omega)
    obtain ⟨b1, b2, b3, b4, b5, b6, b7⟩ := hI.2.2.2.1 a.toNat (by omega)
    rw [Int.toNat_of_nonneg ha.1] at b1 b2 b3 b4 b5 b6 b7
    by_cases hn : 0 ≤ n ∧ n ≤ 20
    case neg =>
      refine op_rd hI (-1) 1 (fun f => ?_) (fun t e f => ?_)
      · rw [B_X11_whose]
        simp (disch := first | assumption | omega) only [↓sm, ↓reduceIte, ↓if_pos, ↓if_neg, kI, kJ, kR, kV, w32_eq, w64_eq, reduceCtorEq, Int.reduceAdd, Int.reduceMul, Int.reduceSub, o_c3, ↓o_g3_0, ↓o_g3_1, ↓o_g3_2, ↓o_g3_3, ↓o_g3_4, ↓o_g3_5, ↓o_g3_6, ↓o_g3_7, ↓o_g3_8, ↓o_g3_9, ↓o_g3_10, ↓o_g3_11, ↓o_g3_12, ↓o_g3_13, ↓o_g3_14, ↓o_g3_15, ↓o_g3_16, ↓o_g3_17, ↓a_ln4, ↓a_ld4, ↓a_ln61, ↓a_ld61, ↓a_ln62, ↓a_ld62, ↓d_none Z, ↓d_done Z, ↓d_refused Z, ↓d_granted Z, ↓c_trayAt_t Z, ↓k_isIn_f Z, B_X11_whose_16, reduceCtorEq]
      · rw [B_X12_whose]
        simp (disch := first | assumption | omega) only [↓sm, ↓reduceIte, ↓if_pos, ↓if_neg, kI, kJ, kR, kV, w32_eq, w64_eq, reduceCtorEq, Int.reduceAdd, Int.reduceMul, Int.reduceSub, o_c141, ↓d_refuse Z, ↓d_gives Z, ↓d_is0 Z, ↓d_is1 Z, ↓d_isFrom_t Z, ↓d_isFrom_f Z, ↓d_orNone_t Z, ↓d_orNone_f Z, ↓r_isTray_t Z]
    case pos =>
      by_cases m1 : s.2 145 a = -1
      · refine op_rdx hI (-1) 2 (fun f => ?_) (fun t e f => ?_)
        · rw [B_X11_whose]
          simp (disch := first | assumption | omega) only [↓sm, ↓reduceIte, ↓if_pos, ↓if_neg, kI, kJ, kR, kV, w32_eq, w64_eq, reduceCtorEq, Int.reduceAdd, Int.reduceMul, Int.reduceSub, o_c3, ↓o_g3_0, ↓o_g3_1, ↓o_g3_2, ↓o_g3_3, ↓o_g3_4, ↓o_g3_5, ↓o_g3_6, ↓o_g3_7, ↓o_g3_8, ↓o_g3_9, ↓o_g3_10, ↓o_g3_11, ↓o_g3_12, ↓o_g3_13, ↓o_g3_14, ↓o_g3_15, ↓o_g3_16, ↓o_g3_17, ↓a_ln4, ↓a_ld4, ↓a_ln61, ↓a_ld61, ↓a_ln62, ↓a_ld62, ↓d_none Z, ↓d_done Z, ↓d_refused Z, ↓d_granted Z, ↓c_trayAt_t Z, ↓k_isIn_t Z, ↓c_trouble Z s qa 0 _ (by omega) (by omega), b2, m1, twr, B_X11_whose_16, reduceCtorEq]
        · have e5 : t.2 145 = s.2 145 := by rw [e]; rfl
          rw [B_X12_whose]
          simp (disch := first | assumption | omega) only [↓sm, ↓reduceIte, ↓if_pos, ↓if_neg, kI, kJ, kR, kV, w32_eq, w64_eq, reduceCtorEq, Int.reduceAdd, Int.reduceMul, Int.reduceSub, o_c141, ↓o_g141_0, ↓o_g141_1, ↓o_g141_5, ↓o_g141_6, ↓o_g141_7, ↓o_g141_8, ↓o_g141_9, ↓o_g141_21, ↓o_g141_25, ↓o_g141_26, ↓o_g141_27, ↓o_g141_28, ↓o_g141_29, ↓o_g141_30, ↓o_g141_31, ↓o_g141_34, ↓o_g141_35, ↓o_g141_36, ↓d_refuse Z, ↓d_gives Z, ↓d_is0 Z, ↓d_is1 Z, ↓d_isFrom_t Z, ↓d_isFrom_f Z, ↓d_orNone_t Z, ↓d_orNone_f Z, ↓r_isTray_t Z, ↓a_ld145, e5, m1]
      by_cases m2 : n ≤ s.2 145 a
      case neg =>
        refine op_rdx hI (-1) 3 (fun f => ?_) (fun t e f => ?_)
        · rw [B_X11_whose]
          simp (disch := first | assumption | omega) only [↓sm, ↓reduceIte, ↓if_pos, ↓if_neg, kI, kJ, kR, kV, w32_eq, w64_eq, reduceCtorEq, Int.reduceAdd, Int.reduceMul, Int.reduceSub, o_c3, ↓o_g3_0, ↓o_g3_1, ↓o_g3_2, ↓o_g3_3, ↓o_g3_4, ↓o_g3_5, ↓o_g3_6, ↓o_g3_7, ↓o_g3_8, ↓o_g3_9, ↓o_g3_10, ↓o_g3_11, ↓o_g3_12, ↓o_g3_13, ↓o_g3_14, ↓o_g3_15, ↓o_g3_16, ↓o_g3_17, ↓a_ln4, ↓a_ld4, ↓a_ln61, ↓a_ld61, ↓a_ln62, ↓a_ld62, ↓d_none Z, ↓d_done Z, ↓d_refused Z, ↓d_granted Z, ↓c_trayAt_t Z, ↓k_isIn_t Z, ↓c_trouble Z s qa 0 _ (by omega) (by omega), b2, m1, twr, B_X11_whose_16, reduceCtorEq]
        · have e5 : t.2 145 = s.2 145 := by rw [e]; rfl
          rw [B_X12_whose]
          simp (disch := first | assumption | omega) only [↓sm, ↓reduceIte, ↓if_pos, ↓if_neg, kI, kJ, kR, kV, w32_eq, w64_eq, reduceCtorEq, Int.reduceAdd, Int.reduceMul, Int.reduceSub, o_c141, ↓o_g141_0, ↓o_g141_1, ↓o_g141_5, ↓o_g141_6, ↓o_g141_7, ↓o_g141_8, ↓o_g141_9, ↓o_g141_21, ↓o_g141_25, ↓o_g141_26, ↓o_g141_27, ↓o_g141_28, ↓o_g141_29, ↓o_g141_30, ↓o_g141_31, ↓o_g141_34, ↓o_g141_35, ↓o_g141_36, ↓d_refuse Z, ↓d_gives Z, ↓d_is0 Z, ↓d_is1 Z, ↓d_isFrom_t Z, ↓d_isFrom_f Z, ↓d_orNone_t Z, ↓d_orNone_f Z, ↓r_isTray_t Z, ↓a_ld145, e5, m1]
      case pos =>
        have hD : RD s (76 + 2 * a.toNat) (fun j => s.2 146 (60 * a + j)) n := fun j j0 j1 => by
          rw [show 76 + 2 * a.toNat + 1 = 77 + 2 * a.toNat by omega]
          exact (b7 j j0 (by omega)).1
        by_cases hc : cellsD (s.2 142) (fun j => s.2 146 (60 * a + j)) n
        · obtain ⟨x, hx, g⟩ := lp_cwhose h hw Z qa _ n hn.2 hD hc 0 hn.1 0 (by omega) (setD_0 _)
          have ew : whS (s.2 142) x = bz (fun k => allB (cms (s.2 142) k) (fun j => s.2 146 (60 * a + j)) n.toNat) (s.2 142 3) := by
            unfold whS
            refine bz_ext' (by omega) (fun k k0 k1 => ?_)
            have := setD_all (K := cms (s.2 142) k) hx hn.1 (fun l l0 l1 => ⟨(hc l l0 l1).1, Int.lt_of_lt_of_le (hc l l0 l1).2 (by omega)⟩)
            cases hb : allB (cms (s.2 142) k) (fun j => s.2 146 (60 * a + j)) n.toNat
            · rw [hb] at this
              simpa using this
            · rw [hb] at this
              simpa using this
          refine op_rdt hI (whS (s.2 142) x) 0 s (fun f => ?_) (Ag_refl _ _ _) (fun t e2 e5 e6 => ?_)
          · rw [B_X11_whose]
            simp (disch := first | assumption | omega) only [↓sm, ↓reduceIte, ↓if_pos, ↓if_neg, kI, kJ, kR, kV, w32_eq, w64_eq, reduceCtorEq, Int.reduceAdd, Int.reduceMul, Int.reduceSub, o_c3, ↓o_g3_0, ↓o_g3_1, ↓o_g3_2, ↓o_g3_3, ↓o_g3_4, ↓o_g3_5, ↓o_g3_6, ↓o_g3_7, ↓o_g3_8, ↓o_g3_9, ↓o_g3_10, ↓o_g3_11, ↓o_g3_12, ↓o_g3_13, ↓o_g3_14, ↓o_g3_15, ↓o_g3_16, ↓o_g3_17, ↓a_ln4, ↓a_ld4, ↓a_ln61, ↓a_ld61, ↓a_ln62, ↓a_ld62, ↓d_none Z, ↓d_done Z, ↓d_refused Z, ↓d_granted Z, ↓c_trayAt_t Z, ↓k_isIn_t Z, ↓c_trouble Z s qa 0 _ (by omega) (by omega), b2, m1, twr, B_X11_whose_16, reduceCtorEq, g]
          · have hE : RE t a (fun j => s.2 146 (60 * a + j)) n := fun j j0 j1 => by rw [e6]
            obtain ⟨t', k1, k2⟩ := lp_rpup hw Z (fun j => s.2 146 (60 * a + j)) a n ha.1 ha.2 hn.1 hn.2 hc 0 (by omega) t e2 hE (by omega)
            rw [bz_0] at k1
            have k0 := lp_rwhose e2 hw Z (fun j => s.2 146 (60 * a + j)) a n ha.1 ha.2 hn.2 hE hc 0 hn.1 (by omega)
            refine ⟨t', fun f => ?_, a150_rsc k2⟩
            rw [B_X12_whose, ew]
            simp (disch := first | assumption | omega) only [↓sm, ↓reduceIte, ↓if_pos, ↓if_neg, kI, kJ, kR, kV, w32_eq, w64_eq, reduceCtorEq, Int.reduceAdd, Int.reduceMul, Int.reduceSub, o_c141, ↓o_g141_0, ↓o_g141_1, ↓o_g141_5, ↓o_g141_6, ↓o_g141_7, ↓o_g141_8, ↓o_g141_9, ↓o_g141_21, ↓o_g141_25, ↓o_g141_26, ↓o_g141_27, ↓o_g141_28, ↓o_g141_29, ↓o_g141_30, ↓o_g141_31, ↓o_g141_34, ↓o_g141_35, ↓o_g141_36, ↓d_refuse Z, ↓d_gives Z, ↓d_is0 Z, ↓d_is1 Z, ↓d_isFrom_t Z, ↓d_isFrom_f Z, ↓d_orNone_t Z, ↓d_orNone_f Z, ↓r_isTray_t Z, ↓a_ld145, e5, m1, k0, k1]
        · have g := lp_cwhose5 h hw Z qa _ n hn.2 hD hc 0 hn.1 0 (by omega) (fun l l0 l1 => absurd l1 (by omega))
          refine op_rdt hI (-1) 5 s (fun f => ?_) (Ag_refl _ _ _) (fun t e2 e5 e6 => ?_)
          · rw [B_X11_whose]
            simp (disch := first | assumption | omega) only [↓sm, ↓reduceIte, ↓if_pos, ↓if_neg, kI, kJ, kR, kV, w32_eq, w64_eq, reduceCtorEq, Int.reduceAdd, Int.reduceMul, Int.reduceSub, o_c3, ↓o_g3_0, ↓o_g3_1, ↓o_g3_2, ↓o_g3_3, ↓o_g3_4, ↓o_g3_5, ↓o_g3_6, ↓o_g3_7, ↓o_g3_8, ↓o_g3_9, ↓o_g3_10, ↓o_g3_11, ↓o_g3_12, ↓o_g3_13, ↓o_g3_14, ↓o_g3_15, ↓o_g3_16, ↓o_g3_17, ↓a_ln4, ↓a_ld4, ↓a_ln61, ↓a_ld61, ↓a_ln62, ↓a_ld62, ↓d_none Z, ↓d_done Z, ↓d_refused Z, ↓d_granted Z, ↓c_trayAt_t Z, ↓k_isIn_t Z, ↓c_trouble Z s qa 0 _ (by omega) (by omega), b2, m1, twr, B_X11_whose_16, reduceCtorEq, g]
          · have hE : RE t a (fun j => s.2 146 (60 * a + j)) n := fun j j0 j1 => by rw [e6]
            have k0 := lp_rwhose5 e2 hw Z (fun j => s.2 146 (60 * a + j)) a n ha.1 ha.2 hn.2 hE hc 0 hn.1 (by omega) (fun l l0 l1 => absurd l1 (by omega))
            refine ⟨t, fun f => ?_, Ag_refl _ _ _⟩
            rw [B_X12_whose]
            simp (disch := first | assumption | omega) only [↓sm, ↓reduceIte, ↓if_pos, ↓if_neg, kI, kJ, kR, kV, w32_eq, w64_eq, reduceCtorEq, Int.reduceAdd, Int.reduceMul, Int.reduceSub, o_c141, ↓o_g141_0, ↓o_g141_1, ↓o_g141_5, ↓o_g141_6, ↓o_g141_7, ↓o_g141_8, ↓o_g141_9, ↓o_g141_21, ↓o_g141_25, ↓o_g141_26, ↓o_g141_27, ↓o_g141_28, ↓o_g141_29, ↓o_g141_30, ↓o_g141_31, ↓o_g141_34, ↓o_g141_35, ↓o_g141_36, ↓d_refuse Z, ↓d_gives Z, ↓d_is0 Z, ↓d_is1 Z, ↓d_isFrom_t Z, ↓d_isFrom_f Z, ↓d_orNone_t Z, ↓d_orNone_f Z, ↓r_isTray_t Z, ↓a_ld145, e5, m1, k0]
