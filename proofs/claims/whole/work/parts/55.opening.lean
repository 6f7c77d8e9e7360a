/-! opening -/
/-- the sets of the class's loop: by j cells cleared -/
def opL (S : Int → Int) (K a : Int) : Nat → Int
  | 0 => itn (nx S K) 25 (mm_ishl 1 a)
  | j + 1 => itn (nx S K) 25 (mm_ior (opL S K a j) (ar S (opL S K a j)))
theorem opL_sub {S : Int → Int} (hw : WF S) (K : Int) {a : Int} (a0 : 0 ≤ a) (a1 : a < ncl S) : ∀ j, sub S (opL S K a j)
  | 0 => sub_itn hw K 25 (sub_bit hw a0 a1)
  | j + 1 => sub_itn hw K 25 (sub_or (opL_sub hw K a0 a1 j) (sub_bz hw _))
theorem nx_itn_mono {S : Int → Int} (hw : WF S) (K : Int) (k : Nat) {x : Int} (hx : sub S x) (i : Nat) (h : tb x i = true) : tb (itn (nx S K) k x) i = true :=
  (itn_mono (I := sub S) (fun x hx => sub_nx hw K hx) (fun x i _ => nx_mono K x i) k hx).2 i h
theorem opL_up {S : Int → Int} (hw : WF S) (K : Int) {a : Int} (a0 : 0 ≤ a) (a1 : a < ncl S) (j : Nat) (i : Nat) (h : tb (opL S K a j) i = true) : tb (opL S K a (j + 1)) i = true := by
  refine nx_itn_mono hw K 25 (sub_or (opL_sub hw K a0 a1 j) (sub_bz hw _)) i ?_
  rw [tb_or, h, Bool.true_or]
theorem opL_a {S : Int → Int} (hw : WF S) (K : Int) {a : Int} (a0 : 0 ≤ a) (a1 : a < ncl S) : ∀ j, tb (opL S K a j) a.toNat = true
  | 0 => by
    have n := wf_n hw
    refine nx_itn_mono hw K 25 (sub_bit hw a0 a1) _ ?_
    rw [tb_shl1 a0 (by omega)]
    simp
  | j + 1 => opL_up hw K a0 a1 j _ (opL_a hw K a0 a1 j)
theorem opL_fix {S : Int → Int} (hw : WF S) (K : Int) {a : Int} (a0 : 0 ≤ a) (a1 : a < ncl S) (j : Nat) : nx S K (opL S K a j) = opL S K a j := by
  have n := wf_n hw
  cases j with
  | zero =>
    exact grow (n := (ncl S).toNat) (I := sub S) (fun x hx => sub_nx hw K hx) (fun x i _ => nx_mono K x i) (sub_lt hw) (sub_bit hw a0 a1) (a := a.toNat) (by rw [tb_shl1 a0 (by omega)]; simp) 25 (by omega)
  | succ j =>
    exact grow (n := (ncl S).toNat) (I := sub S) (fun x hx => sub_nx hw K hx) (fun x i _ => nx_mono K x i) (sub_lt hw) (sub_or (opL_sub hw K a0 a1 j) (sub_bz hw _)) (a := a.toNat) (by rw [tb_or, opL_a hw K a0 a1 j, Bool.true_or]) 25 (by omega)
theorem opL_iff {S : Int → Int} (hw : WF S) {p : Int} (p0 : 0 ≤ p) (p1 : p < S 3) {D : Int → Int} (hD : DS S (wtS S p 1) (S (74 + 6 * p)) D) : ∀ (j : Nat) (d : Int), 0 ≤ d → d < ncl S → (tb (opL S (clr S p (S (74 + 6 * p + 1))) (S (74 + 6 * p)) j) d.toNat = true ↔ D d ≤ j) := by
  have n := wf_n hw
  have wp := wf_p hw p0 p1
  have wt : ∀ c, 0 ≤ c → c < ncl S → 0 ≤ wtS S p 1 c ∧ wtS S p 1 c ≤ 1 ∧ (tb (clr S p (S (74 + 6 * p + 1))) c.toNat = true ↔ wtS S p 1 c = 0) := by
    intro c c0 c1
    have r := wtS_r hw (k := 1) p0 p1 c0 c1
    refine ⟨r.1, r.2.2 (by decide), ?_⟩
    have rc := ct_r hw p0 p1 c0 (show c < 25 by omega) wp.2.2.1 wp.2.2.2.1
    rw [clr_Kc, tb_bz _ (by omega), Int.toNat_of_nonneg c0]
    unfold Kc wtS
    rw [if_neg (by decide)]
    simp only [c1, decide_true, Bool.true_and, decide_eq_true_eq]
    split <;> omega
  -- whoever is in it costs no more
  have snd : ∀ (x : Int) (j : Int), sub S x → (∀ d, 0 ≤ d → d < ncl S → tb x d.toNat = true → D d ≤ j) → ∀ k d, 0 ≤ d → d < ncl S → tb (itn (nx S (clr S p (S (74 + 6 * p + 1)))) k x) d.toNat = true → D d ≤ j := by
    intro x j hx hxj k
    induction k with
    | zero => exact hxj
    | succ k ih =>
      intro d d0 d1 h
      rw [itn_s] at h
      unfold nx at h
      rw [tb_or, tb_and, tb_ar hw, Int.toNat_of_nonneg d0, Bool.or_eq_true, Bool.and_eq_true, Bool.and_eq_true, arB_iff] at h
      rcases h with h | ⟨⟨_, c, b, h⟩, hk⟩
      · exact ih d d0 d1 h
      · have r := Bs_r hw d0 d1 b
        unfold tbz at h
        simp only [Bool.and_eq_true] at h
        have := ih c r.1 r.2 h.2
        have := hD.2.2 c d r.1 r.2 (Bs_sym hw d0 d1 b)
        have := (wt d d0 d1).2.2.mp hk
        omega
  have low : ∀ j d, 0 ≤ d → d < ncl S → tb (opL S (clr S p (S (74 + 6 * p + 1))) (S (74 + 6 * p)) j) d.toNat = true → D d ≤ j := by
    intro j
    induction j with
    | zero =>
      exact snd _ 0 (sub_bit hw wp.1 wp.2.1) (fun d d0 d1 h => by
        rw [tb_shl1 wp.1 (by omega)] at h
        simp at h
        have : d = S (74 + 6 * p) := by omega
        rw [this, hD.1]
        exact Int.le_refl _) 25
    | succ j ih =>
      refine snd _ ((j + 1 : Nat) : Int) (sub_or (opL_sub hw _ wp.1 wp.2.1 j) (sub_bz hw _)) (fun d d0 d1 h => ?_) 25
      rw [tb_or, Bool.or_eq_true] at h
      rcases h with h | h
      · have := ih d d0 d1 h
        omega
      · rw [show bz (arB S (opL S (clr S p (S (74 + 6 * p + 1))) (S (74 + 6 * p)) j)) (ncl S) = ar S (opL S (clr S p (S (74 + 6 * p + 1))) (S (74 + 6 * p)) j) from rfl, tb_ar hw, Int.toNat_of_nonneg d0, Bool.and_eq_true, arB_iff] at h
        obtain ⟨_, c, b, h⟩ := h
        have r := Bs_r hw d0 d1 b
        unfold tbz at h
        simp only [Bool.and_eq_true] at h
        have := ih c r.1 r.2 h.2
        have := hD.2.2 c d r.1 r.2 (Bs_sym hw d0 d1 b)
        have := (wt d d0 d1).2.1
        omega
  have high : ∀ (k : Nat) (d x : Int), CW S (wtS S p 1) k (S (74 + 6 * p)) d x → ∀ j : Nat, x ≤ j → tb (opL S (clr S p (S (74 + 6 * p + 1))) (S (74 + 6 * p)) j) d.toNat = true := by
    intro k
    induction k with
    | zero =>
      rintro d x ⟨h, _⟩ j _
      rw [← h]
      exact opL_a hw _ wp.1 wp.2.1 j
    | succ k ih =>
      rintro d x ⟨c, y, hc, b, ex⟩ j hj
      have rc := CW_r hw wp.1 wp.2.1 hc
      have rd := Bs_r hw rc.1 rc.2 b
      have w := wt d rd.1 rd.2
      have bs := Bs_sym hw rc.1 rc.2 b
      have inar : ∀ x, tb x c.toNat = true → tb (ar S x) d.toNat = true := fun x hx => by
        rw [tb_ar hw, Int.toNat_of_nonneg rd.1, Bool.and_eq_true, arB_iff]
        exact ⟨by simpa using rd.2, c, bs, by unfold tbz; simp [rc.1, hx]⟩
      by_cases hz : wtS S p 1 d = 0
      · have h1 := ih c y hc j (by omega)
        rw [← opL_fix hw _ wp.1 wp.2.1 j]
        unfold nx
        rw [tb_or, tb_and, inar _ h1, w.2.2.mpr hz]
        simp
      · have y0 := DS_le hw wp.1 wp.2.1 hD hc
        have y1 := (hD.2.1 c rc.1 rc.2).1
        cases j with
        | zero => omega
        | succ j =>
          have h1 := ih c y hc j (by omega)
          refine nx_itn_mono hw _ 25 (sub_or (opL_sub hw _ wp.1 wp.2.1 j) (sub_bz hw _)) _ ?_
          rw [tb_or, Bool.or_eq_true]
          exact Or.inr (inar _ h1)
  intro j d d0 d1
  constructor
  · exact low j d d0 d1
  · intro h
    have hM := DS_man hw wp.1 wp.2.1 (M := 1) (fun c c0 c1 => by have := wt c c0 c1; omega) hD (man S d (S (74 + 6 * p))).toNat d d0 d1 (by have := man_r hw d0 d1 wp.1 wp.2.1; omega)
    have r := man_r hw d0 d1 wp.1 wp.2.1
    obtain ⟨k, hk⟩ := (hD.2.1 d d0 d1).2.2 (by omega)
    exact high k d _ hk j h
theorem fcS_opL {S : Int → Int} (K a c : Int) : ∀ (n : Nat) (j : Nat), fcS S K c n j (opL S K a j) = ((j : Int) + n) ∧ (∀ i, i < n → tb (opL S K a (j + i)) c.toNat = false) ∨ ∃ i, i < n ∧ fcS S K c n j (opL S K a j) = ((j : Int) + i) ∧ tb (opL S K a (j + i)) c.toNat = true ∧ ∀ i', i' < i → tb (opL S K a (j + i')) c.toNat = false
  | 0, j => Or.inl ⟨by unfold fcS; simp, fun i hi => by omega⟩
  | n + 1, j => by
    unfold fcS
    by_cases ht : tb (opL S K a j) c.toNat = true
    · rw [if_pos ht]
      exact Or.inr ⟨0, by omega, by simp, ht, fun i hi => by omega⟩
    · rw [if_neg ht]
      have ht' : tb (opL S K a j) c.toNat = false := by simpa using ht
      rcases fcS_opL K a c n (j + 1) with ⟨h1, h2⟩ | ⟨i, h1, h2, h3, h4⟩
      · refine Or.inl ⟨?_, fun i hi => ?_⟩
        · rw [show (j : Int) + 1 = ((j + 1 : Nat) : Int) by omega]
          refine Eq.trans h1 (by omega)
        · cases i with
          | zero => exact ht'
          | succ i => rw [show j + (i + 1) = j + 1 + i by omega]; exact h2 i (by omega)
      · refine Or.inr ⟨i + 1, by omega, ?_, by rw [show j + (i + 1) = j + 1 + i by omega]; exact h3, fun i' hi' => ?_⟩
        · rw [show (j : Int) + 1 = ((j + 1 : Nat) : Int) by omega]
          refine Eq.trans h2 (by omega)
        · cases i' with
          | zero => exact ht'
          | succ i' => rw [show j + (i' + 1) = j + 1 + i' by omega]; exact h4 i' (by omega)
theorem fcS_D {S : Int → Int} (hw : WF S) {p c : Int} (p0 : 0 ≤ p) (p1 : p < S 3) (c0 : 0 ≤ c) (c1 : c < ncl S) {D : Int → Int} (hD : DS S (wtS S p 1) (S (74 + 6 * p)) D) :
    fcS S (clr S p (S (74 + 6 * p + 1))) c 25 0 (itn (nx S (clr S p (S (74 + 6 * p + 1)))) 25 (mm_ishl 1 (S (74 + 6 * p)))) = D c := by
  have wp := wf_p hw p0 p1
  have r := man_r hw c0 c1 wp.1 wp.2.1
  have hM := DS_man hw wp.1 wp.2.1 (M := 1) (fun c c0 c1 => by have := wtS_r hw (k := 1) p0 p1 c0 c1; omega) hD (man S c (S (74 + 6 * p))).toNat c c0 c1 (by omega)
  have h0 := (hD.2.1 c c0 c1).1
  have e := fun j => opL_iff hw p0 p1 hD j c c0 c1
  rcases fcS_opL (S := S) (clr S p (S (74 + 6 * p + 1))) (S (74 + 6 * p)) c 25 0 with ⟨_, h2⟩ | ⟨i, h1, h2, h3, h4⟩
  · have g := h2 (D c).toNat (by omega)
    rw [Nat.zero_add, (e _).mpr (by omega)] at g
    cases g
  · refine Eq.trans h2 ?_
    rw [Nat.zero_add] at h3
    have l := (e i).mp h3
    by_cases hi : (D c).toNat < i
    · have g := h4 _ hi
      rw [Nat.zero_add, (e _).mpr (by omega)] at g
      cases g
    · omega
theorem op_opening (Z : mX) (s : mS) (hI : Inv s) (p c : Int) : OpI Z s 167 320 [.inl p, .inl c] := by
  have h := hI.2.2.1.2
  have hw := hI.2.2.1.1
  have n := wf_n hw
  have w := wf0 hw
  by_cases hp : 0 ≤ p ∧ p < s.2 142 3
  · have wp := wf_p hw hp.1 hp.2
    by_cases hc : 0 ≤ c ∧ c < ncl (s.2 142)
    · refine op_rds hI (fcS (s.2 142) (clr (s.2 142) p (s.2 142 (74 + 6 * p + 1))) c 25 0 (itn (nx (s.2 142) (clr (s.2 142) p (s.2 142 (74 + 6 * p + 1)))) 25 (mm_ishl 1 (s.2 142 (74 + 6 * p))))) 0 s (fun f => ?_) (Ag_refl _ _ _) (fun t e => ?_)
      · rw [B_X11_opening]
        simp (disch := first | assumption | omega) only [↓sm, ↓reduceIte, ↓if_pos, ↓if_neg, kI, kJ, kR, kV, w32_eq, w64_eq, reduceCtorEq, Int.reduceAdd, Int.reduceMul, Int.reduceSub, o_c3, ↓o_g3_0, ↓o_g3_1, ↓o_g3_2, ↓o_g3_3, ↓o_g3_4, ↓o_g3_5, ↓o_g3_6, ↓o_g3_7, ↓o_g3_8, ↓o_g3_9, ↓o_g3_10, ↓o_g3_11, ↓o_g3_12, ↓o_g3_13, ↓o_g3_14, ↓o_g3_15, ↓o_g3_16, ↓o_g3_17, ↓a_ln4, ↓a_ld4, ↓a_ln61, ↓a_ld61, ↓a_ln62, ↓a_ld62, o_c7, ↓o_g7_4, ↓o_g7_5, ↓o_g7_7, ↓o_g7_8, ↓o_g7_9, ↓o_g7_11, ↓o_g7_12, ↓o_g7_13, ↓o_g7_14, ↓o_g7_15, ↓o_g7_16, ↓o_g7_17, ↓q_wide h, ↓q_high h, ↓q_odds h, ↓q_year h, ↓q_less h, ↓q_pups h, ↓q_thorns h Z, ↓q_berries h Z, ↓q_hours h hw Z, ↓q_needs h hw Z, ↓q_at h hw Z, ↓q_want h hw Z, ↓q_knows h hw Z, ↓q_caught h hw Z, ↓q_marks h hw Z, ↓q_torn h hw Z, ↓c_cells h hw Z, ↓c_hasCell_t h hw Z, ↓c_hasCell_f h hw Z, ↓c_hasLesson_t h hw Z, ↓c_hasLesson_f h hw Z, ↓c_hasPupil_t h hw Z, ↓c_hasPupil_f h hw Z, ↓c_isCellNumber_t h hw Z, ↓c_isCellNumber_f h hw Z, ↓c_beside h hw Z, ↓c_touch h hw Z, ↓c_catchOf h hw Z, ↓c_clearSet h hw Z, ↓c_isCaught_t h hw Z, ↓c_isCaught_f h hw Z, ↓c_caughtSet h hw Z, ↓c_pupilsAt h hw Z, ↓c_pupilsWhoKnow h hw Z, ↓c_areNear h hw Z, ↓c_canHelp h hw Z, ↓c_helperSet h hw Z, ↓c_nextLesson h hw Z, ↓c_isNearSome h hw Z, ↓c_freedSet h hw Z, ↓d_none Z, ↓d_done Z, ↓d_refused Z, ↓d_granted Z, o_c66, ↓c_fewestCleared h hw Z]
      · obtain ⟨t', k1, k2, k3⟩ := r_laysCost e hw Z p 1 hp.1 hp.2
        have g := fcS_D hw hp.1 hp.2 hc.1 hc.2 k2
        refine ⟨t', fun f => ?_, Ag_mono k3 (fun q hq => by unfold a151 at hq; unfold srA; omega) (fun _ _ h => h.elim)⟩
        rw [g, B_X12_opening]
        simp (disch := first | assumption | omega) only [↓sm, ↓reduceIte, ↓if_pos, ↓if_neg, kI, kJ, kR, kV, w32_eq, w64_eq, reduceCtorEq, Int.reduceAdd, Int.reduceMul, Int.reduceSub, o_c141, ↓o_g141_0, ↓o_g141_1, ↓o_g141_5, ↓o_g141_6, ↓o_g141_7, ↓o_g141_8, ↓o_g141_9, ↓o_g141_21, ↓o_g141_25, ↓o_g141_26, ↓o_g141_27, ↓o_g141_28, ↓o_g141_29, ↓o_g141_30, ↓o_g141_31, ↓o_g141_34, ↓o_g141_35, ↓o_g141_36, ↓r_pupilAt e hw Z, ↓r_at e, ↓r_atw e, ↓r_cellsOf e hw Z, ↓r_isCell_t e hw Z, ↓r_isCell_f e hw Z, ↓r_isLesson_t e hw Z, ↓r_isLesson_f e hw Z, ↓r_isPupil_t e hw Z, ↓r_isPupil_f e hw Z, ↓r_pupilOf e hw Z, ↓r_needsOf e hw Z, ↓r_catchBy e hw Z, ↓r_catchOf e hw Z, ↓r_isCaught_t e hw Z, ↓r_isCaught_f e hw Z, ↓r_allCaught e hw Z, ↓r_whoIs0 e hw Z, ↓r_whoIs1 e hw Z, ↓r_sideOf e hw Z, ↓r_isNear e hw Z, ↓r_nextLesson e hw Z, ↓r_canFree e hw Z, ↓r_nearTo e hw Z, ↓r_isIn Z, ↓r_pupilRow Z, ↓r_lessonRow Z, ↓k_bits Z, ↓d_refuse Z, ↓d_gives Z, ↓d_is0 Z, ↓d_is1 Z, ↓d_isFrom_t Z, ↓d_isFrom_f Z, ↓d_orNone_t Z, ↓d_orNone_f Z, ↓k1, ↓a_ld151]
    · refine op_rd hI (-1) 1 (fun f => ?_) (fun t e f => ?_)
      · rw [B_X11_opening]
        simp (disch := first | assumption | omega) only [↓sm, ↓reduceIte, ↓if_pos, ↓if_neg, kI, kJ, kR, kV, w32_eq, w64_eq, reduceCtorEq, Int.reduceAdd, Int.reduceMul, Int.reduceSub, o_c3, ↓o_g3_0, ↓o_g3_1, ↓o_g3_2, ↓o_g3_3, ↓o_g3_4, ↓o_g3_5, ↓o_g3_6, ↓o_g3_7, ↓o_g3_8, ↓o_g3_9, ↓o_g3_10, ↓o_g3_11, ↓o_g3_12, ↓o_g3_13, ↓o_g3_14, ↓o_g3_15, ↓o_g3_16, ↓o_g3_17, ↓a_ln4, ↓a_ld4, ↓a_ln61, ↓a_ld61, ↓a_ln62, ↓a_ld62, o_c7, ↓o_g7_4, ↓o_g7_5, ↓o_g7_7, ↓o_g7_8, ↓o_g7_9, ↓o_g7_11, ↓o_g7_12, ↓o_g7_13, ↓o_g7_14, ↓o_g7_15, ↓o_g7_16, ↓o_g7_17, ↓q_wide h, ↓q_high h, ↓q_odds h, ↓q_year h, ↓q_less h, ↓q_pups h, ↓q_thorns h Z, ↓q_berries h Z, ↓q_hours h hw Z, ↓q_needs h hw Z, ↓q_at h hw Z, ↓q_want h hw Z, ↓q_knows h hw Z, ↓q_caught h hw Z, ↓q_marks h hw Z, ↓q_torn h hw Z, ↓c_cells h hw Z, ↓c_hasCell_t h hw Z, ↓c_hasCell_f h hw Z, ↓c_hasLesson_t h hw Z, ↓c_hasLesson_f h hw Z, ↓c_hasPupil_t h hw Z, ↓c_hasPupil_f h hw Z, ↓c_isCellNumber_t h hw Z, ↓c_isCellNumber_f h hw Z, ↓c_beside h hw Z, ↓c_touch h hw Z, ↓c_catchOf h hw Z, ↓c_clearSet h hw Z, ↓c_isCaught_t h hw Z, ↓c_isCaught_f h hw Z, ↓c_caughtSet h hw Z, ↓c_pupilsAt h hw Z, ↓c_pupilsWhoKnow h hw Z, ↓c_areNear h hw Z, ↓c_canHelp h hw Z, ↓c_helperSet h hw Z, ↓c_nextLesson h hw Z, ↓c_isNearSome h hw Z, ↓c_freedSet h hw Z, ↓d_none Z, ↓d_done Z, ↓d_refused Z, ↓d_granted Z]
      · rw [B_X12_opening]
        simp (disch := first | assumption | omega) only [↓sm, ↓reduceIte, ↓if_pos, ↓if_neg, kI, kJ, kR, kV, w32_eq, w64_eq, reduceCtorEq, Int.reduceAdd, Int.reduceMul, Int.reduceSub, o_c141, ↓o_g141_0, ↓o_g141_1, ↓o_g141_5, ↓o_g141_6, ↓o_g141_7, ↓o_g141_8, ↓o_g141_9, ↓o_g141_21, ↓o_g141_25, ↓o_g141_26, ↓o_g141_27, ↓o_g141_28, ↓o_g141_29, ↓o_g141_30, ↓o_g141_31, ↓o_g141_34, ↓o_g141_35, ↓o_g141_36, ↓r_pupilAt e hw Z, ↓r_at e, ↓r_atw e, ↓r_cellsOf e hw Z, ↓r_isCell_t e hw Z, ↓r_isCell_f e hw Z, ↓r_isLesson_t e hw Z, ↓r_isLesson_f e hw Z, ↓r_isPupil_t e hw Z, ↓r_isPupil_f e hw Z, ↓r_pupilOf e hw Z, ↓r_needsOf e hw Z, ↓r_catchBy e hw Z, ↓r_catchOf e hw Z, ↓r_isCaught_t e hw Z, ↓r_isCaught_f e hw Z, ↓r_allCaught e hw Z, ↓r_whoIs0 e hw Z, ↓r_whoIs1 e hw Z, ↓r_sideOf e hw Z, ↓r_isNear e hw Z, ↓r_nextLesson e hw Z, ↓r_canFree e hw Z, ↓r_nearTo e hw Z, ↓r_isIn Z, ↓r_pupilRow Z, ↓r_lessonRow Z, ↓k_bits Z, ↓d_refuse Z, ↓d_gives Z, ↓d_is0 Z, ↓d_is1 Z, ↓d_isFrom_t Z, ↓d_isFrom_f Z, ↓d_orNone_t Z, ↓d_orNone_f Z]
  · refine op_rd hI (-1) 1 (fun f => ?_) (fun t e f => ?_)
    · rw [B_X11_opening]
      simp (disch := first | assumption | omega) only [↓sm, ↓reduceIte, ↓if_pos, ↓if_neg, kI, kJ, kR, kV, w32_eq, w64_eq, reduceCtorEq, Int.reduceAdd, Int.reduceMul, Int.reduceSub, o_c3, ↓o_g3_0, ↓o_g3_1, ↓o_g3_2, ↓o_g3_3, ↓o_g3_4, ↓o_g3_5, ↓o_g3_6, ↓o_g3_7, ↓o_g3_8, ↓o_g3_9, ↓o_g3_10, ↓o_g3_11, ↓o_g3_12, ↓o_g3_13, ↓o_g3_14, ↓o_g3_15, ↓o_g3_16, ↓o_g3_17, ↓a_ln4, ↓a_ld4, ↓a_ln61, ↓a_ld61, ↓a_ln62, ↓a_ld62, o_c7, ↓o_g7_4, ↓o_g7_5, ↓o_g7_7, ↓o_g7_8, ↓o_g7_9, ↓o_g7_11, ↓o_g7_12, ↓o_g7_13, ↓o_g7_14, ↓o_g7_15, ↓o_g7_16, ↓o_g7_17, ↓q_wide h, ↓q_high h, ↓q_odds h, ↓q_year h, ↓q_less h, ↓q_pups h, ↓q_thorns h Z, ↓q_berries h Z, ↓q_hours h hw Z, ↓q_needs h hw Z, ↓q_at h hw Z, ↓q_want h hw Z, ↓q_knows h hw Z, ↓q_caught h hw Z, ↓q_marks h hw Z, ↓q_torn h hw Z, ↓c_cells h hw Z, ↓c_hasCell_t h hw Z, ↓c_hasCell_f h hw Z, ↓c_hasLesson_t h hw Z, ↓c_hasLesson_f h hw Z, ↓c_hasPupil_t h hw Z, ↓c_hasPupil_f h hw Z, ↓c_isCellNumber_t h hw Z, ↓c_isCellNumber_f h hw Z, ↓c_beside h hw Z, ↓c_touch h hw Z, ↓c_catchOf h hw Z, ↓c_clearSet h hw Z, ↓c_isCaught_t h hw Z, ↓c_isCaught_f h hw Z, ↓c_caughtSet h hw Z, ↓c_pupilsAt h hw Z, ↓c_pupilsWhoKnow h hw Z, ↓c_areNear h hw Z, ↓c_canHelp h hw Z, ↓c_helperSet h hw Z, ↓c_nextLesson h hw Z, ↓c_isNearSome h hw Z, ↓c_freedSet h hw Z, ↓d_none Z, ↓d_done Z, ↓d_refused Z, ↓d_granted Z]
    · rw [B_X12_opening]
      simp (disch := first | assumption | omega) only [↓sm, ↓reduceIte, ↓if_pos, ↓if_neg, kI, kJ, kR, kV, w32_eq, w64_eq, reduceCtorEq, Int.reduceAdd, Int.reduceMul, Int.reduceSub, o_c141, ↓o_g141_0, ↓o_g141_1, ↓o_g141_5, ↓o_g141_6, ↓o_g141_7, ↓o_g141_8, ↓o_g141_9, ↓o_g141_21, ↓o_g141_25, ↓o_g141_26, ↓o_g141_27, ↓o_g141_28, ↓o_g141_29, ↓o_g141_30, ↓o_g141_31, ↓o_g141_34, ↓o_g141_35, ↓o_g141_36, ↓r_pupilAt e hw Z, ↓r_at e, ↓r_atw e, ↓r_cellsOf e hw Z, ↓r_isCell_t e hw Z, ↓r_isCell_f e hw Z, ↓r_isLesson_t e hw Z, ↓r_isLesson_f e hw Z, ↓r_isPupil_t e hw Z, ↓r_isPupil_f e hw Z, ↓r_pupilOf e hw Z, ↓r_needsOf e hw Z, ↓r_catchBy e hw Z, ↓r_catchOf e hw Z, ↓r_isCaught_t e hw Z, ↓r_isCaught_f e hw Z, ↓r_allCaught e hw Z, ↓r_whoIs0 e hw Z, ↓r_whoIs1 e hw Z, ↓r_sideOf e hw Z, ↓r_isNear e hw Z, ↓r_nextLesson e hw Z, ↓r_canFree e hw Z, ↓r_nearTo e hw Z, ↓r_isIn Z, ↓r_pupilRow Z, ↓r_lessonRow Z, ↓k_bits Z, ↓d_refuse Z, ↓d_gives Z, ↓d_is0 Z, ↓d_is1 Z, ↓d_isFrom_t Z, ↓d_isFrom_f Z, ↓d_orNone_t Z, ↓d_orNone_f Z]
