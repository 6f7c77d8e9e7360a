/-! pricks, opening: the class against the least costs -/
def cwB (S : Int → Int) (w D : Int → Int) (x d : Int) : Bool := tbz x d || ((tbz x (sd S d 0) && decide (D d = D (sd S d 0) + w d)) || ((tbz x (sd S d 1) && decide (D d = D (sd S d 1) + w d)) || ((tbz x (sd S d 2) && decide (D d = D (sd S d 2) + w d)) || (tbz x (sd S d 3) && decide (D d = D (sd S d 3) + w d)))))
theorem cwB_iff {S : Int → Int} {w D : Int → Int} (x d : Int) : cwB S w D x d = true ↔ tbz x d = true ∨ ∃ c, Bs S d c ∧ tbz x c = true ∧ D d = D c + w d := by
  have g : ∀ c, tbz x c = true → c ≠ -1 := fun c h e => by rw [e, tbz_neg] at h; cases h
  unfold cwB
  simp only [Bool.or_eq_true, Bool.and_eq_true, decide_eq_true_eq]
  constructor
  · rintro (h | h | h | h | h)
    · exact Or.inl h
    · exact Or.inr ⟨_, ⟨0, by omega, by omega, rfl, g _ h.1⟩, h.1, h.2⟩
    · exact Or.inr ⟨_, ⟨1, by omega, by omega, rfl, g _ h.1⟩, h.1, h.2⟩
    · exact Or.inr ⟨_, ⟨2, by omega, by omega, rfl, g _ h.1⟩, h.1, h.2⟩
    · exact Or.inr ⟨_, ⟨3, by omega, by omega, rfl, g _ h.1⟩, h.1, h.2⟩
  · rintro (h | ⟨c, ⟨k, k0, k1, e, _⟩, h1, h2⟩)
    · exact Or.inl h
    · have hk : k = 0 ∨ k = 1 ∨ k = 2 ∨ k = 3 := by omega
      rw [← e] at h1 h2
      rcases hk with rfl | rfl | rfl | rfl
      · exact Or.inr (Or.inl ⟨h1, h2⟩)
      · exact Or.inr (Or.inr (Or.inl ⟨h1, h2⟩))
      · exact Or.inr (Or.inr (Or.inr (Or.inl ⟨h1, h2⟩)))
      · exact Or.inr (Or.inr (Or.inr (Or.inr ⟨h1, h2⟩)))
theorem cw_itn {S : Int → Int} (hw : WF S) {w D : Int → Int} {a : Int} (a0 : 0 ≤ a) (a1 : a < ncl S) (h : DS S w a D) : ∀ (k : Nat) (d : Int), 0 ≤ d → d < ncl S → (tbz (itn (fun x => bz (cwB S w D x) (ncl S)) k (mm_ishl 1 a)) d = true ↔ ∃ j, j ≤ k ∧ CW S w j a d (D d)) := by
  have n := wf_n hw
  intro k
  induction k with
  | zero =>
    intro d d0 d1
    show tbz (mm_ishl 1 a) d = true ↔ _
    rw [tbz_bit a0 (by omega), decide_eq_true_eq]
    constructor
    · intro e; exact ⟨0, Nat.le_refl _, e.symm, by rw [e]; exact h.1⟩
    · rintro ⟨j, hj, hW⟩
      have : j = 0 := by omega
      subst this
      exact hW.1.symm
  | succ k ih =>
    intro d d0 d1
    rw [itn_s]
    have e : tbz (bz (cwB S w D (itn (fun x => bz (cwB S w D x) (ncl S)) k (mm_ishl 1 a))) (ncl S)) d = cwB S w D (itn (fun x => bz (cwB S w D x) (ncl S)) k (mm_ishl 1 a)) d := by
      show (decide (0 ≤ d) && tb (bz _ (ncl S)) d.toNat) = _
      rw [tb_bz _ (by omega), Int.toNat_of_nonneg d0]
      simp [d0, d1]
    rw [e, cwB_iff, ih d d0 d1]
    constructor
    · rintro (⟨j, hj, hW⟩ | ⟨c, b, h1, h2⟩)
      · exact ⟨j, by omega, hW⟩
      · have r := Bs_r hw d0 d1 b
        obtain ⟨j, hj, hW⟩ := (ih c r.1 r.2).mp h1
        exact ⟨j + 1, by omega, c, _, hW, Bs_sym hw d0 d1 b, h2⟩
    · rintro ⟨j, hj, hW⟩
      by_cases hj2 : j ≤ k
      · exact Or.inl ⟨j, hj2, hW⟩
      · have : j = k + 1 := by omega
        subst this
        obtain ⟨c, y, h1, h2, h3⟩ := hW
        have r := CW_r hw a0 a1 h1
        have l1 := DS_le hw a0 a1 h h1
        have l2 := h.2.2 c d r.1 r.2 h2
        have ey : y = D c := by omega
        rw [ey] at h1 h3
        exact Or.inr ⟨c, Bs_sym hw r.1 r.2 h2, (ih c r.1 r.2).mpr ⟨k, Nat.le_refl _, h1⟩, h3⟩
theorem CW_24 {S : Int → Int} (hw : WF S) {w D : Int → Int} {a d : Int} (a0 : 0 ≤ a) (a1 : a < ncl S) (h : DS S w a D) {k : Nat} (hW : CW S w k a d (D d)) : ∃ j, j ≤ 24 ∧ CW S w j a d (D d) := by
  have n := wf_n hw
  have r := CW_r hw a0 a1 hW
  have h1 := (cw_itn hw a0 a1 h k d r.1 r.2).mpr ⟨k, Nat.le_refl _, hW⟩
  have hb : tb (mm_ishl 1 a) a.toNat = true := by rw [tb_shl1 a0 (by omega)]; simp
  have h2 : tb (itn (fun x => bz (cwB S w D x) (ncl S)) k (mm_ishl 1 a)) d.toNat = true := by
    unfold tbz at h1
    simp at h1
    exact h1.2
  have h3 := grow_le (n := (ncl S).toNat) (I := sub S) (g := fun x => bz (cwB S w D x) (ncl S)) (fun x hx => sub_bz hw _) (fun x i hx hi => by
      show tb (bz (cwB S w D x) (ncl S)) i = true
      rw [tb_bz _ (by omega)]
      have := hx.2 i hi
      have hz : tbz x i = true := by unfold tbz; simp [hi]
      have := (cwB_iff (S := S) (w := w) (D := D) x i).mpr (Or.inl hz)
      rw [this]
      simp
      omega) (sub_lt hw) (sub_bit hw a0 a1) hb 24 (by omega) k d.toNat h2
  exact (cw_itn hw a0 a1 h 24 d r.1 r.2).mp (by unfold tbz; simp [r.1, h3])
/-! the class's rounds -/
def a67 (q : Nat) : Prop := q = 67
theorem a67_ : a67 67 := rfl
theorem CS_67 {s t : mS} {S N : Int → Int} (h : CS s 7 S N) (g : Ag a67 noF s t) : CS t 7 S N :=
  CS_fr h (fun k => g.2 7 k (fun x => x)) (fun j j0 j1 => g.1 _ (by unfold a67; omega))
def lwF (S G : Int → Int) (c : Int) : Nat → Int → Int → Int
  | 0, _, b => b
  | n + 1, i, b => lwF S G c n (i + 1) (if sd S c i = -1 then b else if G (sd S c i) < b then G (sd S c i) else b)
theorem lwF_spec (S G : Int → Int) (c : Int) : ∀ (n : Nat) (i b : Int), lwF S G c n i b ≤ b ∧ (lwF S G c n i b = b ∨ ∃ j, i ≤ j ∧ j < i + n ∧ sd S c j ≠ -1 ∧ lwF S G c n i b = G (sd S c j)) ∧ ∀ j, i ≤ j → j < i + n → sd S c j ≠ -1 → lwF S G c n i b ≤ G (sd S c j)
  | 0, _, _ => ⟨Int.le_refl _, Or.inl rfl, fun j h1 h2 => by omega⟩
  | m + 1, i, b => by
    unfold lwF
    by_cases hc : sd S c i = -1
    · rw [if_pos hc]
      obtain ⟨g1, g2, g3⟩ := lwF_spec S G c m (i + 1) b
      refine ⟨g1, ?_, fun j j0 j1 hj => ?_⟩
      · rcases g2 with h | ⟨j, j0, j1, j2, j3⟩
        · exact Or.inl h
        · exact Or.inr ⟨j, by omega, by omega, j2, j3⟩
      · by_cases e : j = i
        · subst e; exact absurd hc hj
        · exact g3 j (by omega) (by omega) hj
    · rw [if_neg hc]
      obtain ⟨g1, g2, g3⟩ := lwF_spec S G c m (i + 1) (if G (sd S c i) < b then G (sd S c i) else b)
      have hb : (if G (sd S c i) < b then G (sd S c i) else b) ≤ b ∧ (if G (sd S c i) < b then G (sd S c i) else b) ≤ G (sd S c i) := by split <;> omega
      refine ⟨by omega, ?_, fun j j0 j1 hj => ?_⟩
      · rcases g2 with h | ⟨j, j0, j1, j2, j3⟩
        · by_cases hs : G (sd S c i) < b
          · rw [if_pos hs] at h ⊢
            exact Or.inr ⟨i, by omega, by omega, hc, h⟩
          · rw [if_neg hs] at h ⊢
            exact Or.inl h
        · exact Or.inr ⟨j, by omega, by omega, j2, j3⟩
      · by_cases e : j = i
        · subst e; omega
        · exact g3 j (by omega) (by omega) hj
theorem lp_lowers {s : mS} {S N : Int → Int} (h : CS s 7 S N) (hw : WF S) (Z : mX) (p c : Int) (p0 : 0 ≤ p) (p1 : p < S 3) (c0 : 0 ≤ c) (c1 : c < ncl S) (hG : ∀ c, 0 ≤ c → c < ncl S → 0 ≤ s.2 67 c ∧ s.2 67 c ≤ 1000000) (R : mO)
    (hR : ∀ b, 0 ≤ b → b ≤ 1000000 → mm_at (zP Z) 126 4 [some (.inr (.inr (some 66))), some (.inl p), some (.inl c), some (.inl b), some (.inl 4), none] [] (mk s) = if b + ct S p c (S (74 + 6 * p + 1)) < s.2 67 c then some (some (.inl 1), mk (uA s 67 c (b + ct S p c (S (74 + 6 * p + 1))))) else some (some (.inl 0), mk s)) :
    ∀ i : Int, i ≤ 4 → ∀ b : Int, 0 ≤ i → 0 ≤ b → b ≤ 1000000 → mm_at (zP Z) 126 4 [some (.inr (.inr (some 66))), some (.inl p), some (.inl c), some (.inl b), some (.inl i), none] [] (mk s) = if lwF S (s.2 67) c (4 - i).toNat i b + ct S p c (S (74 + 6 * p + 1)) < s.2 67 c then some (some (.inl 1), mk (uA s 67 c (lwF S (s.2 67) c (4 - i).toNat i b + ct S p c (S (74 + 6 * p + 1))))) else some (some (.inl 0), mk s) := by
  have n := wf_n hw
  refine up ?_ ?_
  · intro b _ b0 b1
    rw [show ((4 : Int) - 4).toNat = 0 by decide]
    exact hR b b0 b1
  · intro i hi ih b i0 b0 b1
    rw [B_X9_lowers_4, show (4 - i).toNat = (4 - (i + 1)).toNat + 1 by omega]
    unfold lwF
    by_cases hs : sd S c i = -1
    · rw [if_pos hs]
      simp (disch := first | assumption | omega) only [↓sm, ↓reduceIte, ↓if_pos, ↓if_neg, kI, kJ, kR, kV, w32_eq, w64_eq, reduceCtorEq, Int.reduceAdd, Int.reduceMul, Int.reduceSub, o_c66, ↓o_g66_0, ↓o_g66_1, o_c7, ↓c_beside h hw Z, hs]
      exact ih b (by omega) b0 b1
    · rw [if_neg hs]
      have r := sd_r hw c0 c1 i0 (by omega) hs
      have g := hG _ r.1 r.2
      simp (disch := first | assumption | omega) only [↓sm, ↓reduceIte, ↓if_pos, ↓if_neg, kI, kJ, kR, kV, w32_eq, w64_eq, reduceCtorEq, Int.reduceAdd, Int.reduceMul, Int.reduceSub, o_c66, ↓o_g66_0, ↓o_g66_1, o_c7, ↓c_beside h hw Z, hs, ↓g_67]
      exact ih _ (by omega) (by split <;> omega) (by split <;> omega)
theorem c_lowers {s : mS} {S N : Int → Int} (h : CS s 7 S N) (hw : WF S) (Z : mX) (p c : Int) (p0 : 0 ≤ p) (p1 : p < S 3) (c0 : 0 ≤ c) (c1 : c < ncl S) (hG : ∀ c, 0 ≤ c → c < ncl S → 0 ≤ s.2 67 c ∧ s.2 67 c ≤ 1000000) :
    mm_run (zP Z) 126 [.inr (.inr (some 66)), .inl p, .inl c] (mk s) = if lwF S (s.2 67) c 4 0 1000000 + ct S p c (S (74 + 6 * p + 1)) < s.2 67 c then some (some (.inl 1), mk (uA s 67 c (lwF S (s.2 67) c 4 0 1000000 + ct S p c (S (74 + 6 * p + 1))))) else some (some (.inl 0), mk s) := by
  have n := wf_n hw
  have wp := wf_p hw p0 p1
  have r := ct_r hw p0 p1 c0 (show c < 25 by omega) wp.2.2.1 wp.2.2.2.1
  have g := hG c c0 c1
  rw [B_X9_lowers]
  refine lp_lowers h hw Z p c p0 p1 c0 c1 hG none (fun b b0 b1 => ?_) 0 (by omega) 1000000 (by omega) (by omega) (by omega)
  rw [B_X9_lowers_4]
  by_cases hl : b + ct S p c (S (74 + 6 * p + 1)) < s.2 67 c
  · rw [if_pos hl]
    simp (disch := first | assumption | omega) only [↓sm, ↓reduceIte, ↓if_pos, ↓if_neg, kI, kJ, kR, kV, w32_eq, w64_eq, reduceCtorEq, Int.reduceAdd, Int.reduceMul, Int.reduceSub, o_c66, ↓o_g66_0, ↓o_g66_1, o_c7, ↓o_g7_4, ↓o_g7_5, ↓o_g7_7, ↓o_g7_8, ↓o_g7_9, ↓o_g7_11, ↓o_g7_12, ↓o_g7_13, ↓o_g7_14, ↓o_g7_15, ↓o_g7_16, ↓o_g7_17, ↓q_wide h, ↓q_high h, ↓q_odds h, ↓q_year h, ↓q_less h, ↓q_pups h, ↓q_thorns h Z, ↓q_berries h Z, ↓q_hours h hw Z, ↓q_needs h hw Z, ↓q_at h hw Z, ↓q_want h hw Z, ↓q_knows h hw Z, ↓q_caught h hw Z, ↓q_marks h hw Z, ↓q_torn h hw Z, ↓c_cells h hw Z, ↓c_hasCell_t h hw Z, ↓c_hasCell_f h hw Z, ↓c_hasLesson_t h hw Z, ↓c_hasLesson_f h hw Z, ↓c_hasPupil_t h hw Z, ↓c_hasPupil_f h hw Z, ↓c_isCellNumber_t h hw Z, ↓c_isCellNumber_f h hw Z, ↓c_beside h hw Z, ↓c_touch h hw Z, ↓c_catchOf h hw Z, ↓c_clearSet h hw Z, ↓c_isCaught_t h hw Z, ↓c_isCaught_f h hw Z, ↓c_caughtSet h hw Z, ↓c_pupilsAt h hw Z, ↓c_pupilsWhoKnow h hw Z, ↓c_areNear h hw Z, ↓c_canHelp h hw Z, ↓c_helperSet h hw Z, ↓c_nextLesson h hw Z, ↓c_isNearSome h hw Z, ↓c_freedSet h hw Z, ↓g_67, ↓p_67]
  · rw [if_neg hl]
    simp (disch := first | assumption | omega) only [↓sm, ↓reduceIte, ↓if_pos, ↓if_neg, kI, kJ, kR, kV, w32_eq, w64_eq, reduceCtorEq, Int.reduceAdd, Int.reduceMul, Int.reduceSub, o_c66, ↓o_g66_0, ↓o_g66_1, o_c7, ↓o_g7_4, ↓o_g7_5, ↓o_g7_7, ↓o_g7_8, ↓o_g7_9, ↓o_g7_11, ↓o_g7_12, ↓o_g7_13, ↓o_g7_14, ↓o_g7_15, ↓o_g7_16, ↓o_g7_17, ↓q_wide h, ↓q_high h, ↓q_odds h, ↓q_year h, ↓q_less h, ↓q_pups h, ↓q_thorns h Z, ↓q_berries h Z, ↓q_hours h hw Z, ↓q_needs h hw Z, ↓q_at h hw Z, ↓q_want h hw Z, ↓q_knows h hw Z, ↓q_caught h hw Z, ↓q_marks h hw Z, ↓q_torn h hw Z, ↓c_cells h hw Z, ↓c_hasCell_t h hw Z, ↓c_hasCell_f h hw Z, ↓c_hasLesson_t h hw Z, ↓c_hasLesson_f h hw Z, ↓c_hasPupil_t h hw Z, ↓c_hasPupil_f h hw Z, ↓c_isCellNumber_t h hw Z, ↓c_isCellNumber_f h hw Z, ↓c_beside h hw Z, ↓c_touch h hw Z, ↓c_catchOf h hw Z, ↓c_clearSet h hw Z, ↓c_isCaught_t h hw Z, ↓c_isCaught_f h hw Z, ↓c_caughtSet h hw Z, ↓c_pupilsAt h hw Z, ↓c_pupilsWhoKnow h hw Z, ↓c_areNear h hw Z, ↓c_canHelp h hw Z, ↓c_helperSet h hw Z, ↓c_nextLesson h hw Z, ↓c_isNearSome h hw Z, ↓c_freedSet h hw Z, ↓g_67, ↓p_67]
/-- bounds that every round keeps -/
def LB (S D : Int → Int) (q : Int) (G : Int → Int) : Prop := ∀ c, 0 ≤ c → c < ncl S → q + D c ≤ G c ∧ G c ≤ 1000000
theorem lp_round {S N : Int → Int} (hw : WF S) (Z : mX) (p q cell rd : Int) (D G0 : Int → Int) (p0 : 0 ≤ p) (p1 : p < S 3) (q0 : 0 ≤ q) (q1 : q ≤ 18) (hD : DS S (wtS S p 0) (S (74 + 6 * p)) D) (hDm : ∀ c, 0 ≤ c → c < ncl S → D c ≤ 1000) :
    ∀ i : Int, i ≤ ncl S → ∀ (s : mS) (fl : Int), 0 ≤ i → CS s 7 S N → LB S D q (s.2 67) → (∀ c, 0 ≤ c → c < ncl S → s.2 67 c ≤ G0 c) → (∀ c d, 0 ≤ c → c < i → Bs S c d → s.2 67 c ≤ G0 d + wtS S p 0 c) → (fl = 1 ∨ fl = 0 ∧ ∀ c, 0 ≤ c → c < ncl S → s.2 67 c = G0 c) →
      ∃ s' fl', mm_at (zP Z) 125 35 [some (.inr (.inr (some 66))), some (.inl p), some (.inl cell), some (.inl fl), some (.inl rd), some (.inl i)] [] (mk s) = mm_at (zP Z) 125 26 [some (.inr (.inr (some 66))), some (.inl p), some (.inl cell), some (.inl fl'), some (.inl ((mm_w32 (rd + 1)))), none] [] (mk s') ∧ CS s' 7 S N ∧ LB S D q (s'.2 67) ∧ (∀ c, 0 ≤ c → c < ncl S → s'.2 67 c ≤ G0 c) ∧ (∀ c d, 0 ≤ c → c < ncl S → Bs S c d → s'.2 67 c ≤ G0 d + wtS S p 0 c) ∧ (fl' = 1 ∨ fl' = 0 ∧ ∀ c, 0 ≤ c → c < ncl S → s'.2 67 c = G0 c) ∧ Ag a67 noF s s' := by
  have n := wf_n hw
  have wp := wf_p hw p0 p1
  refine up ?_ ?_
  · intro s fl i0 h hL hM hR hF
    refine ⟨s, fl, ?_, h, hL, hM, hR, hF, Ag_refl _ _ _⟩
    rw [B_X9_fewestThorns_35]
    simp (disch := first | assumption | omega) only [↓sm, ↓reduceIte, ↓if_pos, ↓if_neg, kI, kJ, kR, kV, w32_eq, w64_eq, reduceCtorEq, Int.reduceAdd, Int.reduceMul, Int.reduceSub, o_c66, ↓o_g66_0, ↓o_g66_1, o_c7, ↓c_cells h hw Z]
  · intro i hi ih s fl i0 h hL hM hR hF
    have hG : ∀ c, 0 ≤ c → c < ncl S → 0 ≤ s.2 67 c ∧ s.2 67 c ≤ 1000000 := fun c c0 c1 => by
      have := hL c c0 c1
      have := (hD.2.1 c c0 c1).1
      omega
    have cl := c_lowers h hw Z p i p0 p1 i0 hi hG
    have ew : ct S p i (S (74 + 6 * p + 1)) = wtS S p 0 i := by unfold wtS; rw [if_pos rfl]
    rw [ew] at cl
    have rw1 := wtS_r hw (k := 0) p0 p1 i0 hi
    obtain ⟨l1, l2, l3⟩ := lwF_spec S (s.2 67) i 4 0 1000000
    rw [B_X9_fewestThorns_35]
    by_cases hl : lwF S (s.2 67) i 4 0 1000000 + wtS S p 0 i < s.2 67 i
    · rw [if_pos hl] at cl
      have e' := uA_s s 67 i (lwF S (s.2 67) i 4 0 1000000 + wtS S p 0 i)
      have hi2 := hL i i0 hi
      have hnb : ∃ j, 0 ≤ j ∧ j < 0 + ((4 : Nat) : Int) ∧ sd S i j ≠ -1 ∧ lwF S (s.2 67) i 4 0 1000000 = s.2 67 (sd S i j) := by
        rcases l2 with e | h
        · omega
        · exact h
      obtain ⟨j, j0, j1, j2, j3⟩ := hnb
      have rj := sd_r hw i0 hi j0 (by omega) j2
      have lj := hL _ rj.1 rj.2
      have dj := hD.2.2 (sd S i j) i rj.1 rj.2 (Bs_sym hw i0 hi ⟨j, j0, by omega, rfl, j2⟩)
      have ag : Ag a67 noF s (uA s 67 i (lwF S (s.2 67) i 4 0 1000000 + wtS S p 0 i)) := Ag_uA (Ag_refl _ _ _) a67_ _ _
      obtain ⟨s', fl', g1, g2⟩ := ih (uA s 67 i (lwF S (s.2 67) i 4 0 1000000 + wtS S p 0 i)) 1 (by omega) (CS_67 h ag) (fun c c0 c1 => by
          rw [e']
          by_cases ec : c = i
          · rw [up_eq ec, ec]; omega
          · rw [up_ne ec]; exact hL c c0 c1) (fun c c0 c1 => by
          rw [e']
          have := hM c c0 c1
          by_cases ec : c = i
          · rw [ec] at this; rw [up_eq ec, ec]; omega
          · rw [up_ne ec]; exact this) (fun c d c0 c1 b => by
          rw [e']
          by_cases ec : c = i
          · rw [up_eq ec]
            obtain ⟨k, k0, k1, ek, hk⟩ := b
            rw [ec] at ek ⊢
            have := l3 k k0 (by omega) (by rw [ek]; exact hk)
            rw [ek] at this
            have rd := sd_r hw i0 hi k0 k1 (by rw [ek]; exact hk)
            rw [ek] at rd
            have := hM d rd.1 rd.2
            omega
          · rw [up_ne ec]; exact hR c d c0 (by omega) b) (Or.inl rfl)
      refine ⟨s', fl', ?_, g2.1, g2.2.1, g2.2.2.1, g2.2.2.2.1, g2.2.2.2.2.1, Ag_trans ag g2.2.2.2.2.2⟩
      simp (disch := first | assumption | omega) only [↓sm, ↓reduceIte, ↓if_pos, ↓if_neg, kI, kJ, kR, kV, w32_eq, w64_eq, reduceCtorEq, Int.reduceAdd, Int.reduceMul, Int.reduceSub, o_c66, ↓o_g66_0, ↓o_g66_1, o_c7, ↓c_cells h hw Z, cl, g1]
    · rw [if_neg hl] at cl
      obtain ⟨s', fl', g1, g2⟩ := ih s fl (by omega) h hL hM (fun c d c0 c1 b => by
          by_cases ec : c = i
          · obtain ⟨k, k0, k1, ek, hk⟩ := b
            rw [ec] at ek ⊢
            have := l3 k k0 (by omega) (by rw [ek]; exact hk)
            rw [ek] at this
            have rd := sd_r hw i0 hi k0 k1 (by rw [ek]; exact hk)
            rw [ek] at rd
            have := hM d rd.1 rd.2
            omega
          · exact hR c d c0 (by omega) b) hF
      refine ⟨s', fl', ?_, g2⟩
      simp (disch := first | assumption | omega) only [↓sm, ↓reduceIte, ↓if_pos, ↓if_neg, kI, kJ, kR, kV, w32_eq, w64_eq, reduceCtorEq, Int.reduceAdd, Int.reduceMul, Int.reduceSub, o_c66, ↓o_g66_0, ↓o_g66_1, o_c7, ↓c_cells h hw Z, cl, g1]
theorem lp_rounds {S N : Int → Int} (hw : WF S) (Z : mX) (p q cell : Int) (D : Int → Int) (p0 : 0 ≤ p) (p1 : p < S 3) (q0 : 0 ≤ q) (q1 : q ≤ 18) (l0 : 0 ≤ cell) (l1 : cell < ncl S) (hD : DS S (wtS S p 0) (S (74 + 6 * p)) D) (hDm : ∀ c, 0 ≤ c → c < ncl S → D c ≤ 1000) :
    ∀ rd : Int, rd ≤ 25 → ∀ (s : mS) (fl : Int), 0 ≤ rd → CS s 7 S N → LB S D q (s.2 67) → (∀ (k : Nat) c x, (k : Int) ≤ rd → CW S (wtS S p 0) k (S (74 + 6 * p)) c x → s.2 67 c ≤ q + x) → (fl = 1 ∨ fl = 0 ∧ ∀ c d, 0 ≤ c → c < ncl S → Bs S c d → s.2 67 c ≤ s.2 67 d + wtS S p 0 c) →
      ∃ s', mm_at (zP Z) 125 26 [some (.inr (.inr (some 66))), some (.inl p), some (.inl cell), some (.inl fl), some (.inl rd), none] [] (mk s) = some (some (.inl (q + D cell)), mk s') ∧ Ag a67 noF s s' := by
  have n := wf_n hw
  have wp := wf_p hw p0 p1
  have hDc := hDm cell l0 l1
  obtain ⟨kk, hkk⟩ := (hD.2.1 cell l0 l1).2.2 (by omega)
  obtain ⟨k24, hk24, hW24⟩ := CW_24 hw wp.1 wp.2.1 hD hkk
  refine up ?_ ?_
  · intro s fl _ h hL hQ hF
    have e : s.2 67 cell = q + D cell := by
      have := hQ k24 cell _ (by omega) hW24
      have := hL cell l0 l1
      omega
    refine ⟨s, ?_, Ag_refl _ _ _⟩
    rw [B_X9_fewestThorns_26]
    simp (disch := first | assumption | omega) only [↓sm, ↓reduceIte, ↓if_pos, ↓if_neg, kI, kJ, kR, kV, w32_eq, w64_eq, reduceCtorEq, Int.reduceAdd, Int.reduceMul, Int.reduceSub, o_c66, ↓o_g66_0, ↓o_g66_1, ↓g_67, e]
  · intro rd hrd ih s fl r0 h hL hQ hF
    rcases hF with rfl | ⟨rfl, hst⟩
    · obtain ⟨s1, fl', g1, g2, g3, g4, g5, g6, g7⟩ := lp_round hw Z p q cell rd D (s.2 67) p0 p1 q0 q1 hD hDm 0 (by omega) s 0 (by omega) h hL (fun c _ _ => Int.le_refl _) (fun c d c0 c1 => by omega) (Or.inr ⟨rfl, fun c _ _ => rfl⟩)
      obtain ⟨s', k1, k2⟩ := ih s1 fl' (by omega) g2 g3 (fun k c x hk hW => by
          cases k with
          | zero =>
            have r := CW_r hw wp.1 wp.2.1 hW
            have := hQ 0 c x (by omega) hW
            have := g4 c r.1 r.2
            omega
          | succ k =>
            have r := CW_r hw wp.1 wp.2.1 hW
            obtain ⟨d, y, hd, b, ex⟩ := hW
            have rd2 := CW_r hw wp.1 wp.2.1 hd
            have := hQ k d y (by omega) hd
            have := g5 c d r.1 r.2 (Bs_sym hw rd2.1 rd2.2 b)
            omega) (by
          rcases g6 with h1 | ⟨h1, h2⟩
          · exact Or.inl h1
          · refine Or.inr ⟨h1, fun c d c0 c1 b => ?_⟩
            have r := Bs_r hw c0 c1 b
            have := g5 c d c0 c1 b
            rw [h2 d r.1 r.2]
            exact this)
      refine ⟨s', ?_, Ag_trans g7 k2⟩
      rw [w32_eq (by omega) (by omega)] at g1
      rw [B_X9_fewestThorns_26]
      simp (disch := first | assumption | omega) only [↓sm, ↓reduceIte, ↓if_pos, ↓if_neg, kI, kJ, kR, kV, w32_eq, w64_eq, reduceCtorEq, Int.reduceAdd, Int.reduceMul, Int.reduceSub, g1, k1]
    · have key : ∀ (k : Nat) c x, CW S (wtS S p 0) k (S (74 + 6 * p)) c x → s.2 67 c ≤ q + x := by
        intro k
        induction k with
        | zero =>
          intro c x hW
          exact hQ 0 c x (by omega) hW
        | succ k ihk =>
          intro c x hW
          have r := CW_r hw wp.1 wp.2.1 hW
          obtain ⟨d, y, hd, b, ex⟩ := hW
          have rd2 := CW_r hw wp.1 wp.2.1 hd
          have := ihk d y hd
          have := hst c d r.1 r.2 (Bs_sym hw rd2.1 rd2.2 b)
          omega
      have e : s.2 67 cell = q + D cell := by
        have := key kk cell _ hkk
        have := hL cell l0 l1
        omega
      refine ⟨s, ?_, Ag_refl _ _ _⟩
      rw [B_X9_fewestThorns_26]
      simp (disch := first | assumption | omega) only [↓sm, ↓reduceIte, ↓if_pos, ↓if_neg, kI, kJ, kR, kV, w32_eq, w64_eq, reduceCtorEq, Int.reduceAdd, Int.reduceMul, Int.reduceSub, o_c66, ↓o_g66_0, ↓o_g66_1, ↓g_67, e]
theorem c_fewestThorns {s : mS} {S N : Int → Int} (h : CS s 7 S N) (hw : WF S) (Z : mX) (p cell : Int) (D : Int → Int) (p0 : 0 ≤ p) (p1 : p < S 3) (l0 : 0 ≤ cell) (l1 : cell < ncl S) (hD : DS S (wtS S p 0) (S (74 + 6 * p)) D) :
    ∃ s', (∀ f : Int → mW → mO, mm_kI (mm_run (zP Z) 125 [.inr (.inr (some 66)), .inl p, .inl cell] (mk s)) f = f (if cell = S (74 + 6 * p) then 0 else S (74 + 6 * p + 3) + D cell) (mk s')) ∧ Ag a67 noF s s' := by
  have n := wf_n hw
  have wp := wf_p hw p0 p1
  have hDm : ∀ c, 0 ≤ c → c < ncl S → D c ≤ 1000 := fun c c0 c1 => by
    have r := man_r hw c0 c1 wp.1 wp.2.1
    have := DS_man hw wp.1 wp.2.1 (M := 18) (fun c c0 c1 => by have := wtS_r hw (k := 0) p0 p1 c0 c1; omega) hD (man S c (S (74 + 6 * p))).toNat c c0 c1 (by omega)
    omega
  by_cases hc : cell = S (74 + 6 * p)
  · refine ⟨s, fun f => ?_, Ag_refl _ _ _⟩
    rw [if_pos hc, B_X9_fewestThorns]
    simp (disch := first | assumption | omega) only [↓sm, ↓reduceIte, ↓if_pos, ↓if_neg, kI, kJ, kR, kV, w32_eq, w64_eq, reduceCtorEq, Int.reduceAdd, Int.reduceMul, Int.reduceSub, o_c66, ↓o_g66_0, ↓o_g66_1, ↓c_ownCell h hw Z]
  · have ag : Ag a67 noF s (uA (fA s 67 25 1000000) 67 (S (74 + 6 * p)) (S (74 + 6 * p + 3))) := Ag_uA (Ag_fA (Ag_refl _ _ _) a67_ _ _) a67_ _ _
    have agf : Ag a67 noF s (fA s 67 25 1000000) := Ag_fA (Ag_refl _ _ _) a67_ _ _
    have hf := CS_67 h agf
    have e' : ∀ c, 0 ≤ c → c < ncl S → (uA (fA s 67 25 1000000) 67 (S (74 + 6 * p)) (S (74 + 6 * p + 3))).2 67 c = if c = S (74 + 6 * p) then S (74 + 6 * p + 3) else 1000000 := by
      intro c c0 c1
      rw [uA_s]
      by_cases ec : c = S (74 + 6 * p)
      · rw [up_eq ec, if_pos ec]
      · rw [up_ne ec, if_neg ec]
        show (if 67 = 67 ∧ 0 ≤ c ∧ c < 25 then 1000000 else s.2 67 c) = 1000000
        rw [if_pos ⟨rfl, c0, by omega⟩]
    obtain ⟨s', g1, g2⟩ := lp_rounds hw Z p (S (74 + 6 * p + 3)) cell D p0 p1 (by omega) (by omega) l0 l1 hD hDm 0 (by omega) (uA (fA s 67 25 1000000) 67 (S (74 + 6 * p)) (S (74 + 6 * p + 3))) 1 (by omega) (CS_67 h ag) (fun c c0 c1 => by
        rw [e' c c0 c1]
        have := hDm c c0 c1
        split
        · rename_i ec
          rw [ec, hD.1]
          omega
        · omega) (fun k c x hk hW => by
        have : k = 0 := by omega
        subst this
        have e1 := hW.1
        have e2 := hW.2
        rw [← e1, e' _ wp.1 wp.2.1, if_pos rfl]
        omega) (Or.inl rfl)
    refine ⟨s', fun f => ?_, Ag_trans ag g2⟩
    rw [if_neg hc, B_X9_fewestThorns]
    simp (disch := first | assumption | omega) only [↓sm, ↓reduceIte, ↓if_pos, ↓if_neg, kI, kJ, kR, kV, w32_eq, w64_eq, reduceCtorEq, Int.reduceAdd, Int.reduceMul, Int.reduceSub, o_c66, ↓o_g66_0, ↓o_g66_1, ↓c_ownCell h hw Z, ↓c_ownCell hf hw Z, o_g7_14, ↓o_g7_14, ↓q_caught hf hw Z, ↓k_fill Z s (q := 67) (n := 25) rfl, ↓p_67]
    rw [show ((25 : Nat) : Int) = 25 from rfl]
    simp (disch := first | assumption | omega) only [↓sm, ↓reduceIte, ↓if_pos, ↓if_neg, kI, kJ, kR, kV, w32_eq, w64_eq, reduceCtorEq, Int.reduceAdd, Int.reduceMul, Int.reduceSub, o_c66, ↓o_g66_0, ↓o_g66_1, ↓c_ownCell h hw Z, ↓c_ownCell hf hw Z, ↓o_g7_14, ↓q_caught hf hw Z, ↓p_67, g1]
theorem op_pricks (Z : mX) (s : mS) (hI : Inv s) (p c : Int) : OpI Z s 166 319 [.inl p, .inl c] := by
  have h := hI.2.2.1.2
  have hw := hI.2.2.1.1
  have n := wf_n hw
  have w := wf0 hw
  by_cases hp : 0 ≤ p ∧ p < s.2 142 3
  · have wp := wf_p hw hp.1 hp.2
    by_cases hc : 0 ≤ c ∧ c < ncl (s.2 142)
    · obtain ⟨r1, r2, r3, r4⟩ := r_laysCost (s := s) rfl hw Z p 0 hp.1 hp.2
      obtain ⟨s', g1, g2⟩ := c_fewestThorns h hw Z p c (r1.2 151) hp.1 hp.2 hc.1 hc.2 r3
      have hDc : ∀ D, DS (s.2 142) (wtS (s.2 142) p 0) (s.2 142 (74 + 6 * p)) D → 0 ≤ D c ∧ D c ≤ 1000000 := fun D hD => ⟨(hD.2.1 c hc.1 hc.2).1, (hD.2.1 c hc.1 hc.2).2.1⟩
      refine op_rds hI (if c = s.2 142 (74 + 6 * p) then 0 else s.2 142 (74 + 6 * p + 3) + r1.2 151 c) 0 s' (fun f => ?_) (Ag_mono g2 (fun q hq => by unfold a67 at hq; unfold scA; omega) (fun _ _ h => h.elim)) (fun t e => ?_)
      · rw [B_X11_pricks]
        simp (disch := first | assumption | omega) only [↓sm, ↓reduceIte, ↓if_pos, ↓if_neg, kI, kJ, kR, kV, w32_eq, w64_eq, reduceCtorEq, Int.reduceAdd, Int.reduceMul, Int.reduceSub, o_c3, ↓o_g3_0, ↓o_g3_1, ↓o_g3_2, ↓o_g3_3, ↓o_g3_4, ↓o_g3_5, ↓o_g3_6, ↓o_g3_7, ↓o_g3_8, ↓o_g3_9, ↓o_g3_10, ↓o_g3_11, ↓o_g3_12, ↓o_g3_13, ↓o_g3_14, ↓o_g3_15, ↓o_g3_16, ↓o_g3_17, ↓a_ln4, ↓a_ld4, ↓a_ln61, ↓a_ld61, ↓a_ln62, ↓a_ld62, o_c7, ↓o_g7_4, ↓o_g7_5, ↓o_g7_7, ↓o_g7_8, ↓o_g7_9, ↓o_g7_11, ↓o_g7_12, ↓o_g7_13, ↓o_g7_14, ↓o_g7_15, ↓o_g7_16, ↓o_g7_17, ↓q_wide h, ↓q_high h, ↓q_odds h, ↓q_year h, ↓q_less h, ↓q_pups h, ↓q_thorns h Z, ↓q_berries h Z, ↓q_hours h hw Z, ↓q_needs h hw Z, ↓q_at h hw Z, ↓q_want h hw Z, ↓q_knows h hw Z, ↓q_caught h hw Z, ↓q_marks h hw Z, ↓q_torn h hw Z, ↓c_cells h hw Z, ↓c_hasCell_t h hw Z, ↓c_hasCell_f h hw Z, ↓c_hasLesson_t h hw Z, ↓c_hasLesson_f h hw Z, ↓c_hasPupil_t h hw Z, ↓c_hasPupil_f h hw Z, ↓c_isCellNumber_t h hw Z, ↓c_isCellNumber_f h hw Z, ↓c_beside h hw Z, ↓c_touch h hw Z, ↓c_catchOf h hw Z, ↓c_clearSet h hw Z, ↓c_isCaught_t h hw Z, ↓c_isCaught_f h hw Z, ↓c_caughtSet h hw Z, ↓c_pupilsAt h hw Z, ↓c_pupilsWhoKnow h hw Z, ↓c_areNear h hw Z, ↓c_canHelp h hw Z, ↓c_helperSet h hw Z, ↓c_nextLesson h hw Z, ↓c_isNearSome h hw Z, ↓c_freedSet h hw Z, ↓d_none Z, ↓d_done Z, ↓d_refused Z, ↓d_granted Z, o_c66, ↓g1]
      · obtain ⟨t', k1, k2, k3⟩ := r_laysCost e hw Z p 0 hp.1 hp.2
        have e' : t'.2 142 = s.2 142 := (k3.1 142 (by unfold a151; omega)).trans e
        -- two least costs agree
        have same : t'.2 151 c = r1.2 151 c := by
          obtain ⟨a1, a2⟩ := hDc _ k2
          obtain ⟨b1, b2⟩ := hDc _ r3
          have x1 : t'.2 151 c ≤ r1.2 151 c := by
            by_cases hx : r1.2 151 c < 1000000
            · obtain ⟨k, hk⟩ := (r3.2.1 c hc.1 hc.2).2.2 hx
              exact DS_le hw wp.1 wp.2.1 k2 hk
            · omega
          have x2 : r1.2 151 c ≤ t'.2 151 c := by
            by_cases hx : t'.2 151 c < 1000000
            · obtain ⟨k, hk⟩ := (k2.2.1 c hc.1 hc.2).2.2 hx
              exact DS_le hw wp.1 wp.2.1 r3 hk
            · omega
          omega
        have hb := hDc _ r3
        refine ⟨t', fun f => ?_, Ag_mono k3 (fun q hq => by unfold a151 at hq; unfold srA; omega) (fun _ _ h => h.elim)⟩
        by_cases hca : c = s.2 142 (74 + 6 * p)
        · rw [if_pos hca, B_X12_pricks]
          simp (disch := first | assumption | omega) only [↓sm, ↓reduceIte, ↓if_pos, ↓if_neg, kI, kJ, kR, kV, w32_eq, w64_eq, reduceCtorEq, Int.reduceAdd, Int.reduceMul, Int.reduceSub, o_c141, ↓o_g141_0, ↓o_g141_1, ↓o_g141_5, ↓o_g141_6, ↓o_g141_7, ↓o_g141_8, ↓o_g141_9, ↓o_g141_21, ↓o_g141_25, ↓o_g141_26, ↓o_g141_27, ↓o_g141_28, ↓o_g141_29, ↓o_g141_30, ↓o_g141_31, ↓o_g141_34, ↓o_g141_35, ↓o_g141_36, ↓r_pupilAt e hw Z, ↓r_at e, ↓r_atw e, ↓r_cellsOf e hw Z, ↓r_isCell_t e hw Z, ↓r_isCell_f e hw Z, ↓r_isLesson_t e hw Z, ↓r_isLesson_f e hw Z, ↓r_isPupil_t e hw Z, ↓r_isPupil_f e hw Z, ↓r_pupilOf e hw Z, ↓r_needsOf e hw Z, ↓r_catchBy e hw Z, ↓r_catchOf e hw Z, ↓r_isCaught_t e hw Z, ↓r_isCaught_f e hw Z, ↓r_allCaught e hw Z, ↓r_whoIs0 e hw Z, ↓r_whoIs1 e hw Z, ↓r_sideOf e hw Z, ↓r_isNear e hw Z, ↓r_nextLesson e hw Z, ↓r_canFree e hw Z, ↓r_nearTo e hw Z, ↓r_isIn Z, ↓r_pupilRow Z, ↓r_lessonRow Z, ↓k_bits Z, ↓d_refuse Z, ↓d_gives Z, ↓d_is0 Z, ↓d_is1 Z, ↓d_isFrom_t Z, ↓d_isFrom_f Z, ↓d_orNone_t Z, ↓d_orNone_f Z, ↓k1, ↓r_pupilAt e' hw Z]
        · rw [if_neg hca, B_X12_pricks]
          simp (disch := first | assumption | omega) only [↓sm, ↓reduceIte, ↓if_pos, ↓if_neg, kI, kJ, kR, kV, w32_eq, w64_eq, reduceCtorEq, Int.reduceAdd, Int.reduceMul, Int.reduceSub, o_c141, ↓o_g141_0, ↓o_g141_1, ↓o_g141_5, ↓o_g141_6, ↓o_g141_7, ↓o_g141_8, ↓o_g141_9, ↓o_g141_21, ↓o_g141_25, ↓o_g141_26, ↓o_g141_27, ↓o_g141_28, ↓o_g141_29, ↓o_g141_30, ↓o_g141_31, ↓o_g141_34, ↓o_g141_35, ↓o_g141_36, ↓r_pupilAt e hw Z, ↓r_at e, ↓r_atw e, ↓r_cellsOf e hw Z, ↓r_isCell_t e hw Z, ↓r_isCell_f e hw Z, ↓r_isLesson_t e hw Z, ↓r_isLesson_f e hw Z, ↓r_isPupil_t e hw Z, ↓r_isPupil_f e hw Z, ↓r_pupilOf e hw Z, ↓r_needsOf e hw Z, ↓r_catchBy e hw Z, ↓r_catchOf e hw Z, ↓r_isCaught_t e hw Z, ↓r_isCaught_f e hw Z, ↓r_allCaught e hw Z, ↓r_whoIs0 e hw Z, ↓r_whoIs1 e hw Z, ↓r_sideOf e hw Z, ↓r_isNear e hw Z, ↓r_nextLesson e hw Z, ↓r_canFree e hw Z, ↓r_nearTo e hw Z, ↓r_isIn Z, ↓r_pupilRow Z, ↓r_lessonRow Z, ↓k_bits Z, ↓d_refuse Z, ↓d_gives Z, ↓d_is0 Z, ↓d_is1 Z, ↓d_isFrom_t Z, ↓d_isFrom_f Z, ↓d_orNone_t Z, ↓d_orNone_f Z, ↓k1, ↓r_pupilAt e' hw Z, ↓r_pupilOf e' hw Z, ↓a_ld151, same]
    · refine op_rd hI (-1) 1 (fun f => ?_) (fun t e f => ?_)
      · rw [B_X11_pricks]
        simp (disch := first | assumption | omega) only [↓sm, ↓reduceIte, ↓if_pos, ↓if_neg, kI, kJ, kR, kV, w32_eq, w64_eq, reduceCtorEq, Int.reduceAdd, Int.reduceMul, Int.reduceSub, o_c3, ↓o_g3_0, ↓o_g3_1, ↓o_g3_2, ↓o_g3_3, ↓o_g3_4, ↓o_g3_5, ↓o_g3_6, ↓o_g3_7, ↓o_g3_8, ↓o_g3_9, ↓o_g3_10, ↓o_g3_11, ↓o_g3_12, ↓o_g3_13, ↓o_g3_14, ↓o_g3_15, ↓o_g3_16, ↓o_g3_17, ↓a_ln4, ↓a_ld4, ↓a_ln61, ↓a_ld61, ↓a_ln62, ↓a_ld62, o_c7, ↓o_g7_4, ↓o_g7_5, ↓o_g7_7, ↓o_g7_8, ↓o_g7_9, ↓o_g7_11, ↓o_g7_12, ↓o_g7_13, ↓o_g7_14, ↓o_g7_15, ↓o_g7_16, ↓o_g7_17, ↓q_wide h, ↓q_high h, ↓q_odds h, ↓q_year h, ↓q_less h, ↓q_pups h, ↓q_thorns h Z, ↓q_berries h Z, ↓q_hours h hw Z, ↓q_needs h hw Z, ↓q_at h hw Z, ↓q_want h hw Z, ↓q_knows h hw Z, ↓q_caught h hw Z, ↓q_marks h hw Z, ↓q_torn h hw Z, ↓c_cells h hw Z, ↓c_hasCell_t h hw Z, ↓c_hasCell_f h hw Z, ↓c_hasLesson_t h hw Z, ↓c_hasLesson_f h hw Z, ↓c_hasPupil_t h hw Z, ↓c_hasPupil_f h hw Z, ↓c_isCellNumber_t h hw Z, ↓c_isCellNumber_f h hw Z, ↓c_beside h hw Z, ↓c_touch h hw Z, ↓c_catchOf h hw Z, ↓c_clearSet h hw Z, ↓c_isCaught_t h hw Z, ↓c_isCaught_f h hw Z, ↓c_caughtSet h hw Z, ↓c_pupilsAt h hw Z, ↓c_pupilsWhoKnow h hw Z, ↓c_areNear h hw Z, ↓c_canHelp h hw Z, ↓c_helperSet h hw Z, ↓c_nextLesson h hw Z, ↓c_isNearSome h hw Z, ↓c_freedSet h hw Z, ↓d_none Z, ↓d_done Z, ↓d_refused Z, ↓d_granted Z]
      · rw [B_X12_pricks]
        simp (disch := first | assumption | omega) only [↓sm, ↓reduceIte, ↓if_pos, ↓if_neg, kI, kJ, kR, kV, w32_eq, w64_eq, reduceCtorEq, Int.reduceAdd, Int.reduceMul, Int.reduceSub, o_c141, ↓o_g141_0, ↓o_g141_1, ↓o_g141_5, ↓o_g141_6, ↓o_g141_7, ↓o_g141_8, ↓o_g141_9, ↓o_g141_21, ↓o_g141_25, ↓o_g141_26, ↓o_g141_27, ↓o_g141_28, ↓o_g141_29, ↓o_g141_30, ↓o_g141_31, ↓o_g141_34, ↓o_g141_35, ↓o_g141_36, ↓r_pupilAt e hw Z, ↓r_at e, ↓r_atw e, ↓r_cellsOf e hw Z, ↓r_isCell_t e hw Z, ↓r_isCell_f e hw Z, ↓r_isLesson_t e hw Z, ↓r_isLesson_f e hw Z, ↓r_isPupil_t e hw Z, ↓r_isPupil_f e hw Z, ↓r_pupilOf e hw Z, ↓r_needsOf e hw Z, ↓r_catchBy e hw Z, ↓r_catchOf e hw Z, ↓r_isCaught_t e hw Z, ↓r_isCaught_f e hw Z, ↓r_allCaught e hw Z, ↓r_whoIs0 e hw Z, ↓r_whoIs1 e hw Z, ↓r_sideOf e hw Z, ↓r_isNear e hw Z, ↓r_nextLesson e hw Z, ↓r_canFree e hw Z, ↓r_nearTo e hw Z, ↓r_isIn Z, ↓r_pupilRow Z, ↓r_lessonRow Z, ↓k_bits Z, ↓d_refuse Z, ↓d_gives Z, ↓d_is0 Z, ↓d_is1 Z, ↓d_isFrom_t Z, ↓d_isFrom_f Z, ↓d_orNone_t Z, ↓d_orNone_f Z]
  · refine op_rd hI (-1) 1 (fun f => ?_) (fun t e f => ?_)
    · rw [B_X11_pricks]
      simp (disch := first | assumption | omega) only [↓sm, ↓reduceIte, ↓if_pos, ↓if_neg, kI, kJ, kR, kV, w32_eq, w64_eq, reduceCtorEq, Int.reduceAdd, Int.reduceMul, Int.reduceSub, o_c3, ↓o_g3_0, ↓o_g3_1, ↓o_g3_2, ↓o_g3_3, ↓o_g3_4, ↓o_g3_5, ↓o_g3_6, ↓o_g3_7, ↓o_g3_8, ↓o_g3_9, ↓o_g3_10, ↓o_g3_11, ↓o_g3_12, ↓o_g3_13, ↓o_g3_14, ↓o_g3_15, ↓o_g3_16, ↓o_g3_17, ↓a_ln4, ↓a_ld4, ↓a_ln61, ↓a_ld61, ↓a_ln62, ↓a_ld62, o_c7, ↓o_g7_4, ↓o_g7_5, ↓o_g7_7, ↓o_g7_8, ↓o_g7_9, ↓o_g7_11, ↓o_g7_12, ↓o_g7_13, ↓o_g7_14, ↓o_g7_15, ↓o_g7_16, ↓o_g7_17, ↓q_wide h, ↓q_high h, ↓q_odds h, ↓q_year h, ↓q_less h, ↓q_pups h, ↓q_thorns h Z, ↓q_berries h Z, ↓q_hours h hw Z, ↓q_needs h hw Z, ↓q_at h hw Z, ↓q_want h hw Z, ↓q_knows h hw Z, ↓q_caught h hw Z, ↓q_marks h hw Z, ↓q_torn h hw Z, ↓c_cells h hw Z, ↓c_hasCell_t h hw Z, ↓c_hasCell_f h hw Z, ↓c_hasLesson_t h hw Z, ↓c_hasLesson_f h hw Z, ↓c_hasPupil_t h hw Z, ↓c_hasPupil_f h hw Z, ↓c_isCellNumber_t h hw Z, ↓c_isCellNumber_f h hw Z, ↓c_beside h hw Z, ↓c_touch h hw Z, ↓c_catchOf h hw Z, ↓c_clearSet h hw Z, ↓c_isCaught_t h hw Z, ↓c_isCaught_f h hw Z, ↓c_caughtSet h hw Z, ↓c_pupilsAt h hw Z, ↓c_pupilsWhoKnow h hw Z, ↓c_areNear h hw Z, ↓c_canHelp h hw Z, ↓c_helperSet h hw Z, ↓c_nextLesson h hw Z, ↓c_isNearSome h hw Z, ↓c_freedSet h hw Z, ↓d_none Z, ↓d_done Z, ↓d_refused Z, ↓d_granted Z]
    · rw [B_X12_pricks]
      simp (disch := first | assumption | omega) only [↓sm, ↓reduceIte, ↓if_pos, ↓if_neg, kI, kJ, kR, kV, w32_eq, w64_eq, reduceCtorEq, Int.reduceAdd, Int.reduceMul, Int.reduceSub, o_c141, ↓o_g141_0, ↓o_g141_1, ↓o_g141_5, ↓o_g141_6, ↓o_g141_7, ↓o_g141_8, ↓o_g141_9, ↓o_g141_21, ↓o_g141_25, ↓o_g141_26, ↓o_g141_27, ↓o_g141_28, ↓o_g141_29, ↓o_g141_30, ↓o_g141_31, ↓o_g141_34, ↓o_g141_35, ↓o_g141_36, ↓r_pupilAt e hw Z, ↓r_at e, ↓r_atw e, ↓r_cellsOf e hw Z, ↓r_isCell_t e hw Z, ↓r_isCell_f e hw Z, ↓r_isLesson_t e hw Z, ↓r_isLesson_f e hw Z, ↓r_isPupil_t e hw Z, ↓r_isPupil_f e hw Z, ↓r_pupilOf e hw Z, ↓r_needsOf e hw Z, ↓r_catchBy e hw Z, ↓r_catchOf e hw Z, ↓r_isCaught_t e hw Z, ↓r_isCaught_f e hw Z, ↓r_allCaught e hw Z, ↓r_whoIs0 e hw Z, ↓r_whoIs1 e hw Z, ↓r_sideOf e hw Z, ↓r_isNear e hw Z, ↓r_nextLesson e hw Z, ↓r_canFree e hw Z, ↓r_nearTo e hw Z, ↓r_isIn Z, ↓r_pupilRow Z, ↓r_lessonRow Z, ↓k_bits Z, ↓d_refuse Z, ↓d_gives Z, ↓d_is0 Z, ↓d_is1 Z, ↓d_isFrom_t Z, ↓d_isFrom_f Z, ↓d_orNone_t Z, ↓d_orNone_f Z]
