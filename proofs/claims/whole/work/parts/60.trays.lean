/-! trays -/
def isT (q : Nat) : Prop := q = 76 ∨ q = 78 ∨ q = 80 ∨ q = 82
theorem isT_of {k : Nat} (h : k < 4) : isT (76 + 2 * k) := by unfold isT; omega
theorem t_c {q : Nat} (h : isT q) (s : mS) : mm_cls (mk s) q = 8 := by rcases h with rfl | rfl | rfl | rfl <;> exact mk_cls s (k := 1) (t := 0) rfl
theorem t_g0 {q : Nat} (h : isT q) (s : mS) (f : Option Nat → mO) : (mm_gR (mk s) q 8 0).bind f = f (some (q + 1)) := by
  have e : kdOf q 8 0 = some ((q + 1) + 2) := by rcases h with rfl | rfl | rfl | rfl <;> rfl
  rw [mk_gR s e]; rfl
theorem t_g1 {q : Nat} (h : isT q) (s : mS) (f : Int → mO) : (mm_gI (mk s) q 8 1).bind f = f (s.1 q 1) := by
  have e : kdOf q 8 1 = some 0 := by rcases h with rfl | rfl | rfl | rfl <;> rfl
  rw [mk_gI s e]; rfl
theorem t_g2 {q : Nat} (h : isT q) (s : mS) (f : Int → mO) : (mm_gI (mk s) q 8 2).bind f = f (s.1 q 2) := by
  have e : kdOf q 8 2 = some 0 := by rcases h with rfl | rfl | rfl | rfl <;> rfl
  rw [mk_gI s e]; rfl
theorem t_p1 {q : Nat} (h : isT q) (s : mS) (v : Int) (f : mW → mO) : (mm_p (mk s) q 8 1 (.inl v)).bind f = f (mk (uF s q 1 v)) := by
  have e : kdOf q 8 1 = some 0 := by rcases h with rfl | rfl | rfl | rfl <;> rfl
  rw [mk_pI s e]; rfl
theorem t_p2 {q : Nat} (h : isT q) (s : mS) (v : Int) (f : mW → mO) : (mm_p (mk s) q 8 2 (.inl v)).bind f = f (mk (uF s q 2 v)) := by
  have e : kdOf q 8 2 = some 0 := by rcases h with rfl | rfl | rfl | rfl <;> rfl
  rw [mk_pI s e]; rfl
theorem t_ar {q : Nat} (h : isT q) : arOf (q + 1) = some (3, 60) := by rcases h with rfl | rfl | rfl | rfl <;> rfl
theorem t_ln {q : Nat} (h : isT q) (s : mS) (f : Int → mO) : (mm_ln (mk s) (q + 1)).bind f = f 60 := by rw [mk_ln s (t_ar h) (by decide)]; rfl
theorem t_ld {q : Nat} (h : isT q) (s : mS) (f : Int → mO) (i : Int) (h0 : 0 ≤ i) (h1 : i < 60) : (mm_ld 3 (mk s) (q + 1) i).bind f = f (s.2 (q + 1) i) := by rw [mk_ld s (t_ar h) h0 h1]; rfl
theorem t_st {q : Nat} (h : isT q) (s : mS) (f : mW → mO) (i v : Int) (h0 : 0 ≤ i) (h1 : i < 60) : (mm_st 3 (mk s) (q + 1) i v).bind f = f (mk (uA s (q + 1) i v)) := by rw [mk_st s (t_ar h) h0 h1]; rfl
theorem c8_isMissing_t (Z : mX) (s : mS) {q : Nat} (h : isT q) (hm : s.1 q 2 = -1) (f : Int → mW → mO) : mm_kI (mm_run (zP Z) 110 [.inr (.inr (some q))] (mk s)) f = f 1 (mk s) := by
  rw [B_X8_isMissing]
  simp (disch := first | assumption | omega) only [↓sm, ↓reduceIte, ↓if_pos, ↓if_neg, kI, kJ, kR, kV, w32_eq, w64_eq, reduceCtorEq, Int.reduceAdd, Int.reduceMul, Int.reduceSub, ↓t_g2 h, hm]
theorem c8_isMissing_f (Z : mX) (s : mS) {q : Nat} (h : isT q) (hm : s.1 q 2 ≠ -1) (f : Int → mW → mO) : mm_kI (mm_run (zP Z) 110 [.inr (.inr (some q))] (mk s)) f = f 0 (mk s) := by
  rw [B_X8_isMissing]
  simp (disch := first | assumption | omega) only [↓sm, ↓reduceIte, ↓if_pos, ↓if_neg, kI, kJ, kR, kV, w32_eq, w64_eq, reduceCtorEq, Int.reduceAdd, Int.reduceMul, Int.reduceSub, ↓t_g2 h]
theorem c8_holds_t (Z : mX) (s : mS) {q : Nat} (h : isT q) (p n : Int) (p0 : 0 ≤ p) (n0 : 0 ≤ n) (hb : n ≤ s.1 q 2 - p) (hm : s.1 q 2 ≤ 60) (f : Int → mW → mO) : mm_kI (mm_run (zP Z) 111 [.inr (.inr (some q)), .inl p, .inl n] (mk s)) f = f 1 (mk s) := by
  rw [B_X8_holds]
  simp (disch := first | assumption | omega) only [↓sm, ↓reduceIte, ↓if_pos, ↓if_neg, kI, kJ, kR, kV, w32_eq, w64_eq, reduceCtorEq, Int.reduceAdd, Int.reduceMul, Int.reduceSub, ↓t_g2 h]
theorem c8_holds_f (Z : mX) (s : mS) {q : Nat} (h : isT q) (p n : Int) (hb : ¬ (0 ≤ p ∧ 0 ≤ n ∧ n ≤ s.1 q 2 - p)) (hm : s.1 q 2 ≤ 60) (hm0 : -1 ≤ s.1 q 2) (f : Int → mW → mO) : mm_kI (mm_run (zP Z) 111 [.inr (.inr (some q)), .inl p, .inl n] (mk s)) f = f 0 (mk s) := by
  rw [B_X8_holds]
  by_cases p0 : p < 0
  · simp (disch := first | assumption | omega) only [↓sm, ↓reduceIte, ↓if_pos, ↓if_neg, kI, kJ, kR, kV, w32_eq, w64_eq, reduceCtorEq, Int.reduceAdd, Int.reduceMul, Int.reduceSub, ↓t_g2 h]
  · by_cases n0 : n < 0
    · simp (disch := first | assumption | omega) only [↓sm, ↓reduceIte, ↓if_pos, ↓if_neg, kI, kJ, kR, kV, w32_eq, w64_eq, reduceCtorEq, Int.reduceAdd, Int.reduceMul, Int.reduceSub, ↓t_g2 h]
    · by_cases hp : s.1 q 2 < p
      · simp (disch := first | assumption | omega) only [↓sm, ↓reduceIte, ↓if_pos, ↓if_neg, kI, kJ, kR, kV, w32_eq, w64_eq, reduceCtorEq, Int.reduceAdd, Int.reduceMul, Int.reduceSub, ↓t_g2 h]
      · simp (disch := first | assumption | omega) only [↓sm, ↓reduceIte, ↓if_pos, ↓if_neg, kI, kJ, kR, kV, w32_eq, w64_eq, reduceCtorEq, Int.reduceAdd, Int.reduceMul, Int.reduceSub, ↓t_g2 h]
theorem c8_at (Z : mX) (s : mS) {q : Nat} (h : isT q) (i : Int) (h0 : 0 ≤ i) (h1 : i < 60) (f : Int → mW → mO) : mm_kJ (mm_run (zP Z) 112 [.inr (.inr (some q)), .inl i] (mk s)) f = f (s.2 (q + 1) i) (mk s) := by
  rw [B_X8_at]
  simp (disch := first | assumption | omega) only [↓sm, ↓reduceIte, ↓if_pos, ↓if_neg, kI, kJ, kR, kV, w32_eq, w64_eq, reduceCtorEq, Int.reduceAdd, Int.reduceMul, Int.reduceSub, ↓t_g0 h, ↓t_ln h, ↓t_ld h]
theorem c8_cut (Z : mX) (s : mS) {q : Nat} (h : isT q) (v : Int) (f : Int → mW → mO) : mm_kJ (mm_run (zP Z) 114 [.inr (.inr (some q)), .inr (.inl v)] (mk s)) f = f (cutI (s.1 q 1) v) (mk s) := by
  rw [B_X8_cut]
  unfold cutI
  by_cases h0 : s.1 q 1 = 0
  · simp (disch := first | assumption | omega) only [↓sm, ↓reduceIte, ↓if_pos, ↓if_neg, kI, kJ, kR, kV, w32_eq, w64_eq, reduceCtorEq, Int.reduceAdd, Int.reduceMul, Int.reduceSub, ↓t_g1 h, h0]
  · by_cases h1 : s.1 q 1 = 1
    · simp (disch := first | assumption | omega) only [↓sm, ↓reduceIte, ↓if_pos, ↓if_neg, kI, kJ, kR, kV, w32_eq, w64_eq, reduceCtorEq, Int.reduceAdd, Int.reduceMul, Int.reduceSub, ↓t_g1 h, h1]
    · by_cases h2 : s.1 q 1 = 2
      · simp (disch := first | assumption | omega) only [↓sm, ↓reduceIte, ↓if_pos, ↓if_neg, kI, kJ, kR, kV, w32_eq, w64_eq, reduceCtorEq, Int.reduceAdd, Int.reduceMul, Int.reduceSub, ↓t_g1 h, h2]
      · simp (disch := first | assumption | omega) only [↓sm, ↓reduceIte, ↓if_pos, ↓if_neg, kI, kJ, kR, kV, w32_eq, w64_eq, reduceCtorEq, Int.reduceAdd, Int.reduceMul, Int.reduceSub, ↓t_g1 h, h0, h1, h2]
theorem c8_set (Z : mX) (s : mS) {q : Nat} (h : isT q) (i v : Int) (h0 : 0 ≤ i) (h1 : i < 60) (f : mW → mO) : mm_kV (mm_run (zP Z) 113 [.inr (.inr (some q)), .inl i, .inr (.inl v)] (mk s)) f = f (mk (uA s (q + 1) i (cutI (s.1 q 1) v))) := by
  rw [B_X8_set]
  simp (disch := first | assumption | omega) only [↓sm, ↓reduceIte, ↓if_pos, ↓if_neg, kI, kJ, kR, kV, w32_eq, w64_eq, reduceCtorEq, Int.reduceAdd, Int.reduceMul, Int.reduceSub, ↓t_g0 h, ↓t_ln h, t_c h, ↓c8_cut Z s h, ↓t_st h]
theorem lp_lay (Z : mX) {q : Nat} (h : isT q) (s : mS) : ∀ i : Int, i ≤ 60 → 0 ≤ i → mm_at (zP Z) 109 8 [some (.inr (.inr (some q))), none, none, some (.inl i)] [] (mk (fA s (q + 1) i 0)) = some (none, mk (fA s (q + 1) 60 0)) := by
  refine up ?_ ?_
  · intro i0
    rw [B_X8_lay_8]
    simp (disch := first | assumption | omega) only [↓sm, ↓reduceIte, ↓if_pos, ↓if_neg, kI, kJ, kR, kV, w32_eq, w64_eq, reduceCtorEq, Int.reduceAdd, Int.reduceMul, Int.reduceSub, ↓t_g0 h, ↓t_ln h]
  · intro i hi ih i0
    rw [B_X8_lay_8]
    simp (disch := first | assumption | omega) only [↓sm, ↓reduceIte, ↓if_pos, ↓if_neg, kI, kJ, kR, kV, w32_eq, w64_eq, reduceCtorEq, Int.reduceAdd, Int.reduceMul, Int.reduceSub, ↓t_g0 h, ↓t_ln h, ↓t_st h, fA_s]
    exact ih (by omega)
theorem c8_lay (Z : mX) (s : mS) {q : Nat} (h : isT q) (a b : Int) (f : mW → mO) : mm_kV (mm_run (zP Z) 109 [.inr (.inr (some q)), .inl a, .inl b] (mk s)) f = f (mk (fA (uF (uF s q 1 a) q 2 b) (q + 1) 60 0)) := by
  have g := lp_lay Z h (uF (uF s q 1 a) q 2 b) 0 (by omega) (by omega)
  rw [fA_0] at g
  rw [B_X8_lay]
  simp (disch := first | assumption | omega) only [↓sm, ↓reduceIte, ↓if_pos, ↓if_neg, kI, kJ, kR, kV, w32_eq, w64_eq, reduceCtorEq, Int.reduceAdd, Int.reduceMul, Int.reduceSub, ↓t_p1 h, ↓t_p2 h, g]
theorem c_trayAt_t (Z : mX) (s : mS) (a : Int) (a0 : 0 ≤ a) (a1 : a < 4) (f : Option Nat → mW → mO) : mm_kR (mm_run (zP Z) 195 [.inr (.inr (some 3)), .inl a] (mk s)) f = f (some (76 + 2 * a.toNat)) (mk s) := by
  rw [B_X11_trayAt]
  simp (disch := first | assumption | omega) only [↓sm, ↓reduceIte, ↓if_pos, ↓if_neg, kI, kJ, kR, kV, w32_eq, w64_eq, reduceCtorEq, Int.reduceAdd, Int.reduceMul, Int.reduceSub, o_c3, ↓o_g3_0, ↓o_g3_1, ↓o_g3_2, ↓o_g3_3, ↓o_g3_4, ↓o_g3_5, ↓o_g3_6, ↓o_g3_7, ↓o_g3_8, ↓o_g3_9, ↓o_g3_10, ↓o_g3_11, ↓o_g3_12, ↓o_g3_13, ↓o_g3_14, ↓o_g3_15, ↓o_g3_16, ↓o_g3_17, ↓a_ln4, ↓a_ld4, ↓a_ln61, ↓a_ld61, ↓a_ln62, ↓a_ld62, ↓a_ln4, ↓a_ld4]
  rw [show (76 + 2 * a).toNat = 76 + 2 * a.toNat by omega]
theorem c_trayAt_f (Z : mX) (s : mS) (a : Int) (ha : ¬ (0 ≤ a ∧ a < 4)) (f : Option Nat → mW → mO) : mm_kR (mm_run (zP Z) 195 [.inr (.inr (some 3)), .inl a] (mk s)) f = f none (mk s) := by
  rw [B_X11_trayAt]
  by_cases h0 : a < 0
  · simp (disch := first | assumption | omega) only [↓sm, ↓reduceIte, ↓if_pos, ↓if_neg, kI, kJ, kR, kV, w32_eq, w64_eq, reduceCtorEq, Int.reduceAdd, Int.reduceMul, Int.reduceSub]
  · simp (disch := first | assumption | omega) only [↓sm, ↓reduceIte, ↓if_pos, ↓if_neg, kI, kJ, kR, kV, w32_eq, w64_eq, reduceCtorEq, Int.reduceAdd, Int.reduceMul, Int.reduceSub, o_c3, ↓o_g3_0, ↓o_g3_1, ↓o_g3_2, ↓o_g3_3, ↓o_g3_4, ↓o_g3_5, ↓o_g3_6, ↓o_g3_7, ↓o_g3_8, ↓o_g3_9, ↓o_g3_10, ↓o_g3_11, ↓o_g3_12, ↓o_g3_13, ↓o_g3_14, ↓o_g3_15, ↓o_g3_16, ↓o_g3_17, ↓a_ln4, ↓a_ld4, ↓a_ln61, ↓a_ld61, ↓a_ln62, ↓a_ld62, ↓a_ln4]
/-- what is wrong with a place -/
def twr (m p n : Int) : Int := if m = -1 then 2 else if 0 ≤ p ∧ 0 ≤ n ∧ n ≤ m - p then 0 else 3
theorem c_trouble (Z : mX) (s : mS) {q : Nat} (h : isT q) (p n : Int) (hm : s.1 q 2 ≤ 60) (hm0 : -1 ≤ s.1 q 2) (f : Int → mW → mO) : mm_kI (mm_run (zP Z) 196 [.inr (.inr (some 3)), .inr (.inr (some q)), .inl p, .inl n] (mk s)) f = f (twr (s.1 q 2) p n) (mk s) := by
  rw [B_X11_troubleWith]
  unfold twr
  by_cases h1 : s.1 q 2 = -1
  · rw [if_pos h1]
    simp (disch := first | assumption | omega) only [↓sm, ↓reduceIte, ↓if_pos, ↓if_neg, kI, kJ, kR, kV, w32_eq, w64_eq, reduceCtorEq, Int.reduceAdd, Int.reduceMul, Int.reduceSub, t_c h, ↓c8_isMissing_t Z s h h1]
  · rw [if_neg h1]
    by_cases h2 : 0 ≤ p ∧ 0 ≤ n ∧ n ≤ s.1 q 2 - p
    · rw [if_pos h2]
      simp (disch := first | assumption | omega) only [↓sm, ↓reduceIte, ↓if_pos, ↓if_neg, kI, kJ, kR, kV, w32_eq, w64_eq, reduceCtorEq, Int.reduceAdd, Int.reduceMul, Int.reduceSub, t_c h, ↓c8_isMissing_f Z s h h1, ↓c8_holds_t Z s h p n h2.1 h2.2.1 h2.2.2 hm]
    · rw [if_neg h2]
      simp (disch := first | assumption | omega) only [↓sm, ↓reduceIte, ↓if_pos, ↓if_neg, kI, kJ, kR, kV, w32_eq, w64_eq, reduceCtorEq, Int.reduceAdd, Int.reduceMul, Int.reduceSub, t_c h, ↓c8_isMissing_f Z s h h1, ↓c8_holds_f Z s h p n h2 hm hm0]
theorem c_trouble_n (Z : mX) (s : mS) (p n : Int) (f : Int → mW → mO) : mm_kI (mm_run (zP Z) 196 [.inr (.inr (some 3)), .inr (.inr none), .inl p, .inl n] (mk s)) f = f 1 (mk s) := by
  rw [B_X11_troubleWith]
  simp (disch := first | assumption | omega) only [↓sm, ↓reduceIte, ↓if_pos, ↓if_neg, kI, kJ, kR, kV, w32_eq, w64_eq, reduceCtorEq, Int.reduceAdd, Int.reduceMul, Int.reduceSub]
theorem r_isTray_t (Z : mX) (w : mW) (a : Int) (a0 : 0 ≤ a) (a1 : a < 4) (f : Int → mW → mO) : mm_kI (mm_run (zP Z) 220 [.inl a] w) f = f 1 w := by
  rw [B_X12_isTray]
  simp (disch := first | assumption | omega) only [↓sm, ↓reduceIte, ↓if_pos, ↓if_neg, kI, kJ, kR, kV, w32_eq, w64_eq, reduceCtorEq, Int.reduceAdd, Int.reduceMul, Int.reduceSub]
theorem r_isTray_f (Z : mX) (w : mW) (a : Int) (ha : ¬ (0 ≤ a ∧ a < 4)) (f : Int → mW → mO) : mm_kI (mm_run (zP Z) 220 [.inl a] w) f = f 0 w := by
  rw [B_X12_isTray]
  by_cases h0 : a < 0
  · simp (disch := first | assumption | omega) only [↓sm, ↓reduceIte, ↓if_pos, ↓if_neg, kI, kJ, kR, kV, w32_eq, w64_eq, reduceCtorEq, Int.reduceAdd, Int.reduceMul, Int.reduceSub]
  · simp (disch := first | assumption | omega) only [↓sm, ↓reduceIte, ↓if_pos, ↓if_neg, kI, kJ, kR, kV, w32_eq, w64_eq, reduceCtorEq, Int.reduceAdd, Int.reduceMul, Int.reduceSub]
theorem r_cut (Z : mX) (w : mW) (v o : Int) (f : Int → mW → mO) : mm_kJ (mm_run (zP Z) 221 [.inr (.inl v), .inl o] w) f = f (cutI o v) w := by
  rw [B_X12_cut]
  unfold cutI
  by_cases h0 : o = 0
  · simp (disch := first | assumption | omega) only [↓sm, ↓reduceIte, ↓if_pos, ↓if_neg, kI, kJ, kR, kV, w32_eq, w64_eq, reduceCtorEq, Int.reduceAdd, Int.reduceMul, Int.reduceSub, h0]
  · by_cases h1 : o = 1
    · simp (disch := first | assumption | omega) only [↓sm, ↓reduceIte, ↓if_pos, ↓if_neg, kI, kJ, kR, kV, w32_eq, w64_eq, reduceCtorEq, Int.reduceAdd, Int.reduceMul, Int.reduceSub, h1]
    · by_cases h2 : o = 2
      · simp (disch := first | assumption | omega) only [↓sm, ↓reduceIte, ↓if_pos, ↓if_neg, kI, kJ, kR, kV, w32_eq, w64_eq, reduceCtorEq, Int.reduceAdd, Int.reduceMul, Int.reduceSub, h2]
      · simp (disch := first | assumption | omega) only [↓sm, ↓reduceIte, ↓if_pos, ↓if_neg, kI, kJ, kR, kV, w32_eq, w64_eq, reduceCtorEq, Int.reduceAdd, Int.reduceMul, Int.reduceSub, h0, h1, h2]
theorem r_wrongPlace (Z : mX) (s : mS) (a p : Int) (a0 : 0 ≤ a) (a1 : a < 4) (f : Int → mW → mO) : mm_kI (mm_run (zP Z) 223 [.inr (.inr (some 141)), .inl a, .inl p] (mk s)) f = f (twr (s.2 145 a) p 1) (mk s) := by
  rw [B_X12_wrongPlace]
  unfold twr
  by_cases h1 : s.2 145 a = -1
  · rw [if_pos h1]
    simp (disch := first | assumption | omega) only [↓sm, ↓reduceIte, ↓if_pos, ↓if_neg, kI, kJ, kR, kV, w32_eq, w64_eq, reduceCtorEq, Int.reduceAdd, Int.reduceMul, Int.reduceSub, o_c141, ↓o_g141_0, ↓o_g141_1, ↓o_g141_5, ↓o_g141_6, ↓o_g141_7, ↓o_g141_8, ↓o_g141_9, ↓o_g141_21, ↓o_g141_25, ↓o_g141_26, ↓o_g141_27, ↓o_g141_28, ↓o_g141_29, ↓o_g141_30, ↓o_g141_31, ↓o_g141_34, ↓o_g141_35, ↓o_g141_36, ↓r_isTray_t Z, ↓a_ld145, h1]
  · rw [if_neg h1]
    by_cases h2 : 0 ≤ p ∧ 0 ≤ (1 : Int) ∧ 1 ≤ s.2 145 a - p
    · rw [if_pos h2]
      simp (disch := first | assumption | omega) only [↓sm, ↓reduceIte, ↓if_pos, ↓if_neg, kI, kJ, kR, kV, w32_eq, w64_eq, reduceCtorEq, Int.reduceAdd, Int.reduceMul, Int.reduceSub, o_c141, ↓o_g141_0, ↓o_g141_1, ↓o_g141_5, ↓o_g141_6, ↓o_g141_7, ↓o_g141_8, ↓o_g141_9, ↓o_g141_21, ↓o_g141_25, ↓o_g141_26, ↓o_g141_27, ↓o_g141_28, ↓o_g141_29, ↓o_g141_30, ↓o_g141_31, ↓o_g141_34, ↓o_g141_35, ↓o_g141_36, ↓r_isTray_t Z, ↓a_ld145, h1]
    · rw [if_neg h2]
      by_cases h3 : p < 0
      · simp (disch := first | assumption | omega) only [↓sm, ↓reduceIte, ↓if_pos, ↓if_neg, kI, kJ, kR, kV, w32_eq, w64_eq, reduceCtorEq, Int.reduceAdd, Int.reduceMul, Int.reduceSub, o_c141, ↓o_g141_0, ↓o_g141_1, ↓o_g141_5, ↓o_g141_6, ↓o_g141_7, ↓o_g141_8, ↓o_g141_9, ↓o_g141_21, ↓o_g141_25, ↓o_g141_26, ↓o_g141_27, ↓o_g141_28, ↓o_g141_29, ↓o_g141_30, ↓o_g141_31, ↓o_g141_34, ↓o_g141_35, ↓o_g141_36, ↓r_isTray_t Z, ↓a_ld145, h1]
      · simp (disch := first | assumption | omega) only [↓sm, ↓reduceIte, ↓if_pos, ↓if_neg, kI, kJ, kR, kV, w32_eq, w64_eq, reduceCtorEq, Int.reduceAdd, Int.reduceMul, Int.reduceSub, o_c141, ↓o_g141_0, ↓o_g141_1, ↓o_g141_5, ↓o_g141_6, ↓o_g141_7, ↓o_g141_8, ↓o_g141_9, ↓o_g141_21, ↓o_g141_25, ↓o_g141_26, ↓o_g141_27, ↓o_g141_28, ↓o_g141_29, ↓o_g141_30, ↓o_g141_31, ↓o_g141_34, ↓o_g141_35, ↓o_g141_36, ↓r_isTray_t Z, ↓a_ld145, h1]
theorem r_wrongPlace_f (Z : mX) (s : mS) (a p : Int) (ha : ¬ (0 ≤ a ∧ a < 4)) (f : Int → mW → mO) : mm_kI (mm_run (zP Z) 223 [.inr (.inr (some 141)), .inl a, .inl p] (mk s)) f = f 1 (mk s) := by
  rw [B_X12_wrongPlace]
  simp (disch := first | assumption | omega) only [↓sm, ↓reduceIte, ↓if_pos, ↓if_neg, kI, kJ, kR, kV, w32_eq, w64_eq, reduceCtorEq, Int.reduceAdd, Int.reduceMul, Int.reduceSub, ↓r_isTray_f Z]
/-! what a call on trays may change -/
def tcA (q : Nat) : Prop := 76 ≤ q ∧ q < 84
def tcF (q _k : Nat) : Prop := 76 ≤ q ∧ q < 84
def trA (q : Nat) : Prop := 144 ≤ q ∧ q < 147
theorem inv_tr {s s1 s2 : mS} {x : Int} (h : Inv s) (g1 : Ag tcA tcF s s1) (g2 : Ag trA noF (uF s1 3 15 x) s2) (hT : RT s1 s2) : Inv (uF s2 141 2 x) := by
  obtain ⟨i1, i2, i3, i4, i5, i6, i7, i8⟩ := h
  have f1 : ∀ q k, ¬ (76 ≤ q ∧ q < 84) → ¬ (q = 3 ∧ k = 15) → ¬ (q = 141 ∧ k = 2) → (uF s2 141 2 x).1 q k = s.1 q k := by
    intro q k a b c
    rw [uF_1, if_neg c, g2.2 q k (fun x => x), uF_1, if_neg b]
    exact g1.2 q k a
  have f2 : ∀ q, ¬ (76 ≤ q ∧ q < 84) → ¬ (144 ≤ q ∧ q < 147) → (uF s2 141 2 x).2 q = s.2 q := fun q a b => (g2.1 q b).trans (g1.1 q a)
  have e1 : (uF s2 141 2 x).2 142 = s.2 142 := f2 142 (by omega) (by omega)
  have e2 : (uF s2 141 2 x).2 143 = s.2 143 := f2 143 (by omega) (by omega)
  refine ⟨?_, ⟨?_, ?_⟩, ?_, ?_, ?_, ?_, ?_, ?_⟩
  · rw [uF_1, if_neg (by omega), g2.2 3 15 (fun x => x), uF_1, if_pos ⟨rfl, rfl⟩, uF_1, if_pos ⟨rfl, rfl⟩]
  · rw [f1 _ _ (by omega) (by omega) (by omega), f1 _ _ (by omega) (by omega) (by omega)]; exact i2.1
  · rw [f1 _ _ (by omega) (by omega) (by omega), f1 _ _ (by omega) (by omega) (by omega)]; exact i2.2
  · unfold TSc
    rw [e1, e2]
    exact ⟨i3.1, CS_fr i3.2 (fun k => f1 7 k (by omega) (by omega) (by omega)) (fun j j0 j1 => f2 _ (by omega) (by omega))⟩
  · exact RT_fr hT (fun q k q0 q1 => by rw [uF_1, if_neg (by omega), g2.2 q k (fun x => x), uF_1, if_neg (by omega)]) (fun q q0 q1 => g2.1 q (by unfold trA; omega)) (fun q q0 q1 => rfl)
  · exact TTx_fr i5 ⟨f1 5 4 (by omega) (by omega) (by omega), f1 5 9 (by omega) (by omega) (by omega), f1 5 10 (by omega) (by omega) (by omega)⟩ ⟨f1 141 10 (by omega) (by omega) (by omega), f1 141 16 (by omega) (by omega) (by omega), f1 141 17 (by omega) (by omega) (by omega)⟩ (f2 6 (by omega) (by omega)) (f2 147 (by omega) (by omega))
  · rw [e1]
    exact AU_fr i6 (fun k => f1 33 k (by omega) (by omega) (by omega)) (fun j j0 j1 => f2 _ (by omega) (by omega))
  · exact TMk_fr i7 (f1 3 14 (by omega) (by omega) (by omega)) (f1 141 38 (by omega) (by omega) (by omega)) (fun q k q0 q1 => f1 q k (by omega) (by omega) (by omega)) (fun q q0 q1 => f2 q (by omega) (by omega)) (fun j j0 j1 => by rw [e1]) (fun j j0 j1 => by rw [e2])
  · exact TLv_fr i8 (f1 63 4 (by omega) (by omega) (by omega)) (f1 141 37 (by omega) (by omega) (by omega)) (f2 65 (by omega) (by omega)) (f2 159 (by omega) (by omega))
theorem op_tr {Z : mX} {s : mS} {a b : Nat} {as : List mV} (hI : Inv s) (v x : Int) (s1 : mS)
    (hc : ∀ f : Int → mW → mO, mm_kI (mm_run (zP Z) a (.inr (.inr (some 3)) :: as) (mk s)) f = f v (mk (uF s1 3 15 x))) (cs : Ag tcA tcF s s1)
    (hr : ∀ t : mS, t.2 142 = s.2 142 → t.2 144 = s.2 144 → t.2 145 = s.2 145 → t.2 146 = s.2 146 → ∃ t', (∀ f : Int → mW → mO, mm_kI (mm_run (zP Z) b (.inr (.inr (some 141)) :: as) (mk t)) f = f v (mk (uF t' 141 2 x))) ∧ Ag trA noF t t' ∧ RT s1 t') : OpI Z s a b as := by
  obtain ⟨t', h1, h2, h3⟩ := hr (uF s1 3 15 x) (cs.1 142 (by unfold tcA; omega)) (cs.1 144 (by unfold tcA; omega)) (cs.1 145 (by unfold tcA; omega)) (cs.1 146 (by unfold tcA; omega))
  exact ⟨v, _, _, hc, h1, inv_tr hI cs h2 h3⟩
theorem lp_rtray (Z : mX) (a n : Int) (a0 : 0 ≤ a) (a1 : a < 4) (n1 : n ≤ 60) : ∀ i : Int, i ≤ n → ∀ t : mS, 0 ≤ i → ∃ t', mm_at (zP Z) 222 29 [some (.inr (.inr (some 141))), some (.inl a), none, some (.inl n), some (.inl i)] [] (mk t) = some (some (.inl 1), mk (uF t' 141 2 0)) ∧ Ag trA noF t t' ∧ t'.2 144 = t.2 144 ∧ t'.2 145 = t.2 145 ∧ ∀ j, t'.2 146 j = if 60 * a + i ≤ j ∧ j < 60 * a + n then 0 else t.2 146 j := by
  refine up ?_ ?_
  · intro t i0
    refine ⟨t, ?_, Ag_refl _ _ _, rfl, rfl, fun j => by rw [if_neg (by omega)]⟩
    rw [B_X12_tray_29]
    simp (disch := first | assumption | omega) only [↓sm, ↓reduceIte, ↓if_pos, ↓if_neg, kI, kJ, kR, kV, w32_eq, w64_eq, reduceCtorEq, Int.reduceAdd, Int.reduceMul, Int.reduceSub, o_c141, ↓o_g141_0, ↓o_g141_1, ↓o_g141_5, ↓o_g141_6, ↓o_g141_7, ↓o_g141_8, ↓o_g141_9, ↓o_g141_21, ↓o_g141_25, ↓o_g141_26, ↓o_g141_27, ↓o_g141_28, ↓o_g141_29, ↓o_g141_30, ↓o_g141_31, ↓o_g141_34, ↓o_g141_35, ↓o_g141_36, ↓d_refuse Z, ↓d_gives Z, ↓d_is0 Z, ↓d_is1 Z, ↓d_isFrom_t Z, ↓d_isFrom_f Z, ↓d_orNone_t Z, ↓d_orNone_f Z]
  · intro i hi ih t i0
    obtain ⟨t', g1, g2, g3, g4, g5⟩ := ih (uA t 146 (60 * a + i) 0) (by omega)
    refine ⟨t', ?_, Ag_trans (Ag_uA (Ag_refl _ _ _) (by unfold trA; omega) _ _) g2, by rw [g3, uA_n _ (by decide)], by rw [g4, uA_n _ (by decide)], fun j => ?_⟩
    · rw [B_X12_tray_29]
      simp (disch := first | assumption | omega) only [↓sm, ↓reduceIte, ↓if_pos, ↓if_neg, kI, kJ, kR, kV, w32_eq, w64_eq, reduceCtorEq, Int.reduceAdd, Int.reduceMul, Int.reduceSub, o_c141, ↓o_g141_0, ↓o_g141_1, ↓o_g141_5, ↓o_g141_6, ↓o_g141_7, ↓o_g141_8, ↓o_g141_9, ↓o_g141_21, ↓o_g141_25, ↓o_g141_26, ↓o_g141_27, ↓o_g141_28, ↓o_g141_29, ↓o_g141_30, ↓o_g141_31, ↓o_g141_34, ↓o_g141_35, ↓o_g141_36, ↓a_st146, a_st146, g1]
    · rw [g5 j, uA_s]
      by_cases e : j = 60 * a + i
      · rw [if_neg (by omega), up_eq e, if_pos (by omega)]
      · rw [up_ne e]
        by_cases h1 : 60 * a + (i + 1) ≤ j ∧ j < 60 * a + n
        · rw [if_pos h1, if_pos (by omega)]
        · rw [if_neg h1, if_neg (by omega)]
theorem cutI_0 (o : Int) : cutI o 0 = 0 := by
  unfold cutI
  split
  · rfl
  · split
    · rfl
    · split
      · rfl
      · rfl
theorem op_tray (Z : mX) (s : mS) (hI : Inv s) (a o n : Int) : OpI Z s 139 222 [.inl a, .inl o, .inl n] := by
  by_cases ha : 0 ≤ a ∧ a < 4
  · by_cases ho : 0 ≤ o ∧ o ≤ 3
    · by_cases hn : 0 ≤ n ∧ n ≤ 60
      · have hq := isT_of (k := a.toNat) (by omega)
        refine op_tr hI 1 0 (fA (uF (uF s (76 + 2 * a.toNat) 1 o) (76 + 2 * a.toNat) 2 n) (76 + 2 * a.toNat + 1) 60 0) (fun f => ?_) (Ag_fA (Ag_uF (Ag_uF (Ag_refl _ _ _) (show tcF (76 + 2 * a.toNat) 1 by unfold tcF; omega) _) (show tcF (76 + 2 * a.toNat) 2 by unfold tcF; omega) _) (by unfold tcA; omega) _ _) (fun t _ e4 e5 e6 => ?_)
        · rw [B_X11_tray]
          simp (disch := first | assumption | omega) only [↓sm, ↓reduceIte, ↓if_pos, ↓if_neg, kI, kJ, kR, kV, w32_eq, w64_eq, reduceCtorEq, Int.reduceAdd, Int.reduceMul, Int.reduceSub, o_c3, ↓o_g3_0, ↓o_g3_1, ↓o_g3_2, ↓o_g3_3, ↓o_g3_4, ↓o_g3_5, ↓o_g3_6, ↓o_g3_7, ↓o_g3_8, ↓o_g3_9, ↓o_g3_10, ↓o_g3_11, ↓o_g3_12, ↓o_g3_13, ↓o_g3_14, ↓o_g3_15, ↓o_g3_16, ↓o_g3_17, ↓a_ln4, ↓a_ld4, ↓a_ln61, ↓a_ld61, ↓a_ln62, ↓a_ld62, ↓d_none Z, ↓d_done Z, ↓d_refused Z, ↓d_granted Z, ↓c_trayAt_t Z, ↓k_isIn_t Z, t_c hq, ↓c8_lay Z s hq, reduceCtorEq]
        · obtain ⟨t', g1, g2, g3, g4, g5⟩ := lp_rtray Z a n ha.1 ha.2 hn.2 0 hn.1 (uA (uA t 144 a o) 145 a n) (by omega)
          refine ⟨t', fun f => ?_, Ag_trans (Ag_uA (Ag_uA (Ag_refl _ _ _) (by unfold trA; omega) _ _) (by unfold trA; omega) _ _) g2, fun k hk => ?_⟩
          · rw [B_X12_tray]
            simp (disch := first | assumption | omega) only [↓sm, ↓reduceIte, ↓if_pos, ↓if_neg, kI, kJ, kR, kV, w32_eq, w64_eq, reduceCtorEq, Int.reduceAdd, Int.reduceMul, Int.reduceSub, o_c141, ↓o_g141_0, ↓o_g141_1, ↓o_g141_5, ↓o_g141_6, ↓o_g141_7, ↓o_g141_8, ↓o_g141_9, ↓o_g141_21, ↓o_g141_25, ↓o_g141_26, ↓o_g141_27, ↓o_g141_28, ↓o_g141_29, ↓o_g141_30, ↓o_g141_31, ↓o_g141_34, ↓o_g141_35, ↓o_g141_36, ↓r_isTray_t Z, ↓a_st144, ↓a_st145, g1]
          · have b := hI.2.2.2.1 k hk
            rw [g3, g4, uA_n _ (by decide), uA_s, uA_s, uA_n _ (by decide), e4, e5]
            by_cases hka : (k : Int) = a
            · have hk2 : k = a.toNat := by omega
              rw [up_eq hka, up_eq hka, hk2]
              refine ⟨?_, ?_, ho.1, ho.2, by omega, hn.2, fun j j0 j1 => ?_⟩
              · show (uF (uF s (76 + 2 * a.toNat) 1 o) (76 + 2 * a.toNat) 2 n).1 (76 + 2 * a.toNat) 1 = o
                simp [uF_1]
              · show (uF (uF s (76 + 2 * a.toNat) 1 o) (76 + 2 * a.toNat) 2 n).1 (76 + 2 * a.toNat) 2 = n
                simp [uF_1]
              · rw [g5, if_pos (by omega), cutI_0]
                refine ⟨?_, rfl⟩
                show (if 77 + 2 * a.toNat = 76 + 2 * a.toNat + 1 ∧ 0 ≤ j ∧ j < 60 then 0 else _) = 0
                rw [if_pos (by omega)]
            · have hk2 : k ≠ a.toNat := by omega
              rw [up_ne hka, up_ne hka]
              refine ⟨?_, ?_, b.2.2.1, b.2.2.2.1, b.2.2.2.2.1, b.2.2.2.2.2.1, fun j j0 j1 => ?_⟩
              · show (uF (uF s (76 + 2 * a.toNat) 1 o) (76 + 2 * a.toNat) 2 n).1 (76 + 2 * k) 1 = _
                rw [uF_1, if_neg (by omega), uF_1, if_neg (by omega)]
                exact b.1
              · show (uF (uF s (76 + 2 * a.toNat) 1 o) (76 + 2 * a.toNat) 2 n).1 (76 + 2 * k) 2 = _
                rw [uF_1, if_neg (by omega), uF_1, if_neg (by omega)]
                exact b.2.1
              · rw [g5, if_neg (by omega), uA_n _ (by decide), uA_n _ (by decide), e6]
                refine ⟨?_, (b.2.2.2.2.2.2 j j0 j1).2⟩
                show (if 77 + 2 * k = 76 + 2 * a.toNat + 1 ∧ 0 ≤ j ∧ j < 60 then 0 else s.2 (77 + 2 * k) j) = _
                rw [if_neg (by omega)]
                exact (b.2.2.2.2.2.2 j j0 j1).1
      · refine op_rd hI 0 1 (fun f => ?_) (fun t e f => ?_)
        · rw [B_X11_tray]
          simp (disch := first | assumption | omega) only [↓sm, ↓reduceIte, ↓if_pos, ↓if_neg, kI, kJ, kR, kV, w32_eq, w64_eq, reduceCtorEq, Int.reduceAdd, Int.reduceMul, Int.reduceSub, o_c3, ↓o_g3_0, ↓o_g3_1, ↓o_g3_2, ↓o_g3_3, ↓o_g3_4, ↓o_g3_5, ↓o_g3_6, ↓o_g3_7, ↓o_g3_8, ↓o_g3_9, ↓o_g3_10, ↓o_g3_11, ↓o_g3_12, ↓o_g3_13, ↓o_g3_14, ↓o_g3_15, ↓o_g3_16, ↓o_g3_17, ↓a_ln4, ↓a_ld4, ↓a_ln61, ↓a_ld61, ↓a_ln62, ↓a_ld62, ↓d_none Z, ↓d_done Z, ↓d_refused Z, ↓d_granted Z, ↓c_trayAt_t Z, ↓k_isIn_t Z, ↓k_isIn_f Z, reduceCtorEq]
        · rw [B_X12_tray]
          by_cases h0 : n < 0
          · simp (disch := first | assumption | omega) only [↓sm, ↓reduceIte, ↓if_pos, ↓if_neg, kI, kJ, kR, kV, w32_eq, w64_eq, reduceCtorEq, Int.reduceAdd, Int.reduceMul, Int.reduceSub, o_c141, ↓o_g141_0, ↓o_g141_1, ↓o_g141_5, ↓o_g141_6, ↓o_g141_7, ↓o_g141_8, ↓o_g141_9, ↓o_g141_21, ↓o_g141_25, ↓o_g141_26, ↓o_g141_27, ↓o_g141_28, ↓o_g141_29, ↓o_g141_30, ↓o_g141_31, ↓o_g141_34, ↓o_g141_35, ↓o_g141_36, ↓r_isTray_t Z, ↓d_refuse Z, ↓d_gives Z, ↓d_is0 Z, ↓d_is1 Z, ↓d_isFrom_t Z, ↓d_isFrom_f Z, ↓d_orNone_t Z, ↓d_orNone_f Z]
          · simp (disch := first | assumption | omega) only [↓sm, ↓reduceIte, ↓if_pos, ↓if_neg, kI, kJ, kR, kV, w32_eq, w64_eq, reduceCtorEq, Int.reduceAdd, Int.reduceMul, Int.reduceSub, o_c141, ↓o_g141_0, ↓o_g141_1, ↓o_g141_5, ↓o_g141_6, ↓o_g141_7, ↓o_g141_8, ↓o_g141_9, ↓o_g141_21, ↓o_g141_25, ↓o_g141_26, ↓o_g141_27, ↓o_g141_28, ↓o_g141_29, ↓o_g141_30, ↓o_g141_31, ↓o_g141_34, ↓o_g141_35, ↓o_g141_36, ↓r_isTray_t Z, ↓d_refuse Z, ↓d_gives Z, ↓d_is0 Z, ↓d_is1 Z, ↓d_isFrom_t Z, ↓d_isFrom_f Z, ↓d_orNone_t Z, ↓d_orNone_f Z]
    · refine op_rd hI 0 1 (fun f => ?_) (fun t e f => ?_)
      · rw [B_X11_tray]
        simp (disch := first | assumption | omega) only [↓sm, ↓reduceIte, ↓if_pos, ↓if_neg, kI, kJ, kR, kV, w32_eq, w64_eq, reduceCtorEq, Int.reduceAdd, Int.reduceMul, Int.reduceSub, o_c3, ↓o_g3_0, ↓o_g3_1, ↓o_g3_2, ↓o_g3_3, ↓o_g3_4, ↓o_g3_5, ↓o_g3_6, ↓o_g3_7, ↓o_g3_8, ↓o_g3_9, ↓o_g3_10, ↓o_g3_11, ↓o_g3_12, ↓o_g3_13, ↓o_g3_14, ↓o_g3_15, ↓o_g3_16, ↓o_g3_17, ↓a_ln4, ↓a_ld4, ↓a_ln61, ↓a_ld61, ↓a_ln62, ↓a_ld62, ↓d_none Z, ↓d_done Z, ↓d_refused Z, ↓d_granted Z, ↓c_trayAt_t Z, ↓k_isIn_f Z, reduceCtorEq]
      · rw [B_X12_tray]
        by_cases h0 : o < 0
        · simp (disch := first | assumption | omega) only [↓sm, ↓reduceIte, ↓if_pos, ↓if_neg, kI, kJ, kR, kV, w32_eq, w64_eq, reduceCtorEq, Int.reduceAdd, Int.reduceMul, Int.reduceSub, o_c141, ↓o_g141_0, ↓o_g141_1, ↓o_g141_5, ↓o_g141_6, ↓o_g141_7, ↓o_g141_8, ↓o_g141_9, ↓o_g141_21, ↓o_g141_25, ↓o_g141_26, ↓o_g141_27, ↓o_g141_28, ↓o_g141_29, ↓o_g141_30, ↓o_g141_31, ↓o_g141_34, ↓o_g141_35, ↓o_g141_36, ↓r_isTray_t Z, ↓d_refuse Z, ↓d_gives Z, ↓d_is0 Z, ↓d_is1 Z, ↓d_isFrom_t Z, ↓d_isFrom_f Z, ↓d_orNone_t Z, ↓d_orNone_f Z]
        · simp (disch := first | assumption | omega) only [↓sm, ↓reduceIte, ↓if_pos, ↓if_neg, kI, kJ, kR, kV, w32_eq, w64_eq, reduceCtorEq, Int.reduceAdd, Int.reduceMul, Int.reduceSub, o_c141, ↓o_g141_0, ↓o_g141_1, ↓o_g141_5, ↓o_g141_6, ↓o_g141_7, ↓o_g141_8, ↓o_g141_9, ↓o_g141_21, ↓o_g141_25, ↓o_g141_26, ↓o_g141_27, ↓o_g141_28, ↓o_g141_29, ↓o_g141_30, ↓o_g141_31, ↓o_g141_34, ↓o_g141_35, ↓o_g141_36, ↓r_isTray_t Z, ↓d_refuse Z, ↓d_gives Z, ↓d_is0 Z, ↓d_is1 Z, ↓d_isFrom_t Z, ↓d_isFrom_f Z, ↓d_orNone_t Z, ↓d_orNone_f Z]
  · refine op_rd hI 0 1 (fun f => ?_) (fun t e f => ?_)
    · rw [B_X11_tray]
      simp (disch := first | assumption | omega) only [↓sm, ↓reduceIte, ↓if_pos, ↓if_neg, kI, kJ, kR, kV, w32_eq, w64_eq, reduceCtorEq, Int.reduceAdd, Int.reduceMul, Int.reduceSub, o_c3, ↓o_g3_0, ↓o_g3_1, ↓o_g3_2, ↓o_g3_3, ↓o_g3_4, ↓o_g3_5, ↓o_g3_6, ↓o_g3_7, ↓o_g3_8, ↓o_g3_9, ↓o_g3_10, ↓o_g3_11, ↓o_g3_12, ↓o_g3_13, ↓o_g3_14, ↓o_g3_15, ↓o_g3_16, ↓o_g3_17, ↓a_ln4, ↓a_ld4, ↓a_ln61, ↓a_ld61, ↓a_ln62, ↓a_ld62, ↓d_none Z, ↓d_done Z, ↓d_refused Z, ↓d_granted Z, ↓c_trayAt_f Z, reduceCtorEq]
    · rw [B_X12_tray]
      simp (disch := first | assumption | omega) only [↓sm, ↓reduceIte, ↓if_pos, ↓if_neg, kI, kJ, kR, kV, w32_eq, w64_eq, reduceCtorEq, Int.reduceAdd, Int.reduceMul, Int.reduceSub, o_c141, ↓o_g141_0, ↓o_g141_1, ↓o_g141_5, ↓o_g141_6, ↓o_g141_7, ↓o_g141_8, ↓o_g141_9, ↓o_g141_21, ↓o_g141_25, ↓o_g141_26, ↓o_g141_27, ↓o_g141_28, ↓o_g141_29, ↓o_g141_30, ↓o_g141_31, ↓o_g141_34, ↓o_g141_35, ↓o_g141_36, ↓r_isTray_f Z, ↓d_refuse Z, ↓d_gives Z, ↓d_is0 Z, ↓d_is1 Z, ↓d_isFrom_t Z, ↓d_isFrom_f Z, ↓d_orNone_t Z, ↓d_orNone_f Z]
