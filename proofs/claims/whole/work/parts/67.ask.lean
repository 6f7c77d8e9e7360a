/-! fitsAt, ask -/
/-- the m-th of those that hold, from i on -/
def inS (P : Int → Bool) : Nat → Int → Int → Int
  | 0, _, _ => -1
  | k + 1, i, m => if P i then (if m = 0 then i else inS P k (i + 1) (m - 1)) else inS P k (i + 1) m
theorem inS_r (P : Int → Bool) : ∀ k : Nat, ∀ i m : Int, 0 ≤ i → -1 ≤ inS P k i m
  | 0, i, m, h => by unfold inS; omega
  | k + 1, i, m, h => by
    have h1 := inS_r P k (i + 1) (m - 1) (by omega)
    have h2 := inS_r P k (i + 1) m (by omega)
    unfold inS
    split
    · split <;> omega
    · omega
theorem lp_inSet (Z : mX) (w : mW) (P : Int → Bool) : ∀ i : Int, i ≤ 10 → ∀ m : Int, 0 ≤ i → zR32 m → 0 ≤ m → mm_at (zP Z) 132 4 [none, some (.inl ((bz P 10))), none, some (.inl m), some (.inl i)] [] w = some (some (.inl (inS P (10 - i).toNat i m)), w) := by
  unfold zR32
  refine up ?_ ?_
  · intro m i0 hm m0
    rw [B_X10_inSet_4]
    simp (disch := first | assumption | omega) only [↓sm, ↓reduceIte, ↓if_pos, ↓if_neg, kI, kJ, kR, kV, w32_eq, w64_eq, reduceCtorEq, Int.reduceAdd, Int.reduceMul, Int.reduceSub]
    rfl
  · intro i hi ih m i0 hm m0
    have et : tb (bz P 10) i.toNat = P i := by rw [tb_bz P (by omega), Int.toNat_of_nonneg i0, decide_eq_true (show i < 10 by omega), Bool.true_and]
    rw [B_X10_inSet_4, show (10 - i).toNat = (10 - (i + 1)).toNat + 1 by omega]
    unfold inS
    cases hp : P i
    · have g := ih m (by omega) hm m0
      simp (disch := first | assumption | omega) only [↓sm, ↓reduceIte, ↓if_pos, ↓if_neg, kI, kJ, kR, kV, w32_eq, w64_eq, reduceCtorEq, Int.reduceAdd, Int.reduceMul, Int.reduceSub, ↓k_has Z, et, hp, b2i_0, g, Bool.false_eq_true]
    · by_cases hz : m = 0
      · simp (disch := first | assumption | omega) only [↓sm, ↓reduceIte, ↓if_pos, ↓if_neg, kI, kJ, kR, kV, w32_eq, w64_eq, reduceCtorEq, Int.reduceAdd, Int.reduceMul, Int.reduceSub, ↓k_has Z, et, hp, b2i_0, hz]
      · have g := ih (m - 1) (by omega) (by omega) (by omega)
        rw [show m - 1 = m + -1 by omega] at g ⊢
        simp (disch := first | assumption | omega) only [↓sm, ↓reduceIte, ↓if_pos, ↓if_neg, kI, kJ, kR, kV, w32_eq, w64_eq, reduceCtorEq, Int.reduceAdd, Int.reduceMul, Int.reduceSub, ↓k_has Z, et, hp, b2i_0, hz, g]
theorem c_inSet (Z : mX) (s : mS) (P : Int → Bool) (m : Int) (hm : zR32 m) (m0 : 0 ≤ m) (f : Int → mW → mO) : mm_kI (mm_run (zP Z) 132 [.inr (.inr (some 74)), .inl ((bz P 10)), .inl m] (mk s)) f = f (inS P 10 0 m) (mk s) := by
  rw [B_X10_inSet, lp_inSet Z _ P 0 (by omega) m (by omega) hm m0, kI]
  rfl
theorem lp_fitsAt (Z : mX) (s : mS) (P : Int → Bool) (hP : ∀ j, 0 ≤ j → j < 10 → s.2 154 j = b2i (P j)) : ∀ i : Int, i ≤ 10 → ∀ m : Int, 0 ≤ i → zR32 m → 0 ≤ m →
    mm_at (zP Z) 335 26 [some (.inr (.inr (some 141))), none, none, none, none, none, some (.inl m), some (.inl i)] [] (mk s) = if inS P (10 - i).toNat i m = -1 then some (some (.inl (-1)), mk (uF s 141 2 6)) else some (some (.inl (inS P (10 - i).toNat i m)), mk (uF s 141 2 0)) := by
  unfold zR32
  refine up ?_ ?_
  · intro m i0 hm m0
    rw [if_pos (show inS P ((10 : Int) - 10).toNat 10 m = -1 from rfl), B_X12_fitsAt_26]
    simp (disch := first | assumption | omega) only [↓sm, ↓reduceIte, ↓if_pos, ↓if_neg, kI, kJ, kR, kV, w32_eq, w64_eq, reduceCtorEq, Int.reduceAdd, Int.reduceMul, Int.reduceSub, o_c141, ↓d_refuse Z, ↓d_gives Z, ↓d_is0 Z, ↓d_is1 Z, ↓d_isFrom_t Z, ↓d_isFrom_f Z, ↓d_orNone_t Z, ↓d_orNone_f Z]
  · intro i hi ih m i0 hm m0
    have e := hP i i0 hi
    rw [B_X12_fitsAt_26, show (10 - i).toNat = (10 - (i + 1)).toNat + 1 by omega]
    unfold inS
    cases hp : P i
    · rw [hp] at e
      have g := ih m (by omega) hm m0
      simp (disch := first | assumption | omega) only [↓sm, ↓reduceIte, ↓if_pos, ↓if_neg, kI, kJ, kR, kV, w32_eq, w64_eq, reduceCtorEq, Int.reduceAdd, Int.reduceMul, Int.reduceSub, o_c141, ↓o_g141_0, ↓o_g141_1, ↓o_g141_5, ↓o_g141_6, ↓o_g141_7, ↓o_g141_8, ↓o_g141_9, ↓o_g141_21, ↓o_g141_25, ↓o_g141_26, ↓o_g141_27, ↓o_g141_28, ↓o_g141_29, ↓o_g141_30, ↓o_g141_31, ↓o_g141_34, ↓o_g141_35, ↓o_g141_36, ↓a_ld154, e, b2i_0, g, Bool.false_eq_true]
    · rw [hp] at e
      by_cases hz : m = 0
      · rw [if_pos rfl, if_pos hz, if_neg (by omega)]
        simp (disch := first | assumption | omega) only [↓sm, ↓reduceIte, ↓if_pos, ↓if_neg, kI, kJ, kR, kV, w32_eq, w64_eq, reduceCtorEq, Int.reduceAdd, Int.reduceMul, Int.reduceSub, o_c141, ↓o_g141_0, ↓o_g141_1, ↓o_g141_5, ↓o_g141_6, ↓o_g141_7, ↓o_g141_8, ↓o_g141_9, ↓o_g141_21, ↓o_g141_25, ↓o_g141_26, ↓o_g141_27, ↓o_g141_28, ↓o_g141_29, ↓o_g141_30, ↓o_g141_31, ↓o_g141_34, ↓o_g141_35, ↓o_g141_36, ↓a_ld154, e, b2i_0, hz, ↓d_refuse Z, ↓d_gives Z, ↓d_is0 Z, ↓d_is1 Z, ↓d_isFrom_t Z, ↓d_isFrom_f Z, ↓d_orNone_t Z, ↓d_orNone_f Z]
      · have g := ih (m - 1) (by omega) (by omega) (by omega)
        rw [show m - 1 = m + -1 by omega] at g ⊢
        simp (disch := first | assumption | omega) only [↓sm, ↓reduceIte, ↓if_pos, ↓if_neg, kI, kJ, kR, kV, w32_eq, w64_eq, reduceCtorEq, Int.reduceAdd, Int.reduceMul, Int.reduceSub, o_c141, ↓o_g141_0, ↓o_g141_1, ↓o_g141_5, ↓o_g141_6, ↓o_g141_7, ↓o_g141_8, ↓o_g141_9, ↓o_g141_21, ↓o_g141_25, ↓o_g141_26, ↓o_g141_27, ↓o_g141_28, ↓o_g141_29, ↓o_g141_30, ↓o_g141_31, ↓o_g141_34, ↓o_g141_35, ↓o_g141_36, ↓a_ld154, e, b2i_0, hz, g]
theorem op_fitsAt (Z : mX) (s : mS) (hI : Inv s) (p a n m : Int) (hm : zR32 m) : OpI Z s 177 335 [.inl p, .inl a, .inl n, .inl m] := by
  have h := hI.2.2.1.2
  have hw := hI.2.2.1.1
  have hR := hI.2.2.2.1
  by_cases m0 : m < 0
  · refine op_rd hI (-1) 1 (fun f => ?_) (fun t e f => ?_)
    · rw [B_X11_fitsAt]
      by_cases ha : 0 ≤ a ∧ a < 4
      · simp (disch := first | assumption | omega) only [↓sm, ↓reduceIte, ↓if_pos, ↓if_neg, kI, kJ, kR, kV, w32_eq, w64_eq, reduceCtorEq, Int.reduceAdd, Int.reduceMul, Int.reduceSub, o_c3, ↓o_g3_0, ↓o_g3_1, ↓o_g3_2, ↓o_g3_3, ↓o_g3_4, ↓o_g3_5, ↓o_g3_6, ↓o_g3_7, ↓o_g3_8, ↓o_g3_9, ↓o_g3_10, ↓o_g3_11, ↓o_g3_12, ↓o_g3_13, ↓o_g3_14, ↓o_g3_15, ↓o_g3_16, ↓o_g3_17, ↓a_ln4, ↓a_ld4, ↓a_ln61, ↓a_ld61, ↓a_ln62, ↓a_ld62, ↓d_none Z, ↓d_done Z, ↓d_refused Z, ↓d_granted Z, ↓c_trayAt_t Z, B_X11_fitsAt_13, reduceCtorEq]
      · simp (disch := first | assumption | omega) only [↓sm, ↓reduceIte, ↓if_pos, ↓if_neg, kI, kJ, kR, kV, w32_eq, w64_eq, reduceCtorEq, Int.reduceAdd, Int.reduceMul, Int.reduceSub, o_c3, ↓o_g3_0, ↓o_g3_1, ↓o_g3_2, ↓o_g3_3, ↓o_g3_4, ↓o_g3_5, ↓o_g3_6, ↓o_g3_7, ↓o_g3_8, ↓o_g3_9, ↓o_g3_10, ↓o_g3_11, ↓o_g3_12, ↓o_g3_13, ↓o_g3_14, ↓o_g3_15, ↓o_g3_16, ↓o_g3_17, ↓a_ln4, ↓a_ld4, ↓a_ln61, ↓a_ld61, ↓a_ln62, ↓a_ld62, ↓d_none Z, ↓d_done Z, ↓d_refused Z, ↓d_granted Z, ↓c_trayAt_f Z, B_X11_fitsAt_13, reduceCtorEq]
    · rw [B_X12_fitsAt]
      simp (disch := first | assumption | omega) only [↓sm, ↓reduceIte, ↓if_pos, ↓if_neg, kI, kJ, kR, kV, w32_eq, w64_eq, reduceCtorEq, Int.reduceAdd, Int.reduceMul, Int.reduceSub, o_c141, ↓d_refuse Z, ↓d_gives Z, ↓d_is0 Z, ↓d_is1 Z, ↓d_isFrom_t Z, ↓d_isFrom_f Z, ↓d_orNone_t Z, ↓d_orNone_f Z, B_X12_fitsAt_9]
  by_cases ha : 0 ≤ a ∧ a < 4
  case neg =>
    obtain ⟨g1, g2⟩ := twos_f h hw Z p a n ha
    refine op_rd hI (-1) 1 (fun f => ?_) (fun t e f => ?_)
    · rw [B_X11_fitsAt]
      simp (disch := first | assumption | omega) only [↓sm, ↓reduceIte, ↓if_pos, ↓if_neg, kI, kJ, kR, kV, w32_eq, w64_eq, reduceCtorEq, Int.reduceAdd, Int.reduceMul, Int.reduceSub, o_c3, ↓o_g3_0, ↓o_g3_1, ↓o_g3_2, ↓o_g3_3, ↓o_g3_4, ↓o_g3_5, ↓o_g3_6, ↓o_g3_7, ↓o_g3_8, ↓o_g3_9, ↓o_g3_10, ↓o_g3_11, ↓o_g3_12, ↓o_g3_13, ↓o_g3_14, ↓o_g3_15, ↓o_g3_16, ↓o_g3_17, ↓a_ln4, ↓a_ld4, ↓a_ln61, ↓a_ld61, ↓a_ln62, ↓a_ld62, ↓d_none Z, ↓d_done Z, ↓d_refused Z, ↓d_granted Z, ↓c_trayAt_f Z, ↓g1, B_X11_fitsAt_13, reduceCtorEq]
    · have g2 := g2 t e
      rw [B_X12_fitsAt]
      simp (disch := first | assumption | omega) only [↓sm, ↓reduceIte, ↓if_pos, ↓if_neg, kI, kJ, kR, kV, w32_eq, w64_eq, reduceCtorEq, Int.reduceAdd, Int.reduceMul, Int.reduceSub, o_c141, ↓d_refuse Z, ↓d_gives Z, ↓d_is0 Z, ↓d_is1 Z, ↓d_isFrom_t Z, ↓d_isFrom_f Z, ↓d_orNone_t Z, ↓d_orNone_f Z, ↓g2, B_X12_fitsAt_9]
  case pos =>
    obtain ⟨v, v0, hs, g1, g2⟩ := twos_t h hw Z hR p a n ha.1 ha.2
    by_cases hv : v = 0
    case neg =>
      refine op_rdt hI (-1) v s (fun f => ?_) (Ag_refl _ _ _) (fun t e2 e5 e6 => ⟨t, fun f => ?_, Ag_refl _ _ _⟩)
      · rw [B_X11_fitsAt]
        simp (disch := first | assumption | omega) only [↓sm, ↓reduceIte, ↓if_pos, ↓if_neg, kI, kJ, kR, kV, w32_eq, w64_eq, reduceCtorEq, Int.reduceAdd, Int.reduceMul, Int.reduceSub, o_c3, ↓o_g3_0, ↓o_g3_1, ↓o_g3_2, ↓o_g3_3, ↓o_g3_4, ↓o_g3_5, ↓o_g3_6, ↓o_g3_7, ↓o_g3_8, ↓o_g3_9, ↓o_g3_10, ↓o_g3_11, ↓o_g3_12, ↓o_g3_13, ↓o_g3_14, ↓o_g3_15, ↓o_g3_16, ↓o_g3_17, ↓a_ln4, ↓a_ld4, ↓a_ln61, ↓a_ld61, ↓a_ln62, ↓a_ld62, ↓d_none Z, ↓d_done Z, ↓d_refused Z, ↓d_granted Z, ↓c_trayAt_t Z, ↓g1, B_X11_fitsAt_13, reduceCtorEq]
      · have g2 := g2 t e2 e5 e6
        rw [B_X12_fitsAt]
        simp (disch := first | assumption | omega) only [↓sm, ↓reduceIte, ↓if_pos, ↓if_neg, kI, kJ, kR, kV, w32_eq, w64_eq, reduceCtorEq, Int.reduceAdd, Int.reduceMul, Int.reduceSub, o_c141, ↓d_refuse Z, ↓d_gives Z, ↓d_is0 Z, ↓d_is1 Z, ↓d_isFrom_t Z, ↓d_isFrom_f Z, ↓d_orNone_t Z, ↓d_orNone_f Z, ↓g2, B_X12_fitsAt_9]
    case pos =>
      obtain ⟨p0, p1, n0, n1, n2, hk⟩ := hs hv
      have qa := isT_of (k := a.toNat) (by omega)
      have kf := fun f => c_fitting h hw Z qa _ p n p0 p1 n0 n1 (rd_of hR ha.1 ha.2 n2) hk f
      have ki := fun f => c_inSet Z s (fitP (s.2 142) (fun j => s.2 146 (60 * a + j)) p n) m hm (by omega) f
      have hr : ∀ t : mS, t.2 142 = s.2 142 → t.2 145 = s.2 145 → t.2 146 = s.2 146 → ∃ t', Ag a154 noF t t' ∧ mm_run (zP Z) 335 [.inr (.inr (some 141)), .inl p, .inl a, .inl n, .inl m] (mk t) = if inS (fitP (s.2 142) (fun j => s.2 146 (60 * a + j)) p n) 10 0 m = -1 then some (some (.inl (-1)), mk (uF t' 141 2 6)) else some (some (.inl (inS (fitP (s.2 142) (fun j => s.2 146 (60 * a + j)) p n) 10 0 m)), mk (uF t' 141 2 0)) := by
        intro t e2 e5 e6
        obtain ⟨t', k1, k2, k3⟩ := r_laysFits hw Z (fun j => s.2 146 (60 * a + j)) p n a p0 p1 n0 n1 ha.1 ha.2 hk t e2 (fun j j0 j1 => by rw [e6])
        have g2 := g2 t e2 e5 e6
        have kl := lp_fitsAt Z t' _ k3 0 (by omega) m (by omega) hm (by omega)
        refine ⟨t', k2, ?_⟩
        rw [B_X12_fitsAt]
        simp (disch := first | assumption | omega) only [↓sm, ↓reduceIte, ↓if_pos, ↓if_neg, kI, kJ, kR, kV, w32_eq, w64_eq, reduceCtorEq, Int.reduceAdd, Int.reduceMul, Int.reduceSub, o_c141, ↓d_refuse Z, ↓d_gives Z, ↓d_is0 Z, ↓d_is1 Z, ↓d_isFrom_t Z, ↓d_isFrom_f Z, ↓d_orNone_t Z, ↓d_orNone_f Z, ↓g2, hv, B_X12_fitsAt_9, ↓k1, kl]
        rfl
      have hi := inS_r (fitP (s.2 142) (fun j => s.2 146 (60 * a + j)) p n) 10 0 m (by omega)
      by_cases hz : inS (fitP (s.2 142) (fun j => s.2 146 (60 * a + j)) p n) 10 0 m = -1
      · refine op_rdt hI (-1) 6 s (fun f => ?_) (Ag_refl _ _ _) (fun t e2 e5 e6 => ?_)
        · rw [B_X11_fitsAt]
          simp (disch := first | assumption | omega) only [↓sm, ↓reduceIte, ↓if_pos, ↓if_neg, kI, kJ, kR, kV, w32_eq, w64_eq, reduceCtorEq, Int.reduceAdd, Int.reduceMul, Int.reduceSub, o_c3, ↓o_g3_0, ↓o_g3_1, ↓o_g3_2, ↓o_g3_3, ↓o_g3_4, ↓o_g3_5, ↓o_g3_6, ↓o_g3_7, ↓o_g3_8, ↓o_g3_9, ↓o_g3_10, ↓o_g3_11, ↓o_g3_12, ↓o_g3_13, ↓o_g3_14, ↓o_g3_15, ↓o_g3_16, ↓o_g3_17, ↓a_ln4, ↓a_ld4, ↓a_ln61, ↓a_ld61, ↓a_ln62, ↓a_ld62, ↓d_none Z, ↓d_done Z, ↓d_refused Z, ↓d_granted Z, ↓c_trayAt_t Z, ↓g1, hv, B_X11_fitsAt_13, reduceCtorEq, o_c74, ↓kf, ↓ki, hz]
        · obtain ⟨t', k2, k1⟩ := hr t e2 e5 e6
          refine ⟨t', fun f => ?_, a154_rsc k2⟩
          rw [k1, if_pos hz, kI]
      · refine op_rdt hI (inS (fitP (s.2 142) (fun j => s.2 146 (60 * a + j)) p n) 10 0 m) 0 s (fun f => ?_) (Ag_refl _ _ _) (fun t e2 e5 e6 => ?_)
        · rw [B_X11_fitsAt]
          simp (disch := first | assumption | omega) only [↓sm, ↓reduceIte, ↓if_pos, ↓if_neg, kI, kJ, kR, kV, w32_eq, w64_eq, reduceCtorEq, Int.reduceAdd, Int.reduceMul, Int.reduceSub, o_c3, ↓o_g3_0, ↓o_g3_1, ↓o_g3_2, ↓o_g3_3, ↓o_g3_4, ↓o_g3_5, ↓o_g3_6, ↓o_g3_7, ↓o_g3_8, ↓o_g3_9, ↓o_g3_10, ↓o_g3_11, ↓o_g3_12, ↓o_g3_13, ↓o_g3_14, ↓o_g3_15, ↓o_g3_16, ↓o_g3_17, ↓a_ln4, ↓a_ld4, ↓a_ln61, ↓a_ld61, ↓a_ln62, ↓a_ld62, ↓d_none Z, ↓d_done Z, ↓d_refused Z, ↓d_granted Z, ↓c_trayAt_t Z, ↓g1, hv, B_X11_fitsAt_13, reduceCtorEq, o_c74, ↓kf, ↓ki, hz]
        · obtain ⟨t', k2, k1⟩ := hr t e2 e5 e6
          refine ⟨t', fun f => ?_, a154_rsc k2⟩
          rw [k1, if_neg hz, kI]
/-! ask -/
/-- among those before i, how many are caught v times -/
def cn (P : Int → Bool) (C : Int → Int) (i v : Int) : Int := cntP (fun h => P h && decide (C h = v)) i
theorem cn_s (P : Int → Bool) (C : Int → Int) {i : Int} (v : Int) (i0 : 0 ≤ i) : cn P C (i + 1) v = cn P C i v + b2i (P i && decide (C i = v)) := cntP_s _ i0
theorem cn_r (P : Int → Bool) (C : Int → Int) (i v : Int) (i0 : 0 ≤ i) : 0 ≤ cn P C i v ∧ cn P C i v ≤ i := cntP_r _ i i0
/-- the most of those before i that are caught alike, where what is caught alike is counted among those before k -/
def isMx (P : Int → Bool) (C : Int → Int) (k i m : Int) : Prop := (∀ h, 0 ≤ h → h < i → P h = true → cn P C k (C h) ≤ m) ∧ ((m = 0 ∧ ∀ h, 0 ≤ h → h < i → P h = false) ∨ ∃ h, 0 ≤ h ∧ h < i ∧ P h = true ∧ cn P C k (C h) = m)
theorem isMx_u {P : Int → Bool} {C : Int → Int} {k i m m' : Int} (h1 : isMx P C k i m) (h2 : isMx P C k i m') : m = m' := by
  obtain ⟨a1, a2⟩ := h1
  obtain ⟨b1, b2⟩ := h2
  rcases a2 with ⟨e1, n1⟩ | ⟨x, x0, x1, x2, x3⟩
  · rcases b2 with ⟨e2, n2⟩ | ⟨y, y0, y1, y2, y3⟩
    · omega
    · have := n1 y y0 y1
      rw [y2] at this
      cases this
  · rcases b2 with ⟨e2, n2⟩ | ⟨y, y0, y1, y2, y3⟩
    · have := n2 x x0 x1
      rw [x2] at this
      cases this
    · have := a1 y y0 y1 y2
      have := b1 x x0 x1 x2
      omega
theorem isMx_0 (P : Int → Bool) (C : Int → Int) (k : Int) : isMx P C k 0 0 := ⟨fun h h0 h1 => absurd h1 (by omega), Or.inl ⟨rfl, fun h h0 h1 => absurd h1 (by omega)⟩⟩
theorem isMx_f {P : Int → Bool} {C : Int → Int} {k i m : Int} (g : isMx P C k i m) (hp : P i = false) : isMx P C k (i + 1) m := by
  refine ⟨fun h h0 h1 hh => ?_, ?_⟩
  · by_cases e : h = i
    · rw [e, hp] at hh
      cases hh
    · exact g.1 h h0 (by omega) hh
  · rcases g.2 with ⟨e1, n1⟩ | ⟨x, x0, x1, x2, x3⟩
    · refine Or.inl ⟨e1, fun h h0 h1 => ?_⟩
      by_cases e : h = i
      · rw [e, hp]
      · exact n1 h h0 (by omega)
    · exact Or.inr ⟨x, x0, by omega, x2, x3⟩
theorem isMx_t {P : Int → Bool} {C : Int → Int} {k i m : Int} (g : isMx P C k i m) (i0 : 0 ≤ i) (hp : P i = true) (hm : 0 ≤ cn P C k (C i)) : isMx P C k (i + 1) (if m < cn P C k (C i) then cn P C k (C i) else m) := by
  refine ⟨fun h h0 h1 hh => ?_, ?_⟩
  · by_cases e : h = i
    · rw [e]; split <;> omega
    · have := g.1 h h0 (by omega) hh
      split <;> omega
  · by_cases hlt : m < cn P C k (C i)
    · rw [if_pos hlt]
      exact Or.inr ⟨i, i0, by omega, hp, rfl⟩
    · rw [if_neg hlt]
      rcases g.2 with ⟨e1, n1⟩ | ⟨x, x0, x1, x2, x3⟩
      · exact Or.inr ⟨i, i0, by omega, hp, by omega⟩
      · exact Or.inr ⟨x, x0, by omega, x2, x3⟩
/-- counted among those before i, then one more -/
theorem isMx_k {P : Int → Bool} {C : Int → Int} {i m : Int} (g : isMx P C i i m) (i0 : 0 ≤ i) (hp : P i = true) : isMx P C (i + 1) (i + 1) (if m < cn P C i (C i) + 1 then cn P C i (C i) + 1 else m) := by
  have e0 : ∀ h, C h = C i → cn P C (i + 1) (C h) = cn P C i (C i) + 1 := by
    intro h e
    rw [cn_s _ _ _ i0, e, hp]
    simp [b2i]
  have e1 : ∀ h, C h ≠ C i → cn P C (i + 1) (C h) = cn P C i (C h) := by
    intro h e
    rw [cn_s _ _ _ i0, hp, decide_eq_false (fun x => e x.symm)]
    simp [b2i]
  refine ⟨fun h h0 h1 hh => ?_, ?_⟩
  · by_cases e : C h = C i
    · rw [e0 h e]; split <;> omega
    · rw [e1 h e]
      have := g.1 h h0 (by
        have : h ≠ i := fun x => e (by rw [x])
        omega) hh
      split <;> omega
  · by_cases hlt : m < cn P C i (C i) + 1
    · rw [if_pos hlt]
      exact Or.inr ⟨i, i0, by omega, hp, e0 i rfl⟩
    · rw [if_neg hlt]
      have cr := cn_r P C i (C i) i0
      rcases g.2 with ⟨e1', n1⟩ | ⟨x, x0, x1, x2, x3⟩
      · omega
      · refine Or.inr ⟨x, x0, by omega, x2, ?_⟩
        by_cases e : C x = C i
        · rw [e] at x3
          omega
        · rw [e1 x e]; exact x3
theorem isMx_kf {P : Int → Bool} {C : Int → Int} {i m : Int} (g : isMx P C i i m) (i0 : 0 ≤ i) (hp : P i = false) : isMx P C (i + 1) (i + 1) m := by
  have e1 : ∀ v, cn P C (i + 1) v = cn P C i v := by
    intro v
    rw [cn_s _ _ _ i0, hp]
    simp [b2i]
  have g' : isMx P C (i + 1) i m := ⟨fun h h0 h1 hh => by rw [e1]; exact g.1 h h0 h1 hh, by
    rcases g.2 with x | ⟨x, x0, x1, x2, x3⟩
    · exact Or.inl x
    · exact Or.inr ⟨x, x0, x1, x2, by rw [e1]; exact x3⟩⟩
  exact isMx_f g' hp
theorem isMx_r {P : Int → Bool} {C : Int → Int} {k i m : Int} (g : isMx P C k i m) (k0 : 0 ≤ k) : 0 ≤ m ∧ m ≤ k := by
  rcases g.2 with ⟨e, _⟩ | ⟨x, _, _, _, x3⟩
  · omega
  · have := cn_r P C k (C x) k0
    omega
def a75 (q : Nat) : Prop := q = 75
theorem CS_75 {s t : mS} {S N : Int → Int} (h : CS s 7 S N) (g : Ag a75 noF s t) : CS t 7 S N := CS_fr h (fun k => g.2 7 k (fun x => x)) (fun j j0 j1 => g.1 _ (by unfold a75; omega))
theorem lp_most (Z : mX) {S N : Int → Int} (hw : WF S) (P : Int → Bool) (p c : Int) (p0 : 0 ≤ p) (p1 : p < S 3) (c0 : 0 ≤ c) (c1 : c < 25) : ∀ i : Int, i ≤ 10 → ∀ (s : mS) (m : Int), CS s 7 S N → 0 ≤ i → (∀ v, 0 ≤ v → v < 19 → s.2 75 v = cn P (ct S p c) i v) → isMx P (ct S p c) i i m →
    ∃ s' m', mm_at (zP Z) 134 8 [some (.inr (.inr (some 74))), some (.inl p), some (.inl ((bz P 10))), some (.inl c), some (.inl m), some (.inl i), none] [] (mk s) = some (some (.inl m'), mk s') ∧ Ag a75 noF s s' ∧ isMx P (ct S p c) 10 10 m' := by
  refine up ?_ ?_
  · intro s m h i0 hr hm
    refine ⟨s, m, ?_, Ag_refl _ _ _, hm⟩
    rw [B_X10_mostWithOneCatch_8]
    simp (disch := first | assumption | omega) only [↓sm, ↓reduceIte, ↓if_pos, ↓if_neg, kI, kJ, kR, kV, w32_eq, w64_eq, reduceCtorEq, Int.reduceAdd, Int.reduceMul, Int.reduceSub]
  · intro i hi ih s m h i0 hr hm
    have et : tb (bz P 10) i.toNat = P i := by rw [tb_bz P (by omega), Int.toNat_of_nonneg i0, decide_eq_true (show i < 10 by omega), Bool.true_and]
    have cr := ct_r hw p0 p1 c0 c1 i0 (show i ≤ 9 by omega)
    have mr := isMx_r hm i0
    rw [B_X10_mostWithOneCatch_8]
    cases hp : P i
    · obtain ⟨s', m', g1, g2, g3⟩ := ih s m h (by omega) (fun v v0 v1 => by rw [hr v v0 v1, cn_s _ _ _ i0, hp]; simp [b2i]) (isMx_kf hm i0 hp)
      refine ⟨s', m', ?_, g2, g3⟩
      simp (disch := first | assumption | omega) only [↓sm, ↓reduceIte, ↓if_pos, ↓if_neg, kI, kJ, kR, kV, w32_eq, w64_eq, reduceCtorEq, Int.reduceAdd, Int.reduceMul, Int.reduceSub, ↓k_has Z, et, hp, b2i_0, g1, Bool.false_eq_true]
    · have nr := cn_r P (ct S p c) i (ct S p c i) i0
      have hv := hr (ct S p c i) (by omega) (by omega)
      have gA : Ag a75 noF s (uA s 75 (ct S p c i) (cn P (ct S p c) i (ct S p c i) + 1)) := Ag_uA (Ag_refl _ _ _) (by unfold a75; omega) _ _
      obtain ⟨s', m', g1, g2, g3⟩ := ih (uA s 75 (ct S p c i) (cn P (ct S p c) i (ct S p c i) + 1)) _ (CS_75 h gA) (by omega) (fun v v0 v1 => by
        rw [uA_s, cn_s _ _ _ i0, hp]
        by_cases e : v = ct S p c i
        · rw [up_eq e, e]; simp [b2i]
        · rw [up_ne e, hr v v0 v1, decide_eq_false (fun x => e x.symm)]; simp [b2i]) (isMx_k hm i0 hp)
      refine ⟨s', m', ?_, Ag_trans gA g2, g3⟩
      have ev : (uA s 75 (ct S p c i) (cn P (ct S p c) i (ct S p c i) + 1)).2 75 (ct S p c i) = cn P (ct S p c) i (ct S p c i) + 1 := by rw [uA_s, up_eq rfl]
      simp (disch := first | assumption | omega) only [↓sm, ↓reduceIte, ↓if_pos, ↓if_neg, kI, kJ, kR, kV, w32_eq, w64_eq, reduceCtorEq, Int.reduceAdd, Int.reduceMul, Int.reduceSub, ↓k_has Z, et, hp, b2i_0, o_c74, ↓o_g74_0, ↓o_g74_1, o_c7, ↓c_catchOf h hw Z, ↓g_75 Z, g_75 Z, hv, ↓p_75 Z, p_75 Z, ev, g1]
theorem c_most (Z : mX) {S N : Int → Int} (hw : WF S) (P : Int → Bool) (p c : Int) (p0 : 0 ≤ p) (p1 : p < S 3) (c0 : 0 ≤ c) (c1 : c < 25) (s : mS) (h : CS s 7 S N) : ∃ s' m', (∀ f : Int → mW → mO, mm_kI (mm_run (zP Z) 134 [.inr (.inr (some 74)), .inl p, .inl ((bz P 10)), .inl c] (mk s)) f = f m' (mk s')) ∧ Ag a75 noF s s' ∧ isMx P (ct S p c) 10 10 m' := by
  have gA : Ag a75 noF s (fA s 75 19 0) := Ag_fA (Ag_refl _ _ _) (by unfold a75; omega) _ _
  obtain ⟨s', m', g1, g2, g3⟩ := lp_most Z hw P p c p0 p1 c0 c1 0 (by omega) (fA s 75 19 0) 0 (CS_75 h gA) (by omega) (fun v v0 v1 => by
    show (if 75 = 75 ∧ 0 ≤ v ∧ v < 19 then (0 : Int) else s.2 75 v) = _
    rw [if_pos ⟨rfl, v0, v1⟩]
    rfl) (isMx_0 _ _ _)
  refine ⟨s', m', fun f => ?_, Ag_trans gA g2, g3⟩
  have kf := fun f => k_fill Z s (q := 75) (n := 19) rfl (by decide) 0 f
  rw [B_X10_mostWithOneCatch]
  simp (disch := first | assumption | omega) only [↓sm, ↓reduceIte, ↓if_pos, ↓if_neg, kI, kJ, kR, kV, w32_eq, w64_eq, reduceCtorEq, Int.reduceAdd, Int.reduceMul, Int.reduceSub, o_c74, ↓o_g74_0, ↓o_g74_1, ↓kf]
  rw [show ((19 : Nat) : Int) = 19 from rfl, g1, kI]
theorem lp_alike1 {S : Int → Int} (hw : WF S) (Z : mX) (P : Int → Bool) (p c : Int) (p0 : 0 ≤ p) (p1 : p < S 3) (c0 : 0 ≤ c) (c1 : c < 25) (s : mS) (e : s.2 142 = S) (hP : ∀ j, 0 ≤ j → j < 10 → s.2 154 j = b2i (P j)) (m t : Int) (t0 : 0 ≤ t) (t1 : t ≤ 9) : ∀ i : Int, i ≤ 10 → 0 ≤ i →
    mm_at (zP Z) 336 11 [some (.inr (.inr (some 141))), some (.inl p), some (.inl c), some (.inl m), some (.inl t), some (.inl ((if P t then cn P (ct S p c) i (ct S p c t) else 0))), some (.inl i)] [] (mk s) = mm_at (zP Z) 336 11 [some (.inr (.inr (some 141))), some (.inl p), some (.inl c), some (.inl m), some (.inl t), some (.inl ((if P t then cn P (ct S p c) 10 (ct S p c t) else 0))), some (.inl 10)] [] (mk s) := by
  refine up ?_ ?_
  · intro i0
    rfl
  · intro i hi ih i0
    rw [← ih (by omega)]
    have nr := cn_r P (ct S p c) i (ct S p c t) i0
    have et := hP t t0 (by omega)
    have ei := hP i i0 hi
    have cs := cn_s P (ct S p c) (ct S p c t) i0
    conv => lhs; rw [B_X12_mostAlike_11]
    cases ht : P t
    · rw [ht] at et
      simp (disch := first | assumption | omega) only [↓sm, ↓reduceIte, ↓if_pos, ↓if_neg, kI, kJ, kR, kV, w32_eq, w64_eq, reduceCtorEq, Int.reduceAdd, Int.reduceMul, Int.reduceSub, o_c141, ↓o_g141_0, ↓o_g141_1, ↓o_g141_5, ↓o_g141_6, ↓o_g141_7, ↓o_g141_8, ↓o_g141_9, ↓o_g141_21, ↓o_g141_25, ↓o_g141_26, ↓o_g141_27, ↓o_g141_28, ↓o_g141_29, ↓o_g141_30, ↓o_g141_31, ↓o_g141_34, ↓o_g141_35, ↓o_g141_36, ↓a_ld154, et, b2i_0, Bool.false_eq_true]
    · rw [ht] at et
      cases hp : P i
      · rw [hp] at ei cs
        rw [Bool.false_and, show b2i false = 0 from rfl, Int.add_zero] at cs
        simp (disch := first | assumption | omega) only [↓sm, ↓reduceIte, ↓if_pos, ↓if_neg, kI, kJ, kR, kV, w32_eq, w64_eq, reduceCtorEq, Int.reduceAdd, Int.reduceMul, Int.reduceSub, o_c141, ↓o_g141_0, ↓o_g141_1, ↓o_g141_5, ↓o_g141_6, ↓o_g141_7, ↓o_g141_8, ↓o_g141_9, ↓o_g141_21, ↓o_g141_25, ↓o_g141_26, ↓o_g141_27, ↓o_g141_28, ↓o_g141_29, ↓o_g141_30, ↓o_g141_31, ↓o_g141_34, ↓o_g141_35, ↓o_g141_36, ↓a_ld154, et, ei, b2i_0, cs, Bool.false_eq_true, Int.add_zero]
      · rw [hp] at ei cs
        by_cases hc : ct S p c t = ct S p c i
        · rw [decide_eq_true hc.symm, show b2i (true && true) = 1 from rfl] at cs
          rw [hc] at cs nr
          simp (disch := first | assumption | omega) only [↓sm, ↓reduceIte, ↓if_pos, ↓if_neg, kI, kJ, kR, kV, w32_eq, w64_eq, reduceCtorEq, Int.reduceAdd, Int.reduceMul, Int.reduceSub, o_c141, ↓o_g141_0, ↓o_g141_1, ↓o_g141_5, ↓o_g141_6, ↓o_g141_7, ↓o_g141_8, ↓o_g141_9, ↓o_g141_21, ↓o_g141_25, ↓o_g141_26, ↓o_g141_27, ↓o_g141_28, ↓o_g141_29, ↓o_g141_30, ↓o_g141_31, ↓o_g141_34, ↓o_g141_35, ↓o_g141_36, ↓a_ld154, et, ei, b2i_0, cs, ↓r_catchBy e hw Z, hc]
        · rw [decide_eq_false (fun x => hc x.symm), show b2i (true && false) = 0 from rfl, Int.add_zero] at cs
          simp (disch := first | assumption | omega) only [↓sm, ↓reduceIte, ↓if_pos, ↓if_neg, kI, kJ, kR, kV, w32_eq, w64_eq, reduceCtorEq, Int.reduceAdd, Int.reduceMul, Int.reduceSub, o_c141, ↓o_g141_0, ↓o_g141_1, ↓o_g141_5, ↓o_g141_6, ↓o_g141_7, ↓o_g141_8, ↓o_g141_9, ↓o_g141_21, ↓o_g141_25, ↓o_g141_26, ↓o_g141_27, ↓o_g141_28, ↓o_g141_29, ↓o_g141_30, ↓o_g141_31, ↓o_g141_34, ↓o_g141_35, ↓o_g141_36, ↓a_ld154, et, ei, b2i_0, cs, ↓r_catchBy e hw Z, hc, Int.add_zero]
theorem lp_alike {S : Int → Int} (hw : WF S) (Z : mX) (P : Int → Bool) (p c : Int) (p0 : 0 ≤ p) (p1 : p < S 3) (c0 : 0 ≤ c) (c1 : c < 25) (s : mS) (e : s.2 142 = S) (hP : ∀ j, 0 ≤ j → j < 10 → s.2 154 j = b2i (P j)) : ∀ i : Int, i ≤ 10 → ∀ m : Int, 0 ≤ i → isMx P (ct S p c) 10 i m →
    ∃ m', mm_at (zP Z) 336 4 [some (.inr (.inr (some 141))), some (.inl p), some (.inl c), some (.inl m), some (.inl i), none, none] [] (mk s) = some (some (.inl m'), mk s) ∧ isMx P (ct S p c) 10 10 m' := by
  refine up ?_ ?_
  · intro m i0 hm
    refine ⟨m, ?_, hm⟩
    rw [B_X12_mostAlike_4]
    simp (disch := first | assumption | omega) only [↓sm, ↓reduceIte, ↓if_pos, ↓if_neg, kI, kJ, kR, kV, w32_eq, w64_eq, reduceCtorEq, Int.reduceAdd, Int.reduceMul, Int.reduceSub]
  · intro i hi ih m i0 hm
    have g := lp_alike1 hw Z P p c p0 p1 c0 c1 s e hP m i i0 (by omega) 0 (by omega) (by omega)
    rw [show cn P (ct S p c) 0 (ct S p c i) = 0 from rfl, ite_self] at g
    have nr := cn_r P (ct S p c) 10 (ct S p c i) (by omega)
    have mr := isMx_r hm (by omega)
    cases hp : P i
    · obtain ⟨m', g1, g2⟩ := ih m (by omega) (isMx_f hm hp)
      refine ⟨m', ?_, g2⟩
      rw [hp] at g
      rw [B_X12_mostAlike_4]
      simp (disch := first | assumption | omega) only [↓sm, ↓reduceIte, ↓if_pos, ↓if_neg, kI, kJ, kR, kV, w32_eq, w64_eq, reduceCtorEq, Int.reduceAdd, Int.reduceMul, Int.reduceSub, g]
      rw [B_X12_mostAlike_11]
      simp (disch := first | assumption | omega) only [↓sm, ↓reduceIte, ↓if_pos, ↓if_neg, kI, kJ, kR, kV, w32_eq, w64_eq, reduceCtorEq, Int.reduceAdd, Int.reduceMul, Int.reduceSub, Bool.false_eq_true, g1]
    · obtain ⟨m', g1, g2⟩ := ih _ (by omega) (isMx_t hm i0 hp nr.1)
      refine ⟨m', ?_, g2⟩
      rw [hp] at g
      rw [B_X12_mostAlike_4]
      simp (disch := first | assumption | omega) only [↓sm, ↓reduceIte, ↓if_pos, ↓if_neg, kI, kJ, kR, kV, w32_eq, w64_eq, reduceCtorEq, Int.reduceAdd, Int.reduceMul, Int.reduceSub, g]
      rw [B_X12_mostAlike_11]
      simp (disch := first | assumption | omega) only [↓sm, ↓reduceIte, ↓if_pos, ↓if_neg, kI, kJ, kR, kV, w32_eq, w64_eq, reduceCtorEq, Int.reduceAdd, Int.reduceMul, Int.reduceSub, g1]
theorem r_alike {S : Int → Int} (hw : WF S) (Z : mX) (P : Int → Bool) (p c : Int) (p0 : 0 ≤ p) (p1 : p < S 3) (c0 : 0 ≤ c) (c1 : c < 25) (s : mS) (e : s.2 142 = S) (hP : ∀ j, 0 ≤ j → j < 10 → s.2 154 j = b2i (P j)) (m : Int) (hm : isMx P (ct S p c) 10 10 m) (f : Int → mW → mO) : mm_kI (mm_run (zP Z) 336 [.inr (.inr (some 141)), .inl p, .inl c] (mk s)) f = f m (mk s) := by
  obtain ⟨m', g1, g2⟩ := lp_alike hw Z P p c p0 p1 c0 c1 s e hP 0 (by omega) 0 (by omega) (isMx_0 _ _ _)
  rw [B_X12_mostAlike, g1, kI, isMx_u g2 hm]
theorem lp_best (Z : mX) {S N : Int → Int} (hw : WF S) (P : Int → Bool) (p : Int) (p0 : 0 ≤ p) (p1 : p < S 3) : ∀ i : Int, i ≤ ncl S → ∀ (s : mS) (b m : Int), CS s 7 S N → 0 ≤ i → 0 ≤ b → b < ncl S → isMx P (ct S p b) 10 10 m →
    ∃ s' v, mm_at (zP Z) 133 6 [some (.inr (.inr (some 74))), some (.inl p), some (.inl ((bz P 10))), some (.inl b), some (.inl m), some (.inl i), none] [] (mk s) = some (some (.inl v), mk s') ∧ Ag a75 noF s s' ∧
      ∀ t : mS, t.2 142 = S → (∀ j, 0 ≤ j → j < 10 → t.2 154 j = b2i (P j)) → mm_at (zP Z) 337 27 [some (.inr (.inr (some 141))), some (.inl p), none, none, none, some (.inl b), some (.inl i)] [] (mk t) = some (some (.inl v), mk (uF t 141 2 0)) := by
  have nn := wf_n hw
  refine up ?_ ?_
  · intro s b m h i0 b0 b1 hm
    refine ⟨s, b, ?_, Ag_refl _ _ _, fun t e hP => ?_⟩
    · rw [B_X10_bestAsked_6]
      simp (disch := first | assumption | omega) only [↓sm, ↓reduceIte, ↓if_pos, ↓if_neg, kI, kJ, kR, kV, w32_eq, w64_eq, reduceCtorEq, Int.reduceAdd, Int.reduceMul, Int.reduceSub, o_c74, ↓o_g74_0, ↓o_g74_1, o_c7, ↓c_cells h hw Z]
    · rw [B_X12_ask_27]
      simp (disch := first | assumption | omega) only [↓sm, ↓reduceIte, ↓if_pos, ↓if_neg, kI, kJ, kR, kV, w32_eq, w64_eq, reduceCtorEq, Int.reduceAdd, Int.reduceMul, Int.reduceSub, o_c141, ↓r_cellsOf e hw Z, ↓d_refuse Z, ↓d_gives Z, ↓d_is0 Z, ↓d_is1 Z, ↓d_isFrom_t Z, ↓d_isFrom_f Z, ↓d_orNone_t Z, ↓d_orNone_f Z]
  · intro i hi ih s b m h i0 b0 b1 hm
    obtain ⟨s1, m1, k1, k2, k3⟩ := c_most Z hw P p i p0 p1 i0 (by omega) s h
    have h1 := CS_75 h k2
    have mr := isMx_r k3 (by omega)
    by_cases hlt : m1 < m
    · obtain ⟨s', v, g1, g2, g3⟩ := ih s1 i m1 h1 (by omega) i0 hi k3
      refine ⟨s', v, ?_, Ag_trans k2 g2, fun t e hP => ?_⟩
      · rw [B_X10_bestAsked_6]
        simp (disch := first | assumption | omega) only [↓sm, ↓reduceIte, ↓if_pos, ↓if_neg, kI, kJ, kR, kV, w32_eq, w64_eq, reduceCtorEq, Int.reduceAdd, Int.reduceMul, Int.reduceSub, o_c74, ↓o_g74_0, ↓o_g74_1, o_c7, o_c74, ↓c_cells h hw Z, ↓k1, hlt, g1]
      · have q1 := fun f => r_alike hw Z P p i p0 p1 i0 (by omega) t e hP m1 k3 f
        have q2 := fun f => r_alike hw Z P p b p0 p1 b0 (by omega) t e hP m hm f
        have g3 := g3 t e hP
        rw [B_X12_ask_27]
        simp (disch := first | assumption | omega) only [↓sm, ↓reduceIte, ↓if_pos, ↓if_neg, kI, kJ, kR, kV, w32_eq, w64_eq, reduceCtorEq, Int.reduceAdd, Int.reduceMul, Int.reduceSub, o_c141, ↓r_cellsOf e hw Z, ↓q1, ↓q2, hlt, g3]
    · obtain ⟨s', v, g1, g2, g3⟩ := ih s1 b m h1 (by omega) b0 b1 hm
      refine ⟨s', v, ?_, Ag_trans k2 g2, fun t e hP => ?_⟩
      · rw [B_X10_bestAsked_6]
        simp (disch := first | assumption | omega) only [↓sm, ↓reduceIte, ↓if_pos, ↓if_neg, kI, kJ, kR, kV, w32_eq, w64_eq, reduceCtorEq, Int.reduceAdd, Int.reduceMul, Int.reduceSub, o_c74, ↓o_g74_0, ↓o_g74_1, o_c7, o_c74, ↓c_cells h hw Z, ↓k1, hlt, g1]
      · have q1 := fun f => r_alike hw Z P p i p0 p1 i0 (by omega) t e hP m1 k3 f
        have q2 := fun f => r_alike hw Z P p b p0 p1 b0 (by omega) t e hP m hm f
        have g3 := g3 t e hP
        rw [B_X12_ask_27]
        simp (disch := first | assumption | omega) only [↓sm, ↓reduceIte, ↓if_pos, ↓if_neg, kI, kJ, kR, kV, w32_eq, w64_eq, reduceCtorEq, Int.reduceAdd, Int.reduceMul, Int.reduceSub, o_c141, ↓r_cellsOf e hw Z, ↓q1, ↓q2, hlt, g3]
theorem c_best (Z : mX) {S N : Int → Int} (hw : WF S) (P : Int → Bool) (p : Int) (p0 : 0 ≤ p) (p1 : p < S 3) (s : mS) (h : CS s 7 S N) : ∃ s' v, (∀ f : Int → mW → mO, mm_kI (mm_run (zP Z) 133 [.inr (.inr (some 74)), .inl p, .inl ((bz P 10))] (mk s)) f = f v (mk s')) ∧ Ag a75 noF s s' ∧
      ∀ t : mS, t.2 142 = S → (∀ j, 0 ≤ j → j < 10 → t.2 154 j = b2i (P j)) → mm_at (zP Z) 337 27 [some (.inr (.inr (some 141))), some (.inl p), none, none, none, some (.inl 0), some (.inl 1)] [] (mk t) = some (some (.inl v), mk (uF t 141 2 0)) := by
  have nn := wf_n hw
  obtain ⟨s1, m1, k1, k2, k3⟩ := c_most Z hw P p 0 p0 p1 (by omega) (by omega) s h
  have mr := isMx_r k3 (by omega)
  obtain ⟨s', v, g1, g2, g3⟩ := lp_best Z hw P p p0 p1 1 (by omega) s1 0 m1 (CS_75 h k2) (by omega) (by omega) (by omega) k3
  refine ⟨s', v, fun f => ?_, Ag_trans k2 g2, g3⟩
  rw [B_X10_bestAsked, B_X10_bestAsked_6]
  simp (disch := first | assumption | omega) only [↓sm, ↓reduceIte, ↓if_pos, ↓if_neg, kI, kJ, kR, kV, w32_eq, w64_eq, reduceCtorEq, Int.reduceAdd, Int.reduceMul, Int.reduceSub, o_c74, ↓o_g74_0, ↓o_g74_1, o_c7, o_c74, ↓c_cells h hw Z, ↓k1, g1]
theorem a75_csc {s t : mS} (h : Ag a75 noF s t) : csc s t := Ag_mono h (fun q hq => by unfold a75 at hq; unfold scA; omega) (fun q k hq => hq.elim)
theorem op_ask (Z : mX) (s : mS) (hI : Inv s) (p a n : Int) : OpI Z s 178 337 [.inl p, .inl a, .inl n] := by
  have h := hI.2.2.1.2
  have hw := hI.2.2.1.1
  have hR := hI.2.2.2.1
  by_cases ha : 0 ≤ a ∧ a < 4
  case neg =>
    obtain ⟨g1, g2⟩ := twos_f h hw Z p a n ha
    refine op_rd hI (-1) 1 (fun f => ?_) (fun t e f => ?_)
    · rw [B_X11_ask]
      simp (disch := first | assumption | omega) only [↓sm, ↓reduceIte, ↓if_pos, ↓if_neg, kI, kJ, kR, kV, w32_eq, w64_eq, reduceCtorEq, Int.reduceAdd, Int.reduceMul, Int.reduceSub, o_c3, ↓o_g3_0, ↓o_g3_1, ↓o_g3_2, ↓o_g3_3, ↓o_g3_4, ↓o_g3_5, ↓o_g3_6, ↓o_g3_7, ↓o_g3_8, ↓o_g3_9, ↓o_g3_10, ↓o_g3_11, ↓o_g3_12, ↓o_g3_13, ↓o_g3_14, ↓o_g3_15, ↓o_g3_16, ↓o_g3_17, ↓a_ln4, ↓a_ld4, ↓a_ln61, ↓a_ld61, ↓a_ln62, ↓a_ld62, ↓d_none Z, ↓d_done Z, ↓d_refused Z, ↓d_granted Z, ↓c_trayAt_f Z, ↓g1, reduceCtorEq]
    · have g2 := g2 t e
      rw [B_X12_ask]
      simp (disch := first | assumption | omega) only [↓sm, ↓reduceIte, ↓if_pos, ↓if_neg, kI, kJ, kR, kV, w32_eq, w64_eq, reduceCtorEq, Int.reduceAdd, Int.reduceMul, Int.reduceSub, o_c141, ↓d_refuse Z, ↓d_gives Z, ↓d_is0 Z, ↓d_is1 Z, ↓d_isFrom_t Z, ↓d_isFrom_f Z, ↓d_orNone_t Z, ↓d_orNone_f Z, ↓g2]
  case pos =>
    obtain ⟨v, v0, hs, g1, g2⟩ := twos_t h hw Z hR p a n ha.1 ha.2
    by_cases hv : v = 0
    case neg =>
      refine op_rdt hI (-1) v s (fun f => ?_) (Ag_refl _ _ _) (fun t e2 e5 e6 => ⟨t, fun f => ?_, Ag_refl _ _ _⟩)
      · rw [B_X11_ask]
        simp (disch := first | assumption | omega) only [↓sm, ↓reduceIte, ↓if_pos, ↓if_neg, kI, kJ, kR, kV, w32_eq, w64_eq, reduceCtorEq, Int.reduceAdd, Int.reduceMul, Int.reduceSub, o_c3, ↓o_g3_0, ↓o_g3_1, ↓o_g3_2, ↓o_g3_3, ↓o_g3_4, ↓o_g3_5, ↓o_g3_6, ↓o_g3_7, ↓o_g3_8, ↓o_g3_9, ↓o_g3_10, ↓o_g3_11, ↓o_g3_12, ↓o_g3_13, ↓o_g3_14, ↓o_g3_15, ↓o_g3_16, ↓o_g3_17, ↓a_ln4, ↓a_ld4, ↓a_ln61, ↓a_ld61, ↓a_ln62, ↓a_ld62, ↓d_none Z, ↓d_done Z, ↓d_refused Z, ↓d_granted Z, ↓c_trayAt_t Z, ↓g1, reduceCtorEq]
      · have g2 := g2 t e2 e5 e6
        rw [B_X12_ask]
        simp (disch := first | assumption | omega) only [↓sm, ↓reduceIte, ↓if_pos, ↓if_neg, kI, kJ, kR, kV, w32_eq, w64_eq, reduceCtorEq, Int.reduceAdd, Int.reduceMul, Int.reduceSub, o_c141, ↓d_refuse Z, ↓d_gives Z, ↓d_is0 Z, ↓d_is1 Z, ↓d_isFrom_t Z, ↓d_isFrom_f Z, ↓d_orNone_t Z, ↓d_orNone_f Z, ↓g2]
    case pos =>
      obtain ⟨p0, p1, n0, n1, n2, hk⟩ := hs hv
      have qa := isT_of (k := a.toNat) (by omega)
      have kf := fun f => c_fitting h hw Z qa _ p n p0 p1 n0 n1 (rd_of hR ha.1 ha.2 n2) hk f
      have br := bz_1024 (fitP (s.2 142) (fun j => s.2 146 (60 * a + j)) p n)
      have hr : ∀ t : mS, t.2 142 = s.2 142 → t.2 145 = s.2 145 → t.2 146 = s.2 146 → ∃ t', (∀ f : Int → mW → mO, mm_kI (mm_run (zP Z) 333 [.inr (.inr (some 141)), .inl p, .inl a, .inl n] (mk t)) f = f (cntP (fitP (s.2 142) (fun j => s.2 146 (60 * a + j)) p n) 10) (mk t')) ∧ Ag a154 noF t t' ∧ ∀ j, 0 ≤ j → j < 10 → t'.2 154 j = b2i (fitP (s.2 142) (fun j => s.2 146 (60 * a + j)) p n j) :=
        fun t e2 e5 e6 => r_laysFits hw Z (fun j => s.2 146 (60 * a + j)) p n a p0 p1 n0 n1 ha.1 ha.2 hk t e2 (fun j j0 j1 => by rw [e6])
      by_cases h2 : cntP (fitP (s.2 142) (fun j => s.2 146 (60 * a + j)) p n) 10 < 2
      · refine op_rdt hI (-1) 6 s (fun f => ?_) (Ag_refl _ _ _) (fun t e2 e5 e6 => ?_)
        · rw [B_X11_ask]
          simp (disch := first | assumption | omega) only [↓sm, ↓reduceIte, ↓if_pos, ↓if_neg, kI, kJ, kR, kV, w32_eq, w64_eq, reduceCtorEq, Int.reduceAdd, Int.reduceMul, Int.reduceSub, o_c3, ↓o_g3_0, ↓o_g3_1, ↓o_g3_2, ↓o_g3_3, ↓o_g3_4, ↓o_g3_5, ↓o_g3_6, ↓o_g3_7, ↓o_g3_8, ↓o_g3_9, ↓o_g3_10, ↓o_g3_11, ↓o_g3_12, ↓o_g3_13, ↓o_g3_14, ↓o_g3_15, ↓o_g3_16, ↓o_g3_17, ↓a_ln4, ↓a_ld4, ↓a_ln61, ↓a_ld61, ↓a_ln62, ↓a_ld62, ↓d_none Z, ↓d_done Z, ↓d_refused Z, ↓d_granted Z, ↓c_trayAt_t Z, ↓g1, hv, reduceCtorEq, o_c74, ↓kf, ↓k_bitCount, pc_bz, h2]
        · obtain ⟨t', k1, k2, k3⟩ := hr t e2 e5 e6
          refine ⟨t', fun f => ?_, a154_rsc k2⟩
          have g2 := g2 t e2 e5 e6
          rw [B_X12_ask]
          simp (disch := first | assumption | omega) only [↓sm, ↓reduceIte, ↓if_pos, ↓if_neg, kI, kJ, kR, kV, w32_eq, w64_eq, reduceCtorEq, Int.reduceAdd, Int.reduceMul, Int.reduceSub, o_c141, ↓d_refuse Z, ↓d_gives Z, ↓d_is0 Z, ↓d_is1 Z, ↓d_isFrom_t Z, ↓d_isFrom_f Z, ↓d_orNone_t Z, ↓d_orNone_f Z, ↓g2, hv, ↓k1, h2]
      · obtain ⟨s', v', c1, c2, c3⟩ := c_best Z hw (fitP (s.2 142) (fun j => s.2 146 (60 * a + j)) p n) p p0 p1 s h
        refine op_rdt hI v' 0 s' (fun f => ?_) (a75_csc c2) (fun t e2 e5 e6 => ?_)
        · rw [B_X11_ask]
          simp (disch := first | assumption | omega) only [↓sm, ↓reduceIte, ↓if_pos, ↓if_neg, kI, kJ, kR, kV, w32_eq, w64_eq, reduceCtorEq, Int.reduceAdd, Int.reduceMul, Int.reduceSub, o_c3, ↓o_g3_0, ↓o_g3_1, ↓o_g3_2, ↓o_g3_3, ↓o_g3_4, ↓o_g3_5, ↓o_g3_6, ↓o_g3_7, ↓o_g3_8, ↓o_g3_9, ↓o_g3_10, ↓o_g3_11, ↓o_g3_12, ↓o_g3_13, ↓o_g3_14, ↓o_g3_15, ↓o_g3_16, ↓o_g3_17, ↓a_ln4, ↓a_ld4, ↓a_ln61, ↓a_ld61, ↓a_ln62, ↓a_ld62, ↓d_none Z, ↓d_done Z, ↓d_refused Z, ↓d_granted Z, ↓c_trayAt_t Z, ↓g1, hv, reduceCtorEq, o_c74, ↓kf, ↓k_bitCount, pc_bz, h2, ↓c1]
        · obtain ⟨t', k1, k2, k3⟩ := hr t e2 e5 e6
          refine ⟨t', fun f => ?_, a154_rsc k2⟩
          have g2 := g2 t e2 e5 e6
          have g3 := c3 t' ((k2.1 142 (by unfold a154; omega)).trans e2) k3
          rw [B_X12_ask]
          simp (disch := first | assumption | omega) only [↓sm, ↓reduceIte, ↓if_pos, ↓if_neg, kI, kJ, kR, kV, w32_eq, w64_eq, reduceCtorEq, Int.reduceAdd, Int.reduceMul, Int.reduceSub, o_c141, ↓d_refuse Z, ↓d_gives Z, ↓d_is0 Z, ↓d_is1 Z, ↓d_isFrom_t Z, ↓d_isFrom_f Z, ↓d_orNone_t Z, ↓d_orNone_f Z, ↓g2, hv, ↓k1, h2, g3]
