/-! the mean over seeds -/
def cW (s : mS) (i : Int) : mS := (s.1, fun q j => if q = 142 ∧ 2360 ≤ j ∧ j < 2360 + i then s.2 142 (j - 2360) else s.2 q j)
def cV (s : mS) (i : Int) : mS := (s.1, fun q j => if q = 142 ∧ 0 ≤ j ∧ j < i then s.2 142 (2360 + j) else s.2 q j)
theorem cW_0 (s : mS) : cW s 0 = s := by
  refine Prod.ext rfl (funext fun q => funext fun j => ?_)
  show (if _ then _ else _) = _
  rw [if_neg (by omega)]
theorem cV_0 (s : mS) : cV s 0 = s := by
  refine Prod.ext rfl (funext fun q => funext fun j => ?_)
  show (if _ then _ else _) = _
  rw [if_neg (by omega)]
theorem cW_s (s : mS) (i : Int) (h0 : 0 ≤ i) : uA (cW s i) 142 (2360 + i) (s.2 142 i) = cW s (i + 1) := by
  refine Prod.ext rfl (funext fun q => funext fun j => ?_)
  show (if q = 142 ∧ j = 2360 + i then s.2 142 i else if q = 142 ∧ 2360 ≤ j ∧ j < 2360 + i then s.2 142 (j - 2360) else s.2 q j) = if q = 142 ∧ 2360 ≤ j ∧ j < 2360 + (i + 1) then s.2 142 (j - 2360) else s.2 q j
  by_cases hq : q = 142
  · by_cases h1 : j = 2360 + i
    · rw [if_pos ⟨hq, h1⟩, if_pos ⟨hq, by omega, by omega⟩, h1, show 2360 + i - 2360 = i by omega]
    · rw [if_neg (by omega)]
      by_cases h2 : 2360 ≤ j ∧ j < 2360 + i
      · rw [if_pos ⟨hq, h2⟩, if_pos ⟨hq, by omega⟩]
      · rw [if_neg (by omega), if_neg (by omega)]
  · simp [hq]
theorem cV_s (s : mS) (i : Int) (h0 : 0 ≤ i) : uA (cV s i) 142 i (s.2 142 (2360 + i)) = cV s (i + 1) := by
  refine Prod.ext rfl (funext fun q => funext fun j => ?_)
  show (if q = 142 ∧ j = i then s.2 142 (2360 + i) else if q = 142 ∧ 0 ≤ j ∧ j < i then s.2 142 (2360 + j) else s.2 q j) = if q = 142 ∧ 0 ≤ j ∧ j < i + 1 then s.2 142 (2360 + j) else s.2 q j
  by_cases hq : q = 142
  · by_cases h1 : j = i
    · rw [if_pos ⟨hq, h1⟩, if_pos ⟨hq, by omega, by omega⟩, h1]
    · rw [if_neg (by omega)]
      by_cases h2 : 0 ≤ j ∧ j < i
      · rw [if_pos ⟨hq, h2⟩, if_pos ⟨hq, by omega⟩]
      · rw [if_neg (by omega), if_neg (by omega)]
  · simp [hq]
theorem cW_r (s : mS) (i j : Int) (h : ¬ (2360 ≤ j ∧ j < 2360 + i)) : (cW s i).2 142 j = s.2 142 j := by
  show (if _ then _ else _) = _
  rw [if_neg (by omega)]
theorem cV_r (s : mS) (i j : Int) (h : ¬ (0 ≤ j ∧ j < i)) : (cV s i).2 142 j = s.2 142 j := by
  show (if _ then _ else _) = _
  rw [if_neg (by omega)]
theorem lp_cW (Z : mX) (t : mS) (a b : Int) : ∀ i : Int, i ≤ 104 → 0 ≤ i → mm_at (zP Z) 360 35 [some (.inr (.inr (some 141))), some (.inl a), some (.inl b), some (.inl i), none, none, none] [] (mk (cW t i)) = mm_at (zP Z) 360 54 [some (.inr (.inr (some 141))), some (.inl a), some (.inl b), some (.inr (.inl 0)), none, some (.inl 0), none] [] (mk (cW t 104)) := by
  refine up ?_ ?_
  · intro h0
    rw [B_X12_mean_35]
    simp (disch := first | assumption | omega) only [↓sm, ↓reduceIte, ↓if_pos, ↓if_neg, kI, kJ, kR, kV, w32_eq, w64_eq, reduceCtorEq, Int.reduceAdd, Int.reduceMul, Int.reduceSub]
  · intro i hi ih h0
    have e1 := cW_r t i i (by omega)
    have e2 := cW_s t i h0
    rw [B_X12_mean_35]
    simp (disch := first | assumption | omega) only [↓sm, ↓reduceIte, ↓if_pos, ↓if_neg, kI, kJ, kR, kV, w32_eq, w64_eq, reduceCtorEq, Int.reduceAdd, Int.reduceMul, Int.reduceSub, o_c141, ↓o_g141_0, ↓o_g141_1, ↓o_g141_5, ↓o_g141_6, ↓o_g141_7, ↓o_g141_8, ↓o_g141_9, ↓o_g141_21, ↓o_g141_25, ↓o_g141_26, ↓o_g141_27, ↓o_g141_28, ↓o_g141_29, ↓o_g141_30, ↓o_g141_31, ↓o_g141_34, ↓o_g141_35, ↓o_g141_36, ↓a_ld142, e1, ↓r_stw, e2]
    exact ih (by omega)
theorem lp_cV (Z : mX) (t : mS) (a b A k : Int) (k0 : 0 ≤ k) (k1 : k < 100) : ∀ i : Int, i ≤ 104 → 0 ≤ i → mm_at (zP Z) 360 71 [some (.inr (.inr (some 141))), some (.inl a), some (.inl b), some (.inr (.inl A)), none, some (.inl k), some (.inl i)] [] (mk (cV t i)) = mm_at (zP Z) 360 54 [some (.inr (.inr (some 141))), some (.inl a), some (.inl b), some (.inr (.inl A)), none, some (.inl ((k + 1))), none] [] (mk (cV t 104)) := by
  refine up ?_ ?_
  · intro h0
    rw [B_X12_mean_71]
    simp (disch := first | assumption | omega) only [↓sm, ↓reduceIte, ↓if_pos, ↓if_neg, kI, kJ, kR, kV, w32_eq, w64_eq, reduceCtorEq, Int.reduceAdd, Int.reduceMul, Int.reduceSub]
  · intro i hi ih h0
    have e1 := cV_r t i (2360 + i) (by omega)
    have e2 := cV_s t i h0
    have w1 : mm_w32 (2360 + i) = 2360 + i := w32_eq (by omega) (by omega)
    rw [B_X12_mean_71, w1]
    simp (disch := first | assumption | omega) only [↓sm, ↓reduceIte, ↓if_pos, ↓if_neg, kI, kJ, kR, kV, w32_eq, w64_eq, reduceCtorEq, Int.reduceAdd, Int.reduceMul, Int.reduceSub, o_c141, ↓o_g141_0, ↓o_g141_1, ↓o_g141_5, ↓o_g141_6, ↓o_g141_7, ↓o_g141_8, ↓o_g141_9, ↓o_g141_21, ↓o_g141_25, ↓o_g141_26, ↓o_g141_27, ↓o_g141_28, ↓o_g141_29, ↓o_g141_30, ↓o_g141_31, ↓o_g141_34, ↓o_g141_35, ↓o_g141_36, ↓a_ld142, e1, a_st142, e2]
    exact ih (by omega)
theorem pu_r {S : Int → Int} (hw : WF S) : 0 ≤ puS S 5 ∧ puS S 5 ≤ 50000 := by
  have w := wf0 hw
  have := sumI_ge (fun p => S (74 + 6 * p + 5)) 9999 (S 3).toNat (fun i i0 i1 => by
    have := wf_p hw i0 (show i < S 3 by omega)
    omega)
  unfold puS
  omega
/-- as the reference's memory was at the start, kept at WORK too -/
def mnO (S0 S : Int → Int) : Prop := (∀ j, 0 ≤ j → j < 2360 → S j = S0 j) ∧ (∀ j, 0 ≤ j → j < 104 → S (2360 + j) = S0 j)
theorem lp_mean (Z : mX) {S0 N : Int → Int} (a b : Int) (a0 : 0 ≤ a) (b1 : 1 ≤ b) (b20 : b ≤ 20) (ab : a + b ≤ 10000) (w0 : WF S0) (n0 : 0 ≤ S0 7) : ∀ i : Int, i ≤ b → 0 ≤ i → ∀ (s : mS) (S : Int → Int) (A : Int), mnO S0 S → CS s 7 S0 N → CS s 20 S0 N → AU s 33 S0 → 0 ≤ A → A ≤ 50000 * i →
    ∃ s' S' T, 0 ≤ T ∧ T ≤ 50000 * b ∧ mm_at (zP Z) 187 33 [some (.inr (.inr (some 3))), some (.inl a), some (.inl b), some (.inr (.inl A)), none, some (.inl i)] [] (mk s) = mm_at (zP Z) 187 33 [some (.inr (.inr (some 3))), some (.inl a), some (.inl b), some (.inr (.inl T)), none, some (.inl b)] [] (mk s') ∧ mnO S0 S' ∧ CS s' 7 S0 N ∧ Ag laA laF s s' ∧
      ∀ t : mS, t.2 142 = S → ∃ t', mm_at (zP Z) 360 54 [some (.inr (.inr (some 141))), some (.inl a), some (.inl b), some (.inr (.inl A)), none, some (.inl i), none] [] (mk t) = mm_at (zP Z) 360 54 [some (.inr (.inr (some 141))), some (.inl a), some (.inl b), some (.inr (.inl T)), none, some (.inl b), none] [] (mk t') ∧ t'.2 142 = S' ∧ Ag lbA lbF t t' := by
  refine up ?_ ?_
  · intro _ s S A hS c7 c20 hu hA0 hA1
    exact ⟨s, S, A, hA0, hA1, rfl, hS, c7, Ag_refl _ _ _, fun t e => ⟨t, rfl, e, Ag_refl _ _ _⟩⟩
  · intro i hi ih h0 s S A hS c7 c20 hu hA0 hA1
    have wS : WF S := WF_ext w0 (fun j j0 j1 => hS.1 j j0 (by omega))
    have cS : CS s 7 S N := CS_ext w0 c7 (fun j j0 j1 => hS.1 j j0 (by omega)) (fun _ _ _ => rfl)
    have uS : AU s 33 S := AU_ext hu (fun j j0 j1 => hS.1 j j0 (by omega))
    obtain ⟨s1, S1, c, w1, k1, cs1, ag, R⟩ := run_both Z wS cS uS (by rw [hS.1 7 (by omega) (by omega)]; exact n0) (a + i) (by omega) (by omega)
    have pr := pu_r w1
    have c20' : CS s1 20 S0 N := CS_fr c20 (fun k => ag.2 20 k (by unfold laF; omega)) (fun j j0 j1 => ag.1 _ (by unfold laA scl; omega))
    have i7 : isC 7 := by unfold isC; omega
    have i20 : isC 20 := by unfold isC; omega
    have ag2 : Ag laA laF s (cpS s1 7 20) := cpS_Ag ag 7 20 (fun r r0 r1 => by unfold laA scl; omega) (fun r k hr => by unfold laF; omega)
    have m0 : mnO S0 (fun j => if 0 ≤ j ∧ j < 104 then S1 (2360 + j) else S1 j) := by
      refine ⟨fun j j0 j1 => ?_, fun j j0 j1 => ?_⟩
      · show (if 0 ≤ j ∧ j < 104 then S1 (2360 + j) else S1 j) = _
        by_cases hj : j < 104
        · rw [if_pos ⟨j0, hj⟩, k1.1 _ (by omega)]
          exact hS.2 j j0 hj
        · rw [if_neg (by omega), k1.1 _ (by omega)]
          exact hS.1 j j0 j1
      · show (if 0 ≤ 2360 + j ∧ 2360 + j < 104 then S1 (2360 + (2360 + j)) else S1 (2360 + j)) = _
        rw [if_neg (by omega), k1.1 _ (by omega)]
        exact hS.2 j j0 j1
    obtain ⟨s', S', T, T0, T1, g, m', c7', ag3, R'⟩ := ih (by omega) (cpS s1 7 20) (fun j => if 0 ≤ j ∧ j < 104 then S1 (2360 + j) else S1 j) (A + puS S1 5) m0 (CS_cp w0 c20' i7 i20 (by omega)) (CS_fr c20 (fun k => ag2.2 20 k (by unfold laF; omega)) (fun j j0 j1 => ag2.1 _ (by unfold laA scl; omega))) (AU_fr hu (fun k => ag2.2 33 k (by unfold laF; omega)) (fun j j0 j1 => ag2.1 _ (by unfold laA scl; omega))) (by omega) (by omega)
    refine ⟨s', S', T, T0, T1, ?_, m', c7', Ag_trans ag2 ag3, fun t et => ?_⟩
    · have wA : mm_w64 (A + puS S1 5) = A + puS S1 5 := w64_eq (by omega) (by omega)
      have wi : mm_w32 (a + i) = a + i := w32_eq (by omega) (by omega)
      rw [← g]
      conv => lhs; rw [B_X11_mean_33]
      simp (disch := first | assumption | omega) only [↓sm, ↓reduceIte, ↓if_pos, ↓if_neg, kI, kJ, kR, kV, w32_eq, w64_eq, reduceCtorEq, Int.reduceAdd, Int.reduceMul, Int.reduceSub, o_c3, ↓o_g3_0, ↓o_g3_1, ↓o_g3_2, ↓o_g3_3, ↓o_g3_4, ↓o_g3_5, ↓o_g3_6, ↓o_g3_7, ↓o_g3_8, ↓o_g3_9, ↓o_g3_10, ↓o_g3_11, ↓o_g3_12, ↓o_g3_13, ↓o_g3_14, ↓o_g3_15, ↓o_g3_16, ↓o_g3_17, ↓a_ln4, ↓a_ld4, ↓a_ln61, ↓a_ld61, ↓a_ln62, ↓a_ld62, wi, c, o_c63, o_c7, o_g7_16, c_sum18 cs1 w1 Z, o_g3_2, o_g3_3, c_copyS Z s1 i7 i20 (by omega), wA]
    · obtain ⟨t1, r, e1, ag4, -⟩ := R t et
      obtain ⟨t2, g2, e2, ag5⟩ := R' (cV t1 104) (by
        funext j
        show (if 142 = 142 ∧ 0 ≤ j ∧ j < 104 then t1.2 142 (2360 + j) else t1.2 142 j) = if 0 ≤ j ∧ j < 104 then S1 (2360 + j) else S1 j
        rw [e1]
        simp)
      have wA : mm_w64 (A + puS S1 5) = A + puS S1 5 := w64_eq (by omega) (by omega)
      have wi : mm_w32 (a + i) = a + i := w32_eq (by omega) (by omega)
      have h := lp_cV Z t1 a b (A + puS S1 5) i h0 (by omega) 0 (by omega) (by omega)
      rw [cV_0] at h
      have agV : Ag lbA lbF t1 (cV t1 104) := ⟨fun q hq => by
        funext j
        show (if q = 142 ∧ _ then _ else _) = _
        rw [if_neg (fun x => hq (Or.inl x.1))], fun _ _ _ => rfl⟩
      refine ⟨t2, ?_, e2, Ag_trans (Ag_trans ag4 agV) ag5⟩
      rw [← g2, ← h]
      conv => lhs; rw [B_X12_mean_54]
      simp (disch := first | assumption | omega) only [↓sm, ↓reduceIte, ↓if_pos, ↓if_neg, kI, kJ, kR, kV, w32_eq, w64_eq, reduceCtorEq, Int.reduceAdd, Int.reduceMul, Int.reduceSub, o_c141, ↓o_g141_0, ↓o_g141_1, ↓o_g141_5, ↓o_g141_6, ↓o_g141_7, ↓o_g141_8, ↓o_g141_9, ↓o_g141_21, ↓o_g141_25, ↓o_g141_26, ↓o_g141_27, ↓o_g141_28, ↓o_g141_29, ↓o_g141_30, ↓o_g141_31, ↓o_g141_34, ↓o_g141_35, ↓o_g141_36, wi, r, r_together0 e1 w1 Z, wA]
theorem op_mean (Z : mX) (s : mS) (hI : Inv s) (a b : Int) : OpI Z s 187 360 [.inl a, .inl b] := by
  obtain ⟨i1, i2, ⟨w, cs⟩, i4, i5, i6, i7, i8⟩ := id hI
  by_cases hb : 1 ≤ b ∧ b ≤ 20
  · obtain ⟨b1, b20⟩ := hb
    have wb : mm_w32 (10000 - b) = 10000 - b := w32_eq (by omega) (by omega)
    by_cases ha : 0 ≤ a ∧ a ≤ 10000 - b
    · obtain ⟨a0, a1⟩ := ha
      have wab : mm_w32 (mm_w32 (a + b) - 1) = a + b - 1 := by rw [w32_eq (x := a + b) (by omega) (by omega), w32_eq (by omega) (by omega)]
      have n9 : ¬ 9999 < a + b - 1 := by omega
      by_cases h7 : s.2 142 7 = -1
      · have t0 : s.1 33 0 = 0 := by
          obtain ⟨x, -⟩ := i6
          omega
        refine op_rd hI 0 6 (fun f => ?_) (fun t e f => ?_)
        · rw [B_X11_mean, wb]
          simp (disch := first | assumption | omega) only [↓sm, ↓reduceIte, ↓if_pos, ↓if_neg, kI, kJ, kR, kV, w32_eq, w64_eq, reduceCtorEq, Int.reduceAdd, Int.reduceMul, Int.reduceSub, o_c3, ↓o_g3_0, ↓o_g3_1, ↓o_g3_2, ↓o_g3_3, ↓o_g3_4, ↓o_g3_5, ↓o_g3_6, ↓o_g3_7, ↓o_g3_8, ↓o_g3_9, ↓o_g3_10, ↓o_g3_11, ↓o_g3_12, ↓o_g3_13, ↓o_g3_14, ↓o_g3_15, ↓o_g3_16, ↓o_g3_17, ↓a_ln4, ↓a_ld4, ↓a_ln61, ↓a_ld61, ↓a_ln62, ↓a_ld62, ↓d_none Z, ↓d_done Z, ↓d_refused Z, ↓d_granted Z, ↓k_isIn_t Z, o_c33, ↓o_g33_0, ↓o_g33_1, ↓o_g33_2, ↓o_g33_3, ↓o_g33_4, ↓o_g33_5, ↓o_g33_6, ↓o_g33_7, ↓a_ln34, ↓a_ld34, ↓a_ln35, ↓a_ld35, ↓a_ln36, ↓a_ld36, ↓a_ln37, ↓a_ld37, ↓a_ln38, ↓a_ld38, t0]
        · rw [B_X12_mean, wab]
          simp (disch := first | assumption | omega) only [↓sm, ↓reduceIte, ↓if_pos, ↓if_neg, kI, kJ, kR, kV, w32_eq, w64_eq, reduceCtorEq, Int.reduceAdd, Int.reduceMul, Int.reduceSub, o_c141, ↓o_g141_0, ↓o_g141_1, ↓o_g141_5, ↓o_g141_6, ↓o_g141_7, ↓o_g141_8, ↓o_g141_9, ↓o_g141_21, ↓o_g141_25, ↓o_g141_26, ↓o_g141_27, ↓o_g141_28, ↓o_g141_29, ↓o_g141_30, ↓o_g141_31, ↓o_g141_34, ↓o_g141_35, ↓o_g141_36, ↓d_refuse Z, ↓d_gives Z, ↓d_is0 Z, ↓d_is1 Z, ↓d_isFrom_t Z, ↓d_isFrom_f Z, ↓d_orNone_t Z, ↓d_orNone_f Z, ↓r_at e, h7]
      · have t1 : s.1 33 0 = 1 ∧ 0 ≤ s.2 142 7 := by
          obtain ⟨x, -⟩ := i6
          omega
        obtain ⟨t1, n0⟩ := t1
        have i7' : isC 7 := by unfold isC; omega
        have i20 : isC 20 := by unfold isC; omega
        have agK : ∀ q, ¬ (21 ≤ q ∧ q ≤ 32) → (cpS s 20 7).2 q = s.2 q := fun q hq => (cpS_Ag (A := fun q => 21 ≤ q ∧ q ≤ 32) (F := fun q _ => q = 20) (Ag_refl _ _ s) 20 7 (fun r r0 r1 => by omega) (fun r k hr => hr)).1 q hq
        have afK : ∀ q k, q ≠ 20 → (cpS s 20 7).1 q k = s.1 q k := fun q k hq => (cpS_Ag (A := fun q => 21 ≤ q ∧ q ≤ 32) (F := fun q _ => q = 20) (Ag_refl _ _ s) 20 7 (fun r r0 r1 => by omega) (fun r k hr => hr)).2 q k hq
        have k7 : CS (cpS s 20 7) 7 (s.2 142) (s.2 143) := CS_fr cs (fun k => afK 7 k (by omega)) (fun j j0 j1 => agK _ (by omega))
        have k20 : CS (cpS s 20 7) 20 (s.2 142) (s.2 143) := CS_cp w cs i20 i7' (by omega)
        have kU : AU (cpS s 20 7) 33 (s.2 142) := AU_fr i6 (fun k => afK 33 k (by omega)) (fun j j0 j1 => agK _ (by omega))
        obtain ⟨s', S', T, T0, T1, g, m', c7', ag, R⟩ := lp_mean Z a b a0 b1 b20 (by omega) w n0 0 (by omega) (by omega) (cpS s 20 7) (fun j => if 2360 ≤ j ∧ j < 2464 then s.2 142 (j - 2360) else s.2 142 j) 0 ⟨fun j j0 j1 => by
          show (if _ then _ else _) = _
          rw [if_neg (by omega)], fun j j0 j1 => by
          show (if _ then _ else _) = _
          rw [if_pos (by omega), show 2360 + j - 2360 = j by omega]⟩ k7 k20 kU (by omega) (by omega)
        obtain ⟨V, U, hT1, hT2⟩ := tell Z T b T0 (by omega) (by omega)
        have e142 : (uF (uF (uF s' 3 16 V) 3 17 U) 3 15 0).2 142 = s.2 142 := (ag.1 142 (by unfold laA scl; omega)).trans (agK 142 (by omega))
        have e143 : (uF (uF (uF s' 3 16 V) 3 17 U) 3 15 0).2 143 = s.2 143 := (ag.1 143 (by unfold laA scl; omega)).trans (agK 143 (by omega))
        generalize hs2 : uF (uF (uF s' 3 16 V) 3 17 U) 3 15 0 = s2 at e142 e143
        obtain ⟨t', r, e, ag2⟩ := R (cW s2 104) (by
          funext j
          show (if 142 = 142 ∧ 2360 ≤ j ∧ j < 2360 + 104 then s2.2 142 (j - 2360) else s2.2 142 j) = if 2360 ≤ j ∧ j < 2464 then s.2 142 (j - 2360) else s.2 142 j
          rw [e142]
          simp)
        have agC : Ag igA igF s s2 := by
          rw [← hs2]
          refine Ag_uF (F := igF) (Ag_uF (F := igF) (Ag_uF (F := igF) (Ag_trans (cpS_Ag (Ag_refl _ _ s) 20 7 (fun r r0 r1 => ?_) (fun r k hr => ?_)) (run_ig ag)) ?_ _) ?_ _) ?_ _
          · unfold igA scA; omega
          · unfold igF scF; omega
          · unfold igF; omega
          · unfold igF; omega
          · unfold igF scF; omega
        have agW : Ag igA igF s2 (cW s2 104) := ⟨fun q hq => by
          funext j
          show (if q = 142 ∧ _ then _ else _) = _
          rw [if_neg (fun x => hq (by unfold igA; omega))], fun _ _ _ => rfl⟩
        have agR : Ag igA igF s2 (uF (uF (uF t' 141 3 V) 141 4 U) 141 2 0) := Ag_uF (F := igF) (Ag_uF (F := igF) (Ag_uF (F := igF) (Ag_trans agW (liv_ig ag2)) (by unfold igF; omega) _) (by unfold igF; omega) _) (by unfold igF srF; omega) _
        refine ⟨1, s2, uF (uF (uF t' 141 3 V) 141 4 U) 141 2 0, fun f => ?_, fun f => ?_, ?_⟩
        · rw [B_X11_mean, wb, ← hs2]
          simp (disch := first | assumption | omega) only [↓sm, ↓reduceIte, ↓if_pos, ↓if_neg, kI, kJ, kR, kV, w32_eq, w64_eq, reduceCtorEq, Int.reduceAdd, Int.reduceMul, Int.reduceSub, o_c3, ↓o_g3_0, ↓o_g3_1, ↓o_g3_2, ↓o_g3_3, ↓o_g3_4, ↓o_g3_5, ↓o_g3_6, ↓o_g3_7, ↓o_g3_8, ↓o_g3_9, ↓o_g3_10, ↓o_g3_11, ↓o_g3_12, ↓o_g3_13, ↓o_g3_14, ↓o_g3_15, ↓o_g3_16, ↓o_g3_17, ↓a_ln4, ↓a_ld4, ↓a_ln61, ↓a_ld61, ↓a_ln62, ↓a_ld62, ↓d_none Z, ↓d_done Z, ↓d_refused Z, ↓d_granted Z, ↓k_isIn_t Z, o_c33, ↓o_g33_0, ↓o_g33_1, ↓o_g33_2, ↓o_g33_3, ↓o_g33_4, ↓o_g33_5, ↓o_g33_6, ↓o_g33_7, ↓a_ln34, ↓a_ld34, ↓a_ln35, ↓a_ld35, ↓a_ln36, ↓a_ld36, ↓a_ln37, ↓a_ld37, ↓a_ln38, ↓a_ld38, t1, o_c20, ↓c_copyS Z s i20 i7' (by omega), ↓g, B_X11_mean_33 Z, ↓hT1]
        · have hw := lp_cW Z s2 a b 0 (by omega) (by omega)
          rw [cW_0, r] at hw
          rw [B_X12_mean, wab]
          simp (disch := first | assumption | omega) only [↓sm, ↓reduceIte, ↓if_pos, ↓if_neg, kI, kJ, kR, kV, w32_eq, w64_eq, reduceCtorEq, Int.reduceAdd, Int.reduceMul, Int.reduceSub, o_c141, ↓o_g141_0, ↓o_g141_1, ↓o_g141_5, ↓o_g141_6, ↓o_g141_7, ↓o_g141_8, ↓o_g141_9, ↓o_g141_21, ↓o_g141_25, ↓o_g141_26, ↓o_g141_27, ↓o_g141_28, ↓o_g141_29, ↓o_g141_30, ↓o_g141_31, ↓o_g141_34, ↓o_g141_35, ↓o_g141_36, ↓d_refuse Z, ↓d_gives Z, ↓d_is0 Z, ↓d_is1 Z, ↓d_isFrom_t Z, ↓d_isFrom_f Z, ↓d_orNone_t Z, ↓d_orNone_f Z, ↓r_at e142, h7, ↓hw, B_X12_mean_54 Z, ↓hT2]
        · have hq : ∀ q, q ≠ 142 → q ≠ 157 → q ≠ 158 → (uF (uF (uF t' 141 3 V) 141 4 U) 141 2 0).2 q = s2.2 q := fun q h1 h2 h3 => by
            have x1 : (cW s2 104).2 q = s2.2 q := by
              funext j
              show (if q = 142 ∧ _ then _ else _) = _
              rw [if_neg (fun x => h1 x.1)]
            rw [← x1]
            exact ag2.1 q (by unfold lbA; omega)
          have h142 : (uF (uF (uF t' 141 3 V) 141 4 U) 141 2 0).2 142 = S' := e
          have h143 : (uF (uF (uF t' 141 3 V) 141 4 U) 141 2 0).2 143 = s.2 143 := (hq 143 (by omega) (by omega) (by omega)).trans e143
          have hf : ∀ q k, q ≠ 141 → (uF (uF (uF t' 141 3 V) 141 4 U) 141 2 0).1 q k = s2.1 q k := fun q k h => by
            rw [uF_1, if_neg (fun x => h x.1), uF_1, if_neg (fun x => h x.1), uF_1, if_neg (fun x => h x.1)]
            exact ag2.2 q k (fun x => h x.1)
          have m1 : ∀ j, 0 ≤ j → j < 104 → S' j = s.2 142 j := fun j j0 j1 => m'.1 j j0 (by omega)
          refine inv_ig hI (Ag_trans agC agR) ?_ ⟨?_, ?_⟩ ⟨?_, ?_⟩ ?_ (fun j j0 j1 => ?_) ?_ (fun j j0 j1 => by rw [h143]) ?_ ?_
          · rw [hf 3 15 (by omega), ← hs2, uF_1, if_pos ⟨rfl, rfl⟩, uF_1, if_pos ⟨rfl, rfl⟩]
          · rw [hf 3 16 (by omega), ← hs2]
            simp [uF_1]
          · rw [hf 3 17 (by omega), ← hs2]
            simp [uF_1]
          · rw [h142]; exact WF_ext w m1
          · rw [h142, h143]
            refine CS_fr (s := s') (CS_ext w c7' m1 (fun _ _ _ => rfl)) (fun k => ?_) (fun j j0 j1 => ?_)
            · rw [hf 7 k (by omega), ← hs2, uF_1, if_neg (by omega), uF_1, if_neg (by omega), uF_1, if_neg (by omega)]
            · rw [hq _ (by omega) (by omega) (by omega), ← hs2]
              rfl
          · refine TLv_fr i8 ?_ ?_ ?_ ?_
            · rw [hf 63 4 (by omega), ← hs2, uF_1, if_neg (by omega), uF_1, if_neg (by omega), uF_1, if_neg (by omega), ag.2 63 4 (by unfold laF; omega)]
              exact afK 63 4 (by omega)
            · rw [uF_1, if_neg (by omega), uF_1, if_neg (by omega), uF_1, if_neg (by omega), ag2.2 141 37 (by unfold lbF; omega)]
              show s2.1 141 37 = _
              rw [← hs2, uF_1, if_neg (by omega), uF_1, if_neg (by omega), uF_1, if_neg (by omega), ag.2 141 37 (by unfold laF; omega)]
              exact afK 141 37 (by omega)
            · rw [hq 65 (by omega) (by omega) (by omega), ← hs2, uF_2, uF_2, uF_2, ag.1 65 (by unfold laA scl; omega)]
              exact agK 65 (by omega)
            · rw [hq 159 (by omega) (by omega) (by omega), ← hs2, uF_2, uF_2, uF_2, ag.1 159 (by unfold laA scl; omega)]
              exact agK 159 (by omega)
          · rw [h142]; exact m'.1 j (by omega) (by omega)
          · rw [h142]; exact m1 7 (by omega) (by omega)
          · rw [h142]; exact ncl_ext m1
          · rw [h142, m1 3 (by omega) (by omega)]; omega
    · refine op_rd hI 0 1 (fun f => ?_) (fun t e f => ?_)
      · rw [B_X11_mean, wb]
        simp (disch := first | assumption | omega) only [↓sm, ↓reduceIte, ↓if_pos, ↓if_neg, kI, kJ, kR, kV, w32_eq, w64_eq, reduceCtorEq, Int.reduceAdd, Int.reduceMul, Int.reduceSub, o_c3, ↓o_g3_0, ↓o_g3_1, ↓o_g3_2, ↓o_g3_3, ↓o_g3_4, ↓o_g3_5, ↓o_g3_6, ↓o_g3_7, ↓o_g3_8, ↓o_g3_9, ↓o_g3_10, ↓o_g3_11, ↓o_g3_12, ↓o_g3_13, ↓o_g3_14, ↓o_g3_15, ↓o_g3_16, ↓o_g3_17, ↓a_ln4, ↓a_ld4, ↓a_ln61, ↓a_ld61, ↓a_ln62, ↓a_ld62, ↓d_none Z, ↓d_done Z, ↓d_refused Z, ↓d_granted Z, ↓k_isIn_t Z, ↓k_isIn_f Z]
      · rw [B_X12_mean]
        by_cases h9 : 0 ≤ a ∧ a ≤ 9999
        · have wab : mm_w32 (mm_w32 (a + b) - 1) = a + b - 1 := by rw [w32_eq (x := a + b) (by omega) (by omega), w32_eq (by omega) (by omega)]
          rw [wab]
          simp (disch := first | assumption | omega) only [↓sm, ↓reduceIte, ↓if_pos, ↓if_neg, kI, kJ, kR, kV, w32_eq, w64_eq, reduceCtorEq, Int.reduceAdd, Int.reduceMul, Int.reduceSub, o_c141, ↓o_g141_0, ↓o_g141_1, ↓o_g141_5, ↓o_g141_6, ↓o_g141_7, ↓o_g141_8, ↓o_g141_9, ↓o_g141_21, ↓o_g141_25, ↓o_g141_26, ↓o_g141_27, ↓o_g141_28, ↓o_g141_29, ↓o_g141_30, ↓o_g141_31, ↓o_g141_34, ↓o_g141_35, ↓o_g141_36, ↓d_refuse Z, ↓d_gives Z, ↓d_is0 Z, ↓d_is1 Z, ↓d_isFrom_t Z, ↓d_isFrom_f Z, ↓d_orNone_t Z, ↓d_orNone_f Z]
        · simp (disch := first | assumption | omega) only [↓sm, ↓reduceIte, ↓if_pos, ↓if_neg, kI, kJ, kR, kV, w32_eq, w64_eq, reduceCtorEq, Int.reduceAdd, Int.reduceMul, Int.reduceSub, o_c141, ↓o_g141_0, ↓o_g141_1, ↓o_g141_5, ↓o_g141_6, ↓o_g141_7, ↓o_g141_8, ↓o_g141_9, ↓o_g141_21, ↓o_g141_25, ↓o_g141_26, ↓o_g141_27, ↓o_g141_28, ↓o_g141_29, ↓o_g141_30, ↓o_g141_31, ↓o_g141_34, ↓o_g141_35, ↓o_g141_36, ↓d_refuse Z, ↓d_gives Z, ↓d_is0 Z, ↓d_is1 Z, ↓d_isFrom_t Z, ↓d_isFrom_f Z, ↓d_orNone_t Z, ↓d_orNone_f Z]
  · refine op_rd hI 0 1 (fun f => ?_) (fun t e f => ?_)
    · rw [B_X11_mean]
      simp (disch := first | assumption | omega) only [↓sm, ↓reduceIte, ↓if_pos, ↓if_neg, kI, kJ, kR, kV, w32_eq, w64_eq, reduceCtorEq, Int.reduceAdd, Int.reduceMul, Int.reduceSub, o_c3, ↓o_g3_0, ↓o_g3_1, ↓o_g3_2, ↓o_g3_3, ↓o_g3_4, ↓o_g3_5, ↓o_g3_6, ↓o_g3_7, ↓o_g3_8, ↓o_g3_9, ↓o_g3_10, ↓o_g3_11, ↓o_g3_12, ↓o_g3_13, ↓o_g3_14, ↓o_g3_15, ↓o_g3_16, ↓o_g3_17, ↓a_ln4, ↓a_ld4, ↓a_ln61, ↓a_ld61, ↓a_ln62, ↓a_ld62, ↓d_none Z, ↓d_done Z, ↓d_refused Z, ↓d_granted Z, ↓k_isIn_f Z]
    · rw [B_X12_mean]
      by_cases h9 : 0 ≤ a ∧ a ≤ 9999
      · simp (disch := first | assumption | omega) only [↓sm, ↓reduceIte, ↓if_pos, ↓if_neg, kI, kJ, kR, kV, w32_eq, w64_eq, reduceCtorEq, Int.reduceAdd, Int.reduceMul, Int.reduceSub, o_c141, ↓o_g141_0, ↓o_g141_1, ↓o_g141_5, ↓o_g141_6, ↓o_g141_7, ↓o_g141_8, ↓o_g141_9, ↓o_g141_21, ↓o_g141_25, ↓o_g141_26, ↓o_g141_27, ↓o_g141_28, ↓o_g141_29, ↓o_g141_30, ↓o_g141_31, ↓o_g141_34, ↓o_g141_35, ↓o_g141_36, ↓d_refuse Z, ↓d_gives Z, ↓d_is0 Z, ↓d_is1 Z, ↓d_isFrom_t Z, ↓d_isFrom_f Z, ↓d_orNone_t Z, ↓d_orNone_f Z]
      · simp (disch := first | assumption | omega) only [↓sm, ↓reduceIte, ↓if_pos, ↓if_neg, kI, kJ, kR, kV, w32_eq, w64_eq, reduceCtorEq, Int.reduceAdd, Int.reduceMul, Int.reduceSub, o_c141, ↓o_g141_0, ↓o_g141_1, ↓o_g141_5, ↓o_g141_6, ↓o_g141_7, ↓o_g141_8, ↓o_g141_9, ↓o_g141_21, ↓o_g141_25, ↓o_g141_26, ↓o_g141_27, ↓o_g141_28, ↓o_g141_29, ↓o_g141_30, ↓o_g141_31, ↓o_g141_34, ↓o_g141_35, ↓o_g141_36, ↓d_refuse Z, ↓d_gives Z, ↓d_is0 Z, ↓d_is1 Z, ↓d_isFrom_t Z, ↓d_isFrom_f Z, ↓d_orNone_t Z, ↓d_orNone_f Z]
