/-! what a step does, on both sides -/
def LR (s t : mS) : Prop := s.1 63 5 = t.1 141 33 ∧ s.1 63 6 = t.2 158 0 ∧ s.1 63 7 = t.2 158 1 ∧ s.1 63 8 = t.2 158 2 ∧ s.1 63 9 = t.1 141 24 ∧ s.1 63 10 = t.2 158 4 ∧ s.1 63 11 = t.1 141 32 ∧ 0 ≤ s.1 63 11 ∧ s.1 63 11 < 65536
def liA (q : Nat) : Prop := scl q
def liF (q k : Nat) : Prop := q = 7 ∨ (q = 63 ∧ (k = 7 ∨ k = 8 ∨ k = 9 ∨ k = 11))
def lrA (q : Nat) : Prop := q = 142 ∨ q = 158
def lrF (q k : Nat) : Prop := q = 141 ∧ (k = 24 ∨ k = 32)
/-- class call a (object 63) and reference's call b do the same to the school -/
def Deed (Z : mX) (S N : Int → Int) (a b : Nat) (as : List mV) : Prop := ∃ v S', (v = 0 ∨ v = 1) ∧ WF S' ∧ Kp S S' ∧ ∀ s : mS, CS s 7 S N → ∃ s', (∀ f : Int → mW → mO, mm_kI (mm_run (zP Z) a (.inr (.inr (some 63)) :: as) (mk s)) f = f v (mk s')) ∧ CS s' 7 S' N ∧ Ag liA liF s s' ∧
  ∀ t : mS, t.2 142 = S → LR s t → ∃ t', (∀ f : Int → mW → mO, mm_kI (mm_run (zP Z) b (.inr (.inr (some 141)) :: as) (mk t)) f = f v (mk t')) ∧ t'.2 142 = S' ∧ LR s' t' ∧ Ag lrA lrF t t'
theorem do_goes (Z : mX) {S : Int → Int} (N : Int → Int) (hw : WF S) (p k : Int) (p0 : 0 ≤ p) (p1 : p < S 3) (k0 : 0 ≤ k) (k1 : k ≤ 3) : Deed Z S N 38 350 [.inl p, .inl k] := by
  have w := wf0 hw
  by_cases hb : 0 < S (74 + 6 * p + 3) ∨ sd S (S (74 + 6 * p)) k = -1
  · refine ⟨0, S, Or.inl rfl, hw, Kp_refl _, fun s h => ⟨s, fun f => ?_, h, Ag_refl _ _ _, fun t e hL => ⟨t, fun f => ?_, e, hL, Ag_refl _ _ _⟩⟩⟩
    · rw [B_X4_goes]
      simp (disch := first | assumption | omega) only [↓sm, ↓reduceIte, ↓if_pos, ↓if_neg, kI, kJ, kR, kV, w32_eq, w64_eq, reduceCtorEq, Int.reduceAdd, Int.reduceMul, Int.reduceSub, o_c63, ↓o_g63_0, ↓o_g63_1, ↓o_g63_2, ↓o_g63_3, ↓o_g63_4, ↓o_g63_5, ↓o_g63_6, ↓o_g63_7, ↓o_g63_8, ↓o_g63_9, ↓o_g63_10, ↓o_g63_11, ↓a_ln64, ↓a_ld64, ↓a_ln65, ↓a_ld65, o_c7, ↓c_canStep_f h hw Z]
    · rw [B_X12_goesBy]
      simp (disch := first | assumption | omega) only [↓sm, ↓reduceIte, ↓if_pos, ↓if_neg, kI, kJ, kR, kV, w32_eq, w64_eq, reduceCtorEq, Int.reduceAdd, Int.reduceMul, Int.reduceSub, o_c141, ↓r_goes_f e hw Z]
  · have hb1 : ¬ 0 < S (74 + 6 * p + 3) := by omega
    have hb2 : sd S (S (74 + 6 * p)) k ≠ -1 := by omega
    have wp := wf_p hw p0 p1
    have n := wf_n hw
    have r := sd_r hw wp.1 wp.2.1 k0 k1 hb2
    have c := ct_r hw p0 p1 r.1 (by omega) wp.2.2.1 wp.2.2.2.1
    refine ⟨1, stS S p k, Or.inr rfl, st_wf hw p0 p1 k0 k1 hb2, Kp_up (Kp_up (Kp_refl _) (by omega) (by omega) _) (by omega) (by omega) _, fun s h => ?_⟩
    have h1 : CS (uF s 63 7 (mm_w32 (s.1 63 7 + 1))) 7 S N := CS_fr h (fun k => by rw [uF_1, if_neg (by omega)]) (fun j _ _ => rfl)
    obtain ⟨s', g, cs, ag⟩ := c_step h1 hw Z p k p0 p1 k0 k1 hb2
    have f63 : ∀ k, s'.1 63 k = (uF s 63 7 (mm_w32 (s.1 63 7 + 1))).1 63 k := fun k => ag.2 63 k (by unfold sclF; omega)
    refine ⟨uF s' 63 8 (mm_w32 (s.1 63 8 + ct S p (sd S (S (74 + 6 * p)) k) (S (74 + 6 * p + 1)))), fun f => ?_, CS_fr cs (fun k => by rw [uF_1, if_neg (by omega)]) (fun j _ _ => rfl), ?_, fun t e hL => ?_⟩
    · rw [B_X4_goes]
      have e8 : (uF s 63 7 (mm_w32 (s.1 63 7 + 1))).1 63 8 = s.1 63 8 := by rw [uF_1, if_neg (by omega)]
      simp (disch := first | assumption | omega) only [↓sm, ↓reduceIte, ↓if_pos, ↓if_neg, kI, kJ, kR, kV, w32_eq, w64_eq, reduceCtorEq, Int.reduceAdd, Int.reduceMul, Int.reduceSub, o_c63, ↓o_g63_0, ↓o_g63_1, ↓o_g63_2, ↓o_g63_3, ↓o_g63_4, ↓o_g63_5, ↓o_g63_6, ↓o_g63_7, ↓o_g63_8, ↓o_g63_9, ↓o_g63_10, ↓o_g63_11, ↓a_ln64, ↓a_ld64, ↓a_ln65, ↓a_ld65, o_c7, ↓c_canStep_t h hw Z, ↓o_p63_7, e8, ↓g, ↓o_p63_8]
    · refine Ag_uF (F := liF) (Ag_trans (Ag_uF (F := liF) (Ag_refl _ _ _) (by unfold liF; omega) _) (Ag_mono (B := liA) (G := liF) ag (fun q hq => hq) (fun q k hq => by unfold sclF at hq; unfold liF; omega))) (by unfold liF; omega) _
    · obtain ⟨l1, l2, l3, l4, l5, l6, l7, l8, l9⟩ := hL
      refine ⟨uA (uA (uA (uA t 142 (74 + 6 * p) (sd S (S (74 + 6 * p)) k)) 142 (74 + 6 * p + 3) (ct S p (sd S (S (74 + 6 * p)) k) (S (74 + 6 * p + 1)))) 158 1 (mm_w32 (t.2 158 1 + 1))) 158 2 (mm_w32 (t.2 158 2 + ct S p (sd S (S (74 + 6 * p)) k) (S (74 + 6 * p + 1)))), fun f => ?_, ?_, ?_, ?_⟩
      · have E1 : (uA (uA t 142 (74 + 6 * p) (sd S (S (74 + 6 * p)) k)) 142 (74 + 6 * p + 3) (ct S p (sd S (S (74 + 6 * p)) k) (S (74 + 6 * p + 1)))).2 158 1 = t.2 158 1 := by rw [uA_n _ (by decide), uA_n _ (by decide)]
        have E2 : (uA (uA (uA t 142 (74 + 6 * p) (sd S (S (74 + 6 * p)) k)) 142 (74 + 6 * p + 3) (ct S p (sd S (S (74 + 6 * p)) k) (S (74 + 6 * p + 1)))) 158 1 (mm_w32 (t.2 158 1 + 1))).2 158 2 = t.2 158 2 := by rw [uA_s, up_ne (by omega), uA_n _ (by decide), uA_n _ (by decide)]
        rw [B_X12_goesBy]
        simp (disch := first | assumption | omega) only [↓sm, ↓reduceIte, ↓if_pos, ↓if_neg, kI, kJ, kR, kV, w32_eq, w64_eq, reduceCtorEq, Int.reduceAdd, Int.reduceMul, Int.reduceSub, o_c141, ↓o_g141_0, ↓o_g141_1, ↓o_g141_5, ↓o_g141_6, ↓o_g141_7, ↓o_g141_8, ↓o_g141_9, ↓o_g141_21, ↓o_g141_25, ↓o_g141_26, ↓o_g141_27, ↓o_g141_28, ↓o_g141_29, ↓o_g141_30, ↓o_g141_31, ↓o_g141_34, ↓o_g141_35, ↓o_g141_36, o_g141_35, ↓o_g141_35, ↓r_goes e hw Z, ↓a_ld158, E1, ↓a_st158, a_st158, E2]
      · rw [uA_n _ (by decide), uA_n _ (by decide), uA_s, uA_s, e]
        rfl
      · have q1 : ∀ k', k' ≠ 8 → k' ≠ 7 → (uF s' 63 8 (mm_w32 (s.1 63 8 + ct S p (sd S (S (74 + 6 * p)) k) (S (74 + 6 * p + 1))))).1 63 k' = s.1 63 k' := fun k' a b => by rw [uF_1, if_neg (by omega), f63, uF_1, if_neg (by omega)]
        have q7 : (uF s' 63 8 (mm_w32 (s.1 63 8 + ct S p (sd S (S (74 + 6 * p)) k) (S (74 + 6 * p + 1))))).1 63 7 = mm_w32 (s.1 63 7 + 1) := by rw [uF_1, if_neg (by omega), f63, uF_1, if_pos ⟨rfl, rfl⟩]
        have q8 : (uF s' 63 8 (mm_w32 (s.1 63 8 + ct S p (sd S (S (74 + 6 * p)) k) (S (74 + 6 * p + 1))))).1 63 8 = mm_w32 (s.1 63 8 + ct S p (sd S (S (74 + 6 * p)) k) (S (74 + 6 * p + 1))) := by rw [uF_1, if_pos ⟨rfl, rfl⟩]
        generalize ht : uA (uA (uA (uA t 142 (74 + 6 * p) (sd S (S (74 + 6 * p)) k)) 142 (74 + 6 * p + 3) (ct S p (sd S (S (74 + 6 * p)) k) (S (74 + 6 * p + 1)))) 158 1 (mm_w32 (t.2 158 1 + 1))) 158 2 (mm_w32 (t.2 158 2 + ct S p (sd S (S (74 + 6 * p)) k) (S (74 + 6 * p + 1)))) = t'
        have r1 : t'.1 = t.1 := by rw [← ht]; rfl
        have r2 : ∀ j, j ≠ 1 → j ≠ 2 → t'.2 158 j = t.2 158 j := fun j a b => by rw [← ht, uA_s, up_ne b, uA_s, up_ne a, uA_n _ (by decide), uA_n _ (by decide)]
        have r3 : t'.2 158 1 = mm_w32 (t.2 158 1 + 1) := by rw [← ht, uA_s, up_ne (by omega), uA_s, up_eq rfl]
        have r4 : t'.2 158 2 = mm_w32 (t.2 158 2 + ct S p (sd S (S (74 + 6 * p)) k) (S (74 + 6 * p + 1))) := by rw [← ht, uA_s, up_eq rfl]
        unfold LR
        rw [q1 5 (by omega) (by omega), q1 6 (by omega) (by omega), q7, q8, q1 9 (by omega) (by omega), q1 10 (by omega) (by omega), q1 11 (by omega) (by omega), r1, r2 0 (by omega) (by omega), r2 4 (by omega) (by omega), r3, r4, l3, l4]
        exact ⟨l1, l2, rfl, rfl, l5, l6, l7, l8, l9⟩
      · exact Ag_uA (Ag_uA (Ag_uA (Ag_uA (Ag_refl _ _ _) (by unfold lrA; omega) _ _) (by unfold lrA; omega) _ _) (by unfold lrA; omega) _ _) (by unfold lrA; omega) _ _
theorem LR_kp {s s' t t' : mS} (h : LR s t) (h1 : ∀ k, s'.1 63 k = s.1 63 k) (h2 : ∀ k, t'.1 141 k = t.1 141 k) (h3 : t'.2 158 = t.2 158) : LR s' t' := by
  unfold LR at *
  rw [h1, h1, h1, h1, h1, h1, h1, h2, h2, h2, h3]
  exact h
def Deed2 (Z : mX) (S N : Int → Int) (a b : Nat) (as : List mV) : Prop := ∃ v u S', v = (if 0 < u then 1 else 0) ∧ WF S' ∧ Kp S S' ∧ ∀ s : mS, CS s 7 S N → ∃ s', (∀ f : Int → mW → mO, mm_kI (mm_run (zP Z) a (.inr (.inr (some 63)) :: as) (mk s)) f = f v (mk s')) ∧ CS s' 7 S' N ∧ Ag liA liF s s' ∧
  ∀ t : mS, t.2 142 = S → LR s t → ∃ t', (∀ f : Int → mW → mO, mm_kI (mm_run (zP Z) b (.inr (.inr (some 141)) :: as) (mk t)) f = f u (mk t')) ∧ t'.2 142 = S' ∧ LR s' t' ∧ Ag lrA lrF t t'
theorem li_scl {s s' : mS} (h : Ag scl sclF s s') : Ag liA liF s s' := Ag_mono h (fun q hq => hq) (fun q k hq => by unfold sclF at hq; unfold liF; omega)
theorem teS_id' {S : Int → Int} {p : Int} (hc : S (74 + 6 * p + 3) = 0) (h5 : S (74 + 6 * p + 5) ≤ 9999) : teS S p = S := by
  unfold teS
  funext j
  have e : cap (S (74 + 6 * p + 5) + S (74 + 6 * p + 3)) = S (74 + 6 * p + 5) := by unfold cap; split <;> omega
  rw [e]
  by_cases h1 : j = 74 + 6 * p + 5
  · rw [up_eq h1, h1]
  · rw [up_ne h1]
    by_cases h2 : j = 74 + 6 * p + 3
    · rw [up_eq h2, h2, hc]
    · rw [up_ne h2]
theorem do_tears (Z : mX) {S : Int → Int} (N : Int → Int) (hw : WF S) (p : Int) (p0 : 0 ≤ p) (p1 : p < S 3) : Deed2 Z S N 40 296 [.inl p] := by
  have w := wf0 hw
  have wp := wf_p hw p0 p1
  have ref : ∀ s s' t : mS, t.2 142 = S → LR s t → (∀ k, s'.1 63 k = s.1 63 k) → ∃ t', (∀ f : Int → mW → mO, mm_kI (mm_run (zP Z) 296 [.inr (.inr (some 141)), .inl p] (mk t)) f = f (S (74 + 6 * p + 3)) (mk t')) ∧ t'.2 142 = teS S p ∧ LR s' t' ∧ Ag lrA lrF t t' := by
    intro s s' t e hL hs
    refine ⟨_, fun f => r_tears e hw Z p p0 p1 f, by rw [uA_s, uA_s, e]; rfl, LR_kp hL hs (fun k => rfl) (by rw [uA_n _ (by decide), uA_n _ (by decide)]), Ag_uA (Ag_uA (Ag_refl _ _ _) (by unfold lrA; omega) _ _) (by unfold lrA; omega) _ _⟩
  have kp : Kp S (teS S p) := Kp_up (Kp_up (Kp_refl _) (by omega) (by omega) _) (by omega) (by omega) _
  by_cases hc : 0 < S (74 + 6 * p + 3)
  · refine ⟨1, S (74 + 6 * p + 3), teS S p, by rw [if_pos hc], teS_wf hw p0 p1, kp, fun s h => ?_⟩
    obtain ⟨s', g, cs, ag⟩ := c_tearOff h hw Z p p0 p1
    refine ⟨s', fun f => ?_, cs, li_scl ag, fun t e hL => ref s s' t e hL (fun k => ag.2 63 k (by unfold sclF; omega))⟩
    rw [B_X4_tears]
    simp (disch := first | assumption | omega) only [↓sm, ↓reduceIte, ↓if_pos, ↓if_neg, kI, kJ, kR, kV, w32_eq, w64_eq, reduceCtorEq, Int.reduceAdd, Int.reduceMul, Int.reduceSub, o_c63, ↓o_g63_0, ↓o_g63_1, ↓o_g63_2, ↓o_g63_3, ↓o_g63_4, ↓o_g63_5, ↓o_g63_6, ↓o_g63_7, ↓o_g63_8, ↓o_g63_9, ↓o_g63_10, ↓o_g63_11, ↓a_ln64, ↓a_ld64, ↓a_ln65, ↓a_ld65, o_c7, ↓c_isCaught_t h hw Z, ↓g]
  · have e0 : teS S p = S := teS_id' (by omega) (by omega)
    refine ⟨0, S (74 + 6 * p + 3), teS S p, by rw [if_neg hc], teS_wf hw p0 p1, kp, fun s h => ⟨s, fun f => ?_, by rw [e0]; exact h, Ag_refl _ _ _, fun t e hL => ref s s t e hL (fun k => rfl)⟩⟩
    rw [B_X4_tears]
    simp (disch := first | assumption | omega) only [↓sm, ↓reduceIte, ↓if_pos, ↓if_neg, kI, kJ, kR, kV, w32_eq, w64_eq, reduceCtorEq, Int.reduceAdd, Int.reduceMul, Int.reduceSub, o_c63, ↓o_g63_0, ↓o_g63_1, ↓o_g63_2, ↓o_g63_3, ↓o_g63_4, ↓o_g63_5, ↓o_g63_6, ↓o_g63_7, ↓o_g63_8, ↓o_g63_9, ↓o_g63_10, ↓o_g63_11, ↓a_ln64, ↓a_ld64, ↓a_ln65, ↓a_ld65, o_c7, ↓c_isCaught_f h hw Z]
theorem do_picks (Z : mX) {S : Int → Int} (N : Int → Int) (hw : WF S) (p : Int) (p0 : 0 ≤ p) (p1 : p < S 3) : Deed2 Z S N 41 298 [.inl p] := by
  have w := wf0 hw
  have wp := wf_p hw p0 p1
  have n := wf_n hw
  have wc := wf_c hw wp.1 (show S (74 + 6 * p) < 25 by omega)
  by_cases hc : 0 < S (74 + 6 * p + 3)
  · refine ⟨0, 0, S, rfl, hw, Kp_refl _, fun s h => ⟨s, fun f => ?_, h, Ag_refl _ _ _, fun t e hL => ⟨t, fun f => r_picks_f e hw Z p p0 p1 hc f, e, hL, Ag_refl _ _ _⟩⟩⟩
    rw [B_X4_picks]
    simp (disch := first | assumption | omega) only [↓sm, ↓reduceIte, ↓if_pos, ↓if_neg, kI, kJ, kR, kV, w32_eq, w64_eq, reduceCtorEq, Int.reduceAdd, Int.reduceMul, Int.reduceSub, o_c63, ↓o_g63_0, ↓o_g63_1, ↓o_g63_2, ↓o_g63_3, ↓o_g63_4, ↓o_g63_5, ↓o_g63_6, ↓o_g63_7, ↓o_g63_8, ↓o_g63_9, ↓o_g63_10, ↓o_g63_11, ↓a_ln64, ↓a_ld64, ↓a_ln65, ↓a_ld65, o_c7, ↓c_canGather_f h hw Z]
  · have ref : ∀ s s' t : mS, t.2 142 = S → LR s t → (∀ k, s'.1 63 k = s.1 63 k) → ∃ t', (∀ f : Int → mW → mO, mm_kI (mm_run (zP Z) 298 [.inr (.inr (some 141)), .inl p] (mk t)) f = f (S (35 + S (74 + 6 * p))) (mk t')) ∧ t'.2 142 = piS S p ∧ LR s' t' ∧ Ag lrA lrF t t' := by
      intro s s' t e hL hs
      refine ⟨_, fun f => r_picks e hw Z p p0 p1 hc f, by rw [uA_s, uA_s, e]; rfl, LR_kp hL hs (fun k => rfl) (by rw [uA_n _ (by decide), uA_n _ (by decide)]), Ag_uA (Ag_uA (Ag_refl _ _ _) (by unfold lrA; omega) _ _) (by unfold lrA; omega) _ _⟩
    have kp : Kp S (piS S p) := Kp_up (Kp_up (Kp_refl _) (by omega) (by omega) _) (by omega) (by omega) _
    by_cases hb : 0 < S (35 + S (74 + 6 * p))
    · refine ⟨1, S (35 + S (74 + 6 * p)), piS S p, by rw [if_pos hb], piS_wf hw p0 p1, kp, fun s h => ?_⟩
      obtain ⟨s', g, cs, ag⟩ := c_gather h hw Z p p0 p1
      refine ⟨s', fun f => ?_, cs, li_scl ag, fun t e hL => ref s s' t e hL (fun k => ag.2 63 k (by unfold sclF; omega))⟩
      rw [B_X4_picks]
      simp (disch := first | assumption | omega) only [↓sm, ↓reduceIte, ↓if_pos, ↓if_neg, kI, kJ, kR, kV, w32_eq, w64_eq, reduceCtorEq, Int.reduceAdd, Int.reduceMul, Int.reduceSub, o_c63, ↓o_g63_0, ↓o_g63_1, ↓o_g63_2, ↓o_g63_3, ↓o_g63_4, ↓o_g63_5, ↓o_g63_6, ↓o_g63_7, ↓o_g63_8, ↓o_g63_9, ↓o_g63_10, ↓o_g63_11, ↓a_ln64, ↓a_ld64, ↓a_ln65, ↓a_ld65, o_c7, ↓c_canGather_t h hw Z, ↓g]
    · have e0 : piS S p = S := piS_id (by omega) (by omega)
      refine ⟨0, S (35 + S (74 + 6 * p)), piS S p, by rw [if_neg hb], piS_wf hw p0 p1, kp, fun s h => ⟨s, fun f => ?_, by rw [e0]; exact h, Ag_refl _ _ _, fun t e hL => ref s s t e hL (fun k => rfl)⟩⟩
      rw [B_X4_picks]
      simp (disch := first | assumption | omega) only [↓sm, ↓reduceIte, ↓if_pos, ↓if_neg, kI, kJ, kR, kV, w32_eq, w64_eq, reduceCtorEq, Int.reduceAdd, Int.reduceMul, Int.reduceSub, o_c63, ↓o_g63_0, ↓o_g63_1, ↓o_g63_2, ↓o_g63_3, ↓o_g63_4, ↓o_g63_5, ↓o_g63_6, ↓o_g63_7, ↓o_g63_8, ↓o_g63_9, ↓o_g63_10, ↓o_g63_11, ↓a_ln64, ↓a_ld64, ↓a_ln65, ↓a_ld65, o_c7, ↓c_canGather_f h hw Z]
theorem do_ages (Z : mX) {S : Int → Int} (N : Int → Int) (hw : WF S) (y : Int) (y0 : 0 ≤ y) (y1 : y ≤ 9999) : Deed Z S N 42 352 [.inl y] := by
  have w := wf0 hw
  by_cases hy : S 5 + y ≤ 9999
  · have kp : Kp S (ageS S y) := ageS_kp hw y
    refine ⟨1, ageS S y, Or.inr rfl, ageS_wf hw y0 hy, kp, fun s h => ?_⟩
    obtain ⟨s', g, cs, ag⟩ := c_age h hw Z y y0 hy
    refine ⟨s', fun f => ?_, cs, li_scl ag, fun t e hL => ?_⟩
    · rw [B_X4_ages]
      simp (disch := first | assumption | omega) only [↓sm, ↓reduceIte, ↓if_pos, ↓if_neg, kI, kJ, kR, kV, w32_eq, w64_eq, reduceCtorEq, Int.reduceAdd, Int.reduceMul, Int.reduceSub, o_c63, ↓o_g63_0, ↓o_g63_1, ↓o_g63_2, ↓o_g63_3, ↓o_g63_4, ↓o_g63_5, ↓o_g63_6, ↓o_g63_7, ↓o_g63_8, ↓o_g63_9, ↓o_g63_10, ↓o_g63_11, ↓a_ln64, ↓a_ld64, ↓a_ln65, ↓a_ld65, o_c7, ↓c_canAge_t h hw Z, ↓g]
    · obtain ⟨t', k1, k2, k3⟩ := r_yearsGo e hw Z y y0 hy
      refine ⟨t', fun f => ?_, k2, LR_kp hL (fun k => ag.2 63 k (by unfold sclF; omega)) (fun k => k3.2 141 k (fun x => x)) (k3.1 158 (by unfold a142; omega)), Ag_mono k3 (fun q hq => Or.inl hq) (fun q k hq => hq.elim)⟩
      rw [B_X12_yearsBy]
      simp (disch := first | assumption | omega) only [↓sm, ↓reduceIte, ↓if_pos, ↓if_neg, kI, kJ, kR, kV, w32_eq, w64_eq, reduceCtorEq, Int.reduceAdd, Int.reduceMul, Int.reduceSub, o_c141, ↓o_g141_0, ↓o_g141_1, ↓o_g141_5, ↓o_g141_6, ↓o_g141_7, ↓o_g141_8, ↓o_g141_9, ↓o_g141_21, ↓o_g141_25, ↓o_g141_26, ↓o_g141_27, ↓o_g141_28, ↓o_g141_29, ↓o_g141_30, ↓o_g141_31, ↓o_g141_34, ↓o_g141_35, ↓o_g141_36, ↓r_at e, ↓k1]
  · refine ⟨0, S, Or.inl rfl, hw, Kp_refl _, fun s h => ⟨s, fun f => ?_, h, Ag_refl _ _ _, fun t e hL => ⟨t, fun f => ?_, e, hL, Ag_refl _ _ _⟩⟩⟩
    · rw [B_X4_ages]
      simp (disch := first | assumption | omega) only [↓sm, ↓reduceIte, ↓if_pos, ↓if_neg, kI, kJ, kR, kV, w32_eq, w64_eq, reduceCtorEq, Int.reduceAdd, Int.reduceMul, Int.reduceSub, o_c63, ↓o_g63_0, ↓o_g63_1, ↓o_g63_2, ↓o_g63_3, ↓o_g63_4, ↓o_g63_5, ↓o_g63_6, ↓o_g63_7, ↓o_g63_8, ↓o_g63_9, ↓o_g63_10, ↓o_g63_11, ↓a_ln64, ↓a_ld64, ↓a_ln65, ↓a_ld65, o_c7, ↓c_canAge_f h hw Z]
    · rw [B_X12_yearsBy]
      simp (disch := first | assumption | omega) only [↓sm, ↓reduceIte, ↓if_pos, ↓if_neg, kI, kJ, kR, kV, w32_eq, w64_eq, reduceCtorEq, Int.reduceAdd, Int.reduceMul, Int.reduceSub, o_c141, ↓o_g141_0, ↓o_g141_1, ↓o_g141_5, ↓o_g141_6, ↓o_g141_7, ↓o_g141_8, ↓o_g141_9, ↓o_g141_21, ↓o_g141_25, ↓o_g141_26, ↓o_g141_27, ↓o_g141_28, ↓o_g141_29, ↓o_g141_30, ↓o_g141_31, ↓o_g141_34, ↓o_g141_35, ↓o_g141_36, ↓r_at e]
theorem do_frees (Z : mX) {S : Int → Int} (N : Int → Int) (hw : WF S) (p o : Int) (p0 : 0 ≤ p) (p1 : p < S 3) (o0 : 0 ≤ o) (o1 : o < S 3) : Deed Z S N 39 351 [.inl p, .inl o] := by
  have w := wf0 hw
  cases hb : helpB S p o
  · refine ⟨0, S, Or.inl rfl, hw, Kp_refl _, fun s h => ⟨s, fun f => ?_, h, Ag_refl _ _ _, fun t e hL => ⟨t, fun f => ?_, e, hL, Ag_refl _ _ _⟩⟩⟩
    · rw [B_X4_frees]
      simp (disch := first | assumption | omega) only [↓sm, ↓reduceIte, ↓if_pos, ↓if_neg, kI, kJ, kR, kV, w32_eq, w64_eq, reduceCtorEq, Int.reduceAdd, Int.reduceMul, Int.reduceSub, o_c63, ↓o_g63_0, ↓o_g63_1, ↓o_g63_2, ↓o_g63_3, ↓o_g63_4, ↓o_g63_5, ↓o_g63_6, ↓o_g63_7, ↓o_g63_8, ↓o_g63_9, ↓o_g63_10, ↓o_g63_11, ↓a_ln64, ↓a_ld64, ↓a_ln65, ↓a_ld65, o_c7, ↓c_canHelp h hw Z, hb, b2i_0]
    · rw [B_X12_freesBy]
      simp (disch := first | assumption | omega) only [↓sm, ↓reduceIte, ↓if_pos, ↓if_neg, kI, kJ, kR, kV, w32_eq, w64_eq, reduceCtorEq, Int.reduceAdd, Int.reduceMul, Int.reduceSub, o_c141, ↓r_canFree e hw Z, hb, b2i_0]
  · have hc : 0 < S (74 + 6 * o + 3) := by
      unfold helpB at hb
      simp only [Bool.and_eq_true, decide_eq_true_eq] at hb
      exact hb.2.2.1
    have ref : ∀ s s' t : mS, t.2 142 = S → LR s t → (∀ k, k ≠ 9 → s'.1 63 k = s.1 63 k) → (s'.1 63 9 = if tkL S o = -1 then s.1 63 9 else mm_w32 (s.1 63 9 + 1)) → ∃ t', (∀ f : Int → mW → mO, mm_kI (mm_run (zP Z) 351 [.inr (.inr (some 141)), .inl p, .inl o] (mk t)) f = f 1 (mk t')) ∧ t'.2 142 = tkS S o ∧ LR s' t' ∧ Ag lrA lrF t t' := by
      intro s s' t e hL h1 h2
      obtain ⟨t', r1, r2, r3, r4⟩ := r_frees e hw Z o o0 o1 hc
      refine ⟨t', fun f => ?_, r2, ?_, Ag_mono r3 (fun q hq => Or.inl hq) (fun q k hq => by unfold l24 at hq; unfold lrF; omega)⟩
      · rw [B_X12_freesBy]
        simp (disch := first | assumption | omega) only [↓sm, ↓reduceIte, ↓if_pos, ↓if_neg, kI, kJ, kR, kV, w32_eq, w64_eq, reduceCtorEq, Int.reduceAdd, Int.reduceMul, Int.reduceSub, o_c141, ↓r_canFree e hw Z, hb, b2i_0, ↓r1]
      · obtain ⟨l1, l2, l3, l4, l5, l6, l7, l8, l9⟩ := hL
        unfold LR
        rw [h1 5 (by omega), h1 6 (by omega), h1 7 (by omega), h1 8 (by omega), h2, h1 10 (by omega), h1 11 (by omega), r4, r3.2 141 33 (by unfold l24; omega), r3.2 141 32 (by unfold l24; omega), r3.1 158 (by unfold a142; omega), l5]
        exact ⟨l1, l2, l3, l4, rfl, l6, l7, l8, l9⟩
    refine ⟨1, tkS S o, Or.inr rfl, tkS_wf hw o0 o1 hc, tkS_kp S o0 (by omega), fun s h => ?_⟩
    obtain ⟨s', g, cs, ag⟩ := c_takeThorn h hw Z o o0 o1 hc
    have f63 : ∀ k, s'.1 63 k = s.1 63 k := fun k => ag.2 63 k (by unfold sclF; omega)
    by_cases hl : tkL S o = -1
    · refine ⟨s', fun f => ?_, cs, li_scl ag, fun t e hL => ref s s' t e hL (fun k _ => f63 k) (by rw [if_pos hl]; exact f63 9)⟩
      rw [B_X4_frees]
      simp (disch := first | assumption | omega) only [↓sm, ↓reduceIte, ↓if_pos, ↓if_neg, kI, kJ, kR, kV, w32_eq, w64_eq, reduceCtorEq, Int.reduceAdd, Int.reduceMul, Int.reduceSub, o_c63, ↓o_g63_0, ↓o_g63_1, ↓o_g63_2, ↓o_g63_3, ↓o_g63_4, ↓o_g63_5, ↓o_g63_6, ↓o_g63_7, ↓o_g63_8, ↓o_g63_9, ↓o_g63_10, ↓o_g63_11, ↓a_ln64, ↓a_ld64, ↓a_ln65, ↓a_ld65, o_c7, ↓c_canHelp h hw Z, hb, b2i_0, ↓g, hl]
    · refine ⟨uF s' 63 9 (mm_w32 (s.1 63 9 + 1)), fun f => ?_, CS_fr cs (fun k => by rw [uF_1, if_neg (by omega)]) (fun j _ _ => rfl), Ag_uF (F := liF) (li_scl ag) (by unfold liF; omega) _, fun t e hL => ref s _ t e hL (fun k hk => by rw [uF_1, if_neg (by omega)]; exact f63 k) (by rw [if_neg hl, uF_1, if_pos ⟨rfl, rfl⟩])⟩
      have e9 : s'.1 63 9 = s.1 63 9 := f63 9
      rw [B_X4_frees]
      simp (disch := first | assumption | omega) only [↓sm, ↓reduceIte, ↓if_pos, ↓if_neg, kI, kJ, kR, kV, w32_eq, w64_eq, reduceCtorEq, Int.reduceAdd, Int.reduceMul, Int.reduceSub, o_c63, ↓o_g63_0, ↓o_g63_1, ↓o_g63_2, ↓o_g63_3, ↓o_g63_4, ↓o_g63_5, ↓o_g63_6, ↓o_g63_7, ↓o_g63_8, ↓o_g63_9, ↓o_g63_10, ↓o_g63_11, ↓a_ln64, ↓a_ld64, ↓a_ln65, ↓a_ld65, o_c7, ↓c_canHelp h hw Z, hb, b2i_0, ↓g, hl, e9, ↓o_p63_9]
