/-! the parts of a school, both sides (printed by gen/parts.py) -/
set_option maxHeartbeats 8000000 in
theorem part_thicket (Z : mX) {s0 : mS} {b : Int → Int} {n : Int} (hT : TB0 b n) {G0 H0 G H : Int → Int} {th od gr : Int} {T : mT} (hk : TT b n T) (hD : DrI (shG G) th od gr) (hL : Lo G0 H0 G H) (h2 : tK T = 2) (hv : tV T = 0) : Part Z s0 b n G0 H0 T G H th od gr := by
  obtain ⟨w, d7, dt, dd, dg, d0, dz⟩ := id hD
  obtain ⟨T1, p1, hk1, N0, M0⟩ := nxt Z hT hk
  obtain ⟨T2, p2, hk2, N1, M1⟩ := nxt Z hT hk1
  obtain ⟨T3, p3, hk3, N2, M2⟩ := nxt Z hT hk2
  obtain ⟨T4, p4, hk4, N3, M3⟩ := nxt Z hT hk3
  obtain ⟨T5, p5, hk5, N4, M4⟩ := nxt Z hT hk4
  have q0 := tk_o hk
  have q1 := tk_o hk1
  have q2 := tk_o hk2
  have q3 := tk_o hk3
  have q4 := tk_o hk4
  have q5 := tk_o hk5
  by_cases qt : th = 0
  · by_cases qg : gr = 0
    · by_cases qb : tK T1 = 5 ∧ 1 ≤ tV T1 ∧ tV T1 ≤ 5
      · by_cases qc : tK T2 = 2 ∧ tV T2 = 1
        · by_cases qd : tK T3 = 5 ∧ 1 ≤ tV T3 ∧ tV T3 ≤ 5
          · by_cases qe : tK T4 = 6 ∧ tV T4 = 59
            · refine Or.inr ⟨T5, mm_upd (mm_upd G 1888 (tV T1)) 1889 (tV T3), H, 1, od, gr, by omega, hk5, thicket_DI hD (by omega) (tV T1) (tV T3) (by omega) (by omega), Lo_up (Lo_up hL (by omega) _) (by omega) _, fun s h => ?_, fun t0 t h => ?_⟩
              · obtain ⟨ek, ef, e6, ew, e46, e4p⟩ := cp_k h
                have e6 := e6 (Or.inl h2)
                rw [hv] at e6
                rw [h2] at ek
                have f2 := h.2.2.1
                have f3 := h.2.2.2.1
                have f4 := h.2.2.2.2.1
                have u0 := cp_39 (th' := 1) (od' := od) (gr' := gr) h (k := 2) (v := 1) (by omega)
                obtain ⟨s1, a1, x1, g1⟩ := cp_adv N0 u0
                obtain ⟨s2, a2, x2, z2, g2⟩ := cp_num N1 x1 (l := 1) (m := 5) qb
                have k2 := cp_40 x2 (Ag_uF (F := fun q _ => q = 40) (Ag_refl _ _ _) rfl _) (cs40_wide x2.2.1 w (tV T1))
                obtain ⟨s3, a3, x3, g3⟩ := cp_word N2 k2 (w := 1) qc
                obtain ⟨s4, a4, x4, z4, g4⟩ := cp_num N3 x3 (l := 1) (m := 5) qd
                have k4 := cp_40 x4 (Ag_uF (F := fun q _ => q = 40) (Ag_refl _ _ _) rfl _) (cs40_high x4.2.1 (thicket_w1 hD (by omega) (tV T1) (by omega) (by omega)) (tV T3))
                obtain ⟨s5, a5, x5, g5⟩ := cp_semi N4 k4 qe
                exact ⟨_, fun f => by
                  rw [B_X6_readPart]
                  simp (disch := first | with_reducible assumption | omega) only [↓sm, ↓reduceIte, ↓if_pos, ↓if_neg, kI, kJ, kR, kV, w32_eq, w64_eq, reduceCtorEq, Int.reduceAdd, Int.reduceMul, Int.reduceSub, o_c39, ↓o_g39_0, ↓o_g39_1, o_c5, o_c40, ↓rI40_6 e46, ↓rI40_10 e4p, ↓rI5_5 ek, ↓rI5_6 e6, ↓rI39_2 f2, ↓rI39_3 f3, ↓rI39_4 f4, ↓B_X6_readThicket Z, ↓o_p39_2, ↓o_p40_0, ↓o_p40_1, qt, qg, ↓a1, ↓a2, ↓rI5_8 z2, ↓a3, ↓a4, ↓rI5_8 z4, ↓a5], x5⟩
              · have ew : wn (tK T) (tV T) = 0 := (wn_eq hk (w := 0) (by omega) (by omega)).mpr ⟨h2, hv⟩
                have c0 : ∀ f : Int → mW → mO, mm_kI (mm_run (zP Z) 235 [.inr (.inr (some 141)), .inr (.inr (some 1))] (mk t)) f = f 0 (mk t) := fun f => by rw [r_inW Z hT hk h.1, ew]
                have hb := rp_b0 h
                rw [if_neg (by omega)] at hb
                have v0 := rp_told (th' := 1) (od' := od) (gr' := gr) h (k := 0) (e := 0) (by omega) (by omega) (by omega) (by omega) (by omega)
                obtain ⟨t1, b1, y1⟩ := rp_adv M0 v0
                obtain ⟨t2, b2, y2⟩ := rp_num hk1 M1 y1 (to := 1888) (l := 1) (m := 5) (by omega) (by omega) qb
                obtain ⟨t3, b3, y3⟩ := rp_word hT hk2 M2 y2 (w := 1) (k := 6) (by decide) (by omega) (by omega) qc
                obtain ⟨t4, b4, y4⟩ := rp_num hk3 M3 y3 (to := 1889) (l := 1) (m := 5) (by omega) (by omega) qd
                obtain ⟨t5, b5, y5⟩ := rp_semi hk4 M4 y4 qe
                exact ⟨_, fun f => by
                  rw [B_X12_schoolPart]
                  simp (disch := first | with_reducible assumption | omega) only [↓sm, ↓reduceIte, ↓if_pos, ↓if_neg, kI, kJ, kR, kV, w32_eq, w64_eq, reduceCtorEq, Int.reduceAdd, Int.reduceMul, Int.reduceSub, o_c141, ↓o_g141_0, ↓o_g141_1, ↓o_g141_5, ↓o_g141_6, ↓o_g141_7, ↓o_g141_8, ↓o_g141_9, ↓o_g141_21, ↓o_g141_25, ↓o_g141_26, ↓o_g141_27, ↓o_g141_28, ↓o_g141_29, ↓o_g141_30, ↓o_g141_31, ↓o_g141_34, ↓o_g141_35, ↓o_g141_36, ↓c0, ↓o_g141_20, ↓B_X12_schoolPart_28 Z, ↓B_X12_schoolPart_43 Z, ↓B_X12_schoolPart_46 Z, ↓o_p141_20, ↓B_X12_schoolPart_54 Z, ↓B_X12_schoolPart_84 Z, ↓B_X12_aThicket Z, hb, ↓b1, ↓b2, ↓b3, ↓b4, ↓b5], y5⟩
            · refine Or.inl ⟨fkd T4, tF T4, fkd_1 _, fun s h => ?_, fun t0 t h => ?_⟩
              · obtain ⟨ek, ef, e6, ew, e46, e4p⟩ := cp_k h
                have e6 := e6 (Or.inl h2)
                rw [hv] at e6
                rw [h2] at ek
                have f2 := h.2.2.1
                have f3 := h.2.2.2.1
                have f4 := h.2.2.2.2.1
                have u0 := cp_39 (th' := 1) (od' := od) (gr' := gr) h (k := 2) (v := 1) (by omega)
                obtain ⟨s1, a1, x1, g1⟩ := cp_adv N0 u0
                obtain ⟨s2, a2, x2, z2, g2⟩ := cp_num N1 x1 (l := 1) (m := 5) qb
                have k2 := cp_40 x2 (Ag_uF (F := fun q _ => q = 40) (Ag_refl _ _ _) rfl _) (cs40_wide x2.2.1 w (tV T1))
                obtain ⟨s3, a3, x3, g3⟩ := cp_word N2 k2 (w := 1) qc
                obtain ⟨s4, a4, x4, z4, g4⟩ := cp_num N3 x3 (l := 1) (m := 5) qd
                have k4 := cp_40 x4 (Ag_uF (F := fun q _ => q = 40) (Ag_refl _ _ _) rfl _) (cs40_high x4.2.1 (thicket_w1 hD (by omega) (tV T1) (by omega) (by omega)) (tV T3))
                obtain ⟨s5, a5, x5⟩ := cp_semif Z k4 qe
                exact ⟨_, fun f => by
                  rw [B_X6_readPart]
                  simp (disch := first | with_reducible assumption | omega) only [↓sm, ↓reduceIte, ↓if_pos, ↓if_neg, kI, kJ, kR, kV, w32_eq, w64_eq, reduceCtorEq, Int.reduceAdd, Int.reduceMul, Int.reduceSub, o_c39, ↓o_g39_0, ↓o_g39_1, o_c5, o_c40, ↓rI40_6 e46, ↓rI40_10 e4p, ↓rI5_5 ek, ↓rI5_6 e6, ↓rI39_2 f2, ↓rI39_3 f3, ↓rI39_4 f4, ↓B_X6_readThicket Z, ↓o_p39_2, ↓o_p40_0, ↓o_p40_1, qt, qg, ↓a1, ↓a2, ↓rI5_8 z2, ↓a3, ↓a4, ↓rI5_8 z4, ↓a5], x5⟩
              · have ew : wn (tK T) (tV T) = 0 := (wn_eq hk (w := 0) (by omega) (by omega)).mpr ⟨h2, hv⟩
                have c0 : ∀ f : Int → mW → mO, mm_kI (mm_run (zP Z) 235 [.inr (.inr (some 141)), .inr (.inr (some 1))] (mk t)) f = f 0 (mk t) := fun f => by rw [r_inW Z hT hk h.1, ew]
                have hb := rp_b0 h
                rw [if_neg (by omega)] at hb
                have v0 := rp_told (th' := 1) (od' := od) (gr' := gr) h (k := 0) (e := 0) (by omega) (by omega) (by omega) (by omega) (by omega)
                obtain ⟨t1, b1, y1⟩ := rp_adv M0 v0
                obtain ⟨t2, b2, y2⟩ := rp_num hk1 M1 y1 (to := 1888) (l := 1) (m := 5) (by omega) (by omega) qb
                obtain ⟨t3, b3, y3⟩ := rp_word hT hk2 M2 y2 (w := 1) (k := 6) (by decide) (by omega) (by omega) qc
                obtain ⟨t4, b4, y4⟩ := rp_num hk3 M3 y3 (to := 1889) (l := 1) (m := 5) (by omega) (by omega) qd
                obtain ⟨t5, b5, y5⟩ := rp_semif Z hk4 y4 (Lo_up (Lo_up hL (by omega) _) (by omega) _) qe
                exact ⟨_, fun f => by
                  rw [B_X12_schoolPart]
                  simp (disch := first | with_reducible assumption | omega) only [↓sm, ↓reduceIte, ↓if_pos, ↓if_neg, kI, kJ, kR, kV, w32_eq, w64_eq, reduceCtorEq, Int.reduceAdd, Int.reduceMul, Int.reduceSub, o_c141, ↓o_g141_0, ↓o_g141_1, ↓o_g141_5, ↓o_g141_6, ↓o_g141_7, ↓o_g141_8, ↓o_g141_9, ↓o_g141_21, ↓o_g141_25, ↓o_g141_26, ↓o_g141_27, ↓o_g141_28, ↓o_g141_29, ↓o_g141_30, ↓o_g141_31, ↓o_g141_34, ↓o_g141_35, ↓o_g141_36, ↓c0, ↓o_g141_20, ↓B_X12_schoolPart_28 Z, ↓B_X12_schoolPart_43 Z, ↓B_X12_schoolPart_46 Z, ↓o_p141_20, ↓B_X12_schoolPart_54 Z, ↓B_X12_schoolPart_84 Z, ↓B_X12_aThicket Z, hb, ↓b1, ↓b2, ↓b3, ↓b4, ↓b5], y5⟩
          · refine Or.inl ⟨nkd T3, tF T3, nkd_1 _, fun s h => ?_, fun t0 t h => ?_⟩
            · obtain ⟨ek, ef, e6, ew, e46, e4p⟩ := cp_k h
              have e6 := e6 (Or.inl h2)
              rw [hv] at e6
              rw [h2] at ek
              have f2 := h.2.2.1
              have f3 := h.2.2.2.1
              have f4 := h.2.2.2.2.1
              have u0 := cp_39 (th' := 1) (od' := od) (gr' := gr) h (k := 2) (v := 1) (by omega)
              obtain ⟨s1, a1, x1, g1⟩ := cp_adv N0 u0
              obtain ⟨s2, a2, x2, z2, g2⟩ := cp_num N1 x1 (l := 1) (m := 5) qb
              have k2 := cp_40 x2 (Ag_uF (F := fun q _ => q = 40) (Ag_refl _ _ _) rfl _) (cs40_wide x2.2.1 w (tV T1))
              obtain ⟨s3, a3, x3, g3⟩ := cp_word N2 k2 (w := 1) qc
              obtain ⟨s4, a4, x4⟩ := cp_numf Z x3 (l := 1) (m := 5) qd
              exact ⟨_, fun f => by
                rw [B_X6_readPart]
                simp (disch := first | with_reducible assumption | omega) only [↓sm, ↓reduceIte, ↓if_pos, ↓if_neg, kI, kJ, kR, kV, w32_eq, w64_eq, reduceCtorEq, Int.reduceAdd, Int.reduceMul, Int.reduceSub, o_c39, ↓o_g39_0, ↓o_g39_1, o_c5, o_c40, ↓rI40_6 e46, ↓rI40_10 e4p, ↓rI5_5 ek, ↓rI5_6 e6, ↓rI39_2 f2, ↓rI39_3 f3, ↓rI39_4 f4, ↓B_X6_readThicket Z, ↓o_p39_2, ↓o_p40_0, ↓o_p40_1, qt, qg, ↓a1, ↓a2, ↓rI5_8 z2, ↓a3, ↓a4], x4⟩
            · have ew : wn (tK T) (tV T) = 0 := (wn_eq hk (w := 0) (by omega) (by omega)).mpr ⟨h2, hv⟩
              have c0 : ∀ f : Int → mW → mO, mm_kI (mm_run (zP Z) 235 [.inr (.inr (some 141)), .inr (.inr (some 1))] (mk t)) f = f 0 (mk t) := fun f => by rw [r_inW Z hT hk h.1, ew]
              have hb := rp_b0 h
              rw [if_neg (by omega)] at hb
              have v0 := rp_told (th' := 1) (od' := od) (gr' := gr) h (k := 0) (e := 0) (by omega) (by omega) (by omega) (by omega) (by omega)
              obtain ⟨t1, b1, y1⟩ := rp_adv M0 v0
              obtain ⟨t2, b2, y2⟩ := rp_num hk1 M1 y1 (to := 1888) (l := 1) (m := 5) (by omega) (by omega) qb
              obtain ⟨t3, b3, y3⟩ := rp_word hT hk2 M2 y2 (w := 1) (k := 6) (by decide) (by omega) (by omega) qc
              obtain ⟨t4, b4, y4⟩ := rp_numf Z hk3 y3 (Lo_up hL (by omega) _) (to := 1889) (l := 1) (m := 5) qd
              exact ⟨_, fun f => by
                rw [B_X12_schoolPart]
                simp (disch := first | with_reducible assumption | omega) only [↓sm, ↓reduceIte, ↓if_pos, ↓if_neg, kI, kJ, kR, kV, w32_eq, w64_eq, reduceCtorEq, Int.reduceAdd, Int.reduceMul, Int.reduceSub, o_c141, ↓o_g141_0, ↓o_g141_1, ↓o_g141_5, ↓o_g141_6, ↓o_g141_7, ↓o_g141_8, ↓o_g141_9, ↓o_g141_21, ↓o_g141_25, ↓o_g141_26, ↓o_g141_27, ↓o_g141_28, ↓o_g141_29, ↓o_g141_30, ↓o_g141_31, ↓o_g141_34, ↓o_g141_35, ↓o_g141_36, ↓c0, ↓o_g141_20, ↓B_X12_schoolPart_28 Z, ↓B_X12_schoolPart_43 Z, ↓B_X12_schoolPart_46 Z, ↓o_p141_20, ↓B_X12_schoolPart_54 Z, ↓B_X12_schoolPart_84 Z, ↓B_X12_aThicket Z, hb, ↓b1, ↓b2, ↓b3, ↓b4], y4⟩
        · refine Or.inl ⟨fkd T2, tF T2, fkd_1 _, fun s h => ?_, fun t0 t h => ?_⟩
          · obtain ⟨ek, ef, e6, ew, e46, e4p⟩ := cp_k h
            have e6 := e6 (Or.inl h2)
            rw [hv] at e6
            rw [h2] at ek
            have f2 := h.2.2.1
            have f3 := h.2.2.2.1
            have f4 := h.2.2.2.2.1
            have u0 := cp_39 (th' := 1) (od' := od) (gr' := gr) h (k := 2) (v := 1) (by omega)
            obtain ⟨s1, a1, x1, g1⟩ := cp_adv N0 u0
            obtain ⟨s2, a2, x2, z2, g2⟩ := cp_num N1 x1 (l := 1) (m := 5) qb
            have k2 := cp_40 x2 (Ag_uF (F := fun q _ => q = 40) (Ag_refl _ _ _) rfl _) (cs40_wide x2.2.1 w (tV T1))
            obtain ⟨s3, a3, x3⟩ := cp_wordf Z k2 (w := 1) qc
            exact ⟨_, fun f => by
              rw [B_X6_readPart]
              simp (disch := first | with_reducible assumption | omega) only [↓sm, ↓reduceIte, ↓if_pos, ↓if_neg, kI, kJ, kR, kV, w32_eq, w64_eq, reduceCtorEq, Int.reduceAdd, Int.reduceMul, Int.reduceSub, o_c39, ↓o_g39_0, ↓o_g39_1, o_c5, o_c40, ↓rI40_6 e46, ↓rI40_10 e4p, ↓rI5_5 ek, ↓rI5_6 e6, ↓rI39_2 f2, ↓rI39_3 f3, ↓rI39_4 f4, ↓B_X6_readThicket Z, ↓o_p39_2, ↓o_p40_0, ↓o_p40_1, qt, qg, ↓a1, ↓a2, ↓rI5_8 z2, ↓a3], x3⟩
          · have ew : wn (tK T) (tV T) = 0 := (wn_eq hk (w := 0) (by omega) (by omega)).mpr ⟨h2, hv⟩
            have c0 : ∀ f : Int → mW → mO, mm_kI (mm_run (zP Z) 235 [.inr (.inr (some 141)), .inr (.inr (some 1))] (mk t)) f = f 0 (mk t) := fun f => by rw [r_inW Z hT hk h.1, ew]
            have hb := rp_b0 h
            rw [if_neg (by omega)] at hb
            have v0 := rp_told (th' := 1) (od' := od) (gr' := gr) h (k := 0) (e := 0) (by omega) (by omega) (by omega) (by omega) (by omega)
            obtain ⟨t1, b1, y1⟩ := rp_adv M0 v0
            obtain ⟨t2, b2, y2⟩ := rp_num hk1 M1 y1 (to := 1888) (l := 1) (m := 5) (by omega) (by omega) qb
            obtain ⟨t3, b3, y3⟩ := rp_wordf Z hT hk2 y2 (Lo_up hL (by omega) _) (w := 1) (k := 6) (by decide) (by omega) (by omega) qc
            exact ⟨_, fun f => by
              rw [B_X12_schoolPart]
              simp (disch := first | with_reducible assumption | omega) only [↓sm, ↓reduceIte, ↓if_pos, ↓if_neg, kI, kJ, kR, kV, w32_eq, w64_eq, reduceCtorEq, Int.reduceAdd, Int.reduceMul, Int.reduceSub, o_c141, ↓o_g141_0, ↓o_g141_1, ↓o_g141_5, ↓o_g141_6, ↓o_g141_7, ↓o_g141_8, ↓o_g141_9, ↓o_g141_21, ↓o_g141_25, ↓o_g141_26, ↓o_g141_27, ↓o_g141_28, ↓o_g141_29, ↓o_g141_30, ↓o_g141_31, ↓o_g141_34, ↓o_g141_35, ↓o_g141_36, ↓c0, ↓o_g141_20, ↓B_X12_schoolPart_28 Z, ↓B_X12_schoolPart_43 Z, ↓B_X12_schoolPart_46 Z, ↓o_p141_20, ↓B_X12_schoolPart_54 Z, ↓B_X12_schoolPart_84 Z, ↓B_X12_aThicket Z, hb, ↓b1, ↓b2, ↓b3], y3⟩
      · refine Or.inl ⟨nkd T1, tF T1, nkd_1 _, fun s h => ?_, fun t0 t h => ?_⟩
        · obtain ⟨ek, ef, e6, ew, e46, e4p⟩ := cp_k h
          have e6 := e6 (Or.inl h2)
          rw [hv] at e6
          rw [h2] at ek
          have f2 := h.2.2.1
          have f3 := h.2.2.2.1
          have f4 := h.2.2.2.2.1
          have u0 := cp_39 (th' := 1) (od' := od) (gr' := gr) h (k := 2) (v := 1) (by omega)
          obtain ⟨s1, a1, x1, g1⟩ := cp_adv N0 u0
          obtain ⟨s2, a2, x2⟩ := cp_numf Z x1 (l := 1) (m := 5) qb
          exact ⟨_, fun f => by
            rw [B_X6_readPart]
            simp (disch := first | with_reducible assumption | omega) only [↓sm, ↓reduceIte, ↓if_pos, ↓if_neg, kI, kJ, kR, kV, w32_eq, w64_eq, reduceCtorEq, Int.reduceAdd, Int.reduceMul, Int.reduceSub, o_c39, ↓o_g39_0, ↓o_g39_1, o_c5, o_c40, ↓rI40_6 e46, ↓rI40_10 e4p, ↓rI5_5 ek, ↓rI5_6 e6, ↓rI39_2 f2, ↓rI39_3 f3, ↓rI39_4 f4, ↓B_X6_readThicket Z, ↓o_p39_2, ↓o_p40_0, ↓o_p40_1, qt, qg, ↓a1, ↓a2], x2⟩
        · have ew : wn (tK T) (tV T) = 0 := (wn_eq hk (w := 0) (by omega) (by omega)).mpr ⟨h2, hv⟩
          have c0 : ∀ f : Int → mW → mO, mm_kI (mm_run (zP Z) 235 [.inr (.inr (some 141)), .inr (.inr (some 1))] (mk t)) f = f 0 (mk t) := fun f => by rw [r_inW Z hT hk h.1, ew]
          have hb := rp_b0 h
          rw [if_neg (by omega)] at hb
          have v0 := rp_told (th' := 1) (od' := od) (gr' := gr) h (k := 0) (e := 0) (by omega) (by omega) (by omega) (by omega) (by omega)
          obtain ⟨t1, b1, y1⟩ := rp_adv M0 v0
          obtain ⟨t2, b2, y2⟩ := rp_numf Z hk1 y1 hL (to := 1888) (l := 1) (m := 5) qb
          exact ⟨_, fun f => by
            rw [B_X12_schoolPart]
            simp (disch := first | with_reducible assumption | omega) only [↓sm, ↓reduceIte, ↓if_pos, ↓if_neg, kI, kJ, kR, kV, w32_eq, w64_eq, reduceCtorEq, Int.reduceAdd, Int.reduceMul, Int.reduceSub, o_c141, ↓o_g141_0, ↓o_g141_1, ↓o_g141_5, ↓o_g141_6, ↓o_g141_7, ↓o_g141_8, ↓o_g141_9, ↓o_g141_21, ↓o_g141_25, ↓o_g141_26, ↓o_g141_27, ↓o_g141_28, ↓o_g141_29, ↓o_g141_30, ↓o_g141_31, ↓o_g141_34, ↓o_g141_35, ↓o_g141_36, ↓c0, ↓o_g141_20, ↓B_X12_schoolPart_28 Z, ↓B_X12_schoolPart_43 Z, ↓B_X12_schoolPart_46 Z, ↓o_p141_20, ↓B_X12_schoolPart_54 Z, ↓B_X12_schoolPart_84 Z, ↓B_X12_aThicket Z, hb, ↓b1, ↓b2], y2⟩
    · refine Or.inl ⟨5, tF T, by omega, fun s h => ?_, fun t0 t h => ?_⟩
      · obtain ⟨ek, ef, e6, ew, e46, e4p⟩ := cp_k h
        have e6 := e6 (Or.inl h2)
        rw [hv] at e6
        rw [h2] at ek
        have f2 := h.2.2.1
        have f3 := h.2.2.2.1
        have f4 := h.2.2.2.2.1
        obtain ⟨s1, a1, x1⟩ := cp_fails Z h 5
        exact ⟨_, fun f => by
          rw [B_X6_readPart]
          simp (disch := first | with_reducible assumption | omega) only [↓sm, ↓reduceIte, ↓if_pos, ↓if_neg, kI, kJ, kR, kV, w32_eq, w64_eq, reduceCtorEq, Int.reduceAdd, Int.reduceMul, Int.reduceSub, o_c39, ↓o_g39_0, ↓o_g39_1, o_c5, o_c40, ↓rI40_6 e46, ↓rI40_10 e4p, ↓rI5_5 ek, ↓rI5_6 e6, ↓rI39_2 f2, ↓rI39_3 f3, ↓rI39_4 f4, ↓B_X6_readThicket Z, ↓o_p39_2, ↓o_p40_0, ↓o_p40_1, qt, qg, ↓a1], x1⟩
      · have ew : wn (tK T) (tV T) = 0 := (wn_eq hk (w := 0) (by omega) (by omega)).mpr ⟨h2, hv⟩
        have c0 : ∀ f : Int → mW → mO, mm_kI (mm_run (zP Z) 235 [.inr (.inr (some 141)), .inr (.inr (some 1))] (mk t)) f = f 0 (mk t) := fun f => by rw [r_inW Z hT hk h.1, ew]
        have hb := rp_b0 h
        rw [if_pos (by omega)] at hb
        obtain ⟨t1, b1, y1⟩ := rp_fails Z hk h hL (k := 5) (by omega)
        exact ⟨_, fun f => by
          rw [B_X12_schoolPart]
          simp (disch := first | with_reducible assumption | omega) only [↓sm, ↓reduceIte, ↓if_pos, ↓if_neg, kI, kJ, kR, kV, w32_eq, w64_eq, reduceCtorEq, Int.reduceAdd, Int.reduceMul, Int.reduceSub, o_c141, ↓o_g141_0, ↓o_g141_1, ↓o_g141_5, ↓o_g141_6, ↓o_g141_7, ↓o_g141_8, ↓o_g141_9, ↓o_g141_21, ↓o_g141_25, ↓o_g141_26, ↓o_g141_27, ↓o_g141_28, ↓o_g141_29, ↓o_g141_30, ↓o_g141_31, ↓o_g141_34, ↓o_g141_35, ↓o_g141_36, ↓c0, ↓o_g141_20, ↓B_X12_schoolPart_28 Z, ↓B_X12_schoolPart_43 Z, ↓B_X12_schoolPart_46 Z, ↓o_p141_20, ↓B_X12_schoolPart_54 Z, ↓B_X12_schoolPart_84 Z, ↓B_X12_aThicket Z, hb, ↓b1], y1⟩
  · refine Or.inl ⟨5, tF T, by omega, fun s h => ?_, fun t0 t h => ?_⟩
    · obtain ⟨ek, ef, e6, ew, e46, e4p⟩ := cp_k h
      have e6 := e6 (Or.inl h2)
      rw [hv] at e6
      rw [h2] at ek
      have f2 := h.2.2.1
      have f3 := h.2.2.2.1
      have f4 := h.2.2.2.2.1
      obtain ⟨s1, a1, x1⟩ := cp_fails Z h 5
      exact ⟨_, fun f => by
        rw [B_X6_readPart]
        simp (disch := first | with_reducible assumption | omega) only [↓sm, ↓reduceIte, ↓if_pos, ↓if_neg, kI, kJ, kR, kV, w32_eq, w64_eq, reduceCtorEq, Int.reduceAdd, Int.reduceMul, Int.reduceSub, o_c39, ↓o_g39_0, ↓o_g39_1, o_c5, o_c40, ↓rI40_6 e46, ↓rI40_10 e4p, ↓rI5_5 ek, ↓rI5_6 e6, ↓rI39_2 f2, ↓rI39_3 f3, ↓rI39_4 f4, ↓B_X6_readThicket Z, ↓o_p39_2, ↓o_p40_0, ↓o_p40_1, qt, ↓a1], x1⟩
    · have ew : wn (tK T) (tV T) = 0 := (wn_eq hk (w := 0) (by omega) (by omega)).mpr ⟨h2, hv⟩
      have c0 : ∀ f : Int → mW → mO, mm_kI (mm_run (zP Z) 235 [.inr (.inr (some 141)), .inr (.inr (some 1))] (mk t)) f = f 0 (mk t) := fun f => by rw [r_inW Z hT hk h.1, ew]
      have hb := rp_b0 h
      rw [if_pos (by omega)] at hb
      obtain ⟨t1, b1, y1⟩ := rp_fails Z hk h hL (k := 5) (by omega)
      exact ⟨_, fun f => by
        rw [B_X12_schoolPart]
        simp (disch := first | with_reducible assumption | omega) only [↓sm, ↓reduceIte, ↓if_pos, ↓if_neg, kI, kJ, kR, kV, w32_eq, w64_eq, reduceCtorEq, Int.reduceAdd, Int.reduceMul, Int.reduceSub, o_c141, ↓o_g141_0, ↓o_g141_1, ↓o_g141_5, ↓o_g141_6, ↓o_g141_7, ↓o_g141_8, ↓o_g141_9, ↓o_g141_21, ↓o_g141_25, ↓o_g141_26, ↓o_g141_27, ↓o_g141_28, ↓o_g141_29, ↓o_g141_30, ↓o_g141_31, ↓o_g141_34, ↓o_g141_35, ↓o_g141_36, ↓c0, ↓o_g141_20, ↓B_X12_schoolPart_28 Z, ↓B_X12_schoolPart_43 Z, ↓B_X12_schoolPart_46 Z, ↓o_p141_20, ↓B_X12_schoolPart_54 Z, ↓B_X12_schoolPart_84 Z, ↓B_X12_aThicket Z, hb, ↓b1], y1⟩
set_option maxHeartbeats 8000000 in
theorem part_odds (Z : mX) {s0 : mS} {b : Int → Int} {n : Int} (hT : TB0 b n) {G0 H0 G H : Int → Int} {th od gr : Int} {T : mT} (hk : TT b n T) (hD : DrI (shG G) th od gr) (hL : Lo G0 H0 G H) (h2 : tK T = 2) (hv : tV T = 2) : Part Z s0 b n G0 H0 T G H th od gr := by
  obtain ⟨w, d7, dt, dd, dg, d0, dz⟩ := id hD
  obtain ⟨T1, p1, hk1, N0, M0⟩ := nxt Z hT hk
  obtain ⟨T2, p2, hk2, N1, M1⟩ := nxt Z hT hk1
  obtain ⟨T3, p3, hk3, N2, M2⟩ := nxt Z hT hk2
  have q0 := tk_o hk
  have q1 := tk_o hk1
  have q2 := tk_o hk2
  have q3 := tk_o hk3
  by_cases qt : od = 0
  · by_cases qb : tK T1 = 5 ∧ 0 ≤ tV T1 ∧ tV T1 ≤ 16
    · by_cases qe : tK T2 = 6 ∧ tV T2 = 59
      · refine Or.inr ⟨T3, mm_upd G 1892 (tV T1), H, th, 1, gr, by omega, hk3, odds_DI hD (tV T1) (by omega), Lo_up hL (by omega) _, fun s h => ?_, fun t0 t h => ?_⟩
        · obtain ⟨ek, ef, e6, ew, e46, e4p⟩ := cp_k h
          have e6 := e6 (Or.inl h2)
          rw [hv] at e6
          rw [h2] at ek
          have f2 := h.2.2.1
          have f3 := h.2.2.2.1
          have f4 := h.2.2.2.2.1
          have u0 := cp_39 (th' := th) (od' := 1) (gr' := gr) h (k := 3) (v := 1) (by omega)
          obtain ⟨s1, a1, x1, g1⟩ := cp_adv N0 u0
          obtain ⟨s2, a2, x2, z2, g2⟩ := cp_num N1 x1 (l := 0) (m := 16) qb
          have k2 := cp_40 x2 (Ag_uF (F := fun q _ => q = 40) (Ag_refl _ _ _) rfl _) (cs40_odds x2.2.1 w (tV T1))
          obtain ⟨s3, a3, x3, g3⟩ := cp_semi N2 k2 qe
          exact ⟨_, fun f => by
            rw [B_X6_readPart]
            simp (disch := first | with_reducible assumption | omega) only [↓sm, ↓reduceIte, ↓if_pos, ↓if_neg, kI, kJ, kR, kV, w32_eq, w64_eq, reduceCtorEq, Int.reduceAdd, Int.reduceMul, Int.reduceSub, o_c39, ↓o_g39_0, ↓o_g39_1, o_c5, o_c40, ↓rI40_6 e46, ↓rI40_10 e4p, ↓rI5_5 ek, ↓rI5_6 e6, ↓rI39_2 f2, ↓rI39_3 f3, ↓rI39_4 f4, ↓B_X6_readOdds Z, ↓o_p39_3, ↓o_p40_2, qt, ↓a1, ↓a2, ↓rI5_8 z2, ↓a3], x3⟩
        · have ew : wn (tK T) (tV T) = 1 := (wn_eq hk (w := 2) (by omega) (by omega)).mpr ⟨h2, hv⟩
          have c0 : ∀ f : Int → mW → mO, mm_kI (mm_run (zP Z) 235 [.inr (.inr (some 141)), .inr (.inr (some 1))] (mk t)) f = f 1 (mk t) := fun f => by rw [r_inW Z hT hk h.1, ew]
          have hb := rp_b1 h
          rw [if_neg (by omega)] at hb
          have v0 := rp_told (th' := th) (od' := 1) (gr' := gr) h (k := 1) (e := 0) (by omega) (by omega) (by omega) (by omega) (by omega)
          obtain ⟨t1, b1, y1⟩ := rp_adv M0 v0
          obtain ⟨t2, b2, y2⟩ := rp_num hk1 M1 y1 (to := 1892) (l := 0) (m := 16) (by omega) (by omega) qb
          obtain ⟨t3, b3, y3⟩ := rp_semi hk2 M2 y2 qe
          exact ⟨_, fun f => by
            rw [B_X12_schoolPart]
            simp (disch := first | with_reducible assumption | omega) only [↓sm, ↓reduceIte, ↓if_pos, ↓if_neg, kI, kJ, kR, kV, w32_eq, w64_eq, reduceCtorEq, Int.reduceAdd, Int.reduceMul, Int.reduceSub, o_c141, ↓o_g141_0, ↓o_g141_1, ↓o_g141_5, ↓o_g141_6, ↓o_g141_7, ↓o_g141_8, ↓o_g141_9, ↓o_g141_21, ↓o_g141_25, ↓o_g141_26, ↓o_g141_27, ↓o_g141_28, ↓o_g141_29, ↓o_g141_30, ↓o_g141_31, ↓o_g141_34, ↓o_g141_35, ↓o_g141_36, ↓c0, ↓o_g141_20, ↓B_X12_schoolPart_28 Z, ↓B_X12_schoolPart_43 Z, ↓B_X12_schoolPart_46 Z, ↓o_p141_20, ↓B_X12_schoolPart_54 Z, ↓B_X12_schoolPart_84 Z, hb, ↓b1, ↓b2, ↓b3], y3⟩
      · refine Or.inl ⟨fkd T2, tF T2, fkd_1 _, fun s h => ?_, fun t0 t h => ?_⟩
        · obtain ⟨ek, ef, e6, ew, e46, e4p⟩ := cp_k h
          have e6 := e6 (Or.inl h2)
          rw [hv] at e6
          rw [h2] at ek
          have f2 := h.2.2.1
          have f3 := h.2.2.2.1
          have f4 := h.2.2.2.2.1
          have u0 := cp_39 (th' := th) (od' := 1) (gr' := gr) h (k := 3) (v := 1) (by omega)
          obtain ⟨s1, a1, x1, g1⟩ := cp_adv N0 u0
          obtain ⟨s2, a2, x2, z2, g2⟩ := cp_num N1 x1 (l := 0) (m := 16) qb
          have k2 := cp_40 x2 (Ag_uF (F := fun q _ => q = 40) (Ag_refl _ _ _) rfl _) (cs40_odds x2.2.1 w (tV T1))
          obtain ⟨s3, a3, x3⟩ := cp_semif Z k2 qe
          exact ⟨_, fun f => by
            rw [B_X6_readPart]
            simp (disch := first | with_reducible assumption | omega) only [↓sm, ↓reduceIte, ↓if_pos, ↓if_neg, kI, kJ, kR, kV, w32_eq, w64_eq, reduceCtorEq, Int.reduceAdd, Int.reduceMul, Int.reduceSub, o_c39, ↓o_g39_0, ↓o_g39_1, o_c5, o_c40, ↓rI40_6 e46, ↓rI40_10 e4p, ↓rI5_5 ek, ↓rI5_6 e6, ↓rI39_2 f2, ↓rI39_3 f3, ↓rI39_4 f4, ↓B_X6_readOdds Z, ↓o_p39_3, ↓o_p40_2, qt, ↓a1, ↓a2, ↓rI5_8 z2, ↓a3], x3⟩
        · have ew : wn (tK T) (tV T) = 1 := (wn_eq hk (w := 2) (by omega) (by omega)).mpr ⟨h2, hv⟩
          have c0 : ∀ f : Int → mW → mO, mm_kI (mm_run (zP Z) 235 [.inr (.inr (some 141)), .inr (.inr (some 1))] (mk t)) f = f 1 (mk t) := fun f => by rw [r_inW Z hT hk h.1, ew]
          have hb := rp_b1 h
          rw [if_neg (by omega)] at hb
          have v0 := rp_told (th' := th) (od' := 1) (gr' := gr) h (k := 1) (e := 0) (by omega) (by omega) (by omega) (by omega) (by omega)
          obtain ⟨t1, b1, y1⟩ := rp_adv M0 v0
          obtain ⟨t2, b2, y2⟩ := rp_num hk1 M1 y1 (to := 1892) (l := 0) (m := 16) (by omega) (by omega) qb
          obtain ⟨t3, b3, y3⟩ := rp_semif Z hk2 y2 (Lo_up hL (by omega) _) qe
          exact ⟨_, fun f => by
            rw [B_X12_schoolPart]
            simp (disch := first | with_reducible assumption | omega) only [↓sm, ↓reduceIte, ↓if_pos, ↓if_neg, kI, kJ, kR, kV, w32_eq, w64_eq, reduceCtorEq, Int.reduceAdd, Int.reduceMul, Int.reduceSub, o_c141, ↓o_g141_0, ↓o_g141_1, ↓o_g141_5, ↓o_g141_6, ↓o_g141_7, ↓o_g141_8, ↓o_g141_9, ↓o_g141_21, ↓o_g141_25, ↓o_g141_26, ↓o_g141_27, ↓o_g141_28, ↓o_g141_29, ↓o_g141_30, ↓o_g141_31, ↓o_g141_34, ↓o_g141_35, ↓o_g141_36, ↓c0, ↓o_g141_20, ↓B_X12_schoolPart_28 Z, ↓B_X12_schoolPart_43 Z, ↓B_X12_schoolPart_46 Z, ↓o_p141_20, ↓B_X12_schoolPart_54 Z, ↓B_X12_schoolPart_84 Z, hb, ↓b1, ↓b2, ↓b3], y3⟩
    · refine Or.inl ⟨nkd T1, tF T1, nkd_1 _, fun s h => ?_, fun t0 t h => ?_⟩
      · obtain ⟨ek, ef, e6, ew, e46, e4p⟩ := cp_k h
        have e6 := e6 (Or.inl h2)
        rw [hv] at e6
        rw [h2] at ek
        have f2 := h.2.2.1
        have f3 := h.2.2.2.1
        have f4 := h.2.2.2.2.1
        have u0 := cp_39 (th' := th) (od' := 1) (gr' := gr) h (k := 3) (v := 1) (by omega)
        obtain ⟨s1, a1, x1, g1⟩ := cp_adv N0 u0
        obtain ⟨s2, a2, x2⟩ := cp_numf Z x1 (l := 0) (m := 16) qb
        exact ⟨_, fun f => by
          rw [B_X6_readPart]
          simp (disch := first | with_reducible assumption | omega) only [↓sm, ↓reduceIte, ↓if_pos, ↓if_neg, kI, kJ, kR, kV, w32_eq, w64_eq, reduceCtorEq, Int.reduceAdd, Int.reduceMul, Int.reduceSub, o_c39, ↓o_g39_0, ↓o_g39_1, o_c5, o_c40, ↓rI40_6 e46, ↓rI40_10 e4p, ↓rI5_5 ek, ↓rI5_6 e6, ↓rI39_2 f2, ↓rI39_3 f3, ↓rI39_4 f4, ↓B_X6_readOdds Z, ↓o_p39_3, ↓o_p40_2, qt, ↓a1, ↓a2], x2⟩
      · have ew : wn (tK T) (tV T) = 1 := (wn_eq hk (w := 2) (by omega) (by omega)).mpr ⟨h2, hv⟩
        have c0 : ∀ f : Int → mW → mO, mm_kI (mm_run (zP Z) 235 [.inr (.inr (some 141)), .inr (.inr (some 1))] (mk t)) f = f 1 (mk t) := fun f => by rw [r_inW Z hT hk h.1, ew]
        have hb := rp_b1 h
        rw [if_neg (by omega)] at hb
        have v0 := rp_told (th' := th) (od' := 1) (gr' := gr) h (k := 1) (e := 0) (by omega) (by omega) (by omega) (by omega) (by omega)
        obtain ⟨t1, b1, y1⟩ := rp_adv M0 v0
        obtain ⟨t2, b2, y2⟩ := rp_numf Z hk1 y1 hL (to := 1892) (l := 0) (m := 16) qb
        exact ⟨_, fun f => by
          rw [B_X12_schoolPart]
          simp (disch := first | with_reducible assumption | omega) only [↓sm, ↓reduceIte, ↓if_pos, ↓if_neg, kI, kJ, kR, kV, w32_eq, w64_eq, reduceCtorEq, Int.reduceAdd, Int.reduceMul, Int.reduceSub, o_c141, ↓o_g141_0, ↓o_g141_1, ↓o_g141_5, ↓o_g141_6, ↓o_g141_7, ↓o_g141_8, ↓o_g141_9, ↓o_g141_21, ↓o_g141_25, ↓o_g141_26, ↓o_g141_27, ↓o_g141_28, ↓o_g141_29, ↓o_g141_30, ↓o_g141_31, ↓o_g141_34, ↓o_g141_35, ↓o_g141_36, ↓c0, ↓o_g141_20, ↓B_X12_schoolPart_28 Z, ↓B_X12_schoolPart_43 Z, ↓B_X12_schoolPart_46 Z, ↓o_p141_20, ↓B_X12_schoolPart_54 Z, ↓B_X12_schoolPart_84 Z, hb, ↓b1, ↓b2], y2⟩
  · refine Or.inl ⟨5, tF T, by omega, fun s h => ?_, fun t0 t h => ?_⟩
    · obtain ⟨ek, ef, e6, ew, e46, e4p⟩ := cp_k h
      have e6 := e6 (Or.inl h2)
      rw [hv] at e6
      rw [h2] at ek
      have f2 := h.2.2.1
      have f3 := h.2.2.2.1
      have f4 := h.2.2.2.2.1
      obtain ⟨s1, a1, x1⟩ := cp_fails Z h 5
      exact ⟨_, fun f => by
        rw [B_X6_readPart]
        simp (disch := first | with_reducible assumption | omega) only [↓sm, ↓reduceIte, ↓if_pos, ↓if_neg, kI, kJ, kR, kV, w32_eq, w64_eq, reduceCtorEq, Int.reduceAdd, Int.reduceMul, Int.reduceSub, o_c39, ↓o_g39_0, ↓o_g39_1, o_c5, o_c40, ↓rI40_6 e46, ↓rI40_10 e4p, ↓rI5_5 ek, ↓rI5_6 e6, ↓rI39_2 f2, ↓rI39_3 f3, ↓rI39_4 f4, ↓B_X6_readOdds Z, ↓o_p39_3, ↓o_p40_2, qt, ↓a1], x1⟩
    · have ew : wn (tK T) (tV T) = 1 := (wn_eq hk (w := 2) (by omega) (by omega)).mpr ⟨h2, hv⟩
      have c0 : ∀ f : Int → mW → mO, mm_kI (mm_run (zP Z) 235 [.inr (.inr (some 141)), .inr (.inr (some 1))] (mk t)) f = f 1 (mk t) := fun f => by rw [r_inW Z hT hk h.1, ew]
      have hb := rp_b1 h
      rw [if_pos (by omega)] at hb
      obtain ⟨t1, b1, y1⟩ := rp_fails Z hk h hL (k := 5) (by omega)
      exact ⟨_, fun f => by
        rw [B_X12_schoolPart]
        simp (disch := first | with_reducible assumption | omega) only [↓sm, ↓reduceIte, ↓if_pos, ↓if_neg, kI, kJ, kR, kV, w32_eq, w64_eq, reduceCtorEq, Int.reduceAdd, Int.reduceMul, Int.reduceSub, o_c141, ↓o_g141_0, ↓o_g141_1, ↓o_g141_5, ↓o_g141_6, ↓o_g141_7, ↓o_g141_8, ↓o_g141_9, ↓o_g141_21, ↓o_g141_25, ↓o_g141_26, ↓o_g141_27, ↓o_g141_28, ↓o_g141_29, ↓o_g141_30, ↓o_g141_31, ↓o_g141_34, ↓o_g141_35, ↓o_g141_36, ↓c0, ↓o_g141_20, ↓B_X12_schoolPart_28 Z, ↓B_X12_schoolPart_43 Z, ↓B_X12_schoolPart_46 Z, ↓o_p141_20, ↓B_X12_schoolPart_54 Z, ↓B_X12_schoolPart_84 Z, hb, ↓b1], y1⟩
set_option maxHeartbeats 8000000 in
theorem part_thorns (Z : mX) {s0 : mS} {b : Int → Int} {n : Int} (hT : TB0 b n) {G0 H0 G H : Int → Int} {th od gr : Int} {T : mT} (hk : TT b n T) (hD : DrI (shG G) th od gr) (hL : Lo G0 H0 G H) (h2 : tK T = 2) (hv : tV T = 3) : Part Z s0 b n G0 H0 T G H th od gr := by
  obtain ⟨w, d7, dt, dd, dg, d0, dz⟩ := id hD
  have nn := wf_n w
  obtain ⟨T1, p1, hk1, N0, M0⟩ := nxt Z hT hk
  obtain ⟨T2, p2, hk2, N1, M1⟩ := nxt Z hT hk1
  obtain ⟨T3, p3, hk3, N2, M2⟩ := nxt Z hT hk2
  obtain ⟨T4, p4, hk4, N3, M3⟩ := nxt Z hT hk3
  have q0 := tk_o hk
  have q1 := tk_o hk1
  have q2 := tk_o hk2
  have q3 := tk_o hk3
  have q4 := tk_o hk4
  by_cases qb : tK T1 = 5 ∧ 0 ≤ tV T1 ∧ tV T1 ≤ ncl (shG G) - 1
  · by_cases qd : tK T2 = 5 ∧ 0 ≤ tV T2 ∧ tV T2 ≤ 9
    · by_cases qe : tK T3 = 6 ∧ tV T3 = 59
      · refine Or.inr ⟨T4, mm_upd (mm_upd G 2352 (tV T1)) (1898 + tV T1) (tV T2), H, th, od, 1, by omega, hk4, plant_DI (k := 0) hD (tV T1) (by omega) (by omega) (tV T2) (by omega) (tV T1) (by omega) (by omega), Lo_up (Lo_up hL (by omega) _) (by omega) _, fun s h => ?_, fun t0 t h => ?_⟩
        · obtain ⟨ek, ef, e6, ew, e46, e4p⟩ := cp_k h
          have e6 := e6 (Or.inl h2)
          rw [hv] at e6
          rw [h2] at ek
          have f2 := h.2.2.1
          have f3 := h.2.2.2.1
          have f4 := h.2.2.2.2.1
          have u0 := cp_39 (th' := th) (od' := od) (gr' := 1) h (k := 4) (v := 1) (by omega)
          obtain ⟨s1, a1, x1, g1⟩ := cp_adv N0 u0
          have cc := fun f => c_cells40 Z x1.2.1 w f
          have wn : mm_w32 (ncl (shG G) - 1) = ncl (shG G) - 1 := w32_eq (by omega) (by omega)
          obtain ⟨s2, a2, x2, z2, g2⟩ := cp_num N1 x1 (l := 0) (m := ncl (shG G) - 1) qb
          rw [← wn] at a2
          obtain ⟨s3, a3, x3, z3, g3⟩ := cp_num N2 x2 (l := 0) (m := 9) qd
          have k3 := cp_40 x3 (Ag_uA (Ag_refl _ _ _) (q := 41) (by omega) (tV T1) (tV T2)) (cs40_plant (k := 0) x3.2.1 w (tV T1) (by omega) (by omega) (tV T2) (by omega) (tV T1) (q := 41) (by omega) (I := 1898 + tV T1) (by omega))
          obtain ⟨s4, a4, x4, g4⟩ := cp_semi N3 k3 qe
          exact ⟨_, fun f => by
            rw [B_X6_readPart]
            simp (disch := first | with_reducible assumption | omega) only [↓sm, ↓reduceIte, ↓if_pos, ↓if_neg, kI, kJ, kR, kV, w32_eq, w64_eq, reduceCtorEq, Int.reduceAdd, Int.reduceMul, Int.reduceSub, o_c39, ↓o_g39_0, ↓o_g39_1, o_c5, o_c40, ↓rI40_6 e46, ↓rI40_10 e4p, ↓rI5_5 ek, ↓rI5_6 e6, ↓rI39_2 f2, ↓rI39_3 f3, ↓rI39_4 f4, ↓o_g40_4, ↓o_g40_5, ↓B_X6_readGrown Z, ↓o_p39_4, ↓a1, ↓cc, ↓a2, ↓rI5_8 z2, ↓a3, ↓rI5_8 z3, ↓p_41 Z, ↓a4], x4⟩
        · have ew : wn (tK T) (tV T) = 2 := (wn_eq hk (w := 3) (by omega) (by omega)).mpr ⟨h2, hv⟩
          have c0 : ∀ f : Int → mW → mO, mm_kI (mm_run (zP Z) 235 [.inr (.inr (some 141)), .inr (.inr (some 1))] (mk t)) f = f 2 (mk t) := fun f => by rw [r_inW Z hT hk h.1, ew]
          have v0 := rp_told (th' := th) (od' := od) (gr' := 1) h (k := 2) (e := 1) (by omega) (by omega) (by omega) (by omega) (by omega)
          obtain ⟨t1, b1, y1⟩ := rp_adv M0 v0
          have rc := fun f => rp_cells y1 w Z f
          have wn : mm_w32 (ncl (shG G) - 1) = ncl (shG G) - 1 := w32_eq (by omega) (by omega)
          obtain ⟨t2, b2, y2⟩ := rp_num hk1 M1 y1 (to := 2352) (l := 0) (m := ncl (shG G) - 1) (by omega) (by omega) qb
          rw [← wn] at b2
          have es : ∀ f : Int → mO, (mm_ld 0 (mk t2) 142 2352).bind f = f (tV T1) := fun f => by rw [r_at y2.2.1 f _ (by omega) (by omega), up_eq rfl]
          have wb : mm_w32 (1898 + tV T1) = 1898 + tV T1 := w32_eq (by omega) (by omega)
          obtain ⟨t3, b3, y3⟩ := rp_num hk2 M2 y2 (to := 1898 + tV T1) (l := 0) (m := 9) (by omega) (by omega) qd
          rw [← wb] at b3
          obtain ⟨t4, b4, y4⟩ := rp_semi hk3 M3 y3 qe
          exact ⟨_, fun f => by
            rw [B_X12_schoolPart]
            simp (disch := first | with_reducible assumption | omega) only [↓sm, ↓reduceIte, ↓if_pos, ↓if_neg, kI, kJ, kR, kV, w32_eq, w64_eq, reduceCtorEq, Int.reduceAdd, Int.reduceMul, Int.reduceSub, o_c141, ↓o_g141_0, ↓o_g141_1, ↓o_g141_5, ↓o_g141_6, ↓o_g141_7, ↓o_g141_8, ↓o_g141_9, ↓o_g141_21, ↓o_g141_25, ↓o_g141_26, ↓o_g141_27, ↓o_g141_28, ↓o_g141_29, ↓o_g141_30, ↓o_g141_31, ↓o_g141_34, ↓o_g141_35, ↓o_g141_36, ↓c0, ↓o_g141_20, ↓B_X12_schoolPart_28 Z, ↓B_X12_schoolPart_43 Z, ↓B_X12_schoolPart_46 Z, ↓o_p141_20, ↓B_X12_schoolPart_54 Z, ↓B_X12_schoolPart_84 Z, ↓B_X12_aPlant Z, ↓B_X12_newCellTo Z, ↓b1, ↓rc, ↓b2, ↓es, ↓b3, ↓b4], y4⟩
      · refine Or.inl ⟨fkd T3, tF T3, fkd_1 _, fun s h => ?_, fun t0 t h => ?_⟩
        · obtain ⟨ek, ef, e6, ew, e46, e4p⟩ := cp_k h
          have e6 := e6 (Or.inl h2)
          rw [hv] at e6
          rw [h2] at ek
          have f2 := h.2.2.1
          have f3 := h.2.2.2.1
          have f4 := h.2.2.2.2.1
          have u0 := cp_39 (th' := th) (od' := od) (gr' := 1) h (k := 4) (v := 1) (by omega)
          obtain ⟨s1, a1, x1, g1⟩ := cp_adv N0 u0
          have cc := fun f => c_cells40 Z x1.2.1 w f
          have wn : mm_w32 (ncl (shG G) - 1) = ncl (shG G) - 1 := w32_eq (by omega) (by omega)
          obtain ⟨s2, a2, x2, z2, g2⟩ := cp_num N1 x1 (l := 0) (m := ncl (shG G) - 1) qb
          rw [← wn] at a2
          obtain ⟨s3, a3, x3, z3, g3⟩ := cp_num N2 x2 (l := 0) (m := 9) qd
          have k3 := cp_40 x3 (Ag_uA (Ag_refl _ _ _) (q := 41) (by omega) (tV T1) (tV T2)) (cs40_plant (k := 0) x3.2.1 w (tV T1) (by omega) (by omega) (tV T2) (by omega) (tV T1) (q := 41) (by omega) (I := 1898 + tV T1) (by omega))
          obtain ⟨s4, a4, x4⟩ := cp_semif Z k3 qe
          exact ⟨_, fun f => by
            rw [B_X6_readPart]
            simp (disch := first | with_reducible assumption | omega) only [↓sm, ↓reduceIte, ↓if_pos, ↓if_neg, kI, kJ, kR, kV, w32_eq, w64_eq, reduceCtorEq, Int.reduceAdd, Int.reduceMul, Int.reduceSub, o_c39, ↓o_g39_0, ↓o_g39_1, o_c5, o_c40, ↓rI40_6 e46, ↓rI40_10 e4p, ↓rI5_5 ek, ↓rI5_6 e6, ↓rI39_2 f2, ↓rI39_3 f3, ↓rI39_4 f4, ↓o_g40_4, ↓o_g40_5, ↓B_X6_readGrown Z, ↓o_p39_4, ↓a1, ↓cc, ↓a2, ↓rI5_8 z2, ↓a3, ↓rI5_8 z3, ↓p_41 Z, ↓a4], x4⟩
        · have ew : wn (tK T) (tV T) = 2 := (wn_eq hk (w := 3) (by omega) (by omega)).mpr ⟨h2, hv⟩
          have c0 : ∀ f : Int → mW → mO, mm_kI (mm_run (zP Z) 235 [.inr (.inr (some 141)), .inr (.inr (some 1))] (mk t)) f = f 2 (mk t) := fun f => by rw [r_inW Z hT hk h.1, ew]
          have v0 := rp_told (th' := th) (od' := od) (gr' := 1) h (k := 2) (e := 1) (by omega) (by omega) (by omega) (by omega) (by omega)
          obtain ⟨t1, b1, y1⟩ := rp_adv M0 v0
          have rc := fun f => rp_cells y1 w Z f
          have wn : mm_w32 (ncl (shG G) - 1) = ncl (shG G) - 1 := w32_eq (by omega) (by omega)
          obtain ⟨t2, b2, y2⟩ := rp_num hk1 M1 y1 (to := 2352) (l := 0) (m := ncl (shG G) - 1) (by omega) (by omega) qb
          rw [← wn] at b2
          have es : ∀ f : Int → mO, (mm_ld 0 (mk t2) 142 2352).bind f = f (tV T1) := fun f => by rw [r_at y2.2.1 f _ (by omega) (by omega), up_eq rfl]
          have wb : mm_w32 (1898 + tV T1) = 1898 + tV T1 := w32_eq (by omega) (by omega)
          obtain ⟨t3, b3, y3⟩ := rp_num hk2 M2 y2 (to := 1898 + tV T1) (l := 0) (m := 9) (by omega) (by omega) qd
          rw [← wb] at b3
          obtain ⟨t4, b4, y4⟩ := rp_semif Z hk3 y3 (Lo_up (Lo_up hL (by omega) _) (by omega) _) qe
          exact ⟨_, fun f => by
            rw [B_X12_schoolPart]
            simp (disch := first | with_reducible assumption | omega) only [↓sm, ↓reduceIte, ↓if_pos, ↓if_neg, kI, kJ, kR, kV, w32_eq, w64_eq, reduceCtorEq, Int.reduceAdd, Int.reduceMul, Int.reduceSub, o_c141, ↓o_g141_0, ↓o_g141_1, ↓o_g141_5, ↓o_g141_6, ↓o_g141_7, ↓o_g141_8, ↓o_g141_9, ↓o_g141_21, ↓o_g141_25, ↓o_g141_26, ↓o_g141_27, ↓o_g141_28, ↓o_g141_29, ↓o_g141_30, ↓o_g141_31, ↓o_g141_34, ↓o_g141_35, ↓o_g141_36, ↓c0, ↓o_g141_20, ↓B_X12_schoolPart_28 Z, ↓B_X12_schoolPart_43 Z, ↓B_X12_schoolPart_46 Z, ↓o_p141_20, ↓B_X12_schoolPart_54 Z, ↓B_X12_schoolPart_84 Z, ↓B_X12_aPlant Z, ↓B_X12_newCellTo Z, ↓b1, ↓rc, ↓b2, ↓es, ↓b3, ↓b4], y4⟩
    · refine Or.inl ⟨nkd T2, tF T2, nkd_1 _, fun s h => ?_, fun t0 t h => ?_⟩
      · obtain ⟨ek, ef, e6, ew, e46, e4p⟩ := cp_k h
        have e6 := e6 (Or.inl h2)
        rw [hv] at e6
        rw [h2] at ek
        have f2 := h.2.2.1
        have f3 := h.2.2.2.1
        have f4 := h.2.2.2.2.1
        have u0 := cp_39 (th' := th) (od' := od) (gr' := 1) h (k := 4) (v := 1) (by omega)
        obtain ⟨s1, a1, x1, g1⟩ := cp_adv N0 u0
        have cc := fun f => c_cells40 Z x1.2.1 w f
        have wn : mm_w32 (ncl (shG G) - 1) = ncl (shG G) - 1 := w32_eq (by omega) (by omega)
        obtain ⟨s2, a2, x2, z2, g2⟩ := cp_num N1 x1 (l := 0) (m := ncl (shG G) - 1) qb
        rw [← wn] at a2
        obtain ⟨s3, a3, x3⟩ := cp_numf Z x2 (l := 0) (m := 9) qd
        exact ⟨_, fun f => by
          rw [B_X6_readPart]
          simp (disch := first | with_reducible assumption | omega) only [↓sm, ↓reduceIte, ↓if_pos, ↓if_neg, kI, kJ, kR, kV, w32_eq, w64_eq, reduceCtorEq, Int.reduceAdd, Int.reduceMul, Int.reduceSub, o_c39, ↓o_g39_0, ↓o_g39_1, o_c5, o_c40, ↓rI40_6 e46, ↓rI40_10 e4p, ↓rI5_5 ek, ↓rI5_6 e6, ↓rI39_2 f2, ↓rI39_3 f3, ↓rI39_4 f4, ↓o_g40_4, ↓o_g40_5, ↓B_X6_readGrown Z, ↓o_p39_4, ↓a1, ↓cc, ↓a2, ↓rI5_8 z2, ↓a3], x3⟩
      · have ew : wn (tK T) (tV T) = 2 := (wn_eq hk (w := 3) (by omega) (by omega)).mpr ⟨h2, hv⟩
        have c0 : ∀ f : Int → mW → mO, mm_kI (mm_run (zP Z) 235 [.inr (.inr (some 141)), .inr (.inr (some 1))] (mk t)) f = f 2 (mk t) := fun f => by rw [r_inW Z hT hk h.1, ew]
        have v0 := rp_told (th' := th) (od' := od) (gr' := 1) h (k := 2) (e := 1) (by omega) (by omega) (by omega) (by omega) (by omega)
        obtain ⟨t1, b1, y1⟩ := rp_adv M0 v0
        have rc := fun f => rp_cells y1 w Z f
        have wn : mm_w32 (ncl (shG G) - 1) = ncl (shG G) - 1 := w32_eq (by omega) (by omega)
        obtain ⟨t2, b2, y2⟩ := rp_num hk1 M1 y1 (to := 2352) (l := 0) (m := ncl (shG G) - 1) (by omega) (by omega) qb
        rw [← wn] at b2
        have es : ∀ f : Int → mO, (mm_ld 0 (mk t2) 142 2352).bind f = f (tV T1) := fun f => by rw [r_at y2.2.1 f _ (by omega) (by omega), up_eq rfl]
        have wb : mm_w32 (1898 + tV T1) = 1898 + tV T1 := w32_eq (by omega) (by omega)
        obtain ⟨t3, b3, y3⟩ := rp_numf Z hk2 y2 (Lo_up hL (by omega) _) (to := 1898 + tV T1) (l := 0) (m := 9) qd
        rw [← wb] at b3
        exact ⟨_, fun f => by
          rw [B_X12_schoolPart]
          simp (disch := first | with_reducible assumption | omega) only [↓sm, ↓reduceIte, ↓if_pos, ↓if_neg, kI, kJ, kR, kV, w32_eq, w64_eq, reduceCtorEq, Int.reduceAdd, Int.reduceMul, Int.reduceSub, o_c141, ↓o_g141_0, ↓o_g141_1, ↓o_g141_5, ↓o_g141_6, ↓o_g141_7, ↓o_g141_8, ↓o_g141_9, ↓o_g141_21, ↓o_g141_25, ↓o_g141_26, ↓o_g141_27, ↓o_g141_28, ↓o_g141_29, ↓o_g141_30, ↓o_g141_31, ↓o_g141_34, ↓o_g141_35, ↓o_g141_36, ↓c0, ↓o_g141_20, ↓B_X12_schoolPart_28 Z, ↓B_X12_schoolPart_43 Z, ↓B_X12_schoolPart_46 Z, ↓o_p141_20, ↓B_X12_schoolPart_54 Z, ↓B_X12_schoolPart_84 Z, ↓B_X12_aPlant Z, ↓B_X12_newCellTo Z, ↓b1, ↓rc, ↓b2, ↓es, ↓b3], y3⟩
  · refine Or.inl ⟨nkd T1, tF T1, nkd_1 _, fun s h => ?_, fun t0 t h => ?_⟩
    · obtain ⟨ek, ef, e6, ew, e46, e4p⟩ := cp_k h
      have e6 := e6 (Or.inl h2)
      rw [hv] at e6
      rw [h2] at ek
      have f2 := h.2.2.1
      have f3 := h.2.2.2.1
      have f4 := h.2.2.2.2.1
      have u0 := cp_39 (th' := th) (od' := od) (gr' := 1) h (k := 4) (v := 1) (by omega)
      obtain ⟨s1, a1, x1, g1⟩ := cp_adv N0 u0
      have cc := fun f => c_cells40 Z x1.2.1 w f
      have wn : mm_w32 (ncl (shG G) - 1) = ncl (shG G) - 1 := w32_eq (by omega) (by omega)
      obtain ⟨s2, a2, x2⟩ := cp_numf Z x1 (l := 0) (m := ncl (shG G) - 1) qb
      rw [← wn] at a2
      exact ⟨_, fun f => by
        rw [B_X6_readPart]
        simp (disch := first | with_reducible assumption | omega) only [↓sm, ↓reduceIte, ↓if_pos, ↓if_neg, kI, kJ, kR, kV, w32_eq, w64_eq, reduceCtorEq, Int.reduceAdd, Int.reduceMul, Int.reduceSub, o_c39, ↓o_g39_0, ↓o_g39_1, o_c5, o_c40, ↓rI40_6 e46, ↓rI40_10 e4p, ↓rI5_5 ek, ↓rI5_6 e6, ↓rI39_2 f2, ↓rI39_3 f3, ↓rI39_4 f4, ↓o_g40_4, ↓o_g40_5, ↓B_X6_readGrown Z, ↓o_p39_4, ↓a1, ↓cc, ↓a2], x2⟩
    · have ew : wn (tK T) (tV T) = 2 := (wn_eq hk (w := 3) (by omega) (by omega)).mpr ⟨h2, hv⟩
      have c0 : ∀ f : Int → mW → mO, mm_kI (mm_run (zP Z) 235 [.inr (.inr (some 141)), .inr (.inr (some 1))] (mk t)) f = f 2 (mk t) := fun f => by rw [r_inW Z hT hk h.1, ew]
      have v0 := rp_told (th' := th) (od' := od) (gr' := 1) h (k := 2) (e := 1) (by omega) (by omega) (by omega) (by omega) (by omega)
      obtain ⟨t1, b1, y1⟩ := rp_adv M0 v0
      have rc := fun f => rp_cells y1 w Z f
      have wn : mm_w32 (ncl (shG G) - 1) = ncl (shG G) - 1 := w32_eq (by omega) (by omega)
      obtain ⟨t2, b2, y2⟩ := rp_numf Z hk1 y1 hL (to := 2352) (l := 0) (m := ncl (shG G) - 1) qb
      rw [← wn] at b2
      exact ⟨_, fun f => by
        rw [B_X12_schoolPart]
        simp (disch := first | with_reducible assumption | omega) only [↓sm, ↓reduceIte, ↓if_pos, ↓if_neg, kI, kJ, kR, kV, w32_eq, w64_eq, reduceCtorEq, Int.reduceAdd, Int.reduceMul, Int.reduceSub, o_c141, ↓o_g141_0, ↓o_g141_1, ↓o_g141_5, ↓o_g141_6, ↓o_g141_7, ↓o_g141_8, ↓o_g141_9, ↓o_g141_21, ↓o_g141_25, ↓o_g141_26, ↓o_g141_27, ↓o_g141_28, ↓o_g141_29, ↓o_g141_30, ↓o_g141_31, ↓o_g141_34, ↓o_g141_35, ↓o_g141_36, ↓c0, ↓o_g141_20, ↓B_X12_schoolPart_28 Z, ↓B_X12_schoolPart_43 Z, ↓B_X12_schoolPart_46 Z, ↓o_p141_20, ↓B_X12_schoolPart_54 Z, ↓B_X12_schoolPart_84 Z, ↓B_X12_aPlant Z, ↓B_X12_newCellTo Z, ↓b1, ↓rc, ↓b2], y2⟩
set_option maxHeartbeats 8000000 in
theorem part_berries (Z : mX) {s0 : mS} {b : Int → Int} {n : Int} (hT : TB0 b n) {G0 H0 G H : Int → Int} {th od gr : Int} {T : mT} (hk : TT b n T) (hD : DrI (shG G) th od gr) (hL : Lo G0 H0 G H) (h2 : tK T = 2) (hv : tV T = 4) : Part Z s0 b n G0 H0 T G H th od gr := by
  obtain ⟨w, d7, dt, dd, dg, d0, dz⟩ := id hD
  have nn := wf_n w
  obtain ⟨T1, p1, hk1, N0, M0⟩ := nxt Z hT hk
  obtain ⟨T2, p2, hk2, N1, M1⟩ := nxt Z hT hk1
  obtain ⟨T3, p3, hk3, N2, M2⟩ := nxt Z hT hk2
  obtain ⟨T4, p4, hk4, N3, M3⟩ := nxt Z hT hk3
  have q0 := tk_o hk
  have q1 := tk_o hk1
  have q2 := tk_o hk2
  have q3 := tk_o hk3
  have q4 := tk_o hk4
  by_cases qb : tK T1 = 5 ∧ 0 ≤ tV T1 ∧ tV T1 ≤ ncl (shG G) - 1
  · by_cases qd : tK T2 = 5 ∧ 0 ≤ tV T2 ∧ tV T2 ≤ 9
    · by_cases qe : tK T3 = 6 ∧ tV T3 = 59
      · refine Or.inr ⟨T4, mm_upd (mm_upd G 2352 (tV T1)) (1923 + tV T1) (tV T2), H, th, od, 1, by omega, hk4, plant_DI (k := 1) hD (tV T1) (by omega) (by omega) (tV T2) (by omega) (tV T1) (by omega) (by omega), Lo_up (Lo_up hL (by omega) _) (by omega) _, fun s h => ?_, fun t0 t h => ?_⟩
        · obtain ⟨ek, ef, e6, ew, e46, e4p⟩ := cp_k h
          have e6 := e6 (Or.inl h2)
          rw [hv] at e6
          rw [h2] at ek
          have f2 := h.2.2.1
          have f3 := h.2.2.2.1
          have f4 := h.2.2.2.2.1
          have u0 := cp_39 (th' := th) (od' := od) (gr' := 1) h (k := 4) (v := 1) (by omega)
          obtain ⟨s1, a1, x1, g1⟩ := cp_adv N0 u0
          have cc := fun f => c_cells40 Z x1.2.1 w f
          have wn : mm_w32 (ncl (shG G) - 1) = ncl (shG G) - 1 := w32_eq (by omega) (by omega)
          obtain ⟨s2, a2, x2, z2, g2⟩ := cp_num N1 x1 (l := 0) (m := ncl (shG G) - 1) qb
          rw [← wn] at a2
          obtain ⟨s3, a3, x3, z3, g3⟩ := cp_num N2 x2 (l := 0) (m := 9) qd
          have k3 := cp_40 x3 (Ag_uA (Ag_refl _ _ _) (q := 42) (by omega) (tV T1) (tV T2)) (cs40_plant (k := 1) x3.2.1 w (tV T1) (by omega) (by omega) (tV T2) (by omega) (tV T1) (q := 42) (by omega) (I := 1923 + tV T1) (by omega))
          obtain ⟨s4, a4, x4, g4⟩ := cp_semi N3 k3 qe
          exact ⟨_, fun f => by
            rw [B_X6_readPart]
            simp (disch := first | with_reducible assumption | omega) only [↓sm, ↓reduceIte, ↓if_pos, ↓if_neg, kI, kJ, kR, kV, w32_eq, w64_eq, reduceCtorEq, Int.reduceAdd, Int.reduceMul, Int.reduceSub, o_c39, ↓o_g39_0, ↓o_g39_1, o_c5, o_c40, ↓rI40_6 e46, ↓rI40_10 e4p, ↓rI5_5 ek, ↓rI5_6 e6, ↓rI39_2 f2, ↓rI39_3 f3, ↓rI39_4 f4, ↓o_g40_4, ↓o_g40_5, ↓B_X6_readGrown Z, ↓o_p39_4, ↓a1, ↓cc, ↓a2, ↓rI5_8 z2, ↓a3, ↓rI5_8 z3, ↓p_42 Z, ↓a4], x4⟩
        · have ew : wn (tK T) (tV T) = 3 := (wn_eq hk (w := 4) (by omega) (by omega)).mpr ⟨h2, hv⟩
          have c0 : ∀ f : Int → mW → mO, mm_kI (mm_run (zP Z) 235 [.inr (.inr (some 141)), .inr (.inr (some 1))] (mk t)) f = f 3 (mk t) := fun f => by rw [r_inW Z hT hk h.1, ew]
          have v0 := rp_told (th' := th) (od' := od) (gr' := 1) h (k := 3) (e := 1) (by omega) (by omega) (by omega) (by omega) (by omega)
          obtain ⟨t1, b1, y1⟩ := rp_adv M0 v0
          have rc := fun f => rp_cells y1 w Z f
          have wn : mm_w32 (ncl (shG G) - 1) = ncl (shG G) - 1 := w32_eq (by omega) (by omega)
          obtain ⟨t2, b2, y2⟩ := rp_num hk1 M1 y1 (to := 2352) (l := 0) (m := ncl (shG G) - 1) (by omega) (by omega) qb
          rw [← wn] at b2
          have es : ∀ f : Int → mO, (mm_ld 0 (mk t2) 142 2352).bind f = f (tV T1) := fun f => by rw [r_at y2.2.1 f _ (by omega) (by omega), up_eq rfl]
          have wb : mm_w32 (1923 + tV T1) = 1923 + tV T1 := w32_eq (by omega) (by omega)
          obtain ⟨t3, b3, y3⟩ := rp_num hk2 M2 y2 (to := 1923 + tV T1) (l := 0) (m := 9) (by omega) (by omega) qd
          rw [← wb] at b3
          obtain ⟨t4, b4, y4⟩ := rp_semi hk3 M3 y3 qe
          exact ⟨_, fun f => by
            rw [B_X12_schoolPart]
            simp (disch := first | with_reducible assumption | omega) only [↓sm, ↓reduceIte, ↓if_pos, ↓if_neg, kI, kJ, kR, kV, w32_eq, w64_eq, reduceCtorEq, Int.reduceAdd, Int.reduceMul, Int.reduceSub, o_c141, ↓o_g141_0, ↓o_g141_1, ↓o_g141_5, ↓o_g141_6, ↓o_g141_7, ↓o_g141_8, ↓o_g141_9, ↓o_g141_21, ↓o_g141_25, ↓o_g141_26, ↓o_g141_27, ↓o_g141_28, ↓o_g141_29, ↓o_g141_30, ↓o_g141_31, ↓o_g141_34, ↓o_g141_35, ↓o_g141_36, ↓c0, ↓o_g141_20, ↓B_X12_schoolPart_28 Z, ↓B_X12_schoolPart_43 Z, ↓B_X12_schoolPart_46 Z, ↓o_p141_20, ↓B_X12_schoolPart_54 Z, ↓B_X12_schoolPart_84 Z, ↓B_X12_aPlant Z, ↓B_X12_newCellTo Z, ↓b1, ↓rc, ↓b2, ↓es, ↓b3, ↓b4], y4⟩
      · refine Or.inl ⟨fkd T3, tF T3, fkd_1 _, fun s h => ?_, fun t0 t h => ?_⟩
        · obtain ⟨ek, ef, e6, ew, e46, e4p⟩ := cp_k h
          have e6 := e6 (Or.inl h2)
          rw [hv] at e6
          rw [h2] at ek
          have f2 := h.2.2.1
          have f3 := h.2.2.2.1
          have f4 := h.2.2.2.2.1
          have u0 := cp_39 (th' := th) (od' := od) (gr' := 1) h (k := 4) (v := 1) (by omega)
          obtain ⟨s1, a1, x1, g1⟩ := cp_adv N0 u0
          have cc := fun f => c_cells40 Z x1.2.1 w f
          have wn : mm_w32 (ncl (shG G) - 1) = ncl (shG G) - 1 := w32_eq (by omega) (by omega)
          obtain ⟨s2, a2, x2, z2, g2⟩ := cp_num N1 x1 (l := 0) (m := ncl (shG G) - 1) qb
          rw [← wn] at a2
          obtain ⟨s3, a3, x3, z3, g3⟩ := cp_num N2 x2 (l := 0) (m := 9) qd
          have k3 := cp_40 x3 (Ag_uA (Ag_refl _ _ _) (q := 42) (by omega) (tV T1) (tV T2)) (cs40_plant (k := 1) x3.2.1 w (tV T1) (by omega) (by omega) (tV T2) (by omega) (tV T1) (q := 42) (by omega) (I := 1923 + tV T1) (by omega))
          obtain ⟨s4, a4, x4⟩ := cp_semif Z k3 qe
          exact ⟨_, fun f => by
            rw [B_X6_readPart]
            simp (disch := first | with_reducible assumption | omega) only [↓sm, ↓reduceIte, ↓if_pos, ↓if_neg, kI, kJ, kR, kV, w32_eq, w64_eq, reduceCtorEq, Int.reduceAdd, Int.reduceMul, Int.reduceSub, o_c39, ↓o_g39_0, ↓o_g39_1, o_c5, o_c40, ↓rI40_6 e46, ↓rI40_10 e4p, ↓rI5_5 ek, ↓rI5_6 e6, ↓rI39_2 f2, ↓rI39_3 f3, ↓rI39_4 f4, ↓o_g40_4, ↓o_g40_5, ↓B_X6_readGrown Z, ↓o_p39_4, ↓a1, ↓cc, ↓a2, ↓rI5_8 z2, ↓a3, ↓rI5_8 z3, ↓p_42 Z, ↓a4], x4⟩
        · have ew : wn (tK T) (tV T) = 3 := (wn_eq hk (w := 4) (by omega) (by omega)).mpr ⟨h2, hv⟩
          have c0 : ∀ f : Int → mW → mO, mm_kI (mm_run (zP Z) 235 [.inr (.inr (some 141)), .inr (.inr (some 1))] (mk t)) f = f 3 (mk t) := fun f => by rw [r_inW Z hT hk h.1, ew]
          have v0 := rp_told (th' := th) (od' := od) (gr' := 1) h (k := 3) (e := 1) (by omega) (by omega) (by omega) (by omega) (by omega)
          obtain ⟨t1, b1, y1⟩ := rp_adv M0 v0
          have rc := fun f => rp_cells y1 w Z f
          have wn : mm_w32 (ncl (shG G) - 1) = ncl (shG G) - 1 := w32_eq (by omega) (by omega)
          obtain ⟨t2, b2, y2⟩ := rp_num hk1 M1 y1 (to := 2352) (l := 0) (m := ncl (shG G) - 1) (by omega) (by omega) qb
          rw [← wn] at b2
          have es : ∀ f : Int → mO, (mm_ld 0 (mk t2) 142 2352).bind f = f (tV T1) := fun f => by rw [r_at y2.2.1 f _ (by omega) (by omega), up_eq rfl]
          have wb : mm_w32 (1923 + tV T1) = 1923 + tV T1 := w32_eq (by omega) (by omega)
          obtain ⟨t3, b3, y3⟩ := rp_num hk2 M2 y2 (to := 1923 + tV T1) (l := 0) (m := 9) (by omega) (by omega) qd
          rw [← wb] at b3
          obtain ⟨t4, b4, y4⟩ := rp_semif Z hk3 y3 (Lo_up (Lo_up hL (by omega) _) (by omega) _) qe
          exact ⟨_, fun f => by
            rw [B_X12_schoolPart]
            simp (disch := first | with_reducible assumption | omega) only [↓sm, ↓reduceIte, ↓if_pos, ↓if_neg, kI, kJ, kR, kV, w32_eq, w64_eq, reduceCtorEq, Int.reduceAdd, Int.reduceMul, Int.reduceSub, o_c141, ↓o_g141_0, ↓o_g141_1, ↓o_g141_5, ↓o_g141_6, ↓o_g141_7, ↓o_g141_8, ↓o_g141_9, ↓o_g141_21, ↓o_g141_25, ↓o_g141_26, ↓o_g141_27, ↓o_g141_28, ↓o_g141_29, ↓o_g141_30, ↓o_g141_31, ↓o_g141_34, ↓o_g141_35, ↓o_g141_36, ↓c0, ↓o_g141_20, ↓B_X12_schoolPart_28 Z, ↓B_X12_schoolPart_43 Z, ↓B_X12_schoolPart_46 Z, ↓o_p141_20, ↓B_X12_schoolPart_54 Z, ↓B_X12_schoolPart_84 Z, ↓B_X12_aPlant Z, ↓B_X12_newCellTo Z, ↓b1, ↓rc, ↓b2, ↓es, ↓b3, ↓b4], y4⟩
    · refine Or.inl ⟨nkd T2, tF T2, nkd_1 _, fun s h => ?_, fun t0 t h => ?_⟩
      · obtain ⟨ek, ef, e6, ew, e46, e4p⟩ := cp_k h
        have e6 := e6 (Or.inl h2)
        rw [hv] at e6
        rw [h2] at ek
        have f2 := h.2.2.1
        have f3 := h.2.2.2.1
        have f4 := h.2.2.2.2.1
        have u0 := cp_39 (th' := th) (od' := od) (gr' := 1) h (k := 4) (v := 1) (by omega)
        obtain ⟨s1, a1, x1, g1⟩ := cp_adv N0 u0
        have cc := fun f => c_cells40 Z x1.2.1 w f
        have wn : mm_w32 (ncl (shG G) - 1) = ncl (shG G) - 1 := w32_eq (by omega) (by omega)
        obtain ⟨s2, a2, x2, z2, g2⟩ := cp_num N1 x1 (l := 0) (m := ncl (shG G) - 1) qb
        rw [← wn] at a2
        obtain ⟨s3, a3, x3⟩ := cp_numf Z x2 (l := 0) (m := 9) qd
        exact ⟨_, fun f => by
          rw [B_X6_readPart]
          simp (disch := first | with_reducible assumption | omega) only [↓sm, ↓reduceIte, ↓if_pos, ↓if_neg, kI, kJ, kR, kV, w32_eq, w64_eq, reduceCtorEq, Int.reduceAdd, Int.reduceMul, Int.reduceSub, o_c39, ↓o_g39_0, ↓o_g39_1, o_c5, o_c40, ↓rI40_6 e46, ↓rI40_10 e4p, ↓rI5_5 ek, ↓rI5_6 e6, ↓rI39_2 f2, ↓rI39_3 f3, ↓rI39_4 f4, ↓o_g40_4, ↓o_g40_5, ↓B_X6_readGrown Z, ↓o_p39_4, ↓a1, ↓cc, ↓a2, ↓rI5_8 z2, ↓a3], x3⟩
      · have ew : wn (tK T) (tV T) = 3 := (wn_eq hk (w := 4) (by omega) (by omega)).mpr ⟨h2, hv⟩
        have c0 : ∀ f : Int → mW → mO, mm_kI (mm_run (zP Z) 235 [.inr (.inr (some 141)), .inr (.inr (some 1))] (mk t)) f = f 3 (mk t) := fun f => by rw [r_inW Z hT hk h.1, ew]
        have v0 := rp_told (th' := th) (od' := od) (gr' := 1) h (k := 3) (e := 1) (by omega) (by omega) (by omega) (by omega) (by omega)
        obtain ⟨t1, b1, y1⟩ := rp_adv M0 v0
        have rc := fun f => rp_cells y1 w Z f
        have wn : mm_w32 (ncl (shG G) - 1) = ncl (shG G) - 1 := w32_eq (by omega) (by omega)
        obtain ⟨t2, b2, y2⟩ := rp_num hk1 M1 y1 (to := 2352) (l := 0) (m := ncl (shG G) - 1) (by omega) (by omega) qb
        rw [← wn] at b2
        have es : ∀ f : Int → mO, (mm_ld 0 (mk t2) 142 2352).bind f = f (tV T1) := fun f => by rw [r_at y2.2.1 f _ (by omega) (by omega), up_eq rfl]
        have wb : mm_w32 (1923 + tV T1) = 1923 + tV T1 := w32_eq (by omega) (by omega)
        obtain ⟨t3, b3, y3⟩ := rp_numf Z hk2 y2 (Lo_up hL (by omega) _) (to := 1923 + tV T1) (l := 0) (m := 9) qd
        rw [← wb] at b3
        exact ⟨_, fun f => by
          rw [B_X12_schoolPart]
          simp (disch := first | with_reducible assumption | omega) only [↓sm, ↓reduceIte, ↓if_pos, ↓if_neg, kI, kJ, kR, kV, w32_eq, w64_eq, reduceCtorEq, Int.reduceAdd, Int.reduceMul, Int.reduceSub, o_c141, ↓o_g141_0, ↓o_g141_1, ↓o_g141_5, ↓o_g141_6, ↓o_g141_7, ↓o_g141_8, ↓o_g141_9, ↓o_g141_21, ↓o_g141_25, ↓o_g141_26, ↓o_g141_27, ↓o_g141_28, ↓o_g141_29, ↓o_g141_30, ↓o_g141_31, ↓o_g141_34, ↓o_g141_35, ↓o_g141_36, ↓c0, ↓o_g141_20, ↓B_X12_schoolPart_28 Z, ↓B_X12_schoolPart_43 Z, ↓B_X12_schoolPart_46 Z, ↓o_p141_20, ↓B_X12_schoolPart_54 Z, ↓B_X12_schoolPart_84 Z, ↓B_X12_aPlant Z, ↓B_X12_newCellTo Z, ↓b1, ↓rc, ↓b2, ↓es, ↓b3], y3⟩
  · refine Or.inl ⟨nkd T1, tF T1, nkd_1 _, fun s h => ?_, fun t0 t h => ?_⟩
    · obtain ⟨ek, ef, e6, ew, e46, e4p⟩ := cp_k h
      have e6 := e6 (Or.inl h2)
      rw [hv] at e6
      rw [h2] at ek
      have f2 := h.2.2.1
      have f3 := h.2.2.2.1
      have f4 := h.2.2.2.2.1
      have u0 := cp_39 (th' := th) (od' := od) (gr' := 1) h (k := 4) (v := 1) (by omega)
      obtain ⟨s1, a1, x1, g1⟩ := cp_adv N0 u0
      have cc := fun f => c_cells40 Z x1.2.1 w f
      have wn : mm_w32 (ncl (shG G) - 1) = ncl (shG G) - 1 := w32_eq (by omega) (by omega)
      obtain ⟨s2, a2, x2⟩ := cp_numf Z x1 (l := 0) (m := ncl (shG G) - 1) qb
      rw [← wn] at a2
      exact ⟨_, fun f => by
        rw [B_X6_readPart]
        simp (disch := first | with_reducible assumption | omega) only [↓sm, ↓reduceIte, ↓if_pos, ↓if_neg, kI, kJ, kR, kV, w32_eq, w64_eq, reduceCtorEq, Int.reduceAdd, Int.reduceMul, Int.reduceSub, o_c39, ↓o_g39_0, ↓o_g39_1, o_c5, o_c40, ↓rI40_6 e46, ↓rI40_10 e4p, ↓rI5_5 ek, ↓rI5_6 e6, ↓rI39_2 f2, ↓rI39_3 f3, ↓rI39_4 f4, ↓o_g40_4, ↓o_g40_5, ↓B_X6_readGrown Z, ↓o_p39_4, ↓a1, ↓cc, ↓a2], x2⟩
    · have ew : wn (tK T) (tV T) = 3 := (wn_eq hk (w := 4) (by omega) (by omega)).mpr ⟨h2, hv⟩
      have c0 : ∀ f : Int → mW → mO, mm_kI (mm_run (zP Z) 235 [.inr (.inr (some 141)), .inr (.inr (some 1))] (mk t)) f = f 3 (mk t) := fun f => by rw [r_inW Z hT hk h.1, ew]
      have v0 := rp_told (th' := th) (od' := od) (gr' := 1) h (k := 3) (e := 1) (by omega) (by omega) (by omega) (by omega) (by omega)
      obtain ⟨t1, b1, y1⟩ := rp_adv M0 v0
      have rc := fun f => rp_cells y1 w Z f
      have wn : mm_w32 (ncl (shG G) - 1) = ncl (shG G) - 1 := w32_eq (by omega) (by omega)
      obtain ⟨t2, b2, y2⟩ := rp_numf Z hk1 y1 hL (to := 2352) (l := 0) (m := ncl (shG G) - 1) qb
      rw [← wn] at b2
      exact ⟨_, fun f => by
        rw [B_X12_schoolPart]
        simp (disch := first | with_reducible assumption | omega) only [↓sm, ↓reduceIte, ↓if_pos, ↓if_neg, kI, kJ, kR, kV, w32_eq, w64_eq, reduceCtorEq, Int.reduceAdd, Int.reduceMul, Int.reduceSub, o_c141, ↓o_g141_0, ↓o_g141_1, ↓o_g141_5, ↓o_g141_6, ↓o_g141_7, ↓o_g141_8, ↓o_g141_9, ↓o_g141_21, ↓o_g141_25, ↓o_g141_26, ↓o_g141_27, ↓o_g141_28, ↓o_g141_29, ↓o_g141_30, ↓o_g141_31, ↓o_g141_34, ↓o_g141_35, ↓o_g141_36, ↓c0, ↓o_g141_20, ↓B_X12_schoolPart_28 Z, ↓B_X12_schoolPart_43 Z, ↓B_X12_schoolPart_46 Z, ↓o_p141_20, ↓B_X12_schoolPart_54 Z, ↓B_X12_schoolPart_84 Z, ↓B_X12_aPlant Z, ↓B_X12_newCellTo Z, ↓b1, ↓rc, ↓b2], y2⟩
