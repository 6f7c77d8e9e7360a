/-! a test of autumns: both sides (printed by gen/parts3.py) -/
theorem r_tst0 (Z : mX) (l1 : Int) (t : mS) : mm_at (zP Z) 266 71 [some (.inr (.inr (some 141))), some (.inl l1), none, none] [.inl 0] (mk t) = some (some (.inl 0), mk t) := by
  rw [B_X12_test_71, if_pos rfl]
set_option maxHeartbeats 8000000 in
theorem tst_thorns (Z : mX) {s0 : mS} {b : Int → Int} {n : Int} (hT : TB0 b n) {G0 H G O : Int → Int} {m cnt dep : Int} {T : mT} (hk : TT b n T) (hW : WF G0) (hC : CS s0 7 G0 H) (hL : ∀ j, j < 1888 → G j = G0 j) (m0 : 0 ≤ m) (m1 : m < 60) (c0 : 0 ≤ cnt) (c1 : cnt ≤ 30) (g2 : G (1992 + 6 * m + 2) = 0) (g4 : G (1992 + 6 * m + 4) = 0) (g5 : G (1992 + 6 * m + 5) = 0) (h2 : tK T = 2) (hv : tV T = 3) : Ord (fun s f => mm_kI (mm_run (zP Z) 11 [.inr (.inr (some 53))] (mk s)) f) Z s0 b n G0 H T G O m cnt dep 22 := by
  obtain ⟨T1, p1, hk1, N0, M0⟩ := nxt Z hT hk
  obtain ⟨T2, p2, hk2, N1, M1⟩ := nxt Z hT hk1
  obtain ⟨T3, p3, hk3, N2, M2⟩ := nxt Z hT hk2
  obtain ⟨T4, p4, hk4, N3, M3⟩ := nxt Z hT hk3
  have q0 := tk_o hk
  have q1 := tk_o hk1
  have q2 := tk_o hk2
  have q3 := tk_o hk3
  have q4 := tk_o hk4
  have wG := wf0 hW
  have nn := wf_n hW
  by_cases qm1 : tK T1 = 5 ∧ 0 ≤ tV T1 ∧ tV T1 ≤ ncl G0 - 1
  · by_cases qs : tK T2 = 6 ∧ 60 ≤ tV T2 ∧ tV T2 ≤ 62
    · by_cases qv : tK T3 = 5 ∧ 0 ≤ tV T3 ∧ tV T3 ≤ 9
      · have r0 : (mm_upd (mm_upd (mm_upd (mm_upd G (1992 + 6 * m) (2202)) (1992 + 6 * m + 1) (tV T1)) (1992 + 6 * m + 5) (tV T2)) (1992 + 6 * m + 2) (tV T3)) (1992 + 6 * m) = 2202 := by
          try unfold mm_upd
          repeat first | rw [if_pos (by omega)] | rw [if_neg (by omega)]
          try assumption
        have r1 : (mm_upd (mm_upd (mm_upd (mm_upd G (1992 + 6 * m) (2202)) (1992 + 6 * m + 1) (tV T1)) (1992 + 6 * m + 5) (tV T2)) (1992 + 6 * m + 2) (tV T3)) (1992 + 6 * m + 1) = tV T1 := by
          try unfold mm_upd
          repeat first | rw [if_pos (by omega)] | rw [if_neg (by omega)]
          try assumption
        have r2 : (mm_upd (mm_upd (mm_upd (mm_upd G (1992 + 6 * m) (2202)) (1992 + 6 * m + 1) (tV T1)) (1992 + 6 * m + 5) (tV T2)) (1992 + 6 * m + 2) (tV T3)) (1992 + 6 * m + 2) = tV T3 := by
          try unfold mm_upd
          repeat first | rw [if_pos (by omega)] | rw [if_neg (by omega)]
          try assumption
        have r4 : (mm_upd (mm_upd (mm_upd (mm_upd G (1992 + 6 * m) (2202)) (1992 + 6 * m + 1) (tV T1)) (1992 + 6 * m + 5) (tV T2)) (1992 + 6 * m + 2) (tV T3)) (1992 + 6 * m + 4) = 0 := by
          try unfold mm_upd
          repeat first | rw [if_pos (by omega)] | rw [if_neg (by omega)]
          try assumption
        have r5 : (mm_upd (mm_upd (mm_upd (mm_upd G (1992 + 6 * m) (2202)) (1992 + 6 * m + 1) (tV T1)) (1992 + 6 * m + 5) (tV T2)) (1992 + 6 * m + 2) (tV T3)) (1992 + 6 * m + 5) = tV T2 := by
          try unfold mm_upd
          repeat first | rw [if_pos (by omega)] | rw [if_neg (by omega)]
          try assumption
        have re : ∀ j, j < 1992 + 6 * m → (mm_upd (mm_upd (mm_upd (mm_upd G (1992 + 6 * m) (2202)) (1992 + 6 * m + 1) (tV T1)) (1992 + 6 * m + 5) (tV T2)) (1992 + 6 * m + 2) (tV T3)) j = G j := fun j hj => by
          try unfold mm_upd
          repeat rw [if_neg (by omega)]
          try rfl
        refine Or.inr ⟨T4, mm_upd (mm_upd (mm_upd (mm_upd G (1992 + 6 * m) (2202)) (1992 + 6 * m + 1) (tV T1)) (1992 + 6 * m + 5) (tV T2)) (1992 + 6 * m + 2) (tV T3), by omega, hk4, re, PR1_row m0 r0 r1 r2 (by unfold PRx; omega), r4, fun y => absurd rfl y, fun _ => by rw [r0]; omega, fun s h => ?_, fun t0 t h => ?_⟩
        · obtain ⟨ek, e6, -⟩ := cu_k h
          have e6 := e6 (Or.inl h2)
          rw [h2] at ek
          rw [hv] at e6
          obtain ⟨s1, a1, x1, gg⟩ := cu_adv N0 h
          have cc1 := fun f => cu_cells hC hW x1 Z f
          have wn : mm_w32 (ncl G0 - 1) = ncl G0 - 1 := w32_eq (by omega) (by omega)
          obtain ⟨s2, a2, x2, z2⟩ := cu_num N1 x1 (l := 0) (u := ncl G0 - 1) qm1
          rw [← wn] at a2
          obtain ⟨s3, a3, x3, z3⟩ := cu_cmp N2 x2 qs
          obtain ⟨s4, a4, x4, z4⟩ := cu_num N3 x3 (l := 0) (u := 9) qv
          obtain ⟨s5, a5, x5⟩ := cu_row x4 m0 m1 c0 c1 re (v1 := 3) (v2 := tV T1) (v3 := tV T2) (v4 := tV T3) r0 r1 (by decide) (fun _ => by omega) (fun y => ⟨r5, r2⟩) (by omega) Z
          exact ⟨_, fun f => by
            show mm_kI (mm_run (zP Z) 11 [.inr (.inr (some 53))] (mk s)) f = _
            rw [B_X1_readTest]
            simp (disch := first | with_reducible assumption | omega) only [↓sm, ↓reduceIte, ↓if_pos, ↓if_neg, kI, kJ, kR, kV, w32_eq, w64_eq, reduceCtorEq, Int.reduceAdd, Int.reduceMul, Int.reduceSub, o_c53, ↓o_g53_0, ↓o_g53_1, ↓o_g53_2, o_c5, o_c54, o_c7, ↓rI5_5 ek, ↓rI5_6 e6, ↓B_X1_readTest_15 Z, ↓B_X1_readTest_51 Z, ↓B_X1_readTest_59 Z, ↓B_X1_readTest_67 Z, ↓B_X1_readTest_85 Z, ↓B_X1_readTest_93 Z, ↓a1, ↓cc1, ↓a2, ↓rI5_8 z2, ↓a3, ↓rI53_5 z3, ↓a4, ↓rI5_8 z4, ↓a5], x5⟩
        · have ew : wn (tK T) (tV T) = 2 := (wn_eq hk (w := 3) (by omega) (by omega)).mpr ⟨h2, hv⟩
          have c0 : ∀ f : Int → mW → mO, mm_kI (mm_run (zP Z) 235 [.inr (.inr (some 141)), .inr (.inr (some 1))] (mk t)) f = f 2 (mk t) := fun f => by rw [r_inW Z hT hk h.1, ew]
          obtain ⟨t1, b1, y1⟩ := ru_adv M0 (ru_142 h (j := 1992 + 6 * m) (by omega) 2202)
          obtain ⟨t2, b2, y2⟩ := ru_cell hk1 hW M1 y1 (lo1 hL (by omega) _) (to := 1992 + 6 * m + 1) (by omega) (by omega) qm1
          obtain ⟨t3, b3, y3⟩ := ru_tail Z hk2 hk3 M2 M3 y2 (to := 1992 + 6 * m) (by omega) (by omega) qs qv
          exact ⟨_, fun f => by
            rw [B_X12_autumnOrder]
            simp (disch := first | with_reducible assumption | omega) only [↓sm, ↓reduceIte, ↓if_pos, ↓if_neg, kI, kJ, kR, kV, w32_eq, w64_eq, reduceCtorEq, Int.reduceAdd, Int.reduceMul, Int.reduceSub, o_c141, ↓o_g141_0, ↓o_g141_1, ↓o_g141_5, ↓o_g141_6, ↓o_g141_7, ↓o_g141_8, ↓o_g141_9, ↓o_g141_21, ↓o_g141_25, ↓o_g141_26, ↓o_g141_27, ↓o_g141_28, ↓o_g141_29, ↓o_g141_30, ↓o_g141_31, ↓o_g141_34, ↓o_g141_35, ↓o_g141_36, ↓B_X12_test Z, ↓c0, ↓B_X12_test_20 Z, ↓a_st142, ↓r_tst0 Z, ↓b1, ↓b2, ↓b3], y3⟩
      · refine Or.inl ⟨nkd T3, tF T3, nkd_1 _, fun s h => ?_, fun t0 t h => ?_⟩
        · obtain ⟨ek, e6, -⟩ := cu_k h
          have e6 := e6 (Or.inl h2)
          rw [h2] at ek
          rw [hv] at e6
          obtain ⟨s1, a1, x1, gg⟩ := cu_adv N0 h
          have cc1 := fun f => cu_cells hC hW x1 Z f
          have wn : mm_w32 (ncl G0 - 1) = ncl G0 - 1 := w32_eq (by omega) (by omega)
          obtain ⟨s2, a2, x2, z2⟩ := cu_num N1 x1 (l := 0) (u := ncl G0 - 1) qm1
          rw [← wn] at a2
          obtain ⟨s3, a3, x3, z3⟩ := cu_cmp N2 x2 qs
          obtain ⟨s4, a4, x4⟩ := cu_numf Z x3 (l := 0) (u := 9) qv
          exact ⟨_, fun f => by
            show mm_kI (mm_run (zP Z) 11 [.inr (.inr (some 53))] (mk s)) f = _
            rw [B_X1_readTest]
            simp (disch := first | with_reducible assumption | omega) only [↓sm, ↓reduceIte, ↓if_pos, ↓if_neg, kI, kJ, kR, kV, w32_eq, w64_eq, reduceCtorEq, Int.reduceAdd, Int.reduceMul, Int.reduceSub, o_c53, ↓o_g53_0, ↓o_g53_1, ↓o_g53_2, o_c5, o_c54, o_c7, ↓rI5_5 ek, ↓rI5_6 e6, ↓B_X1_readTest_15 Z, ↓B_X1_readTest_51 Z, ↓B_X1_readTest_59 Z, ↓B_X1_readTest_67 Z, ↓B_X1_readTest_85 Z, ↓B_X1_readTest_93 Z, ↓a1, ↓cc1, ↓a2, ↓rI5_8 z2, ↓a3, ↓rI53_5 z3, ↓a4], x4⟩
        · have ew : wn (tK T) (tV T) = 2 := (wn_eq hk (w := 3) (by omega) (by omega)).mpr ⟨h2, hv⟩
          have c0 : ∀ f : Int → mW → mO, mm_kI (mm_run (zP Z) 235 [.inr (.inr (some 141)), .inr (.inr (some 1))] (mk t)) f = f 2 (mk t) := fun f => by rw [r_inW Z hT hk h.1, ew]
          obtain ⟨t1, b1, y1⟩ := ru_adv M0 (ru_142 h (j := 1992 + 6 * m) (by omega) 2202)
          obtain ⟨t2, b2, y2⟩ := ru_cell hk1 hW M1 y1 (lo1 hL (by omega) _) (to := 1992 + 6 * m + 1) (by omega) (by omega) qm1
          obtain ⟨t3, b3, y3⟩ := ru_tail_2 Z hk2 hk3 M2 y2 (lo1 (lo1 hL (by omega) _) (by omega) _) (to := 1992 + 6 * m) (by omega) (by omega) qs qv
          exact ⟨_, fun f => by
            rw [B_X12_autumnOrder]
            simp (disch := first | with_reducible assumption | omega) only [↓sm, ↓reduceIte, ↓if_pos, ↓if_neg, kI, kJ, kR, kV, w32_eq, w64_eq, reduceCtorEq, Int.reduceAdd, Int.reduceMul, Int.reduceSub, o_c141, ↓o_g141_0, ↓o_g141_1, ↓o_g141_5, ↓o_g141_6, ↓o_g141_7, ↓o_g141_8, ↓o_g141_9, ↓o_g141_21, ↓o_g141_25, ↓o_g141_26, ↓o_g141_27, ↓o_g141_28, ↓o_g141_29, ↓o_g141_30, ↓o_g141_31, ↓o_g141_34, ↓o_g141_35, ↓o_g141_36, ↓B_X12_test Z, ↓c0, ↓B_X12_test_20 Z, ↓a_st142, ↓r_tst0 Z, ↓b1, ↓b2, ↓b3], y3⟩
    · refine Or.inl ⟨fkd T2, tF T2, fkd_1 _, fun s h => ?_, fun t0 t h => ?_⟩
      · obtain ⟨ek, e6, -⟩ := cu_k h
        have e6 := e6 (Or.inl h2)
        rw [h2] at ek
        rw [hv] at e6
        obtain ⟨s1, a1, x1, gg⟩ := cu_adv N0 h
        have cc1 := fun f => cu_cells hC hW x1 Z f
        have wn : mm_w32 (ncl G0 - 1) = ncl G0 - 1 := w32_eq (by omega) (by omega)
        obtain ⟨s2, a2, x2, z2⟩ := cu_num N1 x1 (l := 0) (u := ncl G0 - 1) qm1
        rw [← wn] at a2
        obtain ⟨s3, a3, x3⟩ := cu_cmp_f Z x2 qs
        exact ⟨_, fun f => by
          show mm_kI (mm_run (zP Z) 11 [.inr (.inr (some 53))] (mk s)) f = _
          rw [B_X1_readTest]
          simp (disch := first | with_reducible assumption | omega) only [↓sm, ↓reduceIte, ↓if_pos, ↓if_neg, kI, kJ, kR, kV, w32_eq, w64_eq, reduceCtorEq, Int.reduceAdd, Int.reduceMul, Int.reduceSub, o_c53, ↓o_g53_0, ↓o_g53_1, ↓o_g53_2, o_c5, o_c54, o_c7, ↓rI5_5 ek, ↓rI5_6 e6, ↓B_X1_readTest_15 Z, ↓B_X1_readTest_51 Z, ↓B_X1_readTest_59 Z, ↓B_X1_readTest_67 Z, ↓B_X1_readTest_85 Z, ↓B_X1_readTest_93 Z, ↓a1, ↓cc1, ↓a2, ↓rI5_8 z2, ↓a3], x3⟩
      · have ew : wn (tK T) (tV T) = 2 := (wn_eq hk (w := 3) (by omega) (by omega)).mpr ⟨h2, hv⟩
        have c0 : ∀ f : Int → mW → mO, mm_kI (mm_run (zP Z) 235 [.inr (.inr (some 141)), .inr (.inr (some 1))] (mk t)) f = f 2 (mk t) := fun f => by rw [r_inW Z hT hk h.1, ew]
        obtain ⟨t1, b1, y1⟩ := ru_adv M0 (ru_142 h (j := 1992 + 6 * m) (by omega) 2202)
        obtain ⟨t2, b2, y2⟩ := ru_cell hk1 hW M1 y1 (lo1 hL (by omega) _) (to := 1992 + 6 * m + 1) (by omega) (by omega) qm1
        obtain ⟨t3, b3, y3⟩ := ru_tail_1 Z hk2 y2 (lo1 (lo1 hL (by omega) _) (by omega) _) (to := 1992 + 6 * m) qs
        exact ⟨_, fun f => by
          rw [B_X12_autumnOrder]
          simp (disch := first | with_reducible assumption | omega) only [↓sm, ↓reduceIte, ↓if_pos, ↓if_neg, kI, kJ, kR, kV, w32_eq, w64_eq, reduceCtorEq, Int.reduceAdd, Int.reduceMul, Int.reduceSub, o_c141, ↓o_g141_0, ↓o_g141_1, ↓o_g141_5, ↓o_g141_6, ↓o_g141_7, ↓o_g141_8, ↓o_g141_9, ↓o_g141_21, ↓o_g141_25, ↓o_g141_26, ↓o_g141_27, ↓o_g141_28, ↓o_g141_29, ↓o_g141_30, ↓o_g141_31, ↓o_g141_34, ↓o_g141_35, ↓o_g141_36, ↓B_X12_test Z, ↓c0, ↓B_X12_test_20 Z, ↓a_st142, ↓r_tst0 Z, ↓b1, ↓b2, ↓b3], y3⟩
  · refine Or.inl ⟨nkd T1, tF T1, nkd_1 _, fun s h => ?_, fun t0 t h => ?_⟩
    · obtain ⟨ek, e6, -⟩ := cu_k h
      have e6 := e6 (Or.inl h2)
      rw [h2] at ek
      rw [hv] at e6
      obtain ⟨s1, a1, x1, gg⟩ := cu_adv N0 h
      have cc1 := fun f => cu_cells hC hW x1 Z f
      have wn : mm_w32 (ncl G0 - 1) = ncl G0 - 1 := w32_eq (by omega) (by omega)
      obtain ⟨s2, a2, x2⟩ := cu_numf Z x1 (l := 0) (u := ncl G0 - 1) qm1
      rw [← wn] at a2
      exact ⟨_, fun f => by
        show mm_kI (mm_run (zP Z) 11 [.inr (.inr (some 53))] (mk s)) f = _
        rw [B_X1_readTest]
        simp (disch := first | with_reducible assumption | omega) only [↓sm, ↓reduceIte, ↓if_pos, ↓if_neg, kI, kJ, kR, kV, w32_eq, w64_eq, reduceCtorEq, Int.reduceAdd, Int.reduceMul, Int.reduceSub, o_c53, ↓o_g53_0, ↓o_g53_1, ↓o_g53_2, o_c5, o_c54, o_c7, ↓rI5_5 ek, ↓rI5_6 e6, ↓B_X1_readTest_15 Z, ↓B_X1_readTest_51 Z, ↓B_X1_readTest_59 Z, ↓B_X1_readTest_67 Z, ↓B_X1_readTest_85 Z, ↓B_X1_readTest_93 Z, ↓a1, ↓cc1, ↓a2], x2⟩
    · have ew : wn (tK T) (tV T) = 2 := (wn_eq hk (w := 3) (by omega) (by omega)).mpr ⟨h2, hv⟩
      have c0 : ∀ f : Int → mW → mO, mm_kI (mm_run (zP Z) 235 [.inr (.inr (some 141)), .inr (.inr (some 1))] (mk t)) f = f 2 (mk t) := fun f => by rw [r_inW Z hT hk h.1, ew]
      obtain ⟨t1, b1, y1⟩ := ru_adv M0 (ru_142 h (j := 1992 + 6 * m) (by omega) 2202)
      obtain ⟨t2, b2, y2⟩ := ru_cellf Z hk1 hW y1 (lo1 hL (by omega) _) (to := 1992 + 6 * m + 1) qm1
      exact ⟨_, fun f => by
        rw [B_X12_autumnOrder]
        simp (disch := first | with_reducible assumption | omega) only [↓sm, ↓reduceIte, ↓if_pos, ↓if_neg, kI, kJ, kR, kV, w32_eq, w64_eq, reduceCtorEq, Int.reduceAdd, Int.reduceMul, Int.reduceSub, o_c141, ↓o_g141_0, ↓o_g141_1, ↓o_g141_5, ↓o_g141_6, ↓o_g141_7, ↓o_g141_8, ↓o_g141_9, ↓o_g141_21, ↓o_g141_25, ↓o_g141_26, ↓o_g141_27, ↓o_g141_28, ↓o_g141_29, ↓o_g141_30, ↓o_g141_31, ↓o_g141_34, ↓o_g141_35, ↓o_g141_36, ↓B_X12_test Z, ↓c0, ↓B_X12_test_20 Z, ↓a_st142, ↓r_tst0 Z, ↓b1, ↓b2], y2⟩
set_option maxHeartbeats 8000000 in
theorem tst_at (Z : mX) {s0 : mS} {b : Int → Int} {n : Int} (hT : TB0 b n) {G0 H G O : Int → Int} {m cnt dep : Int} {T : mT} (hk : TT b n T) (hW : WF G0) (hC : CS s0 7 G0 H) (hL : ∀ j, j < 1888 → G j = G0 j) (m0 : 0 ≤ m) (m1 : m < 60) (c0 : 0 ≤ cnt) (c1 : cnt ≤ 30) (g2 : G (1992 + 6 * m + 2) = 0) (g4 : G (1992 + 6 * m + 4) = 0) (g5 : G (1992 + 6 * m + 5) = 0) (h2 : tK T = 2) (hv : tV T = 9) : Ord (fun s f => mm_kI (mm_run (zP Z) 11 [.inr (.inr (some 53))] (mk s)) f) Z s0 b n G0 H T G O m cnt dep 22 := by
  obtain ⟨T1, p1, hk1, N0, M0⟩ := nxt Z hT hk
  obtain ⟨T2, p2, hk2, N1, M1⟩ := nxt Z hT hk1
  obtain ⟨T3, p3, hk3, N2, M2⟩ := nxt Z hT hk2
  have q0 := tk_o hk
  have q1 := tk_o hk1
  have q2 := tk_o hk2
  have q3 := tk_o hk3
  have wG := wf0 hW
  have nn := wf_n hW
  by_cases qk1 : tK T1 = 3
  · by_cases qp1 : nmP H (G0 3) T1 = -1
    · refine Or.inl ⟨3, tF T1, by omega, fun s h => ?_, fun t0 t h => ?_⟩
      · obtain ⟨ek, e6, -⟩ := cu_k h
        have e6 := e6 (Or.inl h2)
        rw [h2] at ek
        rw [hv] at e6
        obtain ⟨s1, a1, x1, gg⟩ := cu_adv N0 h
        obtain ⟨s2, a2, x2⟩ := cu_pup_3 hC hW x1 qk1 qp1 (Z := Z)
        exact ⟨_, fun f => by
          show mm_kI (mm_run (zP Z) 11 [.inr (.inr (some 53))] (mk s)) f = _
          rw [B_X1_readTest]
          simp (disch := first | with_reducible assumption | omega) only [↓sm, ↓reduceIte, ↓if_pos, ↓if_neg, kI, kJ, kR, kV, w32_eq, w64_eq, reduceCtorEq, Int.reduceAdd, Int.reduceMul, Int.reduceSub, o_c53, ↓o_g53_0, ↓o_g53_1, ↓o_g53_2, o_c5, o_c54, o_c7, ↓rI5_5 ek, ↓rI5_6 e6, ↓B_X1_readTest_15 Z, ↓B_X1_readTest_51 Z, ↓B_X1_readTest_59 Z, ↓B_X1_readTest_67 Z, ↓B_X1_readTest_85 Z, ↓B_X1_readTest_93 Z, ↓a1, ↓a2], x2⟩
      · have ew : wn (tK T) (tV T) = 9 := (wn_eq hk (w := 9) (by omega) (by omega)).mpr ⟨h2, hv⟩
        have c0 : ∀ f : Int → mW → mO, mm_kI (mm_run (zP Z) 235 [.inr (.inr (some 141)), .inr (.inr (some 1))] (mk t)) f = f 9 (mk t) := fun f => by rw [r_inW Z hT hk h.1, ew]
        obtain ⟨t1, b1, y1⟩ := ru_adv M0 (ru_142 h (j := 1992 + 6 * m) (by omega) 2209)
        obtain ⟨t2, b2, y2⟩ := ru_pup_3 Z hT hk1 hW y1 (lo1 hL (by omega) _) (to := 1992 + 6 * m + 1) (by omega) (by omega) qk1 qp1
        exact ⟨_, fun f => by
          rw [B_X12_autumnOrder]
          simp (disch := first | with_reducible assumption | omega) only [↓sm, ↓reduceIte, ↓if_pos, ↓if_neg, kI, kJ, kR, kV, w32_eq, w64_eq, reduceCtorEq, Int.reduceAdd, Int.reduceMul, Int.reduceSub, o_c141, ↓o_g141_0, ↓o_g141_1, ↓o_g141_5, ↓o_g141_6, ↓o_g141_7, ↓o_g141_8, ↓o_g141_9, ↓o_g141_21, ↓o_g141_25, ↓o_g141_26, ↓o_g141_27, ↓o_g141_28, ↓o_g141_29, ↓o_g141_30, ↓o_g141_31, ↓o_g141_34, ↓o_g141_35, ↓o_g141_36, ↓B_X12_test Z, ↓c0, ↓B_X12_test_20 Z, ↓a_st142, ↓r_tst0 Z, ↓b1, ↓b2], y2⟩
    · have qn1 := nmP_r hW T1 qp1
      by_cases qm2 : tK T2 = 5 ∧ 0 ≤ tV T2 ∧ tV T2 ≤ ncl G0 - 1
      · have r0 : (mm_upd (mm_upd (mm_upd G (1992 + 6 * m) (2209)) (1992 + 6 * m + 1) (nmP H (G0 3) T1)) (1992 + 6 * m + 2) (tV T2)) (1992 + 6 * m) = 2209 := by
          try unfold mm_upd
          repeat first | rw [if_pos (by omega)] | rw [if_neg (by omega)]
          try assumption
        have r1 : (mm_upd (mm_upd (mm_upd G (1992 + 6 * m) (2209)) (1992 + 6 * m + 1) (nmP H (G0 3) T1)) (1992 + 6 * m + 2) (tV T2)) (1992 + 6 * m + 1) = nmP H (G0 3) T1 := by
          try unfold mm_upd
          repeat first | rw [if_pos (by omega)] | rw [if_neg (by omega)]
          try assumption
        have r2 : (mm_upd (mm_upd (mm_upd G (1992 + 6 * m) (2209)) (1992 + 6 * m + 1) (nmP H (G0 3) T1)) (1992 + 6 * m + 2) (tV T2)) (1992 + 6 * m + 2) = tV T2 := by
          try unfold mm_upd
          repeat first | rw [if_pos (by omega)] | rw [if_neg (by omega)]
          try assumption
        have r4 : (mm_upd (mm_upd (mm_upd G (1992 + 6 * m) (2209)) (1992 + 6 * m + 1) (nmP H (G0 3) T1)) (1992 + 6 * m + 2) (tV T2)) (1992 + 6 * m + 4) = 0 := by
          try unfold mm_upd
          repeat first | rw [if_pos (by omega)] | rw [if_neg (by omega)]
          try assumption
        have r5 : (mm_upd (mm_upd (mm_upd G (1992 + 6 * m) (2209)) (1992 + 6 * m + 1) (nmP H (G0 3) T1)) (1992 + 6 * m + 2) (tV T2)) (1992 + 6 * m + 5) = 0 := by
          try unfold mm_upd
          repeat first | rw [if_pos (by omega)] | rw [if_neg (by omega)]
          try assumption
        have re : ∀ j, j < 1992 + 6 * m → (mm_upd (mm_upd (mm_upd G (1992 + 6 * m) (2209)) (1992 + 6 * m + 1) (nmP H (G0 3) T1)) (1992 + 6 * m + 2) (tV T2)) j = G j := fun j hj => by
          try unfold mm_upd
          repeat rw [if_neg (by omega)]
          try rfl
        refine Or.inr ⟨T3, mm_upd (mm_upd (mm_upd G (1992 + 6 * m) (2209)) (1992 + 6 * m + 1) (nmP H (G0 3) T1)) (1992 + 6 * m + 2) (tV T2), by omega, hk3, re, PR1_row m0 r0 r1 r2 (by unfold PRx; omega), r4, fun y => absurd rfl y, fun _ => by rw [r0]; omega, fun s h => ?_, fun t0 t h => ?_⟩
        · obtain ⟨ek, e6, -⟩ := cu_k h
          have e6 := e6 (Or.inl h2)
          rw [h2] at ek
          rw [hv] at e6
          obtain ⟨s1, a1, x1, gg⟩ := cu_adv N0 h
          obtain ⟨s2, a2, x2, z2⟩ := cu_pup hC hW N1 x1 qk1 qp1
          have cc2 := fun f => cu_cells hC hW x2 Z f
          have wn : mm_w32 (ncl G0 - 1) = ncl G0 - 1 := w32_eq (by omega) (by omega)
          obtain ⟨s3, a3, x3, z3⟩ := cu_num N2 x2 (l := 0) (u := ncl G0 - 1) qm2
          rw [← wn] at a3
          obtain ⟨s4, a4, x4⟩ := cu_row x3 m0 m1 c0 c1 re (v1 := 9) (v2 := nmP H (G0 3) T1) (v3 := 0) (v4 := tV T2) r0 r1 (by decide) (fun _ => by omega) (fun y => ⟨r5, r2⟩) (by omega) Z
          exact ⟨_, fun f => by
            show mm_kI (mm_run (zP Z) 11 [.inr (.inr (some 53))] (mk s)) f = _
            rw [B_X1_readTest]
            simp (disch := first | with_reducible assumption | omega) only [↓sm, ↓reduceIte, ↓if_pos, ↓if_neg, kI, kJ, kR, kV, w32_eq, w64_eq, reduceCtorEq, Int.reduceAdd, Int.reduceMul, Int.reduceSub, o_c53, ↓o_g53_0, ↓o_g53_1, ↓o_g53_2, o_c5, o_c54, o_c7, ↓rI5_5 ek, ↓rI5_6 e6, ↓B_X1_readTest_15 Z, ↓B_X1_readTest_51 Z, ↓B_X1_readTest_59 Z, ↓B_X1_readTest_67 Z, ↓B_X1_readTest_85 Z, ↓B_X1_readTest_93 Z, ↓a1, ↓a2, ↓rI53_5 z2, ↓cc2, ↓a3, ↓rI5_8 z3, ↓a4], x4⟩
        · have ew : wn (tK T) (tV T) = 9 := (wn_eq hk (w := 9) (by omega) (by omega)).mpr ⟨h2, hv⟩
          have c0 : ∀ f : Int → mW → mO, mm_kI (mm_run (zP Z) 235 [.inr (.inr (some 141)), .inr (.inr (some 1))] (mk t)) f = f 9 (mk t) := fun f => by rw [r_inW Z hT hk h.1, ew]
          obtain ⟨t1, b1, y1⟩ := ru_adv M0 (ru_142 h (j := 1992 + 6 * m) (by omega) 2209)
          obtain ⟨t2, b2, y2⟩ := ru_pup hT hk1 hW M1 y1 (lo1 hL (by omega) _) (to := 1992 + 6 * m + 1) (by omega) (by omega) qk1 qp1
          obtain ⟨t3, b3, y3⟩ := ru_cell hk2 hW M2 y2 (lo1 (lo1 hL (by omega) _) (by omega) _) (to := 1992 + 6 * m + 2) (by omega) (by omega) qm2
          exact ⟨_, fun f => by
            rw [B_X12_autumnOrder]
            simp (disch := first | with_reducible assumption | omega) only [↓sm, ↓reduceIte, ↓if_pos, ↓if_neg, kI, kJ, kR, kV, w32_eq, w64_eq, reduceCtorEq, Int.reduceAdd, Int.reduceMul, Int.reduceSub, o_c141, ↓o_g141_0, ↓o_g141_1, ↓o_g141_5, ↓o_g141_6, ↓o_g141_7, ↓o_g141_8, ↓o_g141_9, ↓o_g141_21, ↓o_g141_25, ↓o_g141_26, ↓o_g141_27, ↓o_g141_28, ↓o_g141_29, ↓o_g141_30, ↓o_g141_31, ↓o_g141_34, ↓o_g141_35, ↓o_g141_36, ↓B_X12_test Z, ↓c0, ↓B_X12_test_20 Z, ↓a_st142, ↓r_tst0 Z, ↓b1, ↓b2, ↓b3], y3⟩
      · refine Or.inl ⟨nkd T2, tF T2, nkd_1 _, fun s h => ?_, fun t0 t h => ?_⟩
        · obtain ⟨ek, e6, -⟩ := cu_k h
          have e6 := e6 (Or.inl h2)
          rw [h2] at ek
          rw [hv] at e6
          obtain ⟨s1, a1, x1, gg⟩ := cu_adv N0 h
          obtain ⟨s2, a2, x2, z2⟩ := cu_pup hC hW N1 x1 qk1 qp1
          have cc2 := fun f => cu_cells hC hW x2 Z f
          have wn : mm_w32 (ncl G0 - 1) = ncl G0 - 1 := w32_eq (by omega) (by omega)
          obtain ⟨s3, a3, x3⟩ := cu_numf Z x2 (l := 0) (u := ncl G0 - 1) qm2
          rw [← wn] at a3
          exact ⟨_, fun f => by
            show mm_kI (mm_run (zP Z) 11 [.inr (.inr (some 53))] (mk s)) f = _
            rw [B_X1_readTest]
            simp (disch := first | with_reducible assumption | omega) only [↓sm, ↓reduceIte, ↓if_pos, ↓if_neg, kI, kJ, kR, kV, w32_eq, w64_eq, reduceCtorEq, Int.reduceAdd, Int.reduceMul, Int.reduceSub, o_c53, ↓o_g53_0, ↓o_g53_1, ↓o_g53_2, o_c5, o_c54, o_c7, ↓rI5_5 ek, ↓rI5_6 e6, ↓B_X1_readTest_15 Z, ↓B_X1_readTest_51 Z, ↓B_X1_readTest_59 Z, ↓B_X1_readTest_67 Z, ↓B_X1_readTest_85 Z, ↓B_X1_readTest_93 Z, ↓a1, ↓a2, ↓rI53_5 z2, ↓cc2, ↓a3], x3⟩
        · have ew : wn (tK T) (tV T) = 9 := (wn_eq hk (w := 9) (by omega) (by omega)).mpr ⟨h2, hv⟩
          have c0 : ∀ f : Int → mW → mO, mm_kI (mm_run (zP Z) 235 [.inr (.inr (some 141)), .inr (.inr (some 1))] (mk t)) f = f 9 (mk t) := fun f => by rw [r_inW Z hT hk h.1, ew]
          obtain ⟨t1, b1, y1⟩ := ru_adv M0 (ru_142 h (j := 1992 + 6 * m) (by omega) 2209)
          obtain ⟨t2, b2, y2⟩ := ru_pup hT hk1 hW M1 y1 (lo1 hL (by omega) _) (to := 1992 + 6 * m + 1) (by omega) (by omega) qk1 qp1
          obtain ⟨t3, b3, y3⟩ := ru_cellf Z hk2 hW y2 (lo1 (lo1 hL (by omega) _) (by omega) _) (to := 1992 + 6 * m + 2) qm2
          exact ⟨_, fun f => by
            rw [B_X12_autumnOrder]
            simp (disch := first | with_reducible assumption | omega) only [↓sm, ↓reduceIte, ↓if_pos, ↓if_neg, kI, kJ, kR, kV, w32_eq, w64_eq, reduceCtorEq, Int.reduceAdd, Int.reduceMul, Int.reduceSub, o_c141, ↓o_g141_0, ↓o_g141_1, ↓o_g141_5, ↓o_g141_6, ↓o_g141_7, ↓o_g141_8, ↓o_g141_9, ↓o_g141_21, ↓o_g141_25, ↓o_g141_26, ↓o_g141_27, ↓o_g141_28, ↓o_g141_29, ↓o_g141_30, ↓o_g141_31, ↓o_g141_34, ↓o_g141_35, ↓o_g141_36, ↓B_X12_test Z, ↓c0, ↓B_X12_test_20 Z, ↓a_st142, ↓r_tst0 Z, ↓b1, ↓b2, ↓b3], y3⟩
  · refine Or.inl ⟨fkd T1, tF T1, fkd_1 _, fun s h => ?_, fun t0 t h => ?_⟩
    · obtain ⟨ek, e6, -⟩ := cu_k h
      have e6 := e6 (Or.inl h2)
      rw [h2] at ek
      rw [hv] at e6
      obtain ⟨s1, a1, x1, gg⟩ := cu_adv N0 h
      obtain ⟨s2, a2, x2⟩ := cu_pup_2 Z x1 qk1
      exact ⟨_, fun f => by
        show mm_kI (mm_run (zP Z) 11 [.inr (.inr (some 53))] (mk s)) f = _
        rw [B_X1_readTest]
        simp (disch := first | with_reducible assumption | omega) only [↓sm, ↓reduceIte, ↓if_pos, ↓if_neg, kI, kJ, kR, kV, w32_eq, w64_eq, reduceCtorEq, Int.reduceAdd, Int.reduceMul, Int.reduceSub, o_c53, ↓o_g53_0, ↓o_g53_1, ↓o_g53_2, o_c5, o_c54, o_c7, ↓rI5_5 ek, ↓rI5_6 e6, ↓B_X1_readTest_15 Z, ↓B_X1_readTest_51 Z, ↓B_X1_readTest_59 Z, ↓B_X1_readTest_67 Z, ↓B_X1_readTest_85 Z, ↓B_X1_readTest_93 Z, ↓a1, ↓a2], x2⟩
    · have ew : wn (tK T) (tV T) = 9 := (wn_eq hk (w := 9) (by omega) (by omega)).mpr ⟨h2, hv⟩
      have c0 : ∀ f : Int → mW → mO, mm_kI (mm_run (zP Z) 235 [.inr (.inr (some 141)), .inr (.inr (some 1))] (mk t)) f = f 9 (mk t) := fun f => by rw [r_inW Z hT hk h.1, ew]
      obtain ⟨t1, b1, y1⟩ := ru_adv M0 (ru_142 h (j := 1992 + 6 * m) (by omega) 2209)
      obtain ⟨t2, b2, y2⟩ := ru_pup_2 Z hT hk1 y1 (lo1 hL (by omega) _) (to := 1992 + 6 * m + 1) qk1
      exact ⟨_, fun f => by
        rw [B_X12_autumnOrder]
        simp (disch := first | with_reducible assumption | omega) only [↓sm, ↓reduceIte, ↓if_pos, ↓if_neg, kI, kJ, kR, kV, w32_eq, w64_eq, reduceCtorEq, Int.reduceAdd, Int.reduceMul, Int.reduceSub, o_c141, ↓o_g141_0, ↓o_g141_1, ↓o_g141_5, ↓o_g141_6, ↓o_g141_7, ↓o_g141_8, ↓o_g141_9, ↓o_g141_21, ↓o_g141_25, ↓o_g141_26, ↓o_g141_27, ↓o_g141_28, ↓o_g141_29, ↓o_g141_30, ↓o_g141_31, ↓o_g141_34, ↓o_g141_35, ↓o_g141_36, ↓B_X12_test Z, ↓c0, ↓B_X12_test_20 Z, ↓a_st142, ↓r_tst0 Z, ↓b1, ↓b2], y2⟩
set_option maxHeartbeats 8000000 in
theorem tst_knows (Z : mX) {s0 : mS} {b : Int → Int} {n : Int} (hT : TB0 b n) {G0 H G O : Int → Int} {m cnt dep : Int} {T : mT} (hk : TT b n T) (hW : WF G0) (hC : CS s0 7 G0 H) (hL : ∀ j, j < 1888 → G j = G0 j) (m0 : 0 ≤ m) (m1 : m < 60) (c0 : 0 ≤ cnt) (c1 : cnt ≤ 30) (g2 : G (1992 + 6 * m + 2) = 0) (g4 : G (1992 + 6 * m + 4) = 0) (g5 : G (1992 + 6 * m + 5) = 0) (h2 : tK T = 2) (hv : tV T = 11) : Ord (fun s f => mm_kI (mm_run (zP Z) 11 [.inr (.inr (some 53))] (mk s)) f) Z s0 b n G0 H T G O m cnt dep 22 := by
  obtain ⟨T1, p1, hk1, N0, M0⟩ := nxt Z hT hk
  obtain ⟨T2, p2, hk2, N1, M1⟩ := nxt Z hT hk1
  obtain ⟨T3, p3, hk3, N2, M2⟩ := nxt Z hT hk2
  obtain ⟨T4, p4, hk4, N3, M3⟩ := nxt Z hT hk3
  have q0 := tk_o hk
  have q1 := tk_o hk1
  have q2 := tk_o hk2
  have q3 := tk_o hk3
  have q4 := tk_o hk4
  have wG := wf0 hW
  have nn := wf_n hW
  by_cases qk1 : tK T1 = 3
  · by_cases qp1 : nmP H (G0 3) T1 = -1
    · refine Or.inl ⟨3, tF T1, by omega, fun s h => ?_, fun t0 t h => ?_⟩
      · obtain ⟨ek, e6, -⟩ := cu_k h
        have e6 := e6 (Or.inl h2)
        rw [h2] at ek
        rw [hv] at e6
        obtain ⟨s1, a1, x1, gg⟩ := cu_adv N0 h
        obtain ⟨s2, a2, x2⟩ := cu_pup_3 hC hW x1 qk1 qp1 (Z := Z)
        exact ⟨_, fun f => by
          show mm_kI (mm_run (zP Z) 11 [.inr (.inr (some 53))] (mk s)) f = _
          rw [B_X1_readTest]
          simp (disch := first | with_reducible assumption | omega) only [↓sm, ↓reduceIte, ↓if_pos, ↓if_neg, kI, kJ, kR, kV, w32_eq, w64_eq, reduceCtorEq, Int.reduceAdd, Int.reduceMul, Int.reduceSub, o_c53, ↓o_g53_0, ↓o_g53_1, ↓o_g53_2, o_c5, o_c54, o_c7, ↓rI5_5 ek, ↓rI5_6 e6, ↓B_X1_readTest_15 Z, ↓B_X1_readTest_51 Z, ↓B_X1_readTest_59 Z, ↓B_X1_readTest_67 Z, ↓B_X1_readTest_85 Z, ↓B_X1_readTest_93 Z, ↓a1, ↓a2], x2⟩
      · have ew : wn (tK T) (tV T) = 11 := (wn_eq hk (w := 11) (by omega) (by omega)).mpr ⟨h2, hv⟩
        have c0 : ∀ f : Int → mW → mO, mm_kI (mm_run (zP Z) 235 [.inr (.inr (some 141)), .inr (.inr (some 1))] (mk t)) f = f 11 (mk t) := fun f => by rw [r_inW Z hT hk h.1, ew]
        obtain ⟨t1, b1, y1⟩ := ru_adv M0 (ru_142 h (j := 1992 + 6 * m) (by omega) 2211)
        obtain ⟨t2, b2, y2⟩ := ru_pup_3 Z hT hk1 hW y1 (lo1 hL (by omega) _) (to := 1992 + 6 * m + 1) (by omega) (by omega) qk1 qp1
        exact ⟨_, fun f => by
          rw [B_X12_autumnOrder]
          simp (disch := first | with_reducible assumption | omega) only [↓sm, ↓reduceIte, ↓if_pos, ↓if_neg, kI, kJ, kR, kV, w32_eq, w64_eq, reduceCtorEq, Int.reduceAdd, Int.reduceMul, Int.reduceSub, o_c141, ↓o_g141_0, ↓o_g141_1, ↓o_g141_5, ↓o_g141_6, ↓o_g141_7, ↓o_g141_8, ↓o_g141_9, ↓o_g141_21, ↓o_g141_25, ↓o_g141_26, ↓o_g141_27, ↓o_g141_28, ↓o_g141_29, ↓o_g141_30, ↓o_g141_31, ↓o_g141_34, ↓o_g141_35, ↓o_g141_36, ↓B_X12_test Z, ↓c0, ↓B_X12_test_20 Z, ↓a_st142, ↓r_tst0 Z, ↓b1, ↓b2], y2⟩
    · have qn1 := nmP_r hW T1 qp1
      by_cases qs : tK T2 = 6 ∧ 60 ≤ tV T2 ∧ tV T2 ≤ 62
      · by_cases qv : tK T3 = 5 ∧ 0 ≤ tV T3 ∧ tV T3 ≤ 9
        · have r0 : (mm_upd (mm_upd (mm_upd (mm_upd G (1992 + 6 * m) (2211)) (1992 + 6 * m + 1) (nmP H (G0 3) T1)) (1992 + 6 * m + 5) (tV T2)) (1992 + 6 * m + 2) (tV T3)) (1992 + 6 * m) = 2211 := by
            try unfold mm_upd
            repeat first | rw [if_pos (by omega)] | rw [if_neg (by omega)]
            try assumption
          have r1 : (mm_upd (mm_upd (mm_upd (mm_upd G (1992 + 6 * m) (2211)) (1992 + 6 * m + 1) (nmP H (G0 3) T1)) (1992 + 6 * m + 5) (tV T2)) (1992 + 6 * m + 2) (tV T3)) (1992 + 6 * m + 1) = nmP H (G0 3) T1 := by
            try unfold mm_upd
            repeat first | rw [if_pos (by omega)] | rw [if_neg (by omega)]
            try assumption
          have r2 : (mm_upd (mm_upd (mm_upd (mm_upd G (1992 + 6 * m) (2211)) (1992 + 6 * m + 1) (nmP H (G0 3) T1)) (1992 + 6 * m + 5) (tV T2)) (1992 + 6 * m + 2) (tV T3)) (1992 + 6 * m + 2) = tV T3 := by
            try unfold mm_upd
            repeat first | rw [if_pos (by omega)] | rw [if_neg (by omega)]
            try assumption
          have r4 : (mm_upd (mm_upd (mm_upd (mm_upd G (1992 + 6 * m) (2211)) (1992 + 6 * m + 1) (nmP H (G0 3) T1)) (1992 + 6 * m + 5) (tV T2)) (1992 + 6 * m + 2) (tV T3)) (1992 + 6 * m + 4) = 0 := by
            try unfold mm_upd
            repeat first | rw [if_pos (by omega)] | rw [if_neg (by omega)]
            try assumption
          have r5 : (mm_upd (mm_upd (mm_upd (mm_upd G (1992 + 6 * m) (2211)) (1992 + 6 * m + 1) (nmP H (G0 3) T1)) (1992 + 6 * m + 5) (tV T2)) (1992 + 6 * m + 2) (tV T3)) (1992 + 6 * m + 5) = tV T2 := by
            try unfold mm_upd
            repeat first | rw [if_pos (by omega)] | rw [if_neg (by omega)]
            try assumption
          have re : ∀ j, j < 1992 + 6 * m → (mm_upd (mm_upd (mm_upd (mm_upd G (1992 + 6 * m) (2211)) (1992 + 6 * m + 1) (nmP H (G0 3) T1)) (1992 + 6 * m + 5) (tV T2)) (1992 + 6 * m + 2) (tV T3)) j = G j := fun j hj => by
            try unfold mm_upd
            repeat rw [if_neg (by omega)]
            try rfl
          refine Or.inr ⟨T4, mm_upd (mm_upd (mm_upd (mm_upd G (1992 + 6 * m) (2211)) (1992 + 6 * m + 1) (nmP H (G0 3) T1)) (1992 + 6 * m + 5) (tV T2)) (1992 + 6 * m + 2) (tV T3), by omega, hk4, re, PR1_row m0 r0 r1 r2 (by unfold PRx; omega), r4, fun y => absurd rfl y, fun _ => by rw [r0]; omega, fun s h => ?_, fun t0 t h => ?_⟩
          · obtain ⟨ek, e6, -⟩ := cu_k h
            have e6 := e6 (Or.inl h2)
            rw [h2] at ek
            rw [hv] at e6
            obtain ⟨s1, a1, x1, gg⟩ := cu_adv N0 h
            obtain ⟨s2, a2, x2, z2⟩ := cu_pup hC hW N1 x1 qk1 qp1
            obtain ⟨s3, a3, x3, z3⟩ := cu_cmp N2 x2 qs
            obtain ⟨s4, a4, x4, z4⟩ := cu_num N3 x3 (l := 0) (u := 9) qv
            obtain ⟨s5, a5, x5⟩ := cu_row x4 m0 m1 c0 c1 re (v1 := 11) (v2 := nmP H (G0 3) T1) (v3 := tV T2) (v4 := tV T3) r0 r1 (by decide) (fun _ => by omega) (fun y => ⟨r5, r2⟩) (by omega) Z
            exact ⟨_, fun f => by
              show mm_kI (mm_run (zP Z) 11 [.inr (.inr (some 53))] (mk s)) f = _
              rw [B_X1_readTest]
              simp (disch := first | with_reducible assumption | omega) only [↓sm, ↓reduceIte, ↓if_pos, ↓if_neg, kI, kJ, kR, kV, w32_eq, w64_eq, reduceCtorEq, Int.reduceAdd, Int.reduceMul, Int.reduceSub, o_c53, ↓o_g53_0, ↓o_g53_1, ↓o_g53_2, o_c5, o_c54, o_c7, ↓rI5_5 ek, ↓rI5_6 e6, ↓B_X1_readTest_15 Z, ↓B_X1_readTest_51 Z, ↓B_X1_readTest_59 Z, ↓B_X1_readTest_67 Z, ↓B_X1_readTest_85 Z, ↓B_X1_readTest_93 Z, ↓a1, ↓a2, ↓rI53_5 z2, ↓a3, ↓rI53_5 z3, ↓a4, ↓rI5_8 z4, ↓a5], x5⟩
          · have ew : wn (tK T) (tV T) = 11 := (wn_eq hk (w := 11) (by omega) (by omega)).mpr ⟨h2, hv⟩
            have c0 : ∀ f : Int → mW → mO, mm_kI (mm_run (zP Z) 235 [.inr (.inr (some 141)), .inr (.inr (some 1))] (mk t)) f = f 11 (mk t) := fun f => by rw [r_inW Z hT hk h.1, ew]
            obtain ⟨t1, b1, y1⟩ := ru_adv M0 (ru_142 h (j := 1992 + 6 * m) (by omega) 2211)
            obtain ⟨t2, b2, y2⟩ := ru_pup hT hk1 hW M1 y1 (lo1 hL (by omega) _) (to := 1992 + 6 * m + 1) (by omega) (by omega) qk1 qp1
            obtain ⟨t3, b3, y3⟩ := ru_tail Z hk2 hk3 M2 M3 y2 (to := 1992 + 6 * m) (by omega) (by omega) qs qv
            exact ⟨_, fun f => by
              rw [B_X12_autumnOrder]
              simp (disch := first | with_reducible assumption | omega) only [↓sm, ↓reduceIte, ↓if_pos, ↓if_neg, kI, kJ, kR, kV, w32_eq, w64_eq, reduceCtorEq, Int.reduceAdd, Int.reduceMul, Int.reduceSub, o_c141, ↓o_g141_0, ↓o_g141_1, ↓o_g141_5, ↓o_g141_6, ↓o_g141_7, ↓o_g141_8, ↓o_g141_9, ↓o_g141_21, ↓o_g141_25, ↓o_g141_26, ↓o_g141_27, ↓o_g141_28, ↓o_g141_29, ↓o_g141_30, ↓o_g141_31, ↓o_g141_34, ↓o_g141_35, ↓o_g141_36, ↓B_X12_test Z, ↓c0, ↓B_X12_test_20 Z, ↓a_st142, ↓r_tst0 Z, ↓b1, ↓b2, ↓b3], y3⟩
        · refine Or.inl ⟨nkd T3, tF T3, nkd_1 _, fun s h => ?_, fun t0 t h => ?_⟩
          · obtain ⟨ek, e6, -⟩ := cu_k h
            have e6 := e6 (Or.inl h2)
            rw [h2] at ek
            rw [hv] at e6
            obtain ⟨s1, a1, x1, gg⟩ := cu_adv N0 h
            obtain ⟨s2, a2, x2, z2⟩ := cu_pup hC hW N1 x1 qk1 qp1
            obtain ⟨s3, a3, x3, z3⟩ := cu_cmp N2 x2 qs
            obtain ⟨s4, a4, x4⟩ := cu_numf Z x3 (l := 0) (u := 9) qv
            exact ⟨_, fun f => by
              show mm_kI (mm_run (zP Z) 11 [.inr (.inr (some 53))] (mk s)) f = _
              rw [B_X1_readTest]
              simp (disch := first | with_reducible assumption | omega) only [↓sm, ↓reduceIte, ↓if_pos, ↓if_neg, kI, kJ, kR, kV, w32_eq, w64_eq, reduceCtorEq, Int.reduceAdd, Int.reduceMul, Int.reduceSub, o_c53, ↓o_g53_0, ↓o_g53_1, ↓o_g53_2, o_c5, o_c54, o_c7, ↓rI5_5 ek, ↓rI5_6 e6, ↓B_X1_readTest_15 Z, ↓B_X1_readTest_51 Z, ↓B_X1_readTest_59 Z, ↓B_X1_readTest_67 Z, ↓B_X1_readTest_85 Z, ↓B_X1_readTest_93 Z, ↓a1, ↓a2, ↓rI53_5 z2, ↓a3, ↓rI53_5 z3, ↓a4], x4⟩
          · have ew : wn (tK T) (tV T) = 11 := (wn_eq hk (w := 11) (by omega) (by omega)).mpr ⟨h2, hv⟩
            have c0 : ∀ f : Int → mW → mO, mm_kI (mm_run (zP Z) 235 [.inr (.inr (some 141)), .inr (.inr (some 1))] (mk t)) f = f 11 (mk t) := fun f => by rw [r_inW Z hT hk h.1, ew]
            obtain ⟨t1, b1, y1⟩ := ru_adv M0 (ru_142 h (j := 1992 + 6 * m) (by omega) 2211)
            obtain ⟨t2, b2, y2⟩ := ru_pup hT hk1 hW M1 y1 (lo1 hL (by omega) _) (to := 1992 + 6 * m + 1) (by omega) (by omega) qk1 qp1
            obtain ⟨t3, b3, y3⟩ := ru_tail_2 Z hk2 hk3 M2 y2 (lo1 (lo1 hL (by omega) _) (by omega) _) (to := 1992 + 6 * m) (by omega) (by omega) qs qv
            exact ⟨_, fun f => by
              rw [B_X12_autumnOrder]
              simp (disch := first | with_reducible assumption | omega) only [↓sm, ↓reduceIte, ↓if_pos, ↓if_neg, kI, kJ, kR, kV, w32_eq, w64_eq, reduceCtorEq, Int.reduceAdd, Int.reduceMul, Int.reduceSub, o_c141, ↓o_g141_0, ↓o_g141_1, ↓o_g141_5, ↓o_g141_6, ↓o_g141_7, ↓o_g141_8, ↓o_g141_9, ↓o_g141_21, ↓o_g141_25, ↓o_g141_26, ↓o_g141_27, ↓o_g141_28, ↓o_g141_29, ↓o_g141_30, ↓o_g141_31, ↓o_g141_34, ↓o_g141_35, ↓o_g141_36, ↓B_X12_test Z, ↓c0, ↓B_X12_test_20 Z, ↓a_st142, ↓r_tst0 Z, ↓b1, ↓b2, ↓b3], y3⟩
      · refine Or.inl ⟨fkd T2, tF T2, fkd_1 _, fun s h => ?_, fun t0 t h => ?_⟩
        · obtain ⟨ek, e6, -⟩ := cu_k h
          have e6 := e6 (Or.inl h2)
          rw [h2] at ek
          rw [hv] at e6
          obtain ⟨s1, a1, x1, gg⟩ := cu_adv N0 h
          obtain ⟨s2, a2, x2, z2⟩ := cu_pup hC hW N1 x1 qk1 qp1
          obtain ⟨s3, a3, x3⟩ := cu_cmp_f Z x2 qs
          exact ⟨_, fun f => by
            show mm_kI (mm_run (zP Z) 11 [.inr (.inr (some 53))] (mk s)) f = _
            rw [B_X1_readTest]
            simp (disch := first | with_reducible assumption | omega) only [↓sm, ↓reduceIte, ↓if_pos, ↓if_neg, kI, kJ, kR, kV, w32_eq, w64_eq, reduceCtorEq, Int.reduceAdd, Int.reduceMul, Int.reduceSub, o_c53, ↓o_g53_0, ↓o_g53_1, ↓o_g53_2, o_c5, o_c54, o_c7, ↓rI5_5 ek, ↓rI5_6 e6, ↓B_X1_readTest_15 Z, ↓B_X1_readTest_51 Z, ↓B_X1_readTest_59 Z, ↓B_X1_readTest_67 Z, ↓B_X1_readTest_85 Z, ↓B_X1_readTest_93 Z, ↓a1, ↓a2, ↓rI53_5 z2, ↓a3], x3⟩
        · have ew : wn (tK T) (tV T) = 11 := (wn_eq hk (w := 11) (by omega) (by omega)).mpr ⟨h2, hv⟩
          have c0 : ∀ f : Int → mW → mO, mm_kI (mm_run (zP Z) 235 [.inr (.inr (some 141)), .inr (.inr (some 1))] (mk t)) f = f 11 (mk t) := fun f => by rw [r_inW Z hT hk h.1, ew]
          obtain ⟨t1, b1, y1⟩ := ru_adv M0 (ru_142 h (j := 1992 + 6 * m) (by omega) 2211)
          obtain ⟨t2, b2, y2⟩ := ru_pup hT hk1 hW M1 y1 (lo1 hL (by omega) _) (to := 1992 + 6 * m + 1) (by omega) (by omega) qk1 qp1
          obtain ⟨t3, b3, y3⟩ := ru_tail_1 Z hk2 y2 (lo1 (lo1 hL (by omega) _) (by omega) _) (to := 1992 + 6 * m) qs
          exact ⟨_, fun f => by
            rw [B_X12_autumnOrder]
            simp (disch := first | with_reducible assumption | omega) only [↓sm, ↓reduceIte, ↓if_pos, ↓if_neg, kI, kJ, kR, kV, w32_eq, w64_eq, reduceCtorEq, Int.reduceAdd, Int.reduceMul, Int.reduceSub, o_c141, ↓o_g141_0, ↓o_g141_1, ↓o_g141_5, ↓o_g141_6, ↓o_g141_7, ↓o_g141_8, ↓o_g141_9, ↓o_g141_21, ↓o_g141_25, ↓o_g141_26, ↓o_g141_27, ↓o_g141_28, ↓o_g141_29, ↓o_g141_30, ↓o_g141_31, ↓o_g141_34, ↓o_g141_35, ↓o_g141_36, ↓B_X12_test Z, ↓c0, ↓B_X12_test_20 Z, ↓a_st142, ↓r_tst0 Z, ↓b1, ↓b2, ↓b3], y3⟩
  · refine Or.inl ⟨fkd T1, tF T1, fkd_1 _, fun s h => ?_, fun t0 t h => ?_⟩
    · obtain ⟨ek, e6, -⟩ := cu_k h
      have e6 := e6 (Or.inl h2)
      rw [h2] at ek
      rw [hv] at e6
      obtain ⟨s1, a1, x1, gg⟩ := cu_adv N0 h
      obtain ⟨s2, a2, x2⟩ := cu_pup_2 Z x1 qk1
      exact ⟨_, fun f => by
        show mm_kI (mm_run (zP Z) 11 [.inr (.inr (some 53))] (mk s)) f = _
        rw [B_X1_readTest]
        simp (disch := first | with_reducible assumption | omega) only [↓sm, ↓reduceIte, ↓if_pos, ↓if_neg, kI, kJ, kR, kV, w32_eq, w64_eq, reduceCtorEq, Int.reduceAdd, Int.reduceMul, Int.reduceSub, o_c53, ↓o_g53_0, ↓o_g53_1, ↓o_g53_2, o_c5, o_c54, o_c7, ↓rI5_5 ek, ↓rI5_6 e6, ↓B_X1_readTest_15 Z, ↓B_X1_readTest_51 Z, ↓B_X1_readTest_59 Z, ↓B_X1_readTest_67 Z, ↓B_X1_readTest_85 Z, ↓B_X1_readTest_93 Z, ↓a1, ↓a2], x2⟩
    · have ew : wn (tK T) (tV T) = 11 := (wn_eq hk (w := 11) (by omega) (by omega)).mpr ⟨h2, hv⟩
      have c0 : ∀ f : Int → mW → mO, mm_kI (mm_run (zP Z) 235 [.inr (.inr (some 141)), .inr (.inr (some 1))] (mk t)) f = f 11 (mk t) := fun f => by rw [r_inW Z hT hk h.1, ew]
      obtain ⟨t1, b1, y1⟩ := ru_adv M0 (ru_142 h (j := 1992 + 6 * m) (by omega) 2211)
      obtain ⟨t2, b2, y2⟩ := ru_pup_2 Z hT hk1 y1 (lo1 hL (by omega) _) (to := 1992 + 6 * m + 1) qk1
      exact ⟨_, fun f => by
        rw [B_X12_autumnOrder]
        simp (disch := first | with_reducible assumption | omega) only [↓sm, ↓reduceIte, ↓if_pos, ↓if_neg, kI, kJ, kR, kV, w32_eq, w64_eq, reduceCtorEq, Int.reduceAdd, Int.reduceMul, Int.reduceSub, o_c141, ↓o_g141_0, ↓o_g141_1, ↓o_g141_5, ↓o_g141_6, ↓o_g141_7, ↓o_g141_8, ↓o_g141_9, ↓o_g141_21, ↓o_g141_25, ↓o_g141_26, ↓o_g141_27, ↓o_g141_28, ↓o_g141_29, ↓o_g141_30, ↓o_g141_31, ↓o_g141_34, ↓o_g141_35, ↓o_g141_36, ↓B_X12_test Z, ↓c0, ↓B_X12_test_20 Z, ↓a_st142, ↓r_tst0 Z, ↓b1, ↓b2], y2⟩
set_option maxHeartbeats 8000000 in
theorem tst_caught (Z : mX) {s0 : mS} {b : Int → Int} {n : Int} (hT : TB0 b n) {G0 H G O : Int → Int} {m cnt dep : Int} {T : mT} (hk : TT b n T) (hW : WF G0) (hC : CS s0 7 G0 H) (hL : ∀ j, j < 1888 → G j = G0 j) (m0 : 0 ≤ m) (m1 : m < 60) (c0 : 0 ≤ cnt) (c1 : cnt ≤ 30) (g2 : G (1992 + 6 * m + 2) = 0) (g4 : G (1992 + 6 * m + 4) = 0) (g5 : G (1992 + 6 * m + 5) = 0) (h2 : tK T = 2) (hv : tV T = 23) : Ord (fun s f => mm_kI (mm_run (zP Z) 11 [.inr (.inr (some 53))] (mk s)) f) Z s0 b n G0 H T G O m cnt dep 22 := by
  obtain ⟨T1, p1, hk1, N0, M0⟩ := nxt Z hT hk
  obtain ⟨T2, p2, hk2, N1, M1⟩ := nxt Z hT hk1
  have q0 := tk_o hk
  have q1 := tk_o hk1
  have q2 := tk_o hk2
  have wG := wf0 hW
  have nn := wf_n hW
  by_cases qk1 : tK T1 = 3
  · by_cases qp1 : nmP H (G0 3) T1 = -1
    · refine Or.inl ⟨3, tF T1, by omega, fun s h => ?_, fun t0 t h => ?_⟩
      · obtain ⟨ek, e6, -⟩ := cu_k h
        have e6 := e6 (Or.inl h2)
        rw [h2] at ek
        rw [hv] at e6
        obtain ⟨s1, a1, x1, gg⟩ := cu_adv N0 h
        obtain ⟨s2, a2, x2⟩ := cu_pup_3 hC hW x1 qk1 qp1 (Z := Z)
        exact ⟨_, fun f => by
          show mm_kI (mm_run (zP Z) 11 [.inr (.inr (some 53))] (mk s)) f = _
          rw [B_X1_readTest]
          simp (disch := first | with_reducible assumption | omega) only [↓sm, ↓reduceIte, ↓if_pos, ↓if_neg, kI, kJ, kR, kV, w32_eq, w64_eq, reduceCtorEq, Int.reduceAdd, Int.reduceMul, Int.reduceSub, o_c53, ↓o_g53_0, ↓o_g53_1, ↓o_g53_2, o_c5, o_c54, o_c7, ↓rI5_5 ek, ↓rI5_6 e6, ↓B_X1_readTest_15 Z, ↓B_X1_readTest_51 Z, ↓B_X1_readTest_59 Z, ↓B_X1_readTest_67 Z, ↓B_X1_readTest_85 Z, ↓B_X1_readTest_93 Z, ↓a1, ↓a2], x2⟩
      · have ew : wn (tK T) (tV T) = 26 := (wn_eq hk (w := 23) (by omega) (by omega)).mpr ⟨h2, hv⟩
        have c0 : ∀ f : Int → mW → mO, mm_kI (mm_run (zP Z) 235 [.inr (.inr (some 141)), .inr (.inr (some 1))] (mk t)) f = f 26 (mk t) := fun f => by rw [r_inW Z hT hk h.1, ew]
        obtain ⟨t1, b1, y1⟩ := ru_adv M0 (ru_142 h (j := 1992 + 6 * m) (by omega) 2226)
        obtain ⟨t2, b2, y2⟩ := ru_pup_3 Z hT hk1 hW y1 (lo1 hL (by omega) _) (to := 1992 + 6 * m + 1) (by omega) (by omega) qk1 qp1
        exact ⟨_, fun f => by
          rw [B_X12_autumnOrder]
          simp (disch := first | with_reducible assumption | omega) only [↓sm, ↓reduceIte, ↓if_pos, ↓if_neg, kI, kJ, kR, kV, w32_eq, w64_eq, reduceCtorEq, Int.reduceAdd, Int.reduceMul, Int.reduceSub, o_c141, ↓o_g141_0, ↓o_g141_1, ↓o_g141_5, ↓o_g141_6, ↓o_g141_7, ↓o_g141_8, ↓o_g141_9, ↓o_g141_21, ↓o_g141_25, ↓o_g141_26, ↓o_g141_27, ↓o_g141_28, ↓o_g141_29, ↓o_g141_30, ↓o_g141_31, ↓o_g141_34, ↓o_g141_35, ↓o_g141_36, ↓B_X12_test Z, ↓c0, ↓B_X12_test_20 Z, ↓a_st142, ↓r_tst0 Z, ↓b1, ↓b2], y2⟩
    · have qn1 := nmP_r hW T1 qp1
      have r0 : (mm_upd (mm_upd G (1992 + 6 * m) (2226)) (1992 + 6 * m + 1) (nmP H (G0 3) T1)) (1992 + 6 * m) = 2226 := by
        try unfold mm_upd
        repeat first | rw [if_pos (by omega)] | rw [if_neg (by omega)]
        try assumption
      have r1 : (mm_upd (mm_upd G (1992 + 6 * m) (2226)) (1992 + 6 * m + 1) (nmP H (G0 3) T1)) (1992 + 6 * m + 1) = nmP H (G0 3) T1 := by
        try unfold mm_upd
        repeat first | rw [if_pos (by omega)] | rw [if_neg (by omega)]
        try assumption
      have r2 : (mm_upd (mm_upd G (1992 + 6 * m) (2226)) (1992 + 6 * m + 1) (nmP H (G0 3) T1)) (1992 + 6 * m + 2) = 0 := by
        try unfold mm_upd
        repeat first | rw [if_pos (by omega)] | rw [if_neg (by omega)]
        try assumption
      have r4 : (mm_upd (mm_upd G (1992 + 6 * m) (2226)) (1992 + 6 * m + 1) (nmP H (G0 3) T1)) (1992 + 6 * m + 4) = 0 := by
        try unfold mm_upd
        repeat first | rw [if_pos (by omega)] | rw [if_neg (by omega)]
        try assumption
      have r5 : (mm_upd (mm_upd G (1992 + 6 * m) (2226)) (1992 + 6 * m + 1) (nmP H (G0 3) T1)) (1992 + 6 * m + 5) = 0 := by
        try unfold mm_upd
        repeat first | rw [if_pos (by omega)] | rw [if_neg (by omega)]
        try assumption
      have re : ∀ j, j < 1992 + 6 * m → (mm_upd (mm_upd G (1992 + 6 * m) (2226)) (1992 + 6 * m + 1) (nmP H (G0 3) T1)) j = G j := fun j hj => by
        try unfold mm_upd
        repeat rw [if_neg (by omega)]
        try rfl
      refine Or.inr ⟨T2, mm_upd (mm_upd G (1992 + 6 * m) (2226)) (1992 + 6 * m + 1) (nmP H (G0 3) T1), by omega, hk2, re, PR1_row m0 r0 r1 r2 (by unfold PRx; omega), r4, fun y => absurd rfl y, fun _ => by rw [r0]; omega, fun s h => ?_, fun t0 t h => ?_⟩
      · obtain ⟨ek, e6, -⟩ := cu_k h
        have e6 := e6 (Or.inl h2)
        rw [h2] at ek
        rw [hv] at e6
        obtain ⟨s1, a1, x1, gg⟩ := cu_adv N0 h
        obtain ⟨s2, a2, x2, z2⟩ := cu_pup hC hW N1 x1 qk1 qp1
        obtain ⟨s3, a3, x3⟩ := cu_row x2 m0 m1 c0 c1 re (v1 := 23) (v2 := nmP H (G0 3) T1) (v3 := 0) (v4 := 0) r0 r1 (by decide) (fun _ => by omega) (fun y => ⟨r5, r2⟩) (by omega) Z
        exact ⟨_, fun f => by
          show mm_kI (mm_run (zP Z) 11 [.inr (.inr (some 53))] (mk s)) f = _
          rw [B_X1_readTest]
          simp (disch := first | with_reducible assumption | omega) only [↓sm, ↓reduceIte, ↓if_pos, ↓if_neg, kI, kJ, kR, kV, w32_eq, w64_eq, reduceCtorEq, Int.reduceAdd, Int.reduceMul, Int.reduceSub, o_c53, ↓o_g53_0, ↓o_g53_1, ↓o_g53_2, o_c5, o_c54, o_c7, ↓rI5_5 ek, ↓rI5_6 e6, ↓B_X1_readTest_15 Z, ↓B_X1_readTest_51 Z, ↓B_X1_readTest_59 Z, ↓B_X1_readTest_67 Z, ↓B_X1_readTest_85 Z, ↓B_X1_readTest_93 Z, ↓a1, ↓a2, ↓rI53_5 z2, ↓a3], x3⟩
      · have ew : wn (tK T) (tV T) = 26 := (wn_eq hk (w := 23) (by omega) (by omega)).mpr ⟨h2, hv⟩
        have c0 : ∀ f : Int → mW → mO, mm_kI (mm_run (zP Z) 235 [.inr (.inr (some 141)), .inr (.inr (some 1))] (mk t)) f = f 26 (mk t) := fun f => by rw [r_inW Z hT hk h.1, ew]
        obtain ⟨t1, b1, y1⟩ := ru_adv M0 (ru_142 h (j := 1992 + 6 * m) (by omega) 2226)
        obtain ⟨t2, b2, y2⟩ := ru_pup hT hk1 hW M1 y1 (lo1 hL (by omega) _) (to := 1992 + 6 * m + 1) (by omega) (by omega) qk1 qp1
        exact ⟨_, fun f => by
          rw [B_X12_autumnOrder]
          simp (disch := first | with_reducible assumption | omega) only [↓sm, ↓reduceIte, ↓if_pos, ↓if_neg, kI, kJ, kR, kV, w32_eq, w64_eq, reduceCtorEq, Int.reduceAdd, Int.reduceMul, Int.reduceSub, o_c141, ↓o_g141_0, ↓o_g141_1, ↓o_g141_5, ↓o_g141_6, ↓o_g141_7, ↓o_g141_8, ↓o_g141_9, ↓o_g141_21, ↓o_g141_25, ↓o_g141_26, ↓o_g141_27, ↓o_g141_28, ↓o_g141_29, ↓o_g141_30, ↓o_g141_31, ↓o_g141_34, ↓o_g141_35, ↓o_g141_36, ↓B_X12_test Z, ↓c0, ↓B_X12_test_20 Z, ↓a_st142, ↓r_tst0 Z, ↓b1, ↓b2], y2⟩
  · refine Or.inl ⟨fkd T1, tF T1, fkd_1 _, fun s h => ?_, fun t0 t h => ?_⟩
    · obtain ⟨ek, e6, -⟩ := cu_k h
      have e6 := e6 (Or.inl h2)
      rw [h2] at ek
      rw [hv] at e6
      obtain ⟨s1, a1, x1, gg⟩ := cu_adv N0 h
      obtain ⟨s2, a2, x2⟩ := cu_pup_2 Z x1 qk1
      exact ⟨_, fun f => by
        show mm_kI (mm_run (zP Z) 11 [.inr (.inr (some 53))] (mk s)) f = _
        rw [B_X1_readTest]
        simp (disch := first | with_reducible assumption | omega) only [↓sm, ↓reduceIte, ↓if_pos, ↓if_neg, kI, kJ, kR, kV, w32_eq, w64_eq, reduceCtorEq, Int.reduceAdd, Int.reduceMul, Int.reduceSub, o_c53, ↓o_g53_0, ↓o_g53_1, ↓o_g53_2, o_c5, o_c54, o_c7, ↓rI5_5 ek, ↓rI5_6 e6, ↓B_X1_readTest_15 Z, ↓B_X1_readTest_51 Z, ↓B_X1_readTest_59 Z, ↓B_X1_readTest_67 Z, ↓B_X1_readTest_85 Z, ↓B_X1_readTest_93 Z, ↓a1, ↓a2], x2⟩
    · have ew : wn (tK T) (tV T) = 26 := (wn_eq hk (w := 23) (by omega) (by omega)).mpr ⟨h2, hv⟩
      have c0 : ∀ f : Int → mW → mO, mm_kI (mm_run (zP Z) 235 [.inr (.inr (some 141)), .inr (.inr (some 1))] (mk t)) f = f 26 (mk t) := fun f => by rw [r_inW Z hT hk h.1, ew]
      obtain ⟨t1, b1, y1⟩ := ru_adv M0 (ru_142 h (j := 1992 + 6 * m) (by omega) 2226)
      obtain ⟨t2, b2, y2⟩ := ru_pup_2 Z hT hk1 y1 (lo1 hL (by omega) _) (to := 1992 + 6 * m + 1) qk1
      exact ⟨_, fun f => by
        rw [B_X12_autumnOrder]
        simp (disch := first | with_reducible assumption | omega) only [↓sm, ↓reduceIte, ↓if_pos, ↓if_neg, kI, kJ, kR, kV, w32_eq, w64_eq, reduceCtorEq, Int.reduceAdd, Int.reduceMul, Int.reduceSub, o_c141, ↓o_g141_0, ↓o_g141_1, ↓o_g141_5, ↓o_g141_6, ↓o_g141_7, ↓o_g141_8, ↓o_g141_9, ↓o_g141_21, ↓o_g141_25, ↓o_g141_26, ↓o_g141_27, ↓o_g141_28, ↓o_g141_29, ↓o_g141_30, ↓o_g141_31, ↓o_g141_34, ↓o_g141_35, ↓o_g141_36, ↓B_X12_test Z, ↓c0, ↓B_X12_test_20 Z, ↓a_st142, ↓r_tst0 Z, ↓b1, ↓b2], y2⟩
theorem km_tst : ∀ v : Nat, v < 27 → (v = 3 ∨ v = 9 ∨ v = 11 ∨ v = 23) ∨ (km (v : Int) ≠ 2 ∧ km (v : Int) ≠ 9 ∧ km (v : Int) ≠ 11 ∧ km (v : Int) ≠ 26) := by decide +kernel
theorem ord_when (Z : mX) {s0 : mS} {b : Int → Int} {n : Int} (hT : TB0 b n) {G0 H G O : Int → Int} {m cnt dep : Int} {T : mT} (hk : TT b n T) (hW : WF G0) (hC : CS s0 7 G0 H) (hL : ∀ j, j < 1888 → G j = G0 j) (m0 : 0 ≤ m) (m1 : m < 60) (c0 : 0 ≤ cnt) (c1 : cnt ≤ 30) (g2 : G (1992 + 6 * m + 2) = 0) (g4 : G (1992 + 6 * m + 4) = 0) (g5 : G (1992 + 6 * m + 5) = 0) : Ord (fun s f => mm_kI (mm_run (zP Z) 11 [.inr (.inr (some 53))] (mk s)) f) Z s0 b n G0 H T G O m cnt dep 22 := by
  obtain ⟨-, -, k2, -⟩ := tk_k hk
  by_cases h2 : tK T = 2
  · have v := k2 h2
    by_cases v3 : tV T = 3
    · exact tst_thorns Z hT hk hW hC hL m0 m1 c0 c1 g2 g4 g5 h2 v3
    · by_cases v9 : tV T = 9
      · exact tst_at Z hT hk hW hC hL m0 m1 c0 c1 g2 g4 g5 h2 v9
      · by_cases v11 : tV T = 11
        · exact tst_knows Z hT hk hW hC hL m0 m1 c0 c1 g2 g4 g5 h2 v11
        · by_cases v23 : tV T = 23
          · exact tst_caught Z hT hk hW hC hL m0 m1 c0 c1 g2 g4 g5 h2 v23
          · refine Or.inl ⟨fkd T, tF T, fkd_1 _, fun s h => ?_, fun t0 t h => ?_⟩
            · obtain ⟨ek, e6, -⟩ := cu_k h
              have e6 := e6 (Or.inl h2)
              rw [h2] at ek
              obtain ⟨s1, a1, x1⟩ := cu_strays Z h
              refine ⟨s1, fun f => ?_, x1⟩
              show mm_kI (mm_run (zP Z) 11 [.inr (.inr (some 53))] (mk s)) f = _
              rw [B_X1_readTest]
              simp (disch := first | with_reducible assumption | omega) only [↓sm, ↓reduceIte, ↓if_pos, ↓if_neg, kI, kJ, kR, kV, w32_eq, w64_eq, reduceCtorEq, Int.reduceAdd, Int.reduceMul, Int.reduceSub, ↓o_g53_0, o_c5, ↓rI5_5 ek, ↓rI5_6 e6, ↓a1]
            · have hb := km_tst (tV T).toNat (by omega)
              rw [Int.toNat_of_nonneg v.1] at hb
              have hb : km (tV T) ≠ 2 ∧ km (tV T) ≠ 9 ∧ km (tV T) ≠ 11 ∧ km (tV T) ≠ 26 := by omega
              obtain ⟨n2, n9, n11, n26⟩ := hb
              have ew : wn (tK T) (tV T) = km (tV T) := if_pos h2
              obtain ⟨t1, b1, y1⟩ := ru_fail2 Z hk h hL
              refine ⟨t1, fun f => ?_, y1⟩
              have c0 : ∀ f : Int → mW → mO, mm_kI (mm_run (zP Z) 235 [.inr (.inr (some 141)), .inr (.inr (some 1))] (mk t)) f = f (km (tV T)) (mk t) := fun f => by rw [r_inW Z hT hk h.1, ew]
              rw [B_X12_autumnOrder]
              simp (disch := first | with_reducible assumption | omega) only [↓sm, ↓reduceIte, ↓if_pos, ↓if_neg, kI, kJ, kR, kV, w32_eq, w64_eq, reduceCtorEq, Int.reduceAdd, Int.reduceMul, Int.reduceSub, o_c141, ↓B_X12_test Z, ↓c0, n2, n9, n11, n26, ↓b1]
  · refine Or.inl ⟨fkd T, tF T, fkd_1 _, fun s h => ?_, fun t0 t h => ?_⟩
    · obtain ⟨ek, e6, -⟩ := cu_k h
      obtain ⟨s1, a1, x1⟩ := cu_strays Z h
      refine ⟨s1, fun f => ?_, x1⟩
      show mm_kI (mm_run (zP Z) 11 [.inr (.inr (some 53))] (mk s)) f = _
      rw [B_X1_readTest]
      simp (disch := first | with_reducible assumption | omega) only [↓sm, ↓reduceIte, ↓if_pos, ↓if_neg, kI, kJ, kR, kV, w32_eq, w64_eq, reduceCtorEq, Int.reduceAdd, Int.reduceMul, Int.reduceSub, ↓o_g53_0, o_c5, ↓rI5_5 ek, ↓a1]
    · have ew : wn (tK T) (tV T) = -1 := if_neg h2
      obtain ⟨t1, b1, y1⟩ := ru_fail2 Z hk h hL
      refine ⟨t1, fun f => ?_, y1⟩
      have c0 : ∀ f : Int → mW → mO, mm_kI (mm_run (zP Z) 235 [.inr (.inr (some 141)), .inr (.inr (some 1))] (mk t)) f = f (-1) (mk t) := fun f => by rw [r_inW Z hT hk h.1, ew]
      rw [B_X12_autumnOrder]
      simp (disch := first | with_reducible assumption | omega) only [↓sm, ↓reduceIte, ↓if_pos, ↓if_neg, kI, kJ, kR, kV, w32_eq, w64_eq, reduceCtorEq, Int.reduceAdd, Int.reduceMul, Int.reduceSub, o_c141, ↓B_X12_test Z, ↓c0, ↓b1]
