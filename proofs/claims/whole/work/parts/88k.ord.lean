/-! an order of autumns: both sides (printed by gen/parts3.py) -/
def Ord (C : mS → (Int → mW → mO) → mO) (Z : mX) (s0 : mS) (b : Int → Int) (n : Int) (G0 H : Int → Int) (T : mT) (G O : Int → Int) (m cnt dep k : Int) : Prop :=
  (∃ kd pl, 1 ≤ kd ∧ (∀ s, CU s0 b n T (mixS G0 G) O (opS O dep) m cnt dep s → ∃ s', (∀ f : Int → mW → mO, C s f = f 0 (mk s')) ∧ CFl s0 kd pl s') ∧
    (∀ t0 t, RU t0 b n T G H O (m + 1) (cnt + 1) dep t → ∃ t', (∀ f : Int → mW → mO, mm_kI (mm_run (zP Z) 267 [.inr (.inr (some 141)), .inl k, .inl ((1992 + 6 * m))] (mk t)) f = f 0 (mk t')) ∧ RFl t0 G0 H kd pl t')) ∨
  (∃ T' G', tF T ≤ tF T' ∧ TT b n T' ∧ (∀ j, j < 1992 + 6 * m → G' j = G j) ∧ PR1 (mixS G0 G') m ∧ G' (1992 + 6 * m + 4) = 0 ∧ (k ≠ 22 → G' (1992 + 6 * m) = k) ∧ (k = 22 → 2200 ≤ G' (1992 + 6 * m)) ∧
    (∀ s, CU s0 b n T (mixS G0 G) O (opS O dep) m cnt dep s → ∃ s', (∀ f : Int → mW → mO, C s f = f 1 (mk s')) ∧ CU s0 b n T' (mixS G0 G') O (fun i => i = m ∨ opS O dep i) (m + 1) (cnt + 1) dep s') ∧
    (∀ t0 t, RU t0 b n T G H O (m + 1) (cnt + 1) dep t → ∃ t', (∀ f : Int → mW → mO, mm_kI (mm_run (zP Z) 267 [.inr (.inr (some 141)), .inl k, .inl ((1992 + 6 * m))] (mk t)) f = f 1 (mk t')) ∧ RU t0 b n T' G' H O (m + 1) (cnt + 1) dep t'))
def PRx (x a c p l : Int) : Prop :=
  (x = 16 ∨ x = 17 ∨ x = 18 ∨ x = 19 ∨ x = 20 ∨ x = 21 ∨ x = 23 ∨ x = 24 ∨ x = 25 ∨ x = 2202 ∨ x = 2209 ∨ x = 2211 ∨ x = 2226) ∧
  ((x = 16 ∨ x = 17 ∨ x = 18 ∨ x = 19 ∨ x = 2209 ∨ x = 2211 ∨ x = 2226) → 0 ≤ a ∧ a < p) ∧
  (x = 16 → 0 ≤ c ∧ c < 4) ∧ (x = 17 → 0 ≤ c ∧ c < p) ∧ (x = 20 → 1 ≤ a ∧ a ≤ 20) ∧ (x = 23 → 1 ≤ a ∧ a ≤ 99) ∧ (x = 2202 → 0 ≤ a ∧ a < l)
theorem PR1_row {G0 G' : Int → Int} {m x a c : Int} (m0 : 0 ≤ m) (r0 : G' (1992 + 6 * m) = x) (r1 : G' (1992 + 6 * m + 1) = a) (r2 : G' (1992 + 6 * m + 2) = c) (h : PRx x a c (G0 3) (ncl G0)) : PR1 (mixS G0 G') m := by
  have e3 : mixS G0 G' 3 = G0 3 := mixS_lo (by omega)
  have en : ncl (mixS G0 G') = ncl G0 := ncl_e (fun j hj => mixS_lo (by omega))
  unfold PR1
  rw [e3, en, mixS_r m0 (by omega), mixS_r m0 (by omega), mixS_r0 m0, r0, r1, r2]
  exact h
theorem cu_row {s0 s : mS} {b : Int → Int} {n : Int} {T : mT} {G0 G G' O : Int → Int} {m cnt dep : Int} (h : CU s0 b n T (mixS G0 G) O (opS O dep) m cnt dep s) (m0 : 0 ≤ m) (m1 : m < 60) (c0 : 0 ≤ cnt) (c1 : cnt ≤ 30) (e : ∀ j, j < 1992 + 6 * m → G' j = G j) {x v1 v2 v3 v4 : Int} (r0 : G' (1992 + 6 * m) = x) (r1 : G' (1992 + 6 * m + 1) = v2) (g1 : v1 = wmap x) (g3 : x = 16 ∨ x = 17 → G' (1992 + 6 * m + 2) = v3) (g4 : 2200 ≤ x → G' (1992 + 6 * m + 5) = v3 ∧ G' (1992 + 6 * m + 2) = v4) (g5 : x ≠ 24) (Z : mX) :
    ∃ s', (∀ f : mW → mO, mm_kV (mm_run (zP Z) 3 [.inr (.inr (some 54)), .inl v1, .inl v2, .inl v3, .inl v4] (mk s)) f = f (mk s')) ∧ CU s0 b n T (mixS G0 G') O (fun i => i = m ∨ opS O dep i) (m + 1) (cnt + 1) dep s' := by
  refine cu_add (op' := fun i => i = m ∨ opS O dep i) h m0 m1 c0 c1 (mixS_e (fun j j0 j1 => e j (by omega))) (fun i hi => Or.inr hi) ?_ ?_ ?_ ?_ ?_ (Or.inl rfl) Z
  · rw [mixS_r0 m0, r0]; exact g1
  · rw [mixS_r m0 (by omega), r1]
  · rw [mixS_r0 m0, r0, mixS_r m0 (by omega)]; exact fun y => (g3 y).symm
  · rw [mixS_r0 m0, r0, mixS_r m0 (by omega), mixS_r m0 (by omega)]; exact fun y => ⟨(g4 y).1.symm, (g4 y).2.symm⟩
  · rw [mixS_r0 m0, r0]; exact g5
theorem cu_cells {s0 s : mS} {b : Int → Int} {n : Int} {T : mT} {S O G0 H : Int → Int} {op : Int → Prop} {m cnt dep : Int} (hC : CS s0 7 G0 H) (hW : WF G0) (h : CU s0 b n T S O op m cnt dep s) (Z : mX) (f : Int → mW → mO) : mm_kI (mm_run (zP Z) 48 [.inr (.inr (some 7))] (mk s)) f = f (ncl G0) (mk s) := by
  have g := h.2.2.2.2.2.2.2
  have hc : CS s 7 G0 H := CS_fr hC (fun k => g.2 7 k (by unfold pcG; omega)) (fun j j0 j1 => g.1 _ (by unfold pcA; omega))
  exact c_cells hc hW Z f
set_option maxHeartbeats 8000000 in
theorem ord_go (Z : mX) {s0 : mS} {b : Int → Int} {n : Int} (hT : TB0 b n) {G0 H G O : Int → Int} {m cnt dep : Int} {T : mT} (hk : TT b n T) (hW : WF G0) (hC : CS s0 7 G0 H) (hL : ∀ j, j < 1888 → G j = G0 j) (m0 : 0 ≤ m) (m1 : m < 60) (c0 : 0 ≤ cnt) (c1 : cnt ≤ 30) (g2 : G (1992 + 6 * m + 2) = 0) (g4 : G (1992 + 6 * m + 4) = 0) (g5 : G (1992 + 6 * m + 5) = 0) (g0 : G (1992 + 6 * m) = 16) : Ord (fun s f => mm_kI (mm_run (zP Z) 10 [.inr (.inr (some 53)), .inl 12] (mk s)) f) Z s0 b n G0 H T G O m cnt dep 16 := by
  obtain ⟨T1, p1, hk1, N0, M0⟩ := nxt Z hT hk
  obtain ⟨T2, p2, hk2, N1, M1⟩ := nxt Z hT hk1
  have q0 := tk_o hk
  have q1 := tk_o hk1
  have q2 := tk_o hk2
  have wG := wf0 hW
  by_cases qk0 : tK T = 3
  · by_cases qp0 : nmP H (G0 3) T = -1
    · refine Or.inl ⟨3, tF T, by omega, fun s h => ?_, fun t0 t h => ?_⟩
      · obtain ⟨s1, a1, x1⟩ := cu_pup_3 hC hW h qk0 qp0 (Z := Z)
        exact ⟨_, fun f => by
          show mm_kI (mm_run (zP Z) 10 [.inr (.inr (some 53)), .inl 12] (mk s)) f = _
          rw [B_X1_readPlain]
          simp (disch := first | with_reducible assumption | omega) only [↓sm, ↓reduceIte, ↓if_pos, ↓if_neg, kI, kJ, kR, kV, w32_eq, w64_eq, reduceCtorEq, Int.reduceAdd, Int.reduceMul, Int.reduceSub, o_c53, ↓o_g53_0, ↓o_g53_1, ↓o_g53_2, o_c5, o_c54, o_c7, ↓B_X1_readPlain_6 Z, ↓B_X1_readPlain_26 Z, ↓B_X1_readPlain_30 Z, ↓B_X1_readPlain_39 Z, ↓B_X1_readPlain_48 Z, ↓B_X1_readPlain_57 Z, ↓a1], x1⟩
      · obtain ⟨t1, b1, y1⟩ := ru_pup_3 Z hT hk hW h hL (to := 1992 + 6 * m + 1) (by omega) (by omega) qk0 qp0
        exact ⟨_, fun f => by
          rw [B_X12_autumnOrder]
          simp (disch := first | with_reducible assumption | omega) only [↓sm, ↓reduceIte, ↓if_pos, ↓if_neg, kI, kJ, kR, kV, w32_eq, w64_eq, reduceCtorEq, Int.reduceAdd, Int.reduceMul, Int.reduceSub, o_c141, ↓B_X12_autumnOrder_34 Z, ↓b1], y1⟩
    · have qn0 := nmP_r hW T qp0
      by_cases qs : tK T1 = 2 ∧ 13 ≤ tV T1 ∧ tV T1 ≤ 16
      · have r0 : (mm_upd (mm_upd G (1992 + 6 * m + 1) (nmP H (G0 3) T)) (1992 + 6 * m + 2) (tV T1 - 13)) (1992 + 6 * m) = 16 := by
          try unfold mm_upd
          repeat first | rw [if_pos (by omega)] | rw [if_neg (by omega)]
          try assumption
        have r1 : (mm_upd (mm_upd G (1992 + 6 * m + 1) (nmP H (G0 3) T)) (1992 + 6 * m + 2) (tV T1 - 13)) (1992 + 6 * m + 1) = nmP H (G0 3) T := by
          try unfold mm_upd
          repeat first | rw [if_pos (by omega)] | rw [if_neg (by omega)]
          try assumption
        have r2 : (mm_upd (mm_upd G (1992 + 6 * m + 1) (nmP H (G0 3) T)) (1992 + 6 * m + 2) (tV T1 - 13)) (1992 + 6 * m + 2) = tV T1 - 13 := by
          try unfold mm_upd
          repeat first | rw [if_pos (by omega)] | rw [if_neg (by omega)]
          try assumption
        have r4 : (mm_upd (mm_upd G (1992 + 6 * m + 1) (nmP H (G0 3) T)) (1992 + 6 * m + 2) (tV T1 - 13)) (1992 + 6 * m + 4) = 0 := by
          try unfold mm_upd
          repeat first | rw [if_pos (by omega)] | rw [if_neg (by omega)]
          try assumption
        have r5 : (mm_upd (mm_upd G (1992 + 6 * m + 1) (nmP H (G0 3) T)) (1992 + 6 * m + 2) (tV T1 - 13)) (1992 + 6 * m + 5) = 0 := by
          try unfold mm_upd
          repeat first | rw [if_pos (by omega)] | rw [if_neg (by omega)]
          try assumption
        have re : ∀ j, j < 1992 + 6 * m → (mm_upd (mm_upd G (1992 + 6 * m + 1) (nmP H (G0 3) T)) (1992 + 6 * m + 2) (tV T1 - 13)) j = G j := fun j hj => by
          try unfold mm_upd
          repeat rw [if_neg (by omega)]
          try rfl
        refine Or.inr ⟨T2, mm_upd (mm_upd G (1992 + 6 * m + 1) (nmP H (G0 3) T)) (1992 + 6 * m + 2) (tV T1 - 13), by omega, hk2, re, PR1_row m0 r0 r1 r2 (by unfold PRx; omega), r4, fun _ => r0, fun y => absurd y (by omega), fun s h => ?_, fun t0 t h => ?_⟩
        · obtain ⟨s1, a1, x1, z1⟩ := cu_pup hC hW N0 h qk0 qp0
          obtain ⟨s2, a2, x2, z2⟩ := cu_side N1 x1 qs
          obtain ⟨s3, a3, x3⟩ := cu_row x2 m0 m1 c0 c1 re (v1 := 12) (v2 := nmP H (G0 3) T) (v3 := tV T1 - 13) (v4 := 0) r0 r1 (by decide) (fun _ => r2) (fun y => by omega) (by omega) Z
          exact ⟨_, fun f => by
            show mm_kI (mm_run (zP Z) 10 [.inr (.inr (some 53)), .inl 12] (mk s)) f = _
            rw [B_X1_readPlain]
            simp (disch := first | with_reducible assumption | omega) only [↓sm, ↓reduceIte, ↓if_pos, ↓if_neg, kI, kJ, kR, kV, w32_eq, w64_eq, reduceCtorEq, Int.reduceAdd, Int.reduceMul, Int.reduceSub, o_c53, ↓o_g53_0, ↓o_g53_1, ↓o_g53_2, o_c5, o_c54, o_c7, ↓B_X1_readPlain_6 Z, ↓B_X1_readPlain_26 Z, ↓B_X1_readPlain_30 Z, ↓B_X1_readPlain_39 Z, ↓B_X1_readPlain_48 Z, ↓B_X1_readPlain_57 Z, ↓a1, ↓rI53_5 z1, ↓a2, ↓rI53_5 z2, ↓a3], x3⟩
        · obtain ⟨t1, b1, y1⟩ := ru_pup hT hk hW M0 h hL (to := 1992 + 6 * m + 1) (by omega) (by omega) qk0 qp0
          obtain ⟨t2, b2, y2⟩ := ru_side hT hk1 M1 y1 (to := 1992 + 6 * m + 2) (by omega) (by omega) qs
          exact ⟨_, fun f => by
            rw [B_X12_autumnOrder]
            simp (disch := first | with_reducible assumption | omega) only [↓sm, ↓reduceIte, ↓if_pos, ↓if_neg, kI, kJ, kR, kV, w32_eq, w64_eq, reduceCtorEq, Int.reduceAdd, Int.reduceMul, Int.reduceSub, o_c141, ↓B_X12_autumnOrder_34 Z, ↓b1, ↓b2], y2⟩
      · refine Or.inl ⟨fkd T1, tF T1, fkd_1 _, fun s h => ?_, fun t0 t h => ?_⟩
        · obtain ⟨s1, a1, x1, z1⟩ := cu_pup hC hW N0 h qk0 qp0
          obtain ⟨s2, a2, x2⟩ := cu_side_f Z x1 qs
          exact ⟨_, fun f => by
            show mm_kI (mm_run (zP Z) 10 [.inr (.inr (some 53)), .inl 12] (mk s)) f = _
            rw [B_X1_readPlain]
            simp (disch := first | with_reducible assumption | omega) only [↓sm, ↓reduceIte, ↓if_pos, ↓if_neg, kI, kJ, kR, kV, w32_eq, w64_eq, reduceCtorEq, Int.reduceAdd, Int.reduceMul, Int.reduceSub, o_c53, ↓o_g53_0, ↓o_g53_1, ↓o_g53_2, o_c5, o_c54, o_c7, ↓B_X1_readPlain_6 Z, ↓B_X1_readPlain_26 Z, ↓B_X1_readPlain_30 Z, ↓B_X1_readPlain_39 Z, ↓B_X1_readPlain_48 Z, ↓B_X1_readPlain_57 Z, ↓a1, ↓rI53_5 z1, ↓a2], x2⟩
        · obtain ⟨t1, b1, y1⟩ := ru_pup hT hk hW M0 h hL (to := 1992 + 6 * m + 1) (by omega) (by omega) qk0 qp0
          obtain ⟨t2, b2, y2⟩ := ru_side_f Z hT hk1 y1 (lo1 hL (by omega) _) (to := 1992 + 6 * m + 2) qs
          exact ⟨_, fun f => by
            rw [B_X12_autumnOrder]
            simp (disch := first | with_reducible assumption | omega) only [↓sm, ↓reduceIte, ↓if_pos, ↓if_neg, kI, kJ, kR, kV, w32_eq, w64_eq, reduceCtorEq, Int.reduceAdd, Int.reduceMul, Int.reduceSub, o_c141, ↓B_X12_autumnOrder_34 Z, ↓b1, ↓b2], y2⟩
  · refine Or.inl ⟨fkd T, tF T, fkd_1 _, fun s h => ?_, fun t0 t h => ?_⟩
    · obtain ⟨s1, a1, x1⟩ := cu_pup_2 Z h qk0
      exact ⟨_, fun f => by
        show mm_kI (mm_run (zP Z) 10 [.inr (.inr (some 53)), .inl 12] (mk s)) f = _
        rw [B_X1_readPlain]
        simp (disch := first | with_reducible assumption | omega) only [↓sm, ↓reduceIte, ↓if_pos, ↓if_neg, kI, kJ, kR, kV, w32_eq, w64_eq, reduceCtorEq, Int.reduceAdd, Int.reduceMul, Int.reduceSub, o_c53, ↓o_g53_0, ↓o_g53_1, ↓o_g53_2, o_c5, o_c54, o_c7, ↓B_X1_readPlain_6 Z, ↓B_X1_readPlain_26 Z, ↓B_X1_readPlain_30 Z, ↓B_X1_readPlain_39 Z, ↓B_X1_readPlain_48 Z, ↓B_X1_readPlain_57 Z, ↓a1], x1⟩
    · obtain ⟨t1, b1, y1⟩ := ru_pup_2 Z hT hk h hL (to := 1992 + 6 * m + 1) qk0
      exact ⟨_, fun f => by
        rw [B_X12_autumnOrder]
        simp (disch := first | with_reducible assumption | omega) only [↓sm, ↓reduceIte, ↓if_pos, ↓if_neg, kI, kJ, kR, kV, w32_eq, w64_eq, reduceCtorEq, Int.reduceAdd, Int.reduceMul, Int.reduceSub, o_c141, ↓B_X12_autumnOrder_34 Z, ↓b1], y1⟩
set_option maxHeartbeats 8000000 in
theorem ord_free (Z : mX) {s0 : mS} {b : Int → Int} {n : Int} (hT : TB0 b n) {G0 H G O : Int → Int} {m cnt dep : Int} {T : mT} (hk : TT b n T) (hW : WF G0) (hC : CS s0 7 G0 H) (hL : ∀ j, j < 1888 → G j = G0 j) (m0 : 0 ≤ m) (m1 : m < 60) (c0 : 0 ≤ cnt) (c1 : cnt ≤ 30) (g2 : G (1992 + 6 * m + 2) = 0) (g4 : G (1992 + 6 * m + 4) = 0) (g5 : G (1992 + 6 * m + 5) = 0) (g0 : G (1992 + 6 * m) = 17) : Ord (fun s f => mm_kI (mm_run (zP Z) 10 [.inr (.inr (some 53)), .inl 17] (mk s)) f) Z s0 b n G0 H T G O m cnt dep 17 := by
  obtain ⟨T1, p1, hk1, N0, M0⟩ := nxt Z hT hk
  obtain ⟨T2, p2, hk2, N1, M1⟩ := nxt Z hT hk1
  have q0 := tk_o hk
  have q1 := tk_o hk1
  have q2 := tk_o hk2
  have wG := wf0 hW
  by_cases qk0 : tK T = 3
  · by_cases qp0 : nmP H (G0 3) T = -1
    · refine Or.inl ⟨3, tF T, by omega, fun s h => ?_, fun t0 t h => ?_⟩
      · obtain ⟨s1, a1, x1⟩ := cu_pup_3 hC hW h qk0 qp0 (Z := Z)
        exact ⟨_, fun f => by
          show mm_kI (mm_run (zP Z) 10 [.inr (.inr (some 53)), .inl 17] (mk s)) f = _
          rw [B_X1_readPlain]
          simp (disch := first | with_reducible assumption | omega) only [↓sm, ↓reduceIte, ↓if_pos, ↓if_neg, kI, kJ, kR, kV, w32_eq, w64_eq, reduceCtorEq, Int.reduceAdd, Int.reduceMul, Int.reduceSub, o_c53, ↓o_g53_0, ↓o_g53_1, ↓o_g53_2, o_c5, o_c54, o_c7, ↓B_X1_readPlain_6 Z, ↓B_X1_readPlain_26 Z, ↓B_X1_readPlain_30 Z, ↓B_X1_readPlain_39 Z, ↓B_X1_readPlain_48 Z, ↓B_X1_readPlain_57 Z, ↓a1], x1⟩
      · obtain ⟨t1, b1, y1⟩ := ru_pup_3 Z hT hk hW h hL (to := 1992 + 6 * m + 1) (by omega) (by omega) qk0 qp0
        exact ⟨_, fun f => by
          rw [B_X12_autumnOrder]
          simp (disch := first | with_reducible assumption | omega) only [↓sm, ↓reduceIte, ↓if_pos, ↓if_neg, kI, kJ, kR, kV, w32_eq, w64_eq, reduceCtorEq, Int.reduceAdd, Int.reduceMul, Int.reduceSub, o_c141, ↓B_X12_autumnOrder_34 Z, ↓b1], y1⟩
    · have qn0 := nmP_r hW T qp0
      by_cases qk1 : tK T1 = 3
      · by_cases qp1 : nmP H (G0 3) T1 = -1
        · refine Or.inl ⟨3, tF T1, by omega, fun s h => ?_, fun t0 t h => ?_⟩
          · obtain ⟨s1, a1, x1, z1⟩ := cu_pup hC hW N0 h qk0 qp0
            obtain ⟨s2, a2, x2⟩ := cu_pup_3 hC hW x1 qk1 qp1 (Z := Z)
            exact ⟨_, fun f => by
              show mm_kI (mm_run (zP Z) 10 [.inr (.inr (some 53)), .inl 17] (mk s)) f = _
              rw [B_X1_readPlain]
              simp (disch := first | with_reducible assumption | omega) only [↓sm, ↓reduceIte, ↓if_pos, ↓if_neg, kI, kJ, kR, kV, w32_eq, w64_eq, reduceCtorEq, Int.reduceAdd, Int.reduceMul, Int.reduceSub, o_c53, ↓o_g53_0, ↓o_g53_1, ↓o_g53_2, o_c5, o_c54, o_c7, ↓B_X1_readPlain_6 Z, ↓B_X1_readPlain_26 Z, ↓B_X1_readPlain_30 Z, ↓B_X1_readPlain_39 Z, ↓B_X1_readPlain_48 Z, ↓B_X1_readPlain_57 Z, ↓a1, ↓rI53_5 z1, ↓a2], x2⟩
          · obtain ⟨t1, b1, y1⟩ := ru_pup hT hk hW M0 h hL (to := 1992 + 6 * m + 1) (by omega) (by omega) qk0 qp0
            obtain ⟨t2, b2, y2⟩ := ru_pup_3 Z hT hk1 hW y1 (lo1 hL (by omega) _) (to := 1992 + 6 * m + 2) (by omega) (by omega) qk1 qp1
            exact ⟨_, fun f => by
              rw [B_X12_autumnOrder]
              simp (disch := first | with_reducible assumption | omega) only [↓sm, ↓reduceIte, ↓if_pos, ↓if_neg, kI, kJ, kR, kV, w32_eq, w64_eq, reduceCtorEq, Int.reduceAdd, Int.reduceMul, Int.reduceSub, o_c141, ↓B_X12_autumnOrder_34 Z, ↓b1, ↓b2], y2⟩
        · have qn1 := nmP_r hW T1 qp1
          have r0 : (mm_upd (mm_upd G (1992 + 6 * m + 1) (nmP H (G0 3) T)) (1992 + 6 * m + 2) (nmP H (G0 3) T1)) (1992 + 6 * m) = 17 := by
            try unfold mm_upd
            repeat first | rw [if_pos (by omega)] | rw [if_neg (by omega)]
            try assumption
          have r1 : (mm_upd (mm_upd G (1992 + 6 * m + 1) (nmP H (G0 3) T)) (1992 + 6 * m + 2) (nmP H (G0 3) T1)) (1992 + 6 * m + 1) = nmP H (G0 3) T := by
            try unfold mm_upd
            repeat first | rw [if_pos (by omega)] | rw [if_neg (by omega)]
            try assumption
          have r2 : (mm_upd (mm_upd G (1992 + 6 * m + 1) (nmP H (G0 3) T)) (1992 + 6 * m + 2) (nmP H (G0 3) T1)) (1992 + 6 * m + 2) = nmP H (G0 3) T1 := by
            try unfold mm_upd
            repeat first | rw [if_pos (by omega)] | rw [if_neg (by omega)]
            try assumption
          have r4 : (mm_upd (mm_upd G (1992 + 6 * m + 1) (nmP H (G0 3) T)) (1992 + 6 * m + 2) (nmP H (G0 3) T1)) (1992 + 6 * m + 4) = 0 := by
            try unfold mm_upd
            repeat first | rw [if_pos (by omega)] | rw [if_neg (by omega)]
            try assumption
          have r5 : (mm_upd (mm_upd G (1992 + 6 * m + 1) (nmP H (G0 3) T)) (1992 + 6 * m + 2) (nmP H (G0 3) T1)) (1992 + 6 * m + 5) = 0 := by
            try unfold mm_upd
            repeat first | rw [if_pos (by omega)] | rw [if_neg (by omega)]
            try assumption
          have re : ∀ j, j < 1992 + 6 * m → (mm_upd (mm_upd G (1992 + 6 * m + 1) (nmP H (G0 3) T)) (1992 + 6 * m + 2) (nmP H (G0 3) T1)) j = G j := fun j hj => by
            try unfold mm_upd
            repeat rw [if_neg (by omega)]
            try rfl
          refine Or.inr ⟨T2, mm_upd (mm_upd G (1992 + 6 * m + 1) (nmP H (G0 3) T)) (1992 + 6 * m + 2) (nmP H (G0 3) T1), by omega, hk2, re, PR1_row m0 r0 r1 r2 (by unfold PRx; omega), r4, fun _ => r0, fun y => absurd y (by omega), fun s h => ?_, fun t0 t h => ?_⟩
          · obtain ⟨s1, a1, x1, z1⟩ := cu_pup hC hW N0 h qk0 qp0
            obtain ⟨s2, a2, x2, z2⟩ := cu_pup hC hW N1 x1 qk1 qp1
            obtain ⟨s3, a3, x3⟩ := cu_row x2 m0 m1 c0 c1 re (v1 := 17) (v2 := nmP H (G0 3) T) (v3 := nmP H (G0 3) T1) (v4 := 0) r0 r1 (by decide) (fun _ => r2) (fun y => by omega) (by omega) Z
            exact ⟨_, fun f => by
              show mm_kI (mm_run (zP Z) 10 [.inr (.inr (some 53)), .inl 17] (mk s)) f = _
              rw [B_X1_readPlain]
              simp (disch := first | with_reducible assumption | omega) only [↓sm, ↓reduceIte, ↓if_pos, ↓if_neg, kI, kJ, kR, kV, w32_eq, w64_eq, reduceCtorEq, Int.reduceAdd, Int.reduceMul, Int.reduceSub, o_c53, ↓o_g53_0, ↓o_g53_1, ↓o_g53_2, o_c5, o_c54, o_c7, ↓B_X1_readPlain_6 Z, ↓B_X1_readPlain_26 Z, ↓B_X1_readPlain_30 Z, ↓B_X1_readPlain_39 Z, ↓B_X1_readPlain_48 Z, ↓B_X1_readPlain_57 Z, ↓a1, ↓rI53_5 z1, ↓a2, ↓rI53_5 z2, ↓a3], x3⟩
          · obtain ⟨t1, b1, y1⟩ := ru_pup hT hk hW M0 h hL (to := 1992 + 6 * m + 1) (by omega) (by omega) qk0 qp0
            obtain ⟨t2, b2, y2⟩ := ru_pup hT hk1 hW M1 y1 (lo1 hL (by omega) _) (to := 1992 + 6 * m + 2) (by omega) (by omega) qk1 qp1
            exact ⟨_, fun f => by
              rw [B_X12_autumnOrder]
              simp (disch := first | with_reducible assumption | omega) only [↓sm, ↓reduceIte, ↓if_pos, ↓if_neg, kI, kJ, kR, kV, w32_eq, w64_eq, reduceCtorEq, Int.reduceAdd, Int.reduceMul, Int.reduceSub, o_c141, ↓B_X12_autumnOrder_34 Z, ↓b1, ↓b2], y2⟩
      · refine Or.inl ⟨fkd T1, tF T1, fkd_1 _, fun s h => ?_, fun t0 t h => ?_⟩
        · obtain ⟨s1, a1, x1, z1⟩ := cu_pup hC hW N0 h qk0 qp0
          obtain ⟨s2, a2, x2⟩ := cu_pup_2 Z x1 qk1
          exact ⟨_, fun f => by
            show mm_kI (mm_run (zP Z) 10 [.inr (.inr (some 53)), .inl 17] (mk s)) f = _
            rw [B_X1_readPlain]
            simp (disch := first | with_reducible assumption | omega) only [↓sm, ↓reduceIte, ↓if_pos, ↓if_neg, kI, kJ, kR, kV, w32_eq, w64_eq, reduceCtorEq, Int.reduceAdd, Int.reduceMul, Int.reduceSub, o_c53, ↓o_g53_0, ↓o_g53_1, ↓o_g53_2, o_c5, o_c54, o_c7, ↓B_X1_readPlain_6 Z, ↓B_X1_readPlain_26 Z, ↓B_X1_readPlain_30 Z, ↓B_X1_readPlain_39 Z, ↓B_X1_readPlain_48 Z, ↓B_X1_readPlain_57 Z, ↓a1, ↓rI53_5 z1, ↓a2], x2⟩
        · obtain ⟨t1, b1, y1⟩ := ru_pup hT hk hW M0 h hL (to := 1992 + 6 * m + 1) (by omega) (by omega) qk0 qp0
          obtain ⟨t2, b2, y2⟩ := ru_pup_2 Z hT hk1 y1 (lo1 hL (by omega) _) (to := 1992 + 6 * m + 2) qk1
          exact ⟨_, fun f => by
            rw [B_X12_autumnOrder]
            simp (disch := first | with_reducible assumption | omega) only [↓sm, ↓reduceIte, ↓if_pos, ↓if_neg, kI, kJ, kR, kV, w32_eq, w64_eq, reduceCtorEq, Int.reduceAdd, Int.reduceMul, Int.reduceSub, o_c141, ↓B_X12_autumnOrder_34 Z, ↓b1, ↓b2], y2⟩
  · refine Or.inl ⟨fkd T, tF T, fkd_1 _, fun s h => ?_, fun t0 t h => ?_⟩
    · obtain ⟨s1, a1, x1⟩ := cu_pup_2 Z h qk0
      exact ⟨_, fun f => by
        show mm_kI (mm_run (zP Z) 10 [.inr (.inr (some 53)), .inl 17] (mk s)) f = _
        rw [B_X1_readPlain]
        simp (disch := first | with_reducible assumption | omega) only [↓sm, ↓reduceIte, ↓if_pos, ↓if_neg, kI, kJ, kR, kV, w32_eq, w64_eq, reduceCtorEq, Int.reduceAdd, Int.reduceMul, Int.reduceSub, o_c53, ↓o_g53_0, ↓o_g53_1, ↓o_g53_2, o_c5, o_c54, o_c7, ↓B_X1_readPlain_6 Z, ↓B_X1_readPlain_26 Z, ↓B_X1_readPlain_30 Z, ↓B_X1_readPlain_39 Z, ↓B_X1_readPlain_48 Z, ↓B_X1_readPlain_57 Z, ↓a1], x1⟩
    · obtain ⟨t1, b1, y1⟩ := ru_pup_2 Z hT hk h hL (to := 1992 + 6 * m + 1) qk0
      exact ⟨_, fun f => by
        rw [B_X12_autumnOrder]
        simp (disch := first | with_reducible assumption | omega) only [↓sm, ↓reduceIte, ↓if_pos, ↓if_neg, kI, kJ, kR, kV, w32_eq, w64_eq, reduceCtorEq, Int.reduceAdd, Int.reduceMul, Int.reduceSub, o_c141, ↓B_X12_autumnOrder_34 Z, ↓b1], y1⟩
set_option maxHeartbeats 8000000 in
theorem ord_tear (Z : mX) {s0 : mS} {b : Int → Int} {n : Int} (hT : TB0 b n) {G0 H G O : Int → Int} {m cnt dep : Int} {T : mT} (hk : TT b n T) (hW : WF G0) (hC : CS s0 7 G0 H) (hL : ∀ j, j < 1888 → G j = G0 j) (m0 : 0 ≤ m) (m1 : m < 60) (c0 : 0 ≤ cnt) (c1 : cnt ≤ 30) (g2 : G (1992 + 6 * m + 2) = 0) (g4 : G (1992 + 6 * m + 4) = 0) (g5 : G (1992 + 6 * m + 5) = 0) (g0 : G (1992 + 6 * m) = 18) : Ord (fun s f => mm_kI (mm_run (zP Z) 10 [.inr (.inr (some 53)), .inl 18] (mk s)) f) Z s0 b n G0 H T G O m cnt dep 18 := by
  obtain ⟨T1, p1, hk1, N0, M0⟩ := nxt Z hT hk
  have q0 := tk_o hk
  have q1 := tk_o hk1
  have wG := wf0 hW
  by_cases qk0 : tK T = 3
  · by_cases qp0 : nmP H (G0 3) T = -1
    · refine Or.inl ⟨3, tF T, by omega, fun s h => ?_, fun t0 t h => ?_⟩
      · obtain ⟨s1, a1, x1⟩ := cu_pup_3 hC hW h qk0 qp0 (Z := Z)
        exact ⟨_, fun f => by
          show mm_kI (mm_run (zP Z) 10 [.inr (.inr (some 53)), .inl 18] (mk s)) f = _
          rw [B_X1_readPlain]
          simp (disch := first | with_reducible assumption | omega) only [↓sm, ↓reduceIte, ↓if_pos, ↓if_neg, kI, kJ, kR, kV, w32_eq, w64_eq, reduceCtorEq, Int.reduceAdd, Int.reduceMul, Int.reduceSub, o_c53, ↓o_g53_0, ↓o_g53_1, ↓o_g53_2, o_c5, o_c54, o_c7, ↓B_X1_readPlain_6 Z, ↓B_X1_readPlain_26 Z, ↓B_X1_readPlain_30 Z, ↓B_X1_readPlain_39 Z, ↓B_X1_readPlain_48 Z, ↓B_X1_readPlain_57 Z, ↓a1], x1⟩
      · obtain ⟨t1, b1, y1⟩ := ru_pup_3 Z hT hk hW h hL (to := 1992 + 6 * m + 1) (by omega) (by omega) qk0 qp0
        exact ⟨_, fun f => by
          rw [B_X12_autumnOrder]
          simp (disch := first | with_reducible assumption | omega) only [↓sm, ↓reduceIte, ↓if_pos, ↓if_neg, kI, kJ, kR, kV, w32_eq, w64_eq, reduceCtorEq, Int.reduceAdd, Int.reduceMul, Int.reduceSub, o_c141, ↓B_X12_autumnOrder_34 Z, ↓b1], y1⟩
    · have qn0 := nmP_r hW T qp0
      have r0 : (mm_upd G (1992 + 6 * m + 1) (nmP H (G0 3) T)) (1992 + 6 * m) = 18 := by
        try unfold mm_upd
        repeat first | rw [if_pos (by omega)] | rw [if_neg (by omega)]
        try assumption
      have r1 : (mm_upd G (1992 + 6 * m + 1) (nmP H (G0 3) T)) (1992 + 6 * m + 1) = nmP H (G0 3) T := by
        try unfold mm_upd
        repeat first | rw [if_pos (by omega)] | rw [if_neg (by omega)]
        try assumption
      have r2 : (mm_upd G (1992 + 6 * m + 1) (nmP H (G0 3) T)) (1992 + 6 * m + 2) = 0 := by
        try unfold mm_upd
        repeat first | rw [if_pos (by omega)] | rw [if_neg (by omega)]
        try assumption
      have r4 : (mm_upd G (1992 + 6 * m + 1) (nmP H (G0 3) T)) (1992 + 6 * m + 4) = 0 := by
        try unfold mm_upd
        repeat first | rw [if_pos (by omega)] | rw [if_neg (by omega)]
        try assumption
      have r5 : (mm_upd G (1992 + 6 * m + 1) (nmP H (G0 3) T)) (1992 + 6 * m + 5) = 0 := by
        try unfold mm_upd
        repeat first | rw [if_pos (by omega)] | rw [if_neg (by omega)]
        try assumption
      have re : ∀ j, j < 1992 + 6 * m → (mm_upd G (1992 + 6 * m + 1) (nmP H (G0 3) T)) j = G j := fun j hj => by
        try unfold mm_upd
        repeat rw [if_neg (by omega)]
        try rfl
      refine Or.inr ⟨T1, mm_upd G (1992 + 6 * m + 1) (nmP H (G0 3) T), by omega, hk1, re, PR1_row m0 r0 r1 r2 (by unfold PRx; omega), r4, fun _ => r0, fun y => absurd y (by omega), fun s h => ?_, fun t0 t h => ?_⟩
      · obtain ⟨s1, a1, x1, z1⟩ := cu_pup hC hW N0 h qk0 qp0
        obtain ⟨s2, a2, x2⟩ := cu_row x1 m0 m1 c0 c1 re (v1 := 18) (v2 := nmP H (G0 3) T) (v3 := 0) (v4 := 0) r0 r1 (by decide) (fun _ => by omega) (fun y => by omega) (by omega) Z
        exact ⟨_, fun f => by
          show mm_kI (mm_run (zP Z) 10 [.inr (.inr (some 53)), .inl 18] (mk s)) f = _
          rw [B_X1_readPlain]
          simp (disch := first | with_reducible assumption | omega) only [↓sm, ↓reduceIte, ↓if_pos, ↓if_neg, kI, kJ, kR, kV, w32_eq, w64_eq, reduceCtorEq, Int.reduceAdd, Int.reduceMul, Int.reduceSub, o_c53, ↓o_g53_0, ↓o_g53_1, ↓o_g53_2, o_c5, o_c54, o_c7, ↓B_X1_readPlain_6 Z, ↓B_X1_readPlain_26 Z, ↓B_X1_readPlain_30 Z, ↓B_X1_readPlain_39 Z, ↓B_X1_readPlain_48 Z, ↓B_X1_readPlain_57 Z, ↓a1, ↓rI53_5 z1, ↓a2], x2⟩
      · obtain ⟨t1, b1, y1⟩ := ru_pup hT hk hW M0 h hL (to := 1992 + 6 * m + 1) (by omega) (by omega) qk0 qp0
        exact ⟨_, fun f => by
          rw [B_X12_autumnOrder]
          simp (disch := first | with_reducible assumption | omega) only [↓sm, ↓reduceIte, ↓if_pos, ↓if_neg, kI, kJ, kR, kV, w32_eq, w64_eq, reduceCtorEq, Int.reduceAdd, Int.reduceMul, Int.reduceSub, o_c141, ↓B_X12_autumnOrder_34 Z, ↓b1], y1⟩
  · refine Or.inl ⟨fkd T, tF T, fkd_1 _, fun s h => ?_, fun t0 t h => ?_⟩
    · obtain ⟨s1, a1, x1⟩ := cu_pup_2 Z h qk0
      exact ⟨_, fun f => by
        show mm_kI (mm_run (zP Z) 10 [.inr (.inr (some 53)), .inl 18] (mk s)) f = _
        rw [B_X1_readPlain]
        simp (disch := first | with_reducible assumption | omega) only [↓sm, ↓reduceIte, ↓if_pos, ↓if_neg, kI, kJ, kR, kV, w32_eq, w64_eq, reduceCtorEq, Int.reduceAdd, Int.reduceMul, Int.reduceSub, o_c53, ↓o_g53_0, ↓o_g53_1, ↓o_g53_2, o_c5, o_c54, o_c7, ↓B_X1_readPlain_6 Z, ↓B_X1_readPlain_26 Z, ↓B_X1_readPlain_30 Z, ↓B_X1_readPlain_39 Z, ↓B_X1_readPlain_48 Z, ↓B_X1_readPlain_57 Z, ↓a1], x1⟩
    · obtain ⟨t1, b1, y1⟩ := ru_pup_2 Z hT hk h hL (to := 1992 + 6 * m + 1) qk0
      exact ⟨_, fun f => by
        rw [B_X12_autumnOrder]
        simp (disch := first | with_reducible assumption | omega) only [↓sm, ↓reduceIte, ↓if_pos, ↓if_neg, kI, kJ, kR, kV, w32_eq, w64_eq, reduceCtorEq, Int.reduceAdd, Int.reduceMul, Int.reduceSub, o_c141, ↓B_X12_autumnOrder_34 Z, ↓b1], y1⟩
set_option maxHeartbeats 8000000 in
theorem ord_pick (Z : mX) {s0 : mS} {b : Int → Int} {n : Int} (hT : TB0 b n) {G0 H G O : Int → Int} {m cnt dep : Int} {T : mT} (hk : TT b n T) (hW : WF G0) (hC : CS s0 7 G0 H) (hL : ∀ j, j < 1888 → G j = G0 j) (m0 : 0 ≤ m) (m1 : m < 60) (c0 : 0 ≤ cnt) (c1 : cnt ≤ 30) (g2 : G (1992 + 6 * m + 2) = 0) (g4 : G (1992 + 6 * m + 4) = 0) (g5 : G (1992 + 6 * m + 5) = 0) (g0 : G (1992 + 6 * m) = 19) : Ord (fun s f => mm_kI (mm_run (zP Z) 10 [.inr (.inr (some 53)), .inl 19] (mk s)) f) Z s0 b n G0 H T G O m cnt dep 19 := by
  obtain ⟨T1, p1, hk1, N0, M0⟩ := nxt Z hT hk
  have q0 := tk_o hk
  have q1 := tk_o hk1
  have wG := wf0 hW
  by_cases qk0 : tK T = 3
  · by_cases qp0 : nmP H (G0 3) T = -1
    · refine Or.inl ⟨3, tF T, by omega, fun s h => ?_, fun t0 t h => ?_⟩
      · obtain ⟨s1, a1, x1⟩ := cu_pup_3 hC hW h qk0 qp0 (Z := Z)
        exact ⟨_, fun f => by
          show mm_kI (mm_run (zP Z) 10 [.inr (.inr (some 53)), .inl 19] (mk s)) f = _
          rw [B_X1_readPlain]
          simp (disch := first | with_reducible assumption | omega) only [↓sm, ↓reduceIte, ↓if_pos, ↓if_neg, kI, kJ, kR, kV, w32_eq, w64_eq, reduceCtorEq, Int.reduceAdd, Int.reduceMul, Int.reduceSub, o_c53, ↓o_g53_0, ↓o_g53_1, ↓o_g53_2, o_c5, o_c54, o_c7, ↓B_X1_readPlain_6 Z, ↓B_X1_readPlain_26 Z, ↓B_X1_readPlain_30 Z, ↓B_X1_readPlain_39 Z, ↓B_X1_readPlain_48 Z, ↓B_X1_readPlain_57 Z, ↓a1], x1⟩
      · obtain ⟨t1, b1, y1⟩ := ru_pup_3 Z hT hk hW h hL (to := 1992 + 6 * m + 1) (by omega) (by omega) qk0 qp0
        exact ⟨_, fun f => by
          rw [B_X12_autumnOrder]
          simp (disch := first | with_reducible assumption | omega) only [↓sm, ↓reduceIte, ↓if_pos, ↓if_neg, kI, kJ, kR, kV, w32_eq, w64_eq, reduceCtorEq, Int.reduceAdd, Int.reduceMul, Int.reduceSub, o_c141, ↓B_X12_autumnOrder_34 Z, ↓b1], y1⟩
    · have qn0 := nmP_r hW T qp0
      have r0 : (mm_upd G (1992 + 6 * m + 1) (nmP H (G0 3) T)) (1992 + 6 * m) = 19 := by
        try unfold mm_upd
        repeat first | rw [if_pos (by omega)] | rw [if_neg (by omega)]
        try assumption
      have r1 : (mm_upd G (1992 + 6 * m + 1) (nmP H (G0 3) T)) (1992 + 6 * m + 1) = nmP H (G0 3) T := by
        try unfold mm_upd
        repeat first | rw [if_pos (by omega)] | rw [if_neg (by omega)]
        try assumption
      have r2 : (mm_upd G (1992 + 6 * m + 1) (nmP H (G0 3) T)) (1992 + 6 * m + 2) = 0 := by
        try unfold mm_upd
        repeat first | rw [if_pos (by omega)] | rw [if_neg (by omega)]
        try assumption
      have r4 : (mm_upd G (1992 + 6 * m + 1) (nmP H (G0 3) T)) (1992 + 6 * m + 4) = 0 := by
        try unfold mm_upd
        repeat first | rw [if_pos (by omega)] | rw [if_neg (by omega)]
        try assumption
      have r5 : (mm_upd G (1992 + 6 * m + 1) (nmP H (G0 3) T)) (1992 + 6 * m + 5) = 0 := by
        try unfold mm_upd
        repeat first | rw [if_pos (by omega)] | rw [if_neg (by omega)]
        try assumption
      have re : ∀ j, j < 1992 + 6 * m → (mm_upd G (1992 + 6 * m + 1) (nmP H (G0 3) T)) j = G j := fun j hj => by
        try unfold mm_upd
        repeat rw [if_neg (by omega)]
        try rfl
      refine Or.inr ⟨T1, mm_upd G (1992 + 6 * m + 1) (nmP H (G0 3) T), by omega, hk1, re, PR1_row m0 r0 r1 r2 (by unfold PRx; omega), r4, fun _ => r0, fun y => absurd y (by omega), fun s h => ?_, fun t0 t h => ?_⟩
      · obtain ⟨s1, a1, x1, z1⟩ := cu_pup hC hW N0 h qk0 qp0
        obtain ⟨s2, a2, x2⟩ := cu_row x1 m0 m1 c0 c1 re (v1 := 19) (v2 := nmP H (G0 3) T) (v3 := 0) (v4 := 0) r0 r1 (by decide) (fun _ => by omega) (fun y => by omega) (by omega) Z
        exact ⟨_, fun f => by
          show mm_kI (mm_run (zP Z) 10 [.inr (.inr (some 53)), .inl 19] (mk s)) f = _
          rw [B_X1_readPlain]
          simp (disch := first | with_reducible assumption | omega) only [↓sm, ↓reduceIte, ↓if_pos, ↓if_neg, kI, kJ, kR, kV, w32_eq, w64_eq, reduceCtorEq, Int.reduceAdd, Int.reduceMul, Int.reduceSub, o_c53, ↓o_g53_0, ↓o_g53_1, ↓o_g53_2, o_c5, o_c54, o_c7, ↓B_X1_readPlain_6 Z, ↓B_X1_readPlain_26 Z, ↓B_X1_readPlain_30 Z, ↓B_X1_readPlain_39 Z, ↓B_X1_readPlain_48 Z, ↓B_X1_readPlain_57 Z, ↓a1, ↓rI53_5 z1, ↓a2], x2⟩
      · obtain ⟨t1, b1, y1⟩ := ru_pup hT hk hW M0 h hL (to := 1992 + 6 * m + 1) (by omega) (by omega) qk0 qp0
        exact ⟨_, fun f => by
          rw [B_X12_autumnOrder]
          simp (disch := first | with_reducible assumption | omega) only [↓sm, ↓reduceIte, ↓if_pos, ↓if_neg, kI, kJ, kR, kV, w32_eq, w64_eq, reduceCtorEq, Int.reduceAdd, Int.reduceMul, Int.reduceSub, o_c141, ↓B_X12_autumnOrder_34 Z, ↓b1], y1⟩
  · refine Or.inl ⟨fkd T, tF T, fkd_1 _, fun s h => ?_, fun t0 t h => ?_⟩
    · obtain ⟨s1, a1, x1⟩ := cu_pup_2 Z h qk0
      exact ⟨_, fun f => by
        show mm_kI (mm_run (zP Z) 10 [.inr (.inr (some 53)), .inl 19] (mk s)) f = _
        rw [B_X1_readPlain]
        simp (disch := first | with_reducible assumption | omega) only [↓sm, ↓reduceIte, ↓if_pos, ↓if_neg, kI, kJ, kR, kV, w32_eq, w64_eq, reduceCtorEq, Int.reduceAdd, Int.reduceMul, Int.reduceSub, o_c53, ↓o_g53_0, ↓o_g53_1, ↓o_g53_2, o_c5, o_c54, o_c7, ↓B_X1_readPlain_6 Z, ↓B_X1_readPlain_26 Z, ↓B_X1_readPlain_30 Z, ↓B_X1_readPlain_39 Z, ↓B_X1_readPlain_48 Z, ↓B_X1_readPlain_57 Z, ↓a1], x1⟩
    · obtain ⟨t1, b1, y1⟩ := ru_pup_2 Z hT hk h hL (to := 1992 + 6 * m + 1) qk0
      exact ⟨_, fun f => by
        rw [B_X12_autumnOrder]
        simp (disch := first | with_reducible assumption | omega) only [↓sm, ↓reduceIte, ↓if_pos, ↓if_neg, kI, kJ, kR, kV, w32_eq, w64_eq, reduceCtorEq, Int.reduceAdd, Int.reduceMul, Int.reduceSub, o_c141, ↓B_X12_autumnOrder_34 Z, ↓b1], y1⟩
set_option maxHeartbeats 8000000 in
theorem ord_year (Z : mX) {s0 : mS} {b : Int → Int} {n : Int} (hT : TB0 b n) {G0 H G O : Int → Int} {m cnt dep : Int} {T : mT} (hk : TT b n T) (hW : WF G0) (hC : CS s0 7 G0 H) (hL : ∀ j, j < 1888 → G j = G0 j) (m0 : 0 ≤ m) (m1 : m < 60) (c0 : 0 ≤ cnt) (c1 : cnt ≤ 30) (g2 : G (1992 + 6 * m + 2) = 0) (g4 : G (1992 + 6 * m + 4) = 0) (g5 : G (1992 + 6 * m + 5) = 0) (g0 : G (1992 + 6 * m) = 20) : Ord (fun s f => mm_kI (mm_run (zP Z) 10 [.inr (.inr (some 53)), .inl 20] (mk s)) f) Z s0 b n G0 H T G O m cnt dep 20 := by
  obtain ⟨T1, p1, hk1, N0, M0⟩ := nxt Z hT hk
  have q0 := tk_o hk
  have q1 := tk_o hk1
  have wG := wf0 hW
  by_cases qm0 : tK T = 5 ∧ 1 ≤ tV T ∧ tV T ≤ 20
  · have r0 : (mm_upd G (1992 + 6 * m + 1) (tV T)) (1992 + 6 * m) = 20 := by
      try unfold mm_upd
      repeat first | rw [if_pos (by omega)] | rw [if_neg (by omega)]
      try assumption
    have r1 : (mm_upd G (1992 + 6 * m + 1) (tV T)) (1992 + 6 * m + 1) = tV T := by
      try unfold mm_upd
      repeat first | rw [if_pos (by omega)] | rw [if_neg (by omega)]
      try assumption
    have r2 : (mm_upd G (1992 + 6 * m + 1) (tV T)) (1992 + 6 * m + 2) = 0 := by
      try unfold mm_upd
      repeat first | rw [if_pos (by omega)] | rw [if_neg (by omega)]
      try assumption
    have r4 : (mm_upd G (1992 + 6 * m + 1) (tV T)) (1992 + 6 * m + 4) = 0 := by
      try unfold mm_upd
      repeat first | rw [if_pos (by omega)] | rw [if_neg (by omega)]
      try assumption
    have r5 : (mm_upd G (1992 + 6 * m + 1) (tV T)) (1992 + 6 * m + 5) = 0 := by
      try unfold mm_upd
      repeat first | rw [if_pos (by omega)] | rw [if_neg (by omega)]
      try assumption
    have re : ∀ j, j < 1992 + 6 * m → (mm_upd G (1992 + 6 * m + 1) (tV T)) j = G j := fun j hj => by
      try unfold mm_upd
      repeat rw [if_neg (by omega)]
      try rfl
    refine Or.inr ⟨T1, mm_upd G (1992 + 6 * m + 1) (tV T), by omega, hk1, re, PR1_row m0 r0 r1 r2 (by unfold PRx; omega), r4, fun _ => r0, fun y => absurd y (by omega), fun s h => ?_, fun t0 t h => ?_⟩
    · obtain ⟨s1, a1, x1, z1⟩ := cu_num N0 h (l := 1) (u := 20) qm0
      obtain ⟨s2, a2, x2⟩ := cu_row x1 m0 m1 c0 c1 re (v1 := 20) (v2 := tV T) (v3 := 0) (v4 := 0) r0 r1 (by decide) (fun _ => by omega) (fun y => by omega) (by omega) Z
      exact ⟨_, fun f => by
        show mm_kI (mm_run (zP Z) 10 [.inr (.inr (some 53)), .inl 20] (mk s)) f = _
        rw [B_X1_readPlain]
        simp (disch := first | with_reducible assumption | omega) only [↓sm, ↓reduceIte, ↓if_pos, ↓if_neg, kI, kJ, kR, kV, w32_eq, w64_eq, reduceCtorEq, Int.reduceAdd, Int.reduceMul, Int.reduceSub, o_c53, ↓o_g53_0, ↓o_g53_1, ↓o_g53_2, o_c5, o_c54, o_c7, ↓B_X1_readPlain_6 Z, ↓B_X1_readPlain_26 Z, ↓B_X1_readPlain_30 Z, ↓B_X1_readPlain_39 Z, ↓B_X1_readPlain_48 Z, ↓B_X1_readPlain_57 Z, ↓a1, ↓rI5_8 z1, ↓a2], x2⟩
    · obtain ⟨t1, b1, y1⟩ := ru_num hk M0 h (to := 1992 + 6 * m + 1) (by omega) (by omega) (l := 1) (u := 20) qm0
      exact ⟨_, fun f => by
        rw [B_X12_autumnOrder]
        simp (disch := first | with_reducible assumption | omega) only [↓sm, ↓reduceIte, ↓if_pos, ↓if_neg, kI, kJ, kR, kV, w32_eq, w64_eq, reduceCtorEq, Int.reduceAdd, Int.reduceMul, Int.reduceSub, o_c141, ↓B_X12_autumnOrder_34 Z, ↓b1], y1⟩
  · refine Or.inl ⟨nkd T, tF T, nkd_1 _, fun s h => ?_, fun t0 t h => ?_⟩
    · obtain ⟨s1, a1, x1⟩ := cu_numf Z h (l := 1) (u := 20) qm0
      exact ⟨_, fun f => by
        show mm_kI (mm_run (zP Z) 10 [.inr (.inr (some 53)), .inl 20] (mk s)) f = _
        rw [B_X1_readPlain]
        simp (disch := first | with_reducible assumption | omega) only [↓sm, ↓reduceIte, ↓if_pos, ↓if_neg, kI, kJ, kR, kV, w32_eq, w64_eq, reduceCtorEq, Int.reduceAdd, Int.reduceMul, Int.reduceSub, o_c53, ↓o_g53_0, ↓o_g53_1, ↓o_g53_2, o_c5, o_c54, o_c7, ↓B_X1_readPlain_6 Z, ↓B_X1_readPlain_26 Z, ↓B_X1_readPlain_30 Z, ↓B_X1_readPlain_39 Z, ↓B_X1_readPlain_48 Z, ↓B_X1_readPlain_57 Z, ↓a1], x1⟩
    · obtain ⟨t1, b1, y1⟩ := ru_numf Z hk h hL (to := 1992 + 6 * m + 1) (l := 1) (u := 20) qm0
      exact ⟨_, fun f => by
        rw [B_X12_autumnOrder]
        simp (disch := first | with_reducible assumption | omega) only [↓sm, ↓reduceIte, ↓if_pos, ↓if_neg, kI, kJ, kR, kV, w32_eq, w64_eq, reduceCtorEq, Int.reduceAdd, Int.reduceMul, Int.reduceSub, o_c141, ↓B_X12_autumnOrder_34 Z, ↓b1], y1⟩
set_option maxHeartbeats 8000000 in
theorem ord_loop (Z : mX) {s0 : mS} {b : Int → Int} {n : Int} (hT : TB0 b n) {G0 H G O : Int → Int} {m cnt dep : Int} {T : mT} (hk : TT b n T) (hW : WF G0) (hC : CS s0 7 G0 H) (hL : ∀ j, j < 1888 → G j = G0 j) (m0 : 0 ≤ m) (m1 : m < 60) (c0 : 0 ≤ cnt) (c1 : cnt ≤ 30) (g2 : G (1992 + 6 * m + 2) = 0) (g4 : G (1992 + 6 * m + 4) = 0) (g5 : G (1992 + 6 * m + 5) = 0) (g0 : G (1992 + 6 * m) = 23) : Ord (fun s f => mm_kI (mm_run (zP Z) 10 [.inr (.inr (some 53)), .inl 24] (mk s)) f) Z s0 b n G0 H T G O m cnt dep 23 := by
  obtain ⟨T1, p1, hk1, N0, M0⟩ := nxt Z hT hk
  have q0 := tk_o hk
  have q1 := tk_o hk1
  have wG := wf0 hW
  by_cases qm0 : tK T = 5 ∧ 1 ≤ tV T ∧ tV T ≤ 99
  · have r0 : (mm_upd G (1992 + 6 * m + 1) (tV T)) (1992 + 6 * m) = 23 := by
      try unfold mm_upd
      repeat first | rw [if_pos (by omega)] | rw [if_neg (by omega)]
      try assumption
    have r1 : (mm_upd G (1992 + 6 * m + 1) (tV T)) (1992 + 6 * m + 1) = tV T := by
      try unfold mm_upd
      repeat first | rw [if_pos (by omega)] | rw [if_neg (by omega)]
      try assumption
    have r2 : (mm_upd G (1992 + 6 * m + 1) (tV T)) (1992 + 6 * m + 2) = 0 := by
      try unfold mm_upd
      repeat first | rw [if_pos (by omega)] | rw [if_neg (by omega)]
      try assumption
    have r4 : (mm_upd G (1992 + 6 * m + 1) (tV T)) (1992 + 6 * m + 4) = 0 := by
      try unfold mm_upd
      repeat first | rw [if_pos (by omega)] | rw [if_neg (by omega)]
      try assumption
    have r5 : (mm_upd G (1992 + 6 * m + 1) (tV T)) (1992 + 6 * m + 5) = 0 := by
      try unfold mm_upd
      repeat first | rw [if_pos (by omega)] | rw [if_neg (by omega)]
      try assumption
    have re : ∀ j, j < 1992 + 6 * m → (mm_upd G (1992 + 6 * m + 1) (tV T)) j = G j := fun j hj => by
      try unfold mm_upd
      repeat rw [if_neg (by omega)]
      try rfl
    refine Or.inr ⟨T1, mm_upd G (1992 + 6 * m + 1) (tV T), by omega, hk1, re, PR1_row m0 r0 r1 r2 (by unfold PRx; omega), r4, fun _ => r0, fun y => absurd y (by omega), fun s h => ?_, fun t0 t h => ?_⟩
    · obtain ⟨s1, a1, x1, z1⟩ := cu_num N0 h (l := 1) (u := 99) qm0
      obtain ⟨s2, a2, x2⟩ := cu_row x1 m0 m1 c0 c1 re (v1 := 24) (v2 := tV T) (v3 := 0) (v4 := 0) r0 r1 (by decide) (fun _ => by omega) (fun y => by omega) (by omega) Z
      exact ⟨_, fun f => by
        show mm_kI (mm_run (zP Z) 10 [.inr (.inr (some 53)), .inl 24] (mk s)) f = _
        rw [B_X1_readPlain]
        simp (disch := first | with_reducible assumption | omega) only [↓sm, ↓reduceIte, ↓if_pos, ↓if_neg, kI, kJ, kR, kV, w32_eq, w64_eq, reduceCtorEq, Int.reduceAdd, Int.reduceMul, Int.reduceSub, o_c53, ↓o_g53_0, ↓o_g53_1, ↓o_g53_2, o_c5, o_c54, o_c7, ↓B_X1_readPlain_6 Z, ↓B_X1_readPlain_26 Z, ↓B_X1_readPlain_30 Z, ↓B_X1_readPlain_39 Z, ↓B_X1_readPlain_48 Z, ↓B_X1_readPlain_57 Z, ↓a1, ↓rI5_8 z1, ↓a2], x2⟩
    · obtain ⟨t1, b1, y1⟩ := ru_num hk M0 h (to := 1992 + 6 * m + 1) (by omega) (by omega) (l := 1) (u := 99) qm0
      exact ⟨_, fun f => by
        rw [B_X12_autumnOrder]
        simp (disch := first | with_reducible assumption | omega) only [↓sm, ↓reduceIte, ↓if_pos, ↓if_neg, kI, kJ, kR, kV, w32_eq, w64_eq, reduceCtorEq, Int.reduceAdd, Int.reduceMul, Int.reduceSub, o_c141, ↓B_X12_autumnOrder_34 Z, ↓b1], y1⟩
  · refine Or.inl ⟨nkd T, tF T, nkd_1 _, fun s h => ?_, fun t0 t h => ?_⟩
    · obtain ⟨s1, a1, x1⟩ := cu_numf Z h (l := 1) (u := 99) qm0
      exact ⟨_, fun f => by
        show mm_kI (mm_run (zP Z) 10 [.inr (.inr (some 53)), .inl 24] (mk s)) f = _
        rw [B_X1_readPlain]
        simp (disch := first | with_reducible assumption | omega) only [↓sm, ↓reduceIte, ↓if_pos, ↓if_neg, kI, kJ, kR, kV, w32_eq, w64_eq, reduceCtorEq, Int.reduceAdd, Int.reduceMul, Int.reduceSub, o_c53, ↓o_g53_0, ↓o_g53_1, ↓o_g53_2, o_c5, o_c54, o_c7, ↓B_X1_readPlain_6 Z, ↓B_X1_readPlain_26 Z, ↓B_X1_readPlain_30 Z, ↓B_X1_readPlain_39 Z, ↓B_X1_readPlain_48 Z, ↓B_X1_readPlain_57 Z, ↓a1], x1⟩
    · obtain ⟨t1, b1, y1⟩ := ru_numf Z hk h hL (to := 1992 + 6 * m + 1) (l := 1) (u := 99) qm0
      exact ⟨_, fun f => by
        rw [B_X12_autumnOrder]
        simp (disch := first | with_reducible assumption | omega) only [↓sm, ↓reduceIte, ↓if_pos, ↓if_neg, kI, kJ, kR, kV, w32_eq, w64_eq, reduceCtorEq, Int.reduceAdd, Int.reduceMul, Int.reduceSub, o_c141, ↓B_X12_autumnOrder_34 Z, ↓b1], y1⟩
set_option maxHeartbeats 8000000 in
theorem ord_any (Z : mX) {s0 : mS} {b : Int → Int} {n : Int} (hT : TB0 b n) {G0 H G O : Int → Int} {m cnt dep : Int} {T : mT} (hk : TT b n T) (hW : WF G0) (hC : CS s0 7 G0 H) (hL : ∀ j, j < 1888 → G j = G0 j) (m0 : 0 ≤ m) (m1 : m < 60) (c0 : 0 ≤ cnt) (c1 : cnt ≤ 30) (g2 : G (1992 + 6 * m + 2) = 0) (g4 : G (1992 + 6 * m + 4) = 0) (g5 : G (1992 + 6 * m + 5) = 0) (g0 : G (1992 + 6 * m) = 21) (g1 : G (1992 + 6 * m + 1) = 0) : Ord (fun s f => mm_kI (mm_run (zP Z) 10 [.inr (.inr (some 53)), .inl 21] (mk s)) f) Z s0 b n G0 H T G O m cnt dep 21 := by
  have wG := wf0 hW
  have r0 : (G) (1992 + 6 * m) = 21 := by
    try unfold mm_upd
    repeat first | rw [if_pos (by omega)] | rw [if_neg (by omega)]
    try assumption
  have r1 : (G) (1992 + 6 * m + 1) = 0 := by
    try unfold mm_upd
    repeat first | rw [if_pos (by omega)] | rw [if_neg (by omega)]
    try assumption
  have r2 : (G) (1992 + 6 * m + 2) = 0 := by
    try unfold mm_upd
    repeat first | rw [if_pos (by omega)] | rw [if_neg (by omega)]
    try assumption
  have r4 : (G) (1992 + 6 * m + 4) = 0 := by
    try unfold mm_upd
    repeat first | rw [if_pos (by omega)] | rw [if_neg (by omega)]
    try assumption
  have r5 : (G) (1992 + 6 * m + 5) = 0 := by
    try unfold mm_upd
    repeat first | rw [if_pos (by omega)] | rw [if_neg (by omega)]
    try assumption
  have re : ∀ j, j < 1992 + 6 * m → (G) j = G j := fun j hj => by
    try unfold mm_upd
    repeat rw [if_neg (by omega)]
    try rfl
  refine Or.inr ⟨T, G, by omega, hk, re, PR1_row m0 r0 r1 r2 (by unfold PRx; omega), r4, fun _ => r0, fun y => absurd y (by omega), fun s h => ?_, fun t0 t h => ?_⟩
  · obtain ⟨s1, a1, x1⟩ := cu_row h m0 m1 c0 c1 re (v1 := 21) (v2 := 0) (v3 := 0) (v4 := 0) r0 r1 (by decide) (fun _ => by omega) (fun y => by omega) (by omega) Z
    exact ⟨_, fun f => by
      show mm_kI (mm_run (zP Z) 10 [.inr (.inr (some 53)), .inl 21] (mk s)) f = _
      rw [B_X1_readPlain]
      simp (disch := first | with_reducible assumption | omega) only [↓sm, ↓reduceIte, ↓if_pos, ↓if_neg, kI, kJ, kR, kV, w32_eq, w64_eq, reduceCtorEq, Int.reduceAdd, Int.reduceMul, Int.reduceSub, o_c53, ↓o_g53_0, ↓o_g53_1, ↓o_g53_2, o_c5, o_c54, o_c7, ↓B_X1_readPlain_6 Z, ↓B_X1_readPlain_26 Z, ↓B_X1_readPlain_30 Z, ↓B_X1_readPlain_39 Z, ↓B_X1_readPlain_48 Z, ↓B_X1_readPlain_57 Z, ↓a1], x1⟩
  · exact ⟨_, fun f => by
      rw [B_X12_autumnOrder]
      simp (disch := first | with_reducible assumption | omega) only [↓sm, ↓reduceIte, ↓if_pos, ↓if_neg, kI, kJ, kR, kV, w32_eq, w64_eq, reduceCtorEq, Int.reduceAdd, Int.reduceMul, Int.reduceSub, o_c141, ↓B_X12_autumnOrder_34 Z], h⟩
set_option maxHeartbeats 8000000 in
theorem ord_stop (Z : mX) {s0 : mS} {b : Int → Int} {n : Int} (hT : TB0 b n) {G0 H G O : Int → Int} {m cnt dep : Int} {T : mT} (hk : TT b n T) (hW : WF G0) (hC : CS s0 7 G0 H) (hL : ∀ j, j < 1888 → G j = G0 j) (m0 : 0 ≤ m) (m1 : m < 60) (c0 : 0 ≤ cnt) (c1 : cnt ≤ 30) (g2 : G (1992 + 6 * m + 2) = 0) (g4 : G (1992 + 6 * m + 4) = 0) (g5 : G (1992 + 6 * m + 5) = 0) (g0 : G (1992 + 6 * m) = 25) (g1 : G (1992 + 6 * m + 1) = 0) : Ord (fun s f => mm_kI (mm_run (zP Z) 10 [.inr (.inr (some 53)), .inl 26] (mk s)) f) Z s0 b n G0 H T G O m cnt dep 25 := by
  have wG := wf0 hW
  have r0 : (G) (1992 + 6 * m) = 25 := by
    try unfold mm_upd
    repeat first | rw [if_pos (by omega)] | rw [if_neg (by omega)]
    try assumption
  have r1 : (G) (1992 + 6 * m + 1) = 0 := by
    try unfold mm_upd
    repeat first | rw [if_pos (by omega)] | rw [if_neg (by omega)]
    try assumption
  have r2 : (G) (1992 + 6 * m + 2) = 0 := by
    try unfold mm_upd
    repeat first | rw [if_pos (by omega)] | rw [if_neg (by omega)]
    try assumption
  have r4 : (G) (1992 + 6 * m + 4) = 0 := by
    try unfold mm_upd
    repeat first | rw [if_pos (by omega)] | rw [if_neg (by omega)]
    try assumption
  have r5 : (G) (1992 + 6 * m + 5) = 0 := by
    try unfold mm_upd
    repeat first | rw [if_pos (by omega)] | rw [if_neg (by omega)]
    try assumption
  have re : ∀ j, j < 1992 + 6 * m → (G) j = G j := fun j hj => by
    try unfold mm_upd
    repeat rw [if_neg (by omega)]
    try rfl
  refine Or.inr ⟨T, G, by omega, hk, re, PR1_row m0 r0 r1 r2 (by unfold PRx; omega), r4, fun _ => r0, fun y => absurd y (by omega), fun s h => ?_, fun t0 t h => ?_⟩
  · obtain ⟨s1, a1, x1⟩ := cu_row h m0 m1 c0 c1 re (v1 := 26) (v2 := 0) (v3 := 0) (v4 := 0) r0 r1 (by decide) (fun _ => by omega) (fun y => by omega) (by omega) Z
    exact ⟨_, fun f => by
      show mm_kI (mm_run (zP Z) 10 [.inr (.inr (some 53)), .inl 26] (mk s)) f = _
      rw [B_X1_readPlain]
      simp (disch := first | with_reducible assumption | omega) only [↓sm, ↓reduceIte, ↓if_pos, ↓if_neg, kI, kJ, kR, kV, w32_eq, w64_eq, reduceCtorEq, Int.reduceAdd, Int.reduceMul, Int.reduceSub, o_c53, ↓o_g53_0, ↓o_g53_1, ↓o_g53_2, o_c5, o_c54, o_c7, ↓B_X1_readPlain_6 Z, ↓B_X1_readPlain_26 Z, ↓B_X1_readPlain_30 Z, ↓B_X1_readPlain_39 Z, ↓B_X1_readPlain_48 Z, ↓B_X1_readPlain_57 Z, ↓a1], x1⟩
  · exact ⟨_, fun f => by
      rw [B_X12_autumnOrder]
      simp (disch := first | with_reducible assumption | omega) only [↓sm, ↓reduceIte, ↓if_pos, ↓if_neg, kI, kJ, kR, kV, w32_eq, w64_eq, reduceCtorEq, Int.reduceAdd, Int.reduceMul, Int.reduceSub, o_c141, ↓B_X12_autumnOrder_34 Z], h⟩
