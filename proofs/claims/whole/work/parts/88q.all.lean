/-! all steps of autumns, both sides -/
theorem r_a22 (Z : mX) {t : mS} {kd : Int} (h : t.1 141 18 = kd) (k1 : 1 ≤ kd) (l : Int) : mm_at (zP Z) 269 31 [some (.inr (.inr (some 141))), none, none, none] [] (mk t) = mm_at (zP Z) 269 41 [some (.inr (.inr (some 141))), none, none, none] [] (mk t) := by
  have n0 : ¬ kd = 0 := by omega
  rw [B_X12_autumns_31]
  simp (disch := first | with_reducible assumption | omega) only [↓sm, ↓reduceIte, ↓if_pos, ↓if_neg, kI, kJ, kR, kV, w32_eq, w64_eq, reduceCtorEq, Int.reduceAdd, Int.reduceMul, Int.reduceSub, ↓rI141_18 h]
theorem auts_all (Z : mX) {s0 : mS} {b : Int → Int} {n : Int} (hT : TB0 b n) (n3 : n ≤ 300) {G0 H : Int → Int} (hW : WF G0) (hC : CS s0 7 G0 H) : ∀ d : Nat, ∀ (T : mT) (G O : Int → Int) (m cnt dep i : Int), (n - tF T).toNat ≤ d → TT b n T → UI (mixS G0 G) O m cnt dep → (∀ j, j < 1888 → G j = G0 j) → 0 ≤ i → i ≤ tF T →
    (∃ kd pl, 1 ≤ kd ∧ (∀ s, CU s0 b n T (mixS G0 G) O (opS O dep) m cnt dep s → ∃ s', mm_at (zP Z) 6 12 [some (.inr (.inr (some 53))), some (.inl i)] [] (mk s) = some (some (.inl 0), mk s') ∧ CFl s0 kd pl s') ∧
      (∀ t0 t, RU t0 b n T G H O m cnt dep t → ∃ t', mm_at (zP Z) 269 22 [some (.inr (.inr (some 141))), none, some (.inl 1), none] [] (mk t) = mm_at (zP Z) 269 41 [some (.inr (.inr (some 141))), none, none, none] [] (mk t') ∧ RFl t0 G0 H kd pl t')) ∨
    (∃ T' G' O' m' cnt', UI (mixS G0 G') O' m' cnt' 0 ∧ (∀ j, j < 1888 → G' j = G0 j) ∧ (∀ s, CU s0 b n T (mixS G0 G) O (opS O dep) m cnt dep s → ∃ s', mm_at (zP Z) 6 12 [some (.inr (.inr (some 53))), some (.inl i)] [] (mk s) = some (some (.inl 1), mk s') ∧ CU s0 b n T' (mixS G0 G') O' (opS O' 0) m' cnt' 0 s') ∧
      (∀ t0 t, RU t0 b n T G H O m cnt dep t → ∃ t', mm_at (zP Z) 269 22 [some (.inr (.inr (some 141))), none, some (.inl 1), none] [] (mk t) = mm_at (zP Z) 269 41 [some (.inr (.inr (some 141))), none, none, none] [] (mk t') ∧ RU t0 b n T' G' H O' m' cnt' 0 t')) := by
  intro d
  induction d with
  | zero =>
    intro T G O m cnt dep i hd hk hU hL i0 i1
    obtain ⟨k0, k6, -, -, kF, -, f0, f1, f2⟩ := tk_k hk
    obtain ⟨m0, mc, c30, d0, d3⟩ := ui_c hU
    have hK : tK T = 0 := Classical.byContradiction fun x => by have := kF x; omega
    have e12 : ∀ t0 t, RU t0 b n T G H O m cnt dep t → t.1 141 12 = 0 := fun t0 t h => h.1.2.2.2.1.trans ((tkr_0 k0 k6).mpr hK)
    by_cases hdp : dep = 0
    · subst hdp
      refine Or.inr ⟨T, G, O, m, cnt, hU, hL, fun s h => ⟨s, ?_, h⟩, fun t0 t h => ⟨t, ?_, h⟩⟩
      · obtain ⟨ek, e6, -, e1, e2, e4⟩ := cu_k h
        rw [hK] at ek
        rw [B_X1_readAll_12]
        simp (disch := first | with_reducible assumption | omega) only [↓sm, ↓reduceIte, ↓if_pos, ↓if_neg, kI, kJ, kR, kV, w32_eq, w64_eq, reduceCtorEq, Int.reduceAdd, Int.reduceMul, Int.reduceSub, ↓o_g53_0, ↓rI5_5 ek, ↓rI53_4 e4]
      · have q := e12 t0 t h
        obtain ⟨r1, r142, r143, r18, e22, -⟩ := id h
        rw [B_X12_autumns_22]
        simp (disch := first | with_reducible assumption | omega) only [↓sm, ↓reduceIte, ↓if_pos, ↓if_neg, kI, kJ, kR, kV, w32_eq, w64_eq, reduceCtorEq, Int.reduceAdd, Int.reduceMul, Int.reduceSub, ↓rI141_12 q]
        rw [B_X12_autumns_31]
        simp (disch := first | with_reducible assumption | omega) only [↓sm, ↓reduceIte, ↓if_pos, ↓if_neg, kI, kJ, kR, kV, w32_eq, w64_eq, reduceCtorEq, Int.reduceAdd, Int.reduceMul, Int.reduceSub, ↓rI141_18 r18, ↓rI141_22 e22]
    · have hp : 0 < dep := by omega
      refine Or.inl ⟨fkd T, tF T, fkd_1 _, fun s h => ?_, fun t0 t h => ?_⟩
      · obtain ⟨ek, e6, -, e1, e2, e4⟩ := cu_k h
        rw [hK] at ek
        obtain ⟨s1, a1, x1⟩ := cu_strays Z h
        refine ⟨s1, ?_, x1⟩
        rw [B_X1_readAll_12]
        simp (disch := first | with_reducible assumption | omega) only [↓sm, ↓reduceIte, ↓if_pos, ↓if_neg, kI, kJ, kR, kV, w32_eq, w64_eq, reduceCtorEq, Int.reduceAdd, Int.reduceMul, Int.reduceSub, o_c53, ↓o_g53_0, ↓rI5_5 ek, ↓rI53_4 e4, ↓B_X1_readAll_22 Z, ↓B_X1_readStep Z, o_c5, ↓a1]
      · have q := e12 t0 t h
        obtain ⟨r1, r142, r143, r18, e22, -⟩ := id h
        obtain ⟨t1, b1, y1⟩ := ru_fail2 Z hk h hL
        refine ⟨t1, ?_, y1⟩
        rw [B_X12_autumns_22]
        simp (disch := first | with_reducible assumption | omega) only [↓sm, ↓reduceIte, ↓if_pos, ↓if_neg, kI, kJ, kR, kV, w32_eq, w64_eq, reduceCtorEq, Int.reduceAdd, Int.reduceMul, Int.reduceSub, ↓rI141_12 q]
        rw [B_X12_autumns_31]
        simp (disch := first | with_reducible assumption | omega) only [↓sm, ↓reduceIte, ↓if_pos, ↓if_neg, kI, kJ, kR, kV, w32_eq, w64_eq, reduceCtorEq, Int.reduceAdd, Int.reduceMul, Int.reduceSub, o_c141, ↓rI141_18 r18, ↓rI141_22 e22, ↓b1]
  | succ d ih =>
    intro T G O m cnt dep i hd hk hU hL i0 i1
    obtain ⟨k0, k6, -, -, kF, -, f0, f1, f2⟩ := tk_k hk
    obtain ⟨m0, mc, c30, d0, d3⟩ := ui_c hU
    by_cases hK : tK T = 0
    · have e12 : ∀ t0 t, RU t0 b n T G H O m cnt dep t → t.1 141 12 = 0 := fun t0 t h => h.1.2.2.2.1.trans ((tkr_0 k0 k6).mpr hK)
      by_cases hdp : dep = 0
      · subst hdp
        refine Or.inr ⟨T, G, O, m, cnt, hU, hL, fun s h => ⟨s, ?_, h⟩, fun t0 t h => ⟨t, ?_, h⟩⟩
        · obtain ⟨ek, e6, -, e1, e2, e4⟩ := cu_k h
          rw [hK] at ek
          rw [B_X1_readAll_12]
          simp (disch := first | with_reducible assumption | omega) only [↓sm, ↓reduceIte, ↓if_pos, ↓if_neg, kI, kJ, kR, kV, w32_eq, w64_eq, reduceCtorEq, Int.reduceAdd, Int.reduceMul, Int.reduceSub, ↓o_g53_0, ↓rI5_5 ek, ↓rI53_4 e4]
        · have q := e12 t0 t h
          obtain ⟨r1, r142, r143, r18, e22, -⟩ := id h
          rw [B_X12_autumns_22]
          simp (disch := first | with_reducible assumption | omega) only [↓sm, ↓reduceIte, ↓if_pos, ↓if_neg, kI, kJ, kR, kV, w32_eq, w64_eq, reduceCtorEq, Int.reduceAdd, Int.reduceMul, Int.reduceSub, ↓rI141_12 q]
          rw [B_X12_autumns_31]
          simp (disch := first | with_reducible assumption | omega) only [↓sm, ↓reduceIte, ↓if_pos, ↓if_neg, kI, kJ, kR, kV, w32_eq, w64_eq, reduceCtorEq, Int.reduceAdd, Int.reduceMul, Int.reduceSub, ↓rI141_18 r18, ↓rI141_22 e22]
      · have hp : 0 < dep := by omega
        refine Or.inl ⟨fkd T, tF T, fkd_1 _, fun s h => ?_, fun t0 t h => ?_⟩
        · obtain ⟨ek, e6, -, e1, e2, e4⟩ := cu_k h
          rw [hK] at ek
          obtain ⟨s1, a1, x1⟩ := cu_strays Z h
          refine ⟨s1, ?_, x1⟩
          rw [B_X1_readAll_12]
          simp (disch := first | with_reducible assumption | omega) only [↓sm, ↓reduceIte, ↓if_pos, ↓if_neg, kI, kJ, kR, kV, w32_eq, w64_eq, reduceCtorEq, Int.reduceAdd, Int.reduceMul, Int.reduceSub, o_c53, ↓o_g53_0, ↓rI5_5 ek, ↓rI53_4 e4, ↓B_X1_readAll_22 Z, ↓B_X1_readStep Z, o_c5, ↓a1]
        · have q := e12 t0 t h
          obtain ⟨r1, r142, r143, r18, e22, -⟩ := id h
          obtain ⟨t1, b1, y1⟩ := ru_fail2 Z hk h hL
          refine ⟨t1, ?_, y1⟩
          rw [B_X12_autumns_22]
          simp (disch := first | with_reducible assumption | omega) only [↓sm, ↓reduceIte, ↓if_pos, ↓if_neg, kI, kJ, kR, kV, w32_eq, w64_eq, reduceCtorEq, Int.reduceAdd, Int.reduceMul, Int.reduceSub, ↓rI141_12 q]
          rw [B_X12_autumns_31]
          simp (disch := first | with_reducible assumption | omega) only [↓sm, ↓reduceIte, ↓if_pos, ↓if_neg, kI, kJ, kR, kV, w32_eq, w64_eq, reduceCtorEq, Int.reduceAdd, Int.reduceMul, Int.reduceSub, o_c141, ↓rI141_18 r18, ↓rI141_22 e22, ↓b1]
    · have hF := kF hK
      have e12 : ∀ t0 t, RU t0 b n T G H O m cnt dep t → t.1 141 12 = tkr (tK T) ∧ ¬ tkr (tK T) = 0 := fun t0 t h => ⟨h.1.2.2.2.1, fun x => hK ((tkr_0 k0 k6).mp x)⟩
      rcases st_any Z (s0 := s0) hT hk hW hC hL hU with ⟨kd, pl, z0, z1, z2⟩ | ⟨T', G', O', m', cnt', dep', z0, z1, z2, z3, z4, z5⟩
      · refine Or.inl ⟨kd, pl, z0, fun s h => ?_, fun t0 t h => ?_⟩
        · obtain ⟨ek, -⟩ := cu_k h
          obtain ⟨s1, a1, x1⟩ := z1 s h
          refine ⟨s1, ?_, x1⟩
          rw [B_X1_readAll_12]
          simp (disch := first | with_reducible assumption | omega) only [↓sm, ↓reduceIte, ↓if_pos, ↓if_neg, kI, kJ, kR, kV, w32_eq, w64_eq, reduceCtorEq, Int.reduceAdd, Int.reduceMul, Int.reduceSub, o_c53, ↓o_g53_0, ↓rI5_5 ek, ↓B_X1_readAll_22 Z, ↓a1]
        · obtain ⟨q1, q2⟩ := e12 t0 t h
          obtain ⟨t1, a1, x1⟩ := z2 t0 t h
          refine ⟨t1, ?_, x1⟩
          rw [B_X12_autumns_22]
          simp (disch := first | with_reducible assumption | omega) only [↓sm, ↓reduceIte, ↓if_pos, ↓if_neg, kI, kJ, kR, kV, w32_eq, w64_eq, reduceCtorEq, Int.reduceAdd, Int.reduceMul, Int.reduceSub, o_c141, ↓rI141_12 q1, ↓a1]
          rw [B_X12_autumns_22]
          simp (disch := first | with_reducible assumption | omega) only [↓sm, ↓reduceIte, ↓if_pos, ↓if_neg, kI, kJ, kR, kV, w32_eq, w64_eq, reduceCtorEq, Int.reduceAdd, Int.reduceMul, Int.reduceSub]
          exact r_a22 Z x1.1 z0 0
      · have C : ∀ s, CU s0 b n T (mixS G0 G) O (opS O dep) m cnt dep s → ∃ s', mm_at (zP Z) 6 12 [some (.inr (.inr (some 53))), some (.inl i)] [] (mk s) = mm_at (zP Z) 6 12 [some (.inr (.inr (some 53))), some (.inl ((i + 1)))] [] (mk s') ∧ CU s0 b n T' (mixS G0 G') O' (opS O' dep') m' cnt' dep' s' := by
          intro s h
          obtain ⟨ek, -⟩ := cu_k h
          obtain ⟨s1, a1, x1⟩ := z4 s h
          refine ⟨s1, ?_, x1⟩
          conv => lhs; rw [B_X1_readAll_12]
          simp (disch := first | with_reducible assumption | omega) only [↓sm, ↓reduceIte, ↓if_pos, ↓if_neg, kI, kJ, kR, kV, w32_eq, w64_eq, reduceCtorEq, Int.reduceAdd, Int.reduceMul, Int.reduceSub, o_c53, ↓o_g53_0, ↓rI5_5 ek, ↓B_X1_readAll_22 Z, ↓a1]
        have R : ∀ t0 t, RU t0 b n T G H O m cnt dep t → ∃ t', mm_at (zP Z) 269 22 [some (.inr (.inr (some 141))), none, some (.inl 1), none] [] (mk t) = mm_at (zP Z) 269 22 [some (.inr (.inr (some 141))), none, some (.inl 1), none] [] (mk t') ∧ RU t0 b n T' G' H O' m' cnt' dep' t' := by
          intro t0 t h
          obtain ⟨q1, q2⟩ := e12 t0 t h
          obtain ⟨t1, a1, x1⟩ := z5 t0 t h
          refine ⟨t1, ?_, x1⟩
          conv => lhs; rw [B_X12_autumns_22]
          simp (disch := first | with_reducible assumption | omega) only [↓sm, ↓reduceIte, ↓if_pos, ↓if_neg, kI, kJ, kR, kV, w32_eq, w64_eq, reduceCtorEq, Int.reduceAdd, Int.reduceMul, Int.reduceSub, o_c141, ↓rI141_12 q1, ↓a1]
        rcases ih T' G' O' m' cnt' dep' (i + 1) (by omega) z1 z2 z3 (by omega) (by omega) with ⟨kd, pl, y0, y1, y2⟩ | ⟨T2, G2, O2, m2, cnt2, y0, y1, y2, y3⟩
        · refine Or.inl ⟨kd, pl, y0, fun s h => ?_, fun t0 t h => ?_⟩
          · obtain ⟨s1, a1, c1⟩ := C s h
            obtain ⟨s2, a2, c2⟩ := y1 s1 c1
            exact ⟨s2, a1.trans a2, c2⟩
          · obtain ⟨t1, a1, c1⟩ := R t0 t h
            obtain ⟨t2, a2, c2⟩ := y2 t0 t1 c1
            exact ⟨t2, a1.trans a2, c2⟩
        · refine Or.inr ⟨T2, G2, O2, m2, cnt2, y0, y1, fun s h => ?_, fun t0 t h => ?_⟩
          · obtain ⟨s1, a1, c1⟩ := C s h
            obtain ⟨s2, a2, c2⟩ := y2 s1 c1
            exact ⟨s2, a1.trans a2, c2⟩
          · obtain ⟨t1, a1, c1⟩ := R t0 t h
            obtain ⟨t2, a2, c2⟩ := y3 t0 t1 c1
            exact ⟨t2, a1.trans a2, c2⟩
