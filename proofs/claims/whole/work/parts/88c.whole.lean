/-! any part; all parts -/
theorem km_big : ∀ v : Nat, v < 27 → (v = 0 ∨ v = 2 ∨ v = 3 ∨ v = 4 ∨ v = 5 ∨ v = 8) ∨ 5 < km (v : Int) := by decide +kernel
theorem part_any (Z : mX) {s0 : mS} {b : Int → Int} {n : Int} (hT : TB0 b n) {G0 H0 G H : Int → Int} {th od gr : Int} {T : mT} (hk : TT b n T) (hD : DrI (shG G) th od gr) (hL : Lo G0 H0 G H) : Part Z s0 b n G0 H0 T G H th od gr := by
  obtain ⟨-, -, k2, -⟩ := tk_k hk
  by_cases h2 : tK T = 2
  · have v := k2 h2
    by_cases v0 : tV T = 0
    · exact part_thicket Z hT hk hD hL h2 v0
    · by_cases v2 : tV T = 2
      · exact part_odds Z hT hk hD hL h2 v2
      · by_cases v3 : tV T = 3
        · exact part_thorns Z hT hk hD hL h2 v3
        · by_cases v4 : tV T = 4
          · exact part_berries Z hT hk hD hL h2 v4
          · by_cases v5 : tV T = 5
            · exact part_lesson Z hT hk hD hL h2 v5
            · by_cases v8 : tV T = 8
              · exact part_pupil Z hT hk hD hL h2 v8
              · refine Or.inl ⟨fkd T, tF T, fkd_1 _, fun s h => ?_, fun t0 t h => ?_⟩
                · obtain ⟨ek, ef, e6, ew, e46, e4p⟩ := cp_k h
                  have e6 := e6 (Or.inl h2)
                  obtain ⟨s1, a1, x1⟩ := cp_strays Z h
                  refine ⟨s1, fun f => ?_, x1⟩
                  rw [h2] at ek
                  rw [B_X6_readPart]
                  by_cases w1 : tV T = 1
                  · simp (disch := first | with_reducible assumption | omega) only [↓sm, ↓reduceIte, ↓if_pos, ↓if_neg, kI, kJ, kR, kV, w32_eq, w64_eq, reduceCtorEq, Int.reduceAdd, Int.reduceMul, Int.reduceSub, o_c39, ↓o_g39_0, o_c5, ↓rI5_5 ek, ↓rI5_6 e6, ↓a1]
                  · by_cases w6 : tV T = 6
                    · simp (disch := first | with_reducible assumption | omega) only [↓sm, ↓reduceIte, ↓if_pos, ↓if_neg, kI, kJ, kR, kV, w32_eq, w64_eq, reduceCtorEq, Int.reduceAdd, Int.reduceMul, Int.reduceSub, o_c39, ↓o_g39_0, o_c5, ↓rI5_5 ek, ↓rI5_6 e6, ↓a1]
                    · by_cases w7 : tV T = 7
                      · simp (disch := first | with_reducible assumption | omega) only [↓sm, ↓reduceIte, ↓if_pos, ↓if_neg, kI, kJ, kR, kV, w32_eq, w64_eq, reduceCtorEq, Int.reduceAdd, Int.reduceMul, Int.reduceSub, o_c39, ↓o_g39_0, o_c5, ↓rI5_5 ek, ↓rI5_6 e6, ↓a1]
                      · simp (disch := first | with_reducible assumption | omega) only [↓sm, ↓reduceIte, ↓if_pos, ↓if_neg, kI, kJ, kR, kV, w32_eq, w64_eq, reduceCtorEq, Int.reduceAdd, Int.reduceMul, Int.reduceSub, o_c39, ↓o_g39_0, o_c5, ↓rI5_5 ek, ↓rI5_6 e6, ↓a1]
                · have hb := km_big (tV T).toNat (by omega)
                  rw [Int.toNat_of_nonneg v.1] at hb
                  have hb : 5 < km (tV T) := by omega
                  have ew : wn (tK T) (tV T) = km (tV T) := if_pos h2
                  obtain ⟨t1, b1, y1⟩ := rp_fail2 Z hk h hL
                  refine ⟨t1, fun f => ?_, y1⟩
                  have c0 : ∀ f : Int → mW → mO, mm_kI (mm_run (zP Z) 235 [.inr (.inr (some 141)), .inr (.inr (some 1))] (mk t)) f = f (km (tV T)) (mk t) := fun f => by rw [r_inW Z hT hk h.1, ew]
                  rw [B_X12_schoolPart]
                  simp (disch := first | with_reducible assumption | omega) only [↓sm, ↓reduceIte, ↓if_pos, ↓if_neg, kI, kJ, kR, kV, w32_eq, w64_eq, reduceCtorEq, Int.reduceAdd, Int.reduceMul, Int.reduceSub, o_c141, ↓c0, ↓b1]
  · refine Or.inl ⟨fkd T, tF T, fkd_1 _, fun s h => ?_, fun t0 t h => ?_⟩
    · obtain ⟨ek, ef, e6, ew, e46, e4p⟩ := cp_k h
      obtain ⟨s1, a1, x1⟩ := cp_strays Z h
      refine ⟨s1, fun f => ?_, x1⟩
      rw [B_X6_readPart]
      simp (disch := first | with_reducible assumption | omega) only [↓sm, ↓reduceIte, ↓if_pos, ↓if_neg, kI, kJ, kR, kV, w32_eq, w64_eq, reduceCtorEq, Int.reduceAdd, Int.reduceMul, Int.reduceSub, o_c39, ↓o_g39_0, o_c5, ↓rI5_5 ek, ↓a1]
    · have ew : wn (tK T) (tV T) = -1 := if_neg h2
      obtain ⟨t1, b1, y1⟩ := rp_fail2 Z hk h hL
      refine ⟨t1, fun f => ?_, y1⟩
      have c0 : ∀ f : Int → mW → mO, mm_kI (mm_run (zP Z) 235 [.inr (.inr (some 141)), .inr (.inr (some 1))] (mk t)) f = f (-1) (mk t) := fun f => by rw [r_inW Z hT hk h.1, ew]
      rw [B_X12_schoolPart]
      simp (disch := first | with_reducible assumption | omega) only [↓sm, ↓reduceIte, ↓if_pos, ↓if_neg, kI, kJ, kR, kV, w32_eq, w64_eq, reduceCtorEq, Int.reduceAdd, Int.reduceMul, Int.reduceSub, o_c141, ↓c0, ↓b1]
theorem parts_all (Z : mX) {s0 : mS} {b : Int → Int} {n : Int} (hT : TB0 b n) {G0 H0 : Int → Int} : ∀ d : Nat, ∀ (T : mT) (G H : Int → Int) (th od gr i : Int), (n - tF T).toNat ≤ d → TT b n T → DrI (shG G) th od gr → Lo G0 H0 G H → 0 ≤ i → i ≤ tF T →
    (∃ kd pl, 1 ≤ kd ∧ (∀ s, CP s0 b n T G H th od gr s → ∃ s', mm_at (zP Z) 81 14 [some (.inr (.inr (some 39))), some (.inl i)] [] (mk s) = some (some (.inl 0), mk s') ∧ CFl s0 kd pl s') ∧
      (∀ t0 t, RP t0 b n T G H th od gr t → ∃ t', mm_at (zP Z) 262 17 [some (.inr (.inr (some 141))), none, some (.inl 1), none] [] (mk t) = mm_at (zP Z) 262 26 [some (.inr (.inr (some 141))), none, none, none] [] (mk t') ∧ RFl t0 G0 H0 kd pl t')) ∨
    (∃ G' H' th' od' gr', DrI (shG G') th' od' gr' ∧ Lo G0 H0 G' H' ∧ (∀ s, CP s0 b n T G H th od gr s → ∃ s', mm_at (zP Z) 81 14 [some (.inr (.inr (some 39))), some (.inl i)] [] (mk s) = some (some (.inl 1), mk s') ∧ CS s' 40 (shG G') (shN H') ∧ Ag pcA pcG s0 s') ∧
      (∀ t0 t, RP t0 b n T G H th od gr t → ∃ t', mm_at (zP Z) 262 17 [some (.inr (.inr (some 141))), none, some (.inl 1), none] [] (mk t) = mm_at (zP Z) 262 26 [some (.inr (.inr (some 141))), none, none, none] [] (mk t') ∧ t'.2 142 = G' ∧ t'.2 143 = H' ∧ t'.1 141 18 = 0 ∧ Ag prA prG t0 t')) := by
  have n9 := hT.2.1
  intro d
  induction d with
  | zero =>
    intro T G H th od gr i hd hk hD hL i0 i1
    obtain ⟨k0, k6, -, -, kF, -, f0, f1, f2⟩ := tk_k hk
    have hK : tK T = 0 := Classical.byContradiction fun x => by have := kF x; omega
    refine Or.inr ⟨G, H, th, od, gr, hD, hL, fun s h => ⟨s, ?_, h.2.1, h.2.2.2.2.2⟩, fun t0 t h => ⟨t, ?_, h.2.1, h.2.2.1, h.2.2.2.1, h.2.2.2.2.2.2⟩⟩
    · obtain ⟨ek, -⟩ := cp_k h
      rw [hK] at ek
      rw [B_X6_readAll_14]
      by_cases hi : i < 900
      · simp (disch := first | with_reducible assumption | omega) only [↓sm, ↓reduceIte, ↓if_pos, ↓if_neg, kI, kJ, kR, kV, w32_eq, w64_eq, reduceCtorEq, Int.reduceAdd, Int.reduceMul, Int.reduceSub, ↓o_g39_0, ↓rI5_5 ek]
      · simp (disch := first | with_reducible assumption | omega) only [↓sm, ↓reduceIte, ↓if_pos, ↓if_neg, kI, kJ, kR, kV, w32_eq, w64_eq, reduceCtorEq, Int.reduceAdd, Int.reduceMul, Int.reduceSub]
    · have e12 : t.1 141 12 = 0 := h.1.2.2.2.1.trans ((tkr_0 k0 k6).mpr hK)
      rw [B_X12_school_17]
      simp (disch := first | with_reducible assumption | omega) only [↓sm, ↓reduceIte, ↓if_pos, ↓if_neg, kI, kJ, kR, kV, w32_eq, w64_eq, reduceCtorEq, Int.reduceAdd, Int.reduceMul, Int.reduceSub, ↓rI141_12 e12]
  | succ d ih =>
    intro T G H th od gr i hd hk hD hL i0 i1
    obtain ⟨k0, k6, -, -, kF, -, f0, f1, f2⟩ := tk_k hk
    by_cases hK : tK T = 0
    · refine Or.inr ⟨G, H, th, od, gr, hD, hL, fun s h => ⟨s, ?_, h.2.1, h.2.2.2.2.2⟩, fun t0 t h => ⟨t, ?_, h.2.1, h.2.2.1, h.2.2.2.1, h.2.2.2.2.2.2⟩⟩
      · obtain ⟨ek, -⟩ := cp_k h
        rw [hK] at ek
        rw [B_X6_readAll_14]
        by_cases hi : i < 900
        · simp (disch := first | with_reducible assumption | omega) only [↓sm, ↓reduceIte, ↓if_pos, ↓if_neg, kI, kJ, kR, kV, w32_eq, w64_eq, reduceCtorEq, Int.reduceAdd, Int.reduceMul, Int.reduceSub, ↓o_g39_0, ↓rI5_5 ek]
        · simp (disch := first | with_reducible assumption | omega) only [↓sm, ↓reduceIte, ↓if_pos, ↓if_neg, kI, kJ, kR, kV, w32_eq, w64_eq, reduceCtorEq, Int.reduceAdd, Int.reduceMul, Int.reduceSub]
      · have e12 : t.1 141 12 = 0 := h.1.2.2.2.1.trans ((tkr_0 k0 k6).mpr hK)
        rw [B_X12_school_17]
        simp (disch := first | with_reducible assumption | omega) only [↓sm, ↓reduceIte, ↓if_pos, ↓if_neg, kI, kJ, kR, kV, w32_eq, w64_eq, reduceCtorEq, Int.reduceAdd, Int.reduceMul, Int.reduceSub, ↓rI141_12 e12]
    · have hF := kF hK
      have e12 : ∀ t0 t, RP t0 b n T G H th od gr t → t.1 141 12 = tkr (tK T) ∧ ¬ tkr (tK T) = 0 := fun t0 t h => ⟨h.1.2.2.2.1, fun x => hK ((tkr_0 k0 k6).mp x)⟩
      rcases part_any Z (s0 := s0) hT hk hD hL with ⟨kd, pl, z0, z1, z2⟩ | ⟨T', G', H', th', od', gr', z0, z1, z2, z3, z4, z5⟩
      · refine Or.inl ⟨kd, pl, z0, fun s h => ?_, fun t0 t h => ?_⟩
        · obtain ⟨ek, -⟩ := cp_k h
          obtain ⟨s1, a1, x1⟩ := z1 s h
          refine ⟨s1, ?_, x1⟩
          rw [B_X6_readAll_14]
          simp (disch := first | with_reducible assumption | omega) only [↓sm, ↓reduceIte, ↓if_pos, ↓if_neg, kI, kJ, kR, kV, w32_eq, w64_eq, reduceCtorEq, Int.reduceAdd, Int.reduceMul, Int.reduceSub, o_c39, ↓o_g39_0, ↓rI5_5 ek, ↓a1]
        · obtain ⟨q1, q2⟩ := e12 t0 t h
          obtain ⟨t1, a1, x1⟩ := z2 t0 t h
          refine ⟨t1, ?_, x1⟩
          rw [B_X12_school_17]
          simp (disch := first | with_reducible assumption | omega) only [↓sm, ↓reduceIte, ↓if_pos, ↓if_neg, kI, kJ, kR, kV, w32_eq, w64_eq, reduceCtorEq, Int.reduceAdd, Int.reduceMul, Int.reduceSub, o_c141, ↓rI141_12 q1, ↓a1]
          rw [B_X12_school_17]
          simp (disch := first | with_reducible assumption | omega) only [↓sm, ↓reduceIte, ↓if_pos, ↓if_neg, kI, kJ, kR, kV, w32_eq, w64_eq, reduceCtorEq, Int.reduceAdd, Int.reduceMul, Int.reduceSub]
      · have C : ∀ s, CP s0 b n T G H th od gr s → ∃ s', mm_at (zP Z) 81 14 [some (.inr (.inr (some 39))), some (.inl i)] [] (mk s) = mm_at (zP Z) 81 14 [some (.inr (.inr (some 39))), some (.inl ((i + 1)))] [] (mk s') ∧ CP s0 b n T' G' H' th' od' gr' s' := by
          intro s h
          obtain ⟨ek, -⟩ := cp_k h
          obtain ⟨s1, a1, x1⟩ := z4 s h
          refine ⟨s1, ?_, x1⟩
          conv => lhs; rw [B_X6_readAll_14]
          simp (disch := first | with_reducible assumption | omega) only [↓sm, ↓reduceIte, ↓if_pos, ↓if_neg, kI, kJ, kR, kV, w32_eq, w64_eq, reduceCtorEq, Int.reduceAdd, Int.reduceMul, Int.reduceSub, o_c39, ↓o_g39_0, ↓rI5_5 ek, ↓a1]
        have R : ∀ t0 t, RP t0 b n T G H th od gr t → ∃ t', mm_at (zP Z) 262 17 [some (.inr (.inr (some 141))), none, some (.inl 1), none] [] (mk t) = mm_at (zP Z) 262 17 [some (.inr (.inr (some 141))), none, some (.inl 1), none] [] (mk t') ∧ RP t0 b n T' G' H' th' od' gr' t' := by
          intro t0 t h
          obtain ⟨q1, q2⟩ := e12 t0 t h
          obtain ⟨t1, a1, x1⟩ := z5 t0 t h
          refine ⟨t1, ?_, x1⟩
          conv => lhs; rw [B_X12_school_17]
          simp (disch := first | with_reducible assumption | omega) only [↓sm, ↓reduceIte, ↓if_pos, ↓if_neg, kI, kJ, kR, kV, w32_eq, w64_eq, reduceCtorEq, Int.reduceAdd, Int.reduceMul, Int.reduceSub, o_c141, ↓rI141_12 q1, ↓a1]
        rcases ih T' G' H' th' od' gr' (i + 1) (by omega) z1 z2 z3 (by omega) (by omega) with ⟨kd, pl, y0, y1, y2⟩ | ⟨G2, H2, th2, od2, gr2, y0, y1, y2, y3⟩
        · refine Or.inl ⟨kd, pl, y0, fun s h => ?_, fun t0 t h => ?_⟩
          · obtain ⟨s1, a1, c1⟩ := C s h
            obtain ⟨s2, a2, c2⟩ := y1 s1 c1
            exact ⟨s2, a1.trans a2, c2⟩
          · obtain ⟨t1, a1, c1⟩ := R t0 t h
            obtain ⟨t2, a2, c2⟩ := y2 t0 t1 c1
            exact ⟨t2, a1.trans a2, c2⟩
        · refine Or.inr ⟨G2, H2, th2, od2, gr2, y0, y1, fun s h => ?_, fun t0 t h => ?_⟩
          · obtain ⟨s1, a1, c1⟩ := C s h
            obtain ⟨s2, a2, c2⟩ := y2 s1 c1
            exact ⟨s2, a1.trans a2, c2⟩
          · obtain ⟨t1, a1, c1⟩ := R t0 t h
            obtain ⟨t2, a2, c2⟩ := y3 t0 t1 c1
            exact ⟨t2, a1.trans a2, c2⟩
