/-! the steps of autumns, both sides (printed by gen/parts5.py) -/
theorem zt_1895 (t : mS) {m : Int} (m0 : 0 ≤ m) (c k : Int) : (zt (uA (uF t 141 23 c) 142 (1992 + 6 * m) k) (1992 + 6 * m)).2 142 1895 = t.2 142 1895 := by
  unfold zt
  rw [uA_s, uA_s, uA_s, uA_s, uA_s, uA_s, up_ne (by omega), up_ne (by omega), up_ne (by omega), up_ne (by omega), up_ne (by omega), up_ne (by omega)]
  rfl
theorem ui_c {S O : Int → Int} {m cnt dep : Int} (h : UI S O m cnt dep) : 0 ≤ m ∧ m + dep ≤ 2 * cnt ∧ cnt ≤ 30 ∧ 0 ≤ dep ∧ dep ≤ 3 := ⟨h.1, h.2.1, h.2.2.1, h.2.2.2.1.1, h.2.2.2.1.2.1⟩
theorem hG_e {G0 G G' : Int → Int} {m k : Int} (m0 : 0 ≤ m) (re : ∀ j, j < 1992 + 6 * m → G' j = hG G m k j) : ∀ j, j < 104 + 6 * m → mixS G0 G' j = mixS G0 G j := mixS_e (fun j j0 j1 => by rw [re j (by omega), hG_lo m0 (by omega) (by omega)])
theorem hG_L {G0 G : Int → Int} {m k : Int} (m0 : 0 ≤ m) (hL : ∀ j, j < 1888 → G j = G0 j) : ∀ j, j < 1888 → hG G m k j = G0 j := fun j hj => by
  rw [hG_lo m0 (by omega) (by omega)]
  exact hL j hj
set_option maxHeartbeats 8000000 in
theorem st_plain (Z : mX) {s0 : mS} {b : Int → Int} {n : Int} (hT : TB0 b n) {G0 H G O : Int → Int} {m cnt dep : Int} {T : mT} (hk : TT b n T) (hL : ∀ j, j < 1888 → G j = G0 j) (hU : UI (mixS G0 G) O m cnt dep) (h2 : tK T = 2) {w k : Int} (hv : tV T = w) (hsw : w = 12 ∨ w = 26 ∨ (17 ≤ w ∧ w ≤ 21)) (hw : w ≠ 22 ∧ w ≠ 24 ∧ w ≠ 25) (hkm : km w = k) (hkr : 16 ≤ k ∧ k ≤ 25 ∧ k ≠ 22 ∧ k ≠ 23 ∧ k ≠ 24) (ho : cnt < 30 → ∀ T1, TT b n T1 → Ord (fun s f => mm_kI (mm_run (zP Z) 10 [.inr (.inr (some 53)), .inl w] (mk s)) f) Z s0 b n G0 H T1 (hG G m k) O m cnt dep k) : AStp Z s0 b n G0 H T G O m cnt dep := by
  obtain ⟨m0, mc, c30, d0, d3⟩ := ui_c hU
  have hst : stp w := by unfold stp; omega
  obtain ⟨n22, n24, n25⟩ := hw
  obtain ⟨k16, k25, l22, l23, l24⟩ := hkr
  obtain ⟨T1, p1, hk1, N0, M0⟩ := nxt Z hT hk
  have q0 := tk_o hk
  have q1 := tk_o hk1
  by_cases hcn : cnt < 30
  · rcases ho hcn T1 hk1 with ⟨kd, pl, z0, z1, z2⟩ | ⟨T2, G2, o1, hk2, o2, o3, o4, o5, o5b, o6, o7⟩
    · refine Or.inl ⟨kd, pl, z0, fun s h => ?_, fun t0 t h => ?_⟩
      · obtain ⟨ek, e6, -, e1, e2, e4⟩ := cu_k h
        have e6 := e6 (Or.inl h2)
        rw [h2] at ek
        rw [hv] at e6
        obtain ⟨s1, a1, x1, -⟩ := cu_adv N0 h
        have f2 : s1.1 54 2 = m := x1.2.2.2.1
        have x1 := cu_S x1 (hG_e (G0 := G0) (k := k) m0 (fun _ _ => rfl)) (fun _ _ _ _ x => x)
        obtain ⟨s2, a2, x2⟩ := z1 s1 x1
        have a2 : ∀ f : Int → mW → mO, mm_kI (mm_run (zP Z) 10 [.inr (.inr (some 53)), .inl w] (mk s1)) f = f 0 (mk s2) := a2
        exact ⟨_, fun f => by
          rw [B_X1_readStep]
          simp (disch := first | with_reducible assumption | omega) only [↓sm, ↓reduceIte, ↓if_pos, ↓if_neg, kI, kJ, kR, kV, w32_eq, w64_eq, reduceCtorEq, Int.reduceAdd, Int.reduceMul, Int.reduceSub, o_c53, ↓o_g53_0, ↓o_g53_1, ↓o_g53_2, ↓o_g53_3, o_c5, o_c54, ↓rI5_5 ek, ↓rI5_6 e6, ↓c_begins_t Z s hst, ↓rI54_1 e1, ↓rI53_4 e4, ↓B_X1_readStep_42 Z, ↓B_X1_readStep_45 Z, ↓B_X1_readStep_57 Z, ↓B_X1_readStep_77 Z, ↓a1, ↓rI54_2 f2, ↓a2], x2⟩
      · obtain ⟨r1, r142, r143, r18, e22, e23, hm, rO, rA⟩ := id h
        have em : ∀ f : Int → mO, (mm_ld 0 (mk t) 142 1895).bind f = f m := fun f => by rw [r_at r142 f 1895 (by omega) (by omega), hm]
        have ew : wn (tK T) (tV T) = k := (if_pos h2).trans (by rw [hv]; exact hkm)
        have c0 : ∀ f : Int → mW → mO, mm_kI (mm_run (zP Z) 235 [.inr (.inr (some 141)), .inr (.inr (some 1))] (mk t)) f = f k (mk t) := fun f => by rw [r_inW Z hT hk h.1, ew]
        obtain ⟨t1, y1, r1⟩ := ru_adv M0 (ru_head h m0 (cnt + 1) k)
        unfold hT1 at y1
        have z95 : (zt (uA (uF t 141 23 (cnt + 1)) 142 (1992 + 6 * m) (k)) (1992 + 6 * m)).2 142 1895 = m := (zt_1895 t m0 (cnt + 1) k).trans ((congrFun r142 1895).trans hm)
        obtain ⟨t2, b2, r2⟩ := z2 t0 t1 r1
        exact ⟨_, fun f => by
          rw [B_X12_autumnStep]
          simp (disch := first | with_reducible assumption | omega) only [↓sm, ↓reduceIte, ↓if_pos, ↓if_neg, kI, kJ, kR, kV, w32_eq, w64_eq, reduceCtorEq, Int.reduceAdd, Int.reduceMul, Int.reduceSub, o_c141, ↓o_g141_0, ↓o_g141_1, ↓o_g141_5, ↓o_g141_6, ↓o_g141_7, ↓o_g141_8, ↓o_g141_9, ↓o_g141_21, ↓o_g141_25, ↓o_g141_26, ↓o_g141_27, ↓o_g141_28, ↓o_g141_29, ↓o_g141_30, ↓o_g141_31, ↓o_g141_34, ↓o_g141_35, ↓o_g141_36, ↓c0, ↓em, B_X12_autumnStep_21 Z, B_X12_autumnStep_24 Z, ↓B_X12_autumnStep_41 Z, ↓B_X12_autumnStep_52 Z, ↓B_X12_autumnStep_62 Z, ↓B_X12_autumnStep_71 Z, ↓rI141_22 e22, ↓rI141_23 e23, ↓o_p141_23, ↓a_st142, ↓r_rowz Z]
          rw [B_X12_autumnStep_80]
          simp (disch := first | with_reducible assumption | omega) only [↓sm, ↓reduceIte, ↓if_pos, ↓if_neg, kI, kJ, kR, kV, w32_eq, w64_eq, reduceCtorEq, Int.reduceAdd, Int.reduceMul, Int.reduceSub, o_c141, ↓o_g141_0, ↓o_g141_1, ↓o_g141_5, ↓o_g141_6, ↓o_g141_7, ↓o_g141_8, ↓o_g141_9, ↓o_g141_21, ↓o_g141_25, ↓o_g141_26, ↓o_g141_27, ↓o_g141_28, ↓o_g141_29, ↓o_g141_30, ↓o_g141_31, ↓o_g141_34, ↓o_g141_35, ↓o_g141_36, ↓a_ld142, ↓z95, ↓a_st142, ↓y1, ↓B_X12_autumnStep_123 Z, ↓b2], r2⟩
    · obtain ⟨T3, p3, hk3, N2, M2⟩ := nxt Z hT hk2
      have q2 := tk_o hk2
      have lo : ∀ j, j < 1888 → G2 j = G0 j := fun j hj => (o2 j (by omega)).trans (hG_L m0 hL j hj)
      have n24' : mixS G0 G2 (104 + 6 * m) ≠ 24 := by
        rw [mixS_r0 m0]
        have := o5
        have := o5b
        omega
      have no : ¬ opn (mixS G0 G2 (104 + 6 * m)) := by
        rw [mixS_r0 m0]
        unfold opn
        have := o5
        have := o5b
        omega
      by_cases qs : tK T2 = 6 ∧ tV T2 = 59
      · refine Or.inr ⟨T3, G2, O, m + 1, cnt + 1, dep, by omega, hk3, UI_plain hU (by omega) (hG_e m0 o2) o3 n24' no, lo, fun s h => ?_, fun t0 t h => ?_⟩
        · obtain ⟨ek, e6, -, e1, e2, e4⟩ := cu_k h
          have e6 := e6 (Or.inl h2)
          rw [h2] at ek
          rw [hv] at e6
          obtain ⟨s1, a1, x1, -⟩ := cu_adv N0 h
          have f2 : s1.1 54 2 = m := x1.2.2.2.1
          have x1 := cu_S x1 (hG_e (G0 := G0) (k := k) m0 (fun _ _ => rfl)) (fun _ _ _ _ x => x)
          obtain ⟨s2, a2, x2⟩ := o6 s1 x1
          have a2 : ∀ f : Int → mW → mO, mm_kI (mm_run (zP Z) 10 [.inr (.inr (some 53)), .inl w] (mk s1)) f = f 1 (mk s2) := a2
          have x2 := cu_S (S' := mixS G0 G2) (op' := opS O dep) x2 (fun _ _ => rfl) (fun i i0 i1 hi hx => hx.elim (fun y => absurd hi (by rw [y]; exact no)) id)
          obtain ⟨s3, a3, x3⟩ := cu_semi N2 x2 qs
          exact ⟨_, fun f => by
            rw [B_X1_readStep]
            simp (disch := first | with_reducible assumption | omega) only [↓sm, ↓reduceIte, ↓if_pos, ↓if_neg, kI, kJ, kR, kV, w32_eq, w64_eq, reduceCtorEq, Int.reduceAdd, Int.reduceMul, Int.reduceSub, o_c53, ↓o_g53_0, ↓o_g53_1, ↓o_g53_2, ↓o_g53_3, o_c5, o_c54, ↓rI5_5 ek, ↓rI5_6 e6, ↓c_begins_t Z s hst, ↓rI54_1 e1, ↓rI53_4 e4, ↓B_X1_readStep_42 Z, ↓B_X1_readStep_45 Z, ↓B_X1_readStep_57 Z, ↓B_X1_readStep_77 Z, ↓a1, ↓rI54_2 f2, ↓a2, ↓a3], x3⟩
        · obtain ⟨r1, r142, r143, r18, e22, e23, hm, rO, rA⟩ := id h
          have em : ∀ f : Int → mO, (mm_ld 0 (mk t) 142 1895).bind f = f m := fun f => by rw [r_at r142 f 1895 (by omega) (by omega), hm]
          have ew : wn (tK T) (tV T) = k := (if_pos h2).trans (by rw [hv]; exact hkm)
          have c0 : ∀ f : Int → mW → mO, mm_kI (mm_run (zP Z) 235 [.inr (.inr (some 141)), .inr (.inr (some 1))] (mk t)) f = f k (mk t) := fun f => by rw [r_inW Z hT hk h.1, ew]
          obtain ⟨t1, y1, r1⟩ := ru_adv M0 (ru_head h m0 (cnt + 1) k)
          unfold hT1 at y1
          have z95 : (zt (uA (uF t 141 23 (cnt + 1)) 142 (1992 + 6 * m) (k)) (1992 + 6 * m)).2 142 1895 = m := (zt_1895 t m0 (cnt + 1) k).trans ((congrFun r142 1895).trans hm)
          obtain ⟨t2, b2, r2⟩ := o7 t0 t1 r1
          obtain ⟨t3, b3, r3⟩ := ru_semi hk2 M2 r2 qs
          exact ⟨_, fun f => by
            rw [B_X12_autumnStep]
            simp (disch := first | with_reducible assumption | omega) only [↓sm, ↓reduceIte, ↓if_pos, ↓if_neg, kI, kJ, kR, kV, w32_eq, w64_eq, reduceCtorEq, Int.reduceAdd, Int.reduceMul, Int.reduceSub, o_c141, ↓o_g141_0, ↓o_g141_1, ↓o_g141_5, ↓o_g141_6, ↓o_g141_7, ↓o_g141_8, ↓o_g141_9, ↓o_g141_21, ↓o_g141_25, ↓o_g141_26, ↓o_g141_27, ↓o_g141_28, ↓o_g141_29, ↓o_g141_30, ↓o_g141_31, ↓o_g141_34, ↓o_g141_35, ↓o_g141_36, ↓c0, ↓em, B_X12_autumnStep_21 Z, B_X12_autumnStep_24 Z, ↓B_X12_autumnStep_41 Z, ↓B_X12_autumnStep_52 Z, ↓B_X12_autumnStep_62 Z, ↓B_X12_autumnStep_71 Z, ↓rI141_22 e22, ↓rI141_23 e23, ↓o_p141_23, ↓a_st142, ↓r_rowz Z]
            rw [B_X12_autumnStep_80]
            simp (disch := first | with_reducible assumption | omega) only [↓sm, ↓reduceIte, ↓if_pos, ↓if_neg, kI, kJ, kR, kV, w32_eq, w64_eq, reduceCtorEq, Int.reduceAdd, Int.reduceMul, Int.reduceSub, o_c141, ↓o_g141_0, ↓o_g141_1, ↓o_g141_5, ↓o_g141_6, ↓o_g141_7, ↓o_g141_8, ↓o_g141_9, ↓o_g141_21, ↓o_g141_25, ↓o_g141_26, ↓o_g141_27, ↓o_g141_28, ↓o_g141_29, ↓o_g141_30, ↓o_g141_31, ↓o_g141_34, ↓o_g141_35, ↓o_g141_36, ↓a_ld142, ↓z95, ↓a_st142, ↓y1, ↓B_X12_autumnStep_123 Z, ↓b2, ↓b3], r3⟩
      · refine Or.inl ⟨fkd T2, tF T2, fkd_1 _, fun s h => ?_, fun t0 t h => ?_⟩
        · obtain ⟨ek, e6, -, e1, e2, e4⟩ := cu_k h
          have e6 := e6 (Or.inl h2)
          rw [h2] at ek
          rw [hv] at e6
          obtain ⟨s1, a1, x1, -⟩ := cu_adv N0 h
          have f2 : s1.1 54 2 = m := x1.2.2.2.1
          have x1 := cu_S x1 (hG_e (G0 := G0) (k := k) m0 (fun _ _ => rfl)) (fun _ _ _ _ x => x)
          obtain ⟨s2, a2, x2⟩ := o6 s1 x1
          have a2 : ∀ f : Int → mW → mO, mm_kI (mm_run (zP Z) 10 [.inr (.inr (some 53)), .inl w] (mk s1)) f = f 1 (mk s2) := a2
          have x2 := cu_S (S' := mixS G0 G2) (op' := opS O dep) x2 (fun _ _ => rfl) (fun i i0 i1 hi hx => hx.elim (fun y => absurd hi (by rw [y]; exact no)) id)
          obtain ⟨s3, a3, x3⟩ := cu_semif Z x2 qs
          exact ⟨_, fun f => by
            rw [B_X1_readStep]
            simp (disch := first | with_reducible assumption | omega) only [↓sm, ↓reduceIte, ↓if_pos, ↓if_neg, kI, kJ, kR, kV, w32_eq, w64_eq, reduceCtorEq, Int.reduceAdd, Int.reduceMul, Int.reduceSub, o_c53, ↓o_g53_0, ↓o_g53_1, ↓o_g53_2, ↓o_g53_3, o_c5, o_c54, ↓rI5_5 ek, ↓rI5_6 e6, ↓c_begins_t Z s hst, ↓rI54_1 e1, ↓rI53_4 e4, ↓B_X1_readStep_42 Z, ↓B_X1_readStep_45 Z, ↓B_X1_readStep_57 Z, ↓B_X1_readStep_77 Z, ↓a1, ↓rI54_2 f2, ↓a2, ↓a3], x3⟩
        · obtain ⟨r1, r142, r143, r18, e22, e23, hm, rO, rA⟩ := id h
          have em : ∀ f : Int → mO, (mm_ld 0 (mk t) 142 1895).bind f = f m := fun f => by rw [r_at r142 f 1895 (by omega) (by omega), hm]
          have ew : wn (tK T) (tV T) = k := (if_pos h2).trans (by rw [hv]; exact hkm)
          have c0 : ∀ f : Int → mW → mO, mm_kI (mm_run (zP Z) 235 [.inr (.inr (some 141)), .inr (.inr (some 1))] (mk t)) f = f k (mk t) := fun f => by rw [r_inW Z hT hk h.1, ew]
          obtain ⟨t1, y1, r1⟩ := ru_adv M0 (ru_head h m0 (cnt + 1) k)
          unfold hT1 at y1
          have z95 : (zt (uA (uF t 141 23 (cnt + 1)) 142 (1992 + 6 * m) (k)) (1992 + 6 * m)).2 142 1895 = m := (zt_1895 t m0 (cnt + 1) k).trans ((congrFun r142 1895).trans hm)
          obtain ⟨t2, b2, r2⟩ := o7 t0 t1 r1
          obtain ⟨t3, b3, r3⟩ := ru_semif Z hk2 r2 lo qs
          exact ⟨_, fun f => by
            rw [B_X12_autumnStep]
            simp (disch := first | with_reducible assumption | omega) only [↓sm, ↓reduceIte, ↓if_pos, ↓if_neg, kI, kJ, kR, kV, w32_eq, w64_eq, reduceCtorEq, Int.reduceAdd, Int.reduceMul, Int.reduceSub, o_c141, ↓o_g141_0, ↓o_g141_1, ↓o_g141_5, ↓o_g141_6, ↓o_g141_7, ↓o_g141_8, ↓o_g141_9, ↓o_g141_21, ↓o_g141_25, ↓o_g141_26, ↓o_g141_27, ↓o_g141_28, ↓o_g141_29, ↓o_g141_30, ↓o_g141_31, ↓o_g141_34, ↓o_g141_35, ↓o_g141_36, ↓c0, ↓em, B_X12_autumnStep_21 Z, B_X12_autumnStep_24 Z, ↓B_X12_autumnStep_41 Z, ↓B_X12_autumnStep_52 Z, ↓B_X12_autumnStep_62 Z, ↓B_X12_autumnStep_71 Z, ↓rI141_22 e22, ↓rI141_23 e23, ↓o_p141_23, ↓a_st142, ↓r_rowz Z]
            rw [B_X12_autumnStep_80]
            simp (disch := first | with_reducible assumption | omega) only [↓sm, ↓reduceIte, ↓if_pos, ↓if_neg, kI, kJ, kR, kV, w32_eq, w64_eq, reduceCtorEq, Int.reduceAdd, Int.reduceMul, Int.reduceSub, o_c141, ↓o_g141_0, ↓o_g141_1, ↓o_g141_5, ↓o_g141_6, ↓o_g141_7, ↓o_g141_8, ↓o_g141_9, ↓o_g141_21, ↓o_g141_25, ↓o_g141_26, ↓o_g141_27, ↓o_g141_28, ↓o_g141_29, ↓o_g141_30, ↓o_g141_31, ↓o_g141_34, ↓o_g141_35, ↓o_g141_36, ↓a_ld142, ↓z95, ↓a_st142, ↓y1, ↓B_X12_autumnStep_123 Z, ↓b2, ↓b3], r3⟩
  · refine Or.inl ⟨6, tF T, by omega, fun s h => ?_, fun t0 t h => ?_⟩
    · obtain ⟨ek, e6, -, e1, e2, e4⟩ := cu_k h
      have e6 := e6 (Or.inl h2)
      rw [h2] at ek
      rw [hv] at e6
      obtain ⟨s1, a1, x1⟩ := cu_fails Z h 6
      exact ⟨_, fun f => by
        rw [B_X1_readStep]
        simp (disch := first | with_reducible assumption | omega) only [↓sm, ↓reduceIte, ↓if_pos, ↓if_neg, kI, kJ, kR, kV, w32_eq, w64_eq, reduceCtorEq, Int.reduceAdd, Int.reduceMul, Int.reduceSub, o_c53, ↓o_g53_0, ↓o_g53_1, ↓o_g53_2, ↓o_g53_3, o_c5, o_c54, ↓rI5_5 ek, ↓rI5_6 e6, ↓c_begins_t Z s hst, ↓rI54_1 e1, ↓rI53_4 e4, ↓B_X1_readStep_42 Z, ↓B_X1_readStep_45 Z, ↓B_X1_readStep_57 Z, ↓B_X1_readStep_77 Z, ↓a1], x1⟩
    · obtain ⟨r1, r142, r143, r18, e22, e23, hm, rO, rA⟩ := id h
      have em : ∀ f : Int → mO, (mm_ld 0 (mk t) 142 1895).bind f = f m := fun f => by rw [r_at r142 f 1895 (by omega) (by omega), hm]
      have ew : wn (tK T) (tV T) = k := (if_pos h2).trans (by rw [hv]; exact hkm)
      have c0 : ∀ f : Int → mW → mO, mm_kI (mm_run (zP Z) 235 [.inr (.inr (some 141)), .inr (.inr (some 1))] (mk t)) f = f k (mk t) := fun f => by rw [r_inW Z hT hk h.1, ew]
      obtain ⟨t1, b1, y1⟩ := ru_fails Z hk h hL (k := 6) (by omega)
      exact ⟨_, fun f => by
        rw [B_X12_autumnStep]
        simp (disch := first | with_reducible assumption | omega) only [↓sm, ↓reduceIte, ↓if_pos, ↓if_neg, kI, kJ, kR, kV, w32_eq, w64_eq, reduceCtorEq, Int.reduceAdd, Int.reduceMul, Int.reduceSub, o_c141, ↓o_g141_0, ↓o_g141_1, ↓o_g141_5, ↓o_g141_6, ↓o_g141_7, ↓o_g141_8, ↓o_g141_9, ↓o_g141_21, ↓o_g141_25, ↓o_g141_26, ↓o_g141_27, ↓o_g141_28, ↓o_g141_29, ↓o_g141_30, ↓o_g141_31, ↓o_g141_34, ↓o_g141_35, ↓o_g141_36, ↓c0, ↓em, B_X12_autumnStep_21 Z, B_X12_autumnStep_24 Z, ↓B_X12_autumnStep_41 Z, ↓B_X12_autumnStep_52 Z, ↓B_X12_autumnStep_62 Z, ↓B_X12_autumnStep_71 Z, ↓rI141_22 e22, ↓rI141_23 e23, ↓o_p141_23, ↓a_st142, ↓r_rowz Z, ↓b1], y1⟩
set_option maxHeartbeats 8000000 in
theorem st_loop (Z : mX) {s0 : mS} {b : Int → Int} {n : Int} (hT : TB0 b n) {G0 H G O : Int → Int} {m cnt dep : Int} {T : mT} (hk : TT b n T) (hL : ∀ j, j < 1888 → G j = G0 j) (hU : UI (mixS G0 G) O m cnt dep) (h2 : tK T = 2) (hv : tV T = 24) (ho : cnt < 30 → ∀ T1, TT b n T1 → Ord (fun s f => mm_kI (mm_run (zP Z) 10 [.inr (.inr (some 53)), .inl 24] (mk s)) f) Z s0 b n G0 H T1 (hG G m 23) O m cnt dep 23) : AStp Z s0 b n G0 H T G O m cnt dep := by
  obtain ⟨m0, mc, c30, d0, d3⟩ := ui_c hU
  have hst : stp 24 := by unfold stp; omega
  obtain ⟨T1, p1, hk1, N0, M0⟩ := nxt Z hT hk
  have q0 := tk_o hk
  have q1 := tk_o hk1
  by_cases hcn : cnt < 30
  · by_cases hd : dep < 3
    · rcases ho hcn T1 hk1 with ⟨kd, pl, z0, z1, z2⟩ | ⟨T2, G2, o1, hk2, o2, o3, o4, o5, o5b, o6, o7⟩
      · refine Or.inl ⟨kd, pl, z0, fun s h => ?_, fun t0 t h => ?_⟩
        · obtain ⟨ek, e6, -, e1, e2, e4⟩ := cu_k h
          have e6 := e6 (Or.inl h2)
          rw [h2] at ek
          rw [hv] at e6
          obtain ⟨s1, a1, x1, -⟩ := cu_adv N0 h
          have f2 : s1.1 54 2 = m := x1.2.2.2.1
          have x1 := cu_S x1 (hG_e (G0 := G0) (k := 23) m0 (fun _ _ => rfl)) (fun _ _ _ _ x => x)
          obtain ⟨s2, a2, x2⟩ := z1 s1 x1
          have a2 : ∀ f : Int → mW → mO, mm_kI (mm_run (zP Z) 10 [.inr (.inr (some 53)), .inl 24] (mk s1)) f = f 0 (mk s2) := a2
          exact ⟨_, fun f => by
            rw [B_X1_readStep]
            simp (disch := first | with_reducible assumption | omega) only [↓sm, ↓reduceIte, ↓if_pos, ↓if_neg, kI, kJ, kR, kV, w32_eq, w64_eq, reduceCtorEq, Int.reduceAdd, Int.reduceMul, Int.reduceSub, o_c53, ↓o_g53_0, ↓o_g53_1, ↓o_g53_2, ↓o_g53_3, o_c5, o_c54, ↓rI5_5 ek, ↓rI5_6 e6, ↓c_begins_t Z s hst, ↓rI54_1 e1, ↓rI53_4 e4, ↓B_X1_readStep_42 Z, ↓B_X1_readStep_45 Z, ↓B_X1_readStep_57 Z, ↓B_X1_readStep_77 Z, ↓a1, ↓rI54_2 f2, ↓a2], x2⟩
        · obtain ⟨r1, r142, r143, r18, e22, e23, hm, rO, rA⟩ := id h
          have em : ∀ f : Int → mO, (mm_ld 0 (mk t) 142 1895).bind f = f m := fun f => by rw [r_at r142 f 1895 (by omega) (by omega), hm]
          have ew : wn (tK T) (tV T) = 23 := (if_pos h2).trans (by rw [hv]; decide)
          have c0 : ∀ f : Int → mW → mO, mm_kI (mm_run (zP Z) 235 [.inr (.inr (some 141)), .inr (.inr (some 1))] (mk t)) f = f 23 (mk t) := fun f => by rw [r_inW Z hT hk h.1, ew]
          obtain ⟨t1, y1, r1⟩ := ru_adv M0 (ru_head h m0 (cnt + 1) 23)
          unfold hT1 at y1
          have z95 : (zt (uA (uF t 141 23 (cnt + 1)) 142 (1992 + 6 * m) (23)) (1992 + 6 * m)).2 142 1895 = m := (zt_1895 t m0 (cnt + 1) 23).trans ((congrFun r142 1895).trans hm)
          obtain ⟨t2, b2, r2⟩ := z2 t0 t1 r1
          exact ⟨_, fun f => by
            rw [B_X12_autumnStep]
            simp (disch := first | with_reducible assumption | omega) only [↓sm, ↓reduceIte, ↓if_pos, ↓if_neg, kI, kJ, kR, kV, w32_eq, w64_eq, reduceCtorEq, Int.reduceAdd, Int.reduceMul, Int.reduceSub, o_c141, ↓o_g141_0, ↓o_g141_1, ↓o_g141_5, ↓o_g141_6, ↓o_g141_7, ↓o_g141_8, ↓o_g141_9, ↓o_g141_21, ↓o_g141_25, ↓o_g141_26, ↓o_g141_27, ↓o_g141_28, ↓o_g141_29, ↓o_g141_30, ↓o_g141_31, ↓o_g141_34, ↓o_g141_35, ↓o_g141_36, ↓c0, ↓em, B_X12_autumnStep_21 Z, B_X12_autumnStep_24 Z, ↓B_X12_autumnStep_41 Z, ↓B_X12_autumnStep_52 Z, ↓B_X12_autumnStep_62 Z, ↓B_X12_autumnStep_71 Z, ↓rI141_22 e22, ↓rI141_23 e23, ↓o_p141_23, ↓a_st142, ↓r_rowz Z]
            rw [B_X12_autumnStep_80]
            simp (disch := first | with_reducible assumption | omega) only [↓sm, ↓reduceIte, ↓if_pos, ↓if_neg, kI, kJ, kR, kV, w32_eq, w64_eq, reduceCtorEq, Int.reduceAdd, Int.reduceMul, Int.reduceSub, o_c141, ↓o_g141_0, ↓o_g141_1, ↓o_g141_5, ↓o_g141_6, ↓o_g141_7, ↓o_g141_8, ↓o_g141_9, ↓o_g141_21, ↓o_g141_25, ↓o_g141_26, ↓o_g141_27, ↓o_g141_28, ↓o_g141_29, ↓o_g141_30, ↓o_g141_31, ↓o_g141_34, ↓o_g141_35, ↓o_g141_36, ↓a_ld142, ↓z95, ↓a_st142, ↓y1, ↓B_X12_autumnStep_123 Z, ↓b2], r2⟩
      · obtain ⟨T3, p3, hk3, N2, M2⟩ := nxt Z hT hk2
        have q2 := tk_o hk2
        have lo : ∀ j, j < 1888 → G2 j = G0 j := fun j hj => (o2 j (by omega)).trans (hG_L m0 hL j hj)
        have n24' : mixS G0 G2 (104 + 6 * m) ≠ 24 := by
          rw [mixS_r0 m0]
          have := o5
          have := o5b
          omega
        have no : opn (mixS G0 G2 (104 + 6 * m)) := by
          rw [mixS_r0 m0]
          unfold opn
          have := o5
          have := o5b
          omega
        have o4' : mixS G0 G2 (104 + 6 * m + 4) = 0 := by
          rw [mixS_r m0 (by omega)]
          exact o4
        by_cases qs : tK T2 = 6 ∧ tV T2 = 59
        · refine Or.inr ⟨T3, G2, mm_upd O dep m, m + 1, cnt + 1, dep + 1, by omega, hk3, UI_open hU (by omega) (by omega) (hG_e m0 o2) o3 n24' no o4', lo, fun s h => ?_, fun t0 t h => ?_⟩
          · obtain ⟨ek, e6, -, e1, e2, e4⟩ := cu_k h
            have e6 := e6 (Or.inl h2)
            rw [h2] at ek
            rw [hv] at e6
            obtain ⟨s1, a1, x1, -⟩ := cu_adv N0 h
            have f2 : s1.1 54 2 = m := x1.2.2.2.1
            have x1 := cu_S x1 (hG_e (G0 := G0) (k := 23) m0 (fun _ _ => rfl)) (fun _ _ _ _ x => x)
            obtain ⟨s2, a2, x2⟩ := o6 s1 x1
            have a2 : ∀ f : Int → mW → mO, mm_kI (mm_run (zP Z) 10 [.inr (.inr (some 53)), .inl 24] (mk s1)) f = f 1 (mk s2) := a2
            have f4 : s2.1 53 4 = dep := x2.2.2.2.2.1
            have f5 : (uA s2 60 dep m).1 53 4 = dep := f4
            have pp : ∀ f : mW → mO, mm_kV (mm_run (zP Z) 200 [.inr (.inr (some 60)), .inl dep, .inl m] (mk s2)) f = f (mk (uA s2 60 dep m)) := fun f => k_put Z _ (q := 60) (n := 3) rfl dep m (by omega) (by omega) f
            have x2 := cu_push x2 d0
            obtain ⟨s3, a3, x3⟩ := cu_semi N2 x2 qs
            exact ⟨_, fun f => by
              rw [B_X1_readStep]
              simp (disch := first | with_reducible assumption | omega) only [↓sm, ↓reduceIte, ↓if_pos, ↓if_neg, kI, kJ, kR, kV, w32_eq, w64_eq, reduceCtorEq, Int.reduceAdd, Int.reduceMul, Int.reduceSub, o_c53, ↓o_g53_0, ↓o_g53_1, ↓o_g53_2, ↓o_g53_3, o_c5, o_c54, ↓rI5_5 ek, ↓rI5_6 e6, ↓c_begins_t Z s hst, ↓rI54_1 e1, ↓rI53_4 e4, ↓B_X1_readStep_42 Z, ↓B_X1_readStep_45 Z, ↓B_X1_readStep_57 Z, ↓B_X1_readStep_77 Z, ↓a1, ↓rI54_2 f2, ↓a2, ↓rI53_4 f4, ↓pp, ↓rI53_4 f5, ↓o_p53_4, ↓a3], x3⟩
          · obtain ⟨r1, r142, r143, r18, e22, e23, hm, rO, rA⟩ := id h
            have em : ∀ f : Int → mO, (mm_ld 0 (mk t) 142 1895).bind f = f m := fun f => by rw [r_at r142 f 1895 (by omega) (by omega), hm]
            have ew : wn (tK T) (tV T) = 23 := (if_pos h2).trans (by rw [hv]; decide)
            have c0 : ∀ f : Int → mW → mO, mm_kI (mm_run (zP Z) 235 [.inr (.inr (some 141)), .inr (.inr (some 1))] (mk t)) f = f 23 (mk t) := fun f => by rw [r_inW Z hT hk h.1, ew]
            obtain ⟨t1, y1, r1⟩ := ru_adv M0 (ru_head h m0 (cnt + 1) 23)
            unfold hT1 at y1
            have z95 : (zt (uA (uF t 141 23 (cnt + 1)) 142 (1992 + 6 * m) (23)) (1992 + 6 * m)).2 142 1895 = m := (zt_1895 t m0 (cnt + 1) 23).trans ((congrFun r142 1895).trans hm)
            obtain ⟨t2, b2, r2⟩ := o7 t0 t1 r1
            have g4 : t2.1 141 22 = dep := r2.2.2.2.2.1
            have g5 : (uA t2 149 dep m).1 141 22 = dep := g4
            have r2 := ru_push r2 m
            obtain ⟨t3, b3, r3⟩ := ru_semi hk2 M2 r2 qs
            exact ⟨_, fun f => by
              rw [B_X12_autumnStep]
              simp (disch := first | with_reducible assumption | omega) only [↓sm, ↓reduceIte, ↓if_pos, ↓if_neg, kI, kJ, kR, kV, w32_eq, w64_eq, reduceCtorEq, Int.reduceAdd, Int.reduceMul, Int.reduceSub, o_c141, ↓o_g141_0, ↓o_g141_1, ↓o_g141_5, ↓o_g141_6, ↓o_g141_7, ↓o_g141_8, ↓o_g141_9, ↓o_g141_21, ↓o_g141_25, ↓o_g141_26, ↓o_g141_27, ↓o_g141_28, ↓o_g141_29, ↓o_g141_30, ↓o_g141_31, ↓o_g141_34, ↓o_g141_35, ↓o_g141_36, ↓c0, ↓em, B_X12_autumnStep_21 Z, B_X12_autumnStep_24 Z, ↓B_X12_autumnStep_41 Z, ↓B_X12_autumnStep_52 Z, ↓B_X12_autumnStep_62 Z, ↓B_X12_autumnStep_71 Z, ↓rI141_22 e22, ↓rI141_23 e23, ↓o_p141_23, ↓a_st142, ↓r_rowz Z]
              rw [B_X12_autumnStep_80]
              simp (disch := first | with_reducible assumption | omega) only [↓sm, ↓reduceIte, ↓if_pos, ↓if_neg, kI, kJ, kR, kV, w32_eq, w64_eq, reduceCtorEq, Int.reduceAdd, Int.reduceMul, Int.reduceSub, o_c141, ↓o_g141_0, ↓o_g141_1, ↓o_g141_5, ↓o_g141_6, ↓o_g141_7, ↓o_g141_8, ↓o_g141_9, ↓o_g141_21, ↓o_g141_25, ↓o_g141_26, ↓o_g141_27, ↓o_g141_28, ↓o_g141_29, ↓o_g141_30, ↓o_g141_31, ↓o_g141_34, ↓o_g141_35, ↓o_g141_36, ↓a_ld142, ↓z95, ↓a_st142, ↓y1, ↓B_X12_autumnStep_123 Z, ↓b2, ↓rI141_22 g4, ↓a_st149, ↓rI141_22 g5, ↓o_p141_22, ↓b3], r3⟩
        · refine Or.inl ⟨fkd T2, tF T2, fkd_1 _, fun s h => ?_, fun t0 t h => ?_⟩
          · obtain ⟨ek, e6, -, e1, e2, e4⟩ := cu_k h
            have e6 := e6 (Or.inl h2)
            rw [h2] at ek
            rw [hv] at e6
            obtain ⟨s1, a1, x1, -⟩ := cu_adv N0 h
            have f2 : s1.1 54 2 = m := x1.2.2.2.1
            have x1 := cu_S x1 (hG_e (G0 := G0) (k := 23) m0 (fun _ _ => rfl)) (fun _ _ _ _ x => x)
            obtain ⟨s2, a2, x2⟩ := o6 s1 x1
            have a2 : ∀ f : Int → mW → mO, mm_kI (mm_run (zP Z) 10 [.inr (.inr (some 53)), .inl 24] (mk s1)) f = f 1 (mk s2) := a2
            have f4 : s2.1 53 4 = dep := x2.2.2.2.2.1
            have f5 : (uA s2 60 dep m).1 53 4 = dep := f4
            have pp : ∀ f : mW → mO, mm_kV (mm_run (zP Z) 200 [.inr (.inr (some 60)), .inl dep, .inl m] (mk s2)) f = f (mk (uA s2 60 dep m)) := fun f => k_put Z _ (q := 60) (n := 3) rfl dep m (by omega) (by omega) f
            have x2 := cu_push x2 d0
            obtain ⟨s3, a3, x3⟩ := cu_semif Z x2 qs
            exact ⟨_, fun f => by
              rw [B_X1_readStep]
              simp (disch := first | with_reducible assumption | omega) only [↓sm, ↓reduceIte, ↓if_pos, ↓if_neg, kI, kJ, kR, kV, w32_eq, w64_eq, reduceCtorEq, Int.reduceAdd, Int.reduceMul, Int.reduceSub, o_c53, ↓o_g53_0, ↓o_g53_1, ↓o_g53_2, ↓o_g53_3, o_c5, o_c54, ↓rI5_5 ek, ↓rI5_6 e6, ↓c_begins_t Z s hst, ↓rI54_1 e1, ↓rI53_4 e4, ↓B_X1_readStep_42 Z, ↓B_X1_readStep_45 Z, ↓B_X1_readStep_57 Z, ↓B_X1_readStep_77 Z, ↓a1, ↓rI54_2 f2, ↓a2, ↓rI53_4 f4, ↓pp, ↓rI53_4 f5, ↓o_p53_4, ↓a3], x3⟩
          · obtain ⟨r1, r142, r143, r18, e22, e23, hm, rO, rA⟩ := id h
            have em : ∀ f : Int → mO, (mm_ld 0 (mk t) 142 1895).bind f = f m := fun f => by rw [r_at r142 f 1895 (by omega) (by omega), hm]
            have ew : wn (tK T) (tV T) = 23 := (if_pos h2).trans (by rw [hv]; decide)
            have c0 : ∀ f : Int → mW → mO, mm_kI (mm_run (zP Z) 235 [.inr (.inr (some 141)), .inr (.inr (some 1))] (mk t)) f = f 23 (mk t) := fun f => by rw [r_inW Z hT hk h.1, ew]
            obtain ⟨t1, y1, r1⟩ := ru_adv M0 (ru_head h m0 (cnt + 1) 23)
            unfold hT1 at y1
            have z95 : (zt (uA (uF t 141 23 (cnt + 1)) 142 (1992 + 6 * m) (23)) (1992 + 6 * m)).2 142 1895 = m := (zt_1895 t m0 (cnt + 1) 23).trans ((congrFun r142 1895).trans hm)
            obtain ⟨t2, b2, r2⟩ := o7 t0 t1 r1
            have g4 : t2.1 141 22 = dep := r2.2.2.2.2.1
            have g5 : (uA t2 149 dep m).1 141 22 = dep := g4
            have r2 := ru_push r2 m
            obtain ⟨t3, b3, r3⟩ := ru_semif Z hk2 r2 lo qs
            exact ⟨_, fun f => by
              rw [B_X12_autumnStep]
              simp (disch := first | with_reducible assumption | omega) only [↓sm, ↓reduceIte, ↓if_pos, ↓if_neg, kI, kJ, kR, kV, w32_eq, w64_eq, reduceCtorEq, Int.reduceAdd, Int.reduceMul, Int.reduceSub, o_c141, ↓o_g141_0, ↓o_g141_1, ↓o_g141_5, ↓o_g141_6, ↓o_g141_7, ↓o_g141_8, ↓o_g141_9, ↓o_g141_21, ↓o_g141_25, ↓o_g141_26, ↓o_g141_27, ↓o_g141_28, ↓o_g141_29, ↓o_g141_30, ↓o_g141_31, ↓o_g141_34, ↓o_g141_35, ↓o_g141_36, ↓c0, ↓em, B_X12_autumnStep_21 Z, B_X12_autumnStep_24 Z, ↓B_X12_autumnStep_41 Z, ↓B_X12_autumnStep_52 Z, ↓B_X12_autumnStep_62 Z, ↓B_X12_autumnStep_71 Z, ↓rI141_22 e22, ↓rI141_23 e23, ↓o_p141_23, ↓a_st142, ↓r_rowz Z]
              rw [B_X12_autumnStep_80]
              simp (disch := first | with_reducible assumption | omega) only [↓sm, ↓reduceIte, ↓if_pos, ↓if_neg, kI, kJ, kR, kV, w32_eq, w64_eq, reduceCtorEq, Int.reduceAdd, Int.reduceMul, Int.reduceSub, o_c141, ↓o_g141_0, ↓o_g141_1, ↓o_g141_5, ↓o_g141_6, ↓o_g141_7, ↓o_g141_8, ↓o_g141_9, ↓o_g141_21, ↓o_g141_25, ↓o_g141_26, ↓o_g141_27, ↓o_g141_28, ↓o_g141_29, ↓o_g141_30, ↓o_g141_31, ↓o_g141_34, ↓o_g141_35, ↓o_g141_36, ↓a_ld142, ↓z95, ↓a_st142, ↓y1, ↓B_X12_autumnStep_123 Z, ↓b2, ↓rI141_22 g4, ↓a_st149, ↓rI141_22 g5, ↓o_p141_22, ↓b3], r3⟩
    · refine Or.inl ⟨7, tF T, by omega, fun s h => ?_, fun t0 t h => ?_⟩
      · obtain ⟨ek, e6, -, e1, e2, e4⟩ := cu_k h
        have e6 := e6 (Or.inl h2)
        rw [h2] at ek
        rw [hv] at e6
        obtain ⟨s1, a1, x1⟩ := cu_fails Z h 7
        exact ⟨_, fun f => by
          rw [B_X1_readStep]
          simp (disch := first | with_reducible assumption | omega) only [↓sm, ↓reduceIte, ↓if_pos, ↓if_neg, kI, kJ, kR, kV, w32_eq, w64_eq, reduceCtorEq, Int.reduceAdd, Int.reduceMul, Int.reduceSub, o_c53, ↓o_g53_0, ↓o_g53_1, ↓o_g53_2, ↓o_g53_3, o_c5, o_c54, ↓rI5_5 ek, ↓rI5_6 e6, ↓c_begins_t Z s hst, ↓rI54_1 e1, ↓rI53_4 e4, ↓B_X1_readStep_42 Z, ↓B_X1_readStep_45 Z, ↓B_X1_readStep_57 Z, ↓B_X1_readStep_77 Z, ↓a1], x1⟩
      · obtain ⟨r1, r142, r143, r18, e22, e23, hm, rO, rA⟩ := id h
        have em : ∀ f : Int → mO, (mm_ld 0 (mk t) 142 1895).bind f = f m := fun f => by rw [r_at r142 f 1895 (by omega) (by omega), hm]
        have ew : wn (tK T) (tV T) = 23 := (if_pos h2).trans (by rw [hv]; decide)
        have c0 : ∀ f : Int → mW → mO, mm_kI (mm_run (zP Z) 235 [.inr (.inr (some 141)), .inr (.inr (some 1))] (mk t)) f = f 23 (mk t) := fun f => by rw [r_inW Z hT hk h.1, ew]
        obtain ⟨t1, b1, y1⟩ := ru_fails Z hk h hL (k := 7) (by omega)
        exact ⟨_, fun f => by
          rw [B_X12_autumnStep]
          simp (disch := first | with_reducible assumption | omega) only [↓sm, ↓reduceIte, ↓if_pos, ↓if_neg, kI, kJ, kR, kV, w32_eq, w64_eq, reduceCtorEq, Int.reduceAdd, Int.reduceMul, Int.reduceSub, o_c141, ↓o_g141_0, ↓o_g141_1, ↓o_g141_5, ↓o_g141_6, ↓o_g141_7, ↓o_g141_8, ↓o_g141_9, ↓o_g141_21, ↓o_g141_25, ↓o_g141_26, ↓o_g141_27, ↓o_g141_28, ↓o_g141_29, ↓o_g141_30, ↓o_g141_31, ↓o_g141_34, ↓o_g141_35, ↓o_g141_36, ↓c0, ↓em, B_X12_autumnStep_21 Z, B_X12_autumnStep_24 Z, ↓B_X12_autumnStep_41 Z, ↓B_X12_autumnStep_52 Z, ↓B_X12_autumnStep_62 Z, ↓B_X12_autumnStep_71 Z, ↓rI141_22 e22, ↓rI141_23 e23, ↓o_p141_23, ↓a_st142, ↓r_rowz Z, ↓b1], y1⟩
  · refine Or.inl ⟨6, tF T, by omega, fun s h => ?_, fun t0 t h => ?_⟩
    · obtain ⟨ek, e6, -, e1, e2, e4⟩ := cu_k h
      have e6 := e6 (Or.inl h2)
      rw [h2] at ek
      rw [hv] at e6
      obtain ⟨s1, a1, x1⟩ := cu_fails Z h 6
      exact ⟨_, fun f => by
        rw [B_X1_readStep]
        simp (disch := first | with_reducible assumption | omega) only [↓sm, ↓reduceIte, ↓if_pos, ↓if_neg, kI, kJ, kR, kV, w32_eq, w64_eq, reduceCtorEq, Int.reduceAdd, Int.reduceMul, Int.reduceSub, o_c53, ↓o_g53_0, ↓o_g53_1, ↓o_g53_2, ↓o_g53_3, o_c5, o_c54, ↓rI5_5 ek, ↓rI5_6 e6, ↓c_begins_t Z s hst, ↓rI54_1 e1, ↓rI53_4 e4, ↓B_X1_readStep_42 Z, ↓B_X1_readStep_45 Z, ↓B_X1_readStep_57 Z, ↓B_X1_readStep_77 Z, ↓a1], x1⟩
    · obtain ⟨r1, r142, r143, r18, e22, e23, hm, rO, rA⟩ := id h
      have em : ∀ f : Int → mO, (mm_ld 0 (mk t) 142 1895).bind f = f m := fun f => by rw [r_at r142 f 1895 (by omega) (by omega), hm]
      have ew : wn (tK T) (tV T) = 23 := (if_pos h2).trans (by rw [hv]; decide)
      have c0 : ∀ f : Int → mW → mO, mm_kI (mm_run (zP Z) 235 [.inr (.inr (some 141)), .inr (.inr (some 1))] (mk t)) f = f 23 (mk t) := fun f => by rw [r_inW Z hT hk h.1, ew]
      obtain ⟨t1, b1, y1⟩ := ru_fails Z hk h hL (k := 6) (by omega)
      exact ⟨_, fun f => by
        rw [B_X12_autumnStep]
        simp (disch := first | with_reducible assumption | omega) only [↓sm, ↓reduceIte, ↓if_pos, ↓if_neg, kI, kJ, kR, kV, w32_eq, w64_eq, reduceCtorEq, Int.reduceAdd, Int.reduceMul, Int.reduceSub, o_c141, ↓o_g141_0, ↓o_g141_1, ↓o_g141_5, ↓o_g141_6, ↓o_g141_7, ↓o_g141_8, ↓o_g141_9, ↓o_g141_21, ↓o_g141_25, ↓o_g141_26, ↓o_g141_27, ↓o_g141_28, ↓o_g141_29, ↓o_g141_30, ↓o_g141_31, ↓o_g141_34, ↓o_g141_35, ↓o_g141_36, ↓c0, ↓em, B_X12_autumnStep_21 Z, B_X12_autumnStep_24 Z, ↓B_X12_autumnStep_41 Z, ↓B_X12_autumnStep_52 Z, ↓B_X12_autumnStep_62 Z, ↓B_X12_autumnStep_71 Z, ↓rI141_22 e22, ↓rI141_23 e23, ↓o_p141_23, ↓a_st142, ↓r_rowz Z, ↓b1], y1⟩
set_option maxHeartbeats 8000000 in
theorem st_when (Z : mX) {s0 : mS} {b : Int → Int} {n : Int} (hT : TB0 b n) {G0 H G O : Int → Int} {m cnt dep : Int} {T : mT} (hk : TT b n T) (hL : ∀ j, j < 1888 → G j = G0 j) (hU : UI (mixS G0 G) O m cnt dep) (h2 : tK T = 2) (hv : tV T = 22) (ho : cnt < 30 → ∀ T1, TT b n T1 → Ord (fun s f => mm_kI (mm_run (zP Z) 11 [.inr (.inr (some 53))] (mk s)) f) Z s0 b n G0 H T1 (hG G m 22) O m cnt dep 22) : AStp Z s0 b n G0 H T G O m cnt dep := by
  obtain ⟨m0, mc, c30, d0, d3⟩ := ui_c hU
  have hst : stp 22 := by unfold stp; omega
  obtain ⟨T1, p1, hk1, N0, M0⟩ := nxt Z hT hk
  have q0 := tk_o hk
  have q1 := tk_o hk1
  by_cases hcn : cnt < 30
  · by_cases hd : dep < 3
    · rcases ho hcn T1 hk1 with ⟨kd, pl, z0, z1, z2⟩ | ⟨T2, G2, o1, hk2, o2, o3, o4, o5, o5b, o6, o7⟩
      · refine Or.inl ⟨kd, pl, z0, fun s h => ?_, fun t0 t h => ?_⟩
        · obtain ⟨ek, e6, -, e1, e2, e4⟩ := cu_k h
          have e6 := e6 (Or.inl h2)
          rw [h2] at ek
          rw [hv] at e6
          obtain ⟨s1, a1, x1, -⟩ := cu_adv N0 h
          have f2 : s1.1 54 2 = m := x1.2.2.2.1
          have x1 := cu_S x1 (hG_e (G0 := G0) (k := 22) m0 (fun _ _ => rfl)) (fun _ _ _ _ x => x)
          obtain ⟨s2, a2, x2⟩ := z1 s1 x1
          have a2 : ∀ f : Int → mW → mO, mm_kI (mm_run (zP Z) 11 [.inr (.inr (some 53))] (mk s1)) f = f 0 (mk s2) := a2
          exact ⟨_, fun f => by
            rw [B_X1_readStep]
            simp (disch := first | with_reducible assumption | omega) only [↓sm, ↓reduceIte, ↓if_pos, ↓if_neg, kI, kJ, kR, kV, w32_eq, w64_eq, reduceCtorEq, Int.reduceAdd, Int.reduceMul, Int.reduceSub, o_c53, ↓o_g53_0, ↓o_g53_1, ↓o_g53_2, ↓o_g53_3, o_c5, o_c54, ↓rI5_5 ek, ↓rI5_6 e6, ↓c_begins_t Z s hst, ↓rI54_1 e1, ↓rI53_4 e4, ↓B_X1_readStep_42 Z, ↓B_X1_readStep_45 Z, ↓B_X1_readStep_57 Z, ↓B_X1_readStep_77 Z, ↓a1, ↓rI54_2 f2, ↓a2], x2⟩
        · obtain ⟨r1, r142, r143, r18, e22, e23, hm, rO, rA⟩ := id h
          have em : ∀ f : Int → mO, (mm_ld 0 (mk t) 142 1895).bind f = f m := fun f => by rw [r_at r142 f 1895 (by omega) (by omega), hm]
          have ew : wn (tK T) (tV T) = 22 := (if_pos h2).trans (by rw [hv]; decide)
          have c0 : ∀ f : Int → mW → mO, mm_kI (mm_run (zP Z) 235 [.inr (.inr (some 141)), .inr (.inr (some 1))] (mk t)) f = f 22 (mk t) := fun f => by rw [r_inW Z hT hk h.1, ew]
          obtain ⟨t1, y1, r1⟩ := ru_adv M0 (ru_head h m0 (cnt + 1) 22)
          unfold hT1 at y1
          have z95 : (zt (uA (uF t 141 23 (cnt + 1)) 142 (1992 + 6 * m) (22)) (1992 + 6 * m)).2 142 1895 = m := (zt_1895 t m0 (cnt + 1) 22).trans ((congrFun r142 1895).trans hm)
          obtain ⟨t2, b2, r2⟩ := z2 t0 t1 r1
          exact ⟨_, fun f => by
            rw [B_X12_autumnStep]
            simp (disch := first | with_reducible assumption | omega) only [↓sm, ↓reduceIte, ↓if_pos, ↓if_neg, kI, kJ, kR, kV, w32_eq, w64_eq, reduceCtorEq, Int.reduceAdd, Int.reduceMul, Int.reduceSub, o_c141, ↓o_g141_0, ↓o_g141_1, ↓o_g141_5, ↓o_g141_6, ↓o_g141_7, ↓o_g141_8, ↓o_g141_9, ↓o_g141_21, ↓o_g141_25, ↓o_g141_26, ↓o_g141_27, ↓o_g141_28, ↓o_g141_29, ↓o_g141_30, ↓o_g141_31, ↓o_g141_34, ↓o_g141_35, ↓o_g141_36, ↓c0, ↓em, B_X12_autumnStep_21 Z, B_X12_autumnStep_24 Z, ↓B_X12_autumnStep_41 Z, ↓B_X12_autumnStep_52 Z, ↓B_X12_autumnStep_62 Z, ↓B_X12_autumnStep_71 Z, ↓rI141_22 e22, ↓rI141_23 e23, ↓o_p141_23, ↓a_st142, ↓r_rowz Z]
            rw [B_X12_autumnStep_80]
            simp (disch := first | with_reducible assumption | omega) only [↓sm, ↓reduceIte, ↓if_pos, ↓if_neg, kI, kJ, kR, kV, w32_eq, w64_eq, reduceCtorEq, Int.reduceAdd, Int.reduceMul, Int.reduceSub, o_c141, ↓o_g141_0, ↓o_g141_1, ↓o_g141_5, ↓o_g141_6, ↓o_g141_7, ↓o_g141_8, ↓o_g141_9, ↓o_g141_21, ↓o_g141_25, ↓o_g141_26, ↓o_g141_27, ↓o_g141_28, ↓o_g141_29, ↓o_g141_30, ↓o_g141_31, ↓o_g141_34, ↓o_g141_35, ↓o_g141_36, ↓a_ld142, ↓z95, ↓a_st142, ↓y1, ↓B_X12_autumnStep_123 Z, ↓b2], r2⟩
      · obtain ⟨T3, p3, hk3, N2, M2⟩ := nxt Z hT hk2
        have q2 := tk_o hk2
        have lo : ∀ j, j < 1888 → G2 j = G0 j := fun j hj => (o2 j (by omega)).trans (hG_L m0 hL j hj)
        have n24' : mixS G0 G2 (104 + 6 * m) ≠ 24 := by
          rw [mixS_r0 m0]
          have := o5
          have := o5b
          omega
        have no : opn (mixS G0 G2 (104 + 6 * m)) := by
          rw [mixS_r0 m0]
          unfold opn
          have := o5
          have := o5b
          omega
        have o4' : mixS G0 G2 (104 + 6 * m + 4) = 0 := by
          rw [mixS_r m0 (by omega)]
          exact o4
        by_cases qs : tK T2 = 6 ∧ tV T2 = 59
        · refine Or.inr ⟨T3, G2, mm_upd O dep m, m + 1, cnt + 1, dep + 1, by omega, hk3, UI_open hU (by omega) (by omega) (hG_e m0 o2) o3 n24' no o4', lo, fun s h => ?_, fun t0 t h => ?_⟩
          · obtain ⟨ek, e6, -, e1, e2, e4⟩ := cu_k h
            have e6 := e6 (Or.inl h2)
            rw [h2] at ek
            rw [hv] at e6
            obtain ⟨s1, a1, x1, -⟩ := cu_adv N0 h
            have f2 : s1.1 54 2 = m := x1.2.2.2.1
            have x1 := cu_S x1 (hG_e (G0 := G0) (k := 22) m0 (fun _ _ => rfl)) (fun _ _ _ _ x => x)
            obtain ⟨s2, a2, x2⟩ := o6 s1 x1
            have a2 : ∀ f : Int → mW → mO, mm_kI (mm_run (zP Z) 11 [.inr (.inr (some 53))] (mk s1)) f = f 1 (mk s2) := a2
            have f4 : s2.1 53 4 = dep := x2.2.2.2.2.1
            have f5 : (uA s2 60 dep m).1 53 4 = dep := f4
            have pp : ∀ f : mW → mO, mm_kV (mm_run (zP Z) 200 [.inr (.inr (some 60)), .inl dep, .inl m] (mk s2)) f = f (mk (uA s2 60 dep m)) := fun f => k_put Z _ (q := 60) (n := 3) rfl dep m (by omega) (by omega) f
            have x2 := cu_push x2 d0
            obtain ⟨s3, a3, x3⟩ := cu_semi N2 x2 qs
            exact ⟨_, fun f => by
              rw [B_X1_readStep]
              simp (disch := first | with_reducible assumption | omega) only [↓sm, ↓reduceIte, ↓if_pos, ↓if_neg, kI, kJ, kR, kV, w32_eq, w64_eq, reduceCtorEq, Int.reduceAdd, Int.reduceMul, Int.reduceSub, o_c53, ↓o_g53_0, ↓o_g53_1, ↓o_g53_2, ↓o_g53_3, o_c5, o_c54, ↓rI5_5 ek, ↓rI5_6 e6, ↓c_begins_t Z s hst, ↓rI54_1 e1, ↓rI53_4 e4, ↓B_X1_readStep_42 Z, ↓B_X1_readStep_45 Z, ↓B_X1_readStep_57 Z, ↓B_X1_readStep_77 Z, ↓a1, ↓rI54_2 f2, ↓a2, ↓rI53_4 f4, ↓pp, ↓rI53_4 f5, ↓o_p53_4, ↓a3], x3⟩
          · obtain ⟨r1, r142, r143, r18, e22, e23, hm, rO, rA⟩ := id h
            have em : ∀ f : Int → mO, (mm_ld 0 (mk t) 142 1895).bind f = f m := fun f => by rw [r_at r142 f 1895 (by omega) (by omega), hm]
            have ew : wn (tK T) (tV T) = 22 := (if_pos h2).trans (by rw [hv]; decide)
            have c0 : ∀ f : Int → mW → mO, mm_kI (mm_run (zP Z) 235 [.inr (.inr (some 141)), .inr (.inr (some 1))] (mk t)) f = f 22 (mk t) := fun f => by rw [r_inW Z hT hk h.1, ew]
            obtain ⟨t1, y1, r1⟩ := ru_adv M0 (ru_head h m0 (cnt + 1) 22)
            unfold hT1 at y1
            have z95 : (zt (uA (uF t 141 23 (cnt + 1)) 142 (1992 + 6 * m) (22)) (1992 + 6 * m)).2 142 1895 = m := (zt_1895 t m0 (cnt + 1) 22).trans ((congrFun r142 1895).trans hm)
            obtain ⟨t2, b2, r2⟩ := o7 t0 t1 r1
            have g4 : t2.1 141 22 = dep := r2.2.2.2.2.1
            have g5 : (uA t2 149 dep m).1 141 22 = dep := g4
            have r2 := ru_push r2 m
            obtain ⟨t3, b3, r3⟩ := ru_semi hk2 M2 r2 qs
            exact ⟨_, fun f => by
              rw [B_X12_autumnStep]
              simp (disch := first | with_reducible assumption | omega) only [↓sm, ↓reduceIte, ↓if_pos, ↓if_neg, kI, kJ, kR, kV, w32_eq, w64_eq, reduceCtorEq, Int.reduceAdd, Int.reduceMul, Int.reduceSub, o_c141, ↓o_g141_0, ↓o_g141_1, ↓o_g141_5, ↓o_g141_6, ↓o_g141_7, ↓o_g141_8, ↓o_g141_9, ↓o_g141_21, ↓o_g141_25, ↓o_g141_26, ↓o_g141_27, ↓o_g141_28, ↓o_g141_29, ↓o_g141_30, ↓o_g141_31, ↓o_g141_34, ↓o_g141_35, ↓o_g141_36, ↓c0, ↓em, B_X12_autumnStep_21 Z, B_X12_autumnStep_24 Z, ↓B_X12_autumnStep_41 Z, ↓B_X12_autumnStep_52 Z, ↓B_X12_autumnStep_62 Z, ↓B_X12_autumnStep_71 Z, ↓rI141_22 e22, ↓rI141_23 e23, ↓o_p141_23, ↓a_st142, ↓r_rowz Z]
              rw [B_X12_autumnStep_80]
              simp (disch := first | with_reducible assumption | omega) only [↓sm, ↓reduceIte, ↓if_pos, ↓if_neg, kI, kJ, kR, kV, w32_eq, w64_eq, reduceCtorEq, Int.reduceAdd, Int.reduceMul, Int.reduceSub, o_c141, ↓o_g141_0, ↓o_g141_1, ↓o_g141_5, ↓o_g141_6, ↓o_g141_7, ↓o_g141_8, ↓o_g141_9, ↓o_g141_21, ↓o_g141_25, ↓o_g141_26, ↓o_g141_27, ↓o_g141_28, ↓o_g141_29, ↓o_g141_30, ↓o_g141_31, ↓o_g141_34, ↓o_g141_35, ↓o_g141_36, ↓a_ld142, ↓z95, ↓a_st142, ↓y1, ↓B_X12_autumnStep_123 Z, ↓b2, ↓rI141_22 g4, ↓a_st149, ↓rI141_22 g5, ↓o_p141_22, ↓b3], r3⟩
        · refine Or.inl ⟨fkd T2, tF T2, fkd_1 _, fun s h => ?_, fun t0 t h => ?_⟩
          · obtain ⟨ek, e6, -, e1, e2, e4⟩ := cu_k h
            have e6 := e6 (Or.inl h2)
            rw [h2] at ek
            rw [hv] at e6
            obtain ⟨s1, a1, x1, -⟩ := cu_adv N0 h
            have f2 : s1.1 54 2 = m := x1.2.2.2.1
            have x1 := cu_S x1 (hG_e (G0 := G0) (k := 22) m0 (fun _ _ => rfl)) (fun _ _ _ _ x => x)
            obtain ⟨s2, a2, x2⟩ := o6 s1 x1
            have a2 : ∀ f : Int → mW → mO, mm_kI (mm_run (zP Z) 11 [.inr (.inr (some 53))] (mk s1)) f = f 1 (mk s2) := a2
            have f4 : s2.1 53 4 = dep := x2.2.2.2.2.1
            have f5 : (uA s2 60 dep m).1 53 4 = dep := f4
            have pp : ∀ f : mW → mO, mm_kV (mm_run (zP Z) 200 [.inr (.inr (some 60)), .inl dep, .inl m] (mk s2)) f = f (mk (uA s2 60 dep m)) := fun f => k_put Z _ (q := 60) (n := 3) rfl dep m (by omega) (by omega) f
            have x2 := cu_push x2 d0
            obtain ⟨s3, a3, x3⟩ := cu_semif Z x2 qs
            exact ⟨_, fun f => by
              rw [B_X1_readStep]
              simp (disch := first | with_reducible assumption | omega) only [↓sm, ↓reduceIte, ↓if_pos, ↓if_neg, kI, kJ, kR, kV, w32_eq, w64_eq, reduceCtorEq, Int.reduceAdd, Int.reduceMul, Int.reduceSub, o_c53, ↓o_g53_0, ↓o_g53_1, ↓o_g53_2, ↓o_g53_3, o_c5, o_c54, ↓rI5_5 ek, ↓rI5_6 e6, ↓c_begins_t Z s hst, ↓rI54_1 e1, ↓rI53_4 e4, ↓B_X1_readStep_42 Z, ↓B_X1_readStep_45 Z, ↓B_X1_readStep_57 Z, ↓B_X1_readStep_77 Z, ↓a1, ↓rI54_2 f2, ↓a2, ↓rI53_4 f4, ↓pp, ↓rI53_4 f5, ↓o_p53_4, ↓a3], x3⟩
          · obtain ⟨r1, r142, r143, r18, e22, e23, hm, rO, rA⟩ := id h
            have em : ∀ f : Int → mO, (mm_ld 0 (mk t) 142 1895).bind f = f m := fun f => by rw [r_at r142 f 1895 (by omega) (by omega), hm]
            have ew : wn (tK T) (tV T) = 22 := (if_pos h2).trans (by rw [hv]; decide)
            have c0 : ∀ f : Int → mW → mO, mm_kI (mm_run (zP Z) 235 [.inr (.inr (some 141)), .inr (.inr (some 1))] (mk t)) f = f 22 (mk t) := fun f => by rw [r_inW Z hT hk h.1, ew]
            obtain ⟨t1, y1, r1⟩ := ru_adv M0 (ru_head h m0 (cnt + 1) 22)
            unfold hT1 at y1
            have z95 : (zt (uA (uF t 141 23 (cnt + 1)) 142 (1992 + 6 * m) (22)) (1992 + 6 * m)).2 142 1895 = m := (zt_1895 t m0 (cnt + 1) 22).trans ((congrFun r142 1895).trans hm)
            obtain ⟨t2, b2, r2⟩ := o7 t0 t1 r1
            have g4 : t2.1 141 22 = dep := r2.2.2.2.2.1
            have g5 : (uA t2 149 dep m).1 141 22 = dep := g4
            have r2 := ru_push r2 m
            obtain ⟨t3, b3, r3⟩ := ru_semif Z hk2 r2 lo qs
            exact ⟨_, fun f => by
              rw [B_X12_autumnStep]
              simp (disch := first | with_reducible assumption | omega) only [↓sm, ↓reduceIte, ↓if_pos, ↓if_neg, kI, kJ, kR, kV, w32_eq, w64_eq, reduceCtorEq, Int.reduceAdd, Int.reduceMul, Int.reduceSub, o_c141, ↓o_g141_0, ↓o_g141_1, ↓o_g141_5, ↓o_g141_6, ↓o_g141_7, ↓o_g141_8, ↓o_g141_9, ↓o_g141_21, ↓o_g141_25, ↓o_g141_26, ↓o_g141_27, ↓o_g141_28, ↓o_g141_29, ↓o_g141_30, ↓o_g141_31, ↓o_g141_34, ↓o_g141_35, ↓o_g141_36, ↓c0, ↓em, B_X12_autumnStep_21 Z, B_X12_autumnStep_24 Z, ↓B_X12_autumnStep_41 Z, ↓B_X12_autumnStep_52 Z, ↓B_X12_autumnStep_62 Z, ↓B_X12_autumnStep_71 Z, ↓rI141_22 e22, ↓rI141_23 e23, ↓o_p141_23, ↓a_st142, ↓r_rowz Z]
              rw [B_X12_autumnStep_80]
              simp (disch := first | with_reducible assumption | omega) only [↓sm, ↓reduceIte, ↓if_pos, ↓if_neg, kI, kJ, kR, kV, w32_eq, w64_eq, reduceCtorEq, Int.reduceAdd, Int.reduceMul, Int.reduceSub, o_c141, ↓o_g141_0, ↓o_g141_1, ↓o_g141_5, ↓o_g141_6, ↓o_g141_7, ↓o_g141_8, ↓o_g141_9, ↓o_g141_21, ↓o_g141_25, ↓o_g141_26, ↓o_g141_27, ↓o_g141_28, ↓o_g141_29, ↓o_g141_30, ↓o_g141_31, ↓o_g141_34, ↓o_g141_35, ↓o_g141_36, ↓a_ld142, ↓z95, ↓a_st142, ↓y1, ↓B_X12_autumnStep_123 Z, ↓b2, ↓rI141_22 g4, ↓a_st149, ↓rI141_22 g5, ↓o_p141_22, ↓b3], r3⟩
    · refine Or.inl ⟨7, tF T, by omega, fun s h => ?_, fun t0 t h => ?_⟩
      · obtain ⟨ek, e6, -, e1, e2, e4⟩ := cu_k h
        have e6 := e6 (Or.inl h2)
        rw [h2] at ek
        rw [hv] at e6
        obtain ⟨s1, a1, x1⟩ := cu_fails Z h 7
        exact ⟨_, fun f => by
          rw [B_X1_readStep]
          simp (disch := first | with_reducible assumption | omega) only [↓sm, ↓reduceIte, ↓if_pos, ↓if_neg, kI, kJ, kR, kV, w32_eq, w64_eq, reduceCtorEq, Int.reduceAdd, Int.reduceMul, Int.reduceSub, o_c53, ↓o_g53_0, ↓o_g53_1, ↓o_g53_2, ↓o_g53_3, o_c5, o_c54, ↓rI5_5 ek, ↓rI5_6 e6, ↓c_begins_t Z s hst, ↓rI54_1 e1, ↓rI53_4 e4, ↓B_X1_readStep_42 Z, ↓B_X1_readStep_45 Z, ↓B_X1_readStep_57 Z, ↓B_X1_readStep_77 Z, ↓a1], x1⟩
      · obtain ⟨r1, r142, r143, r18, e22, e23, hm, rO, rA⟩ := id h
        have em : ∀ f : Int → mO, (mm_ld 0 (mk t) 142 1895).bind f = f m := fun f => by rw [r_at r142 f 1895 (by omega) (by omega), hm]
        have ew : wn (tK T) (tV T) = 22 := (if_pos h2).trans (by rw [hv]; decide)
        have c0 : ∀ f : Int → mW → mO, mm_kI (mm_run (zP Z) 235 [.inr (.inr (some 141)), .inr (.inr (some 1))] (mk t)) f = f 22 (mk t) := fun f => by rw [r_inW Z hT hk h.1, ew]
        obtain ⟨t1, b1, y1⟩ := ru_fails Z hk h hL (k := 7) (by omega)
        exact ⟨_, fun f => by
          rw [B_X12_autumnStep]
          simp (disch := first | with_reducible assumption | omega) only [↓sm, ↓reduceIte, ↓if_pos, ↓if_neg, kI, kJ, kR, kV, w32_eq, w64_eq, reduceCtorEq, Int.reduceAdd, Int.reduceMul, Int.reduceSub, o_c141, ↓o_g141_0, ↓o_g141_1, ↓o_g141_5, ↓o_g141_6, ↓o_g141_7, ↓o_g141_8, ↓o_g141_9, ↓o_g141_21, ↓o_g141_25, ↓o_g141_26, ↓o_g141_27, ↓o_g141_28, ↓o_g141_29, ↓o_g141_30, ↓o_g141_31, ↓o_g141_34, ↓o_g141_35, ↓o_g141_36, ↓c0, ↓em, B_X12_autumnStep_21 Z, B_X12_autumnStep_24 Z, ↓B_X12_autumnStep_41 Z, ↓B_X12_autumnStep_52 Z, ↓B_X12_autumnStep_62 Z, ↓B_X12_autumnStep_71 Z, ↓rI141_22 e22, ↓rI141_23 e23, ↓o_p141_23, ↓a_st142, ↓r_rowz Z, ↓b1], y1⟩
  · refine Or.inl ⟨6, tF T, by omega, fun s h => ?_, fun t0 t h => ?_⟩
    · obtain ⟨ek, e6, -, e1, e2, e4⟩ := cu_k h
      have e6 := e6 (Or.inl h2)
      rw [h2] at ek
      rw [hv] at e6
      obtain ⟨s1, a1, x1⟩ := cu_fails Z h 6
      exact ⟨_, fun f => by
        rw [B_X1_readStep]
        simp (disch := first | with_reducible assumption | omega) only [↓sm, ↓reduceIte, ↓if_pos, ↓if_neg, kI, kJ, kR, kV, w32_eq, w64_eq, reduceCtorEq, Int.reduceAdd, Int.reduceMul, Int.reduceSub, o_c53, ↓o_g53_0, ↓o_g53_1, ↓o_g53_2, ↓o_g53_3, o_c5, o_c54, ↓rI5_5 ek, ↓rI5_6 e6, ↓c_begins_t Z s hst, ↓rI54_1 e1, ↓rI53_4 e4, ↓B_X1_readStep_42 Z, ↓B_X1_readStep_45 Z, ↓B_X1_readStep_57 Z, ↓B_X1_readStep_77 Z, ↓a1], x1⟩
    · obtain ⟨r1, r142, r143, r18, e22, e23, hm, rO, rA⟩ := id h
      have em : ∀ f : Int → mO, (mm_ld 0 (mk t) 142 1895).bind f = f m := fun f => by rw [r_at r142 f 1895 (by omega) (by omega), hm]
      have ew : wn (tK T) (tV T) = 22 := (if_pos h2).trans (by rw [hv]; decide)
      have c0 : ∀ f : Int → mW → mO, mm_kI (mm_run (zP Z) 235 [.inr (.inr (some 141)), .inr (.inr (some 1))] (mk t)) f = f 22 (mk t) := fun f => by rw [r_inW Z hT hk h.1, ew]
      obtain ⟨t1, b1, y1⟩ := ru_fails Z hk h hL (k := 6) (by omega)
      exact ⟨_, fun f => by
        rw [B_X12_autumnStep]
        simp (disch := first | with_reducible assumption | omega) only [↓sm, ↓reduceIte, ↓if_pos, ↓if_neg, kI, kJ, kR, kV, w32_eq, w64_eq, reduceCtorEq, Int.reduceAdd, Int.reduceMul, Int.reduceSub, o_c141, ↓o_g141_0, ↓o_g141_1, ↓o_g141_5, ↓o_g141_6, ↓o_g141_7, ↓o_g141_8, ↓o_g141_9, ↓o_g141_21, ↓o_g141_25, ↓o_g141_26, ↓o_g141_27, ↓o_g141_28, ↓o_g141_29, ↓o_g141_30, ↓o_g141_31, ↓o_g141_34, ↓o_g141_35, ↓o_g141_36, ↓c0, ↓em, B_X12_autumnStep_21 Z, B_X12_autumnStep_24 Z, ↓B_X12_autumnStep_41 Z, ↓B_X12_autumnStep_52 Z, ↓B_X12_autumnStep_62 Z, ↓B_X12_autumnStep_71 Z, ↓rI141_22 e22, ↓rI141_23 e23, ↓o_p141_23, ↓a_st142, ↓r_rowz Z, ↓b1], y1⟩
