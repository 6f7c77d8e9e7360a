theorem op_autumns (Z : mX) (s : mS) (hI : Inv s) (a : Int) : OpI Z s 145 269 [.inl a] := by
  obtain ⟨i1, i2, ⟨w, cs⟩, i4, ⟨x1, x2, x3, x4, x5, x6⟩, i6, i7, i8⟩ := id hI
  by_cases ha : 0 ≤ a ∧ a ≤ s.1 5 4
  · obtain ⟨a0, a1⟩ := ha
    by_cases ha3 : a ≤ 300
    · obtain ⟨T, hT, hk, ⟨s1, c1, ct1, g1⟩, RB⟩ := begun Z hI a0 a1
      have tk := tk_o hk
      have hC : CS (sbC s a) 7 (s.2 142) (s.2 143) := CS_fr cs (fun k => sbC_1 s a (by omega) k) (fun j _ _ => rfl)
      have hL : ∀ j, j < 1888 → mm_upd (s.2 142) 1895 0 j = s.2 142 j := fun j hj => up_ne (by omega)
      have cu : CU (sbC s a) (s.2 6) a T (mixS (s.2 142) (mm_upd (s.2 142) 1895 0)) (fun _ => 0) (opS (fun _ => 0) 0) 0 0 0 (aiC s1) := aiC_CU ct1 g1
      have rst : ∀ u : mS, u.2 142 = s.2 142 → u.2 143 = s.2 143 → u.2 147 = s.2 147 → u.1 141 10 = s.1 141 10 → ∃ t2, (∀ f : Int → mW → mO, mm_kI (mm_run (zP Z) 269 [.inr (.inr (some 141)), .inl a] (mk u)) f = mm_kI (mm_at (zP Z) 269 22 [some (.inr (.inr (some 141))), none, some (.inl 1), none] [] (mk t2)) f) ∧ RU (beR u a) (s.2 6) a T (mm_upd (s.2 142) 1895 0) (s.2 143) (fun _ => 0) 0 0 0 t2 := by
        intro u e1 e2 e3 e4
        obtain ⟨t1, b1, y1, h1⟩ := RB u e3 e4 300 (by omega)
        refine ⟨uF (uF (uA t1 142 1895 0) 141 22 0) 141 23 0, fun f => ?_, aut_r0 e1 e2 y1 h1⟩
        rw [B_X12_autumns]
        simp (disch := first | with_reducible assumption | omega) only [↓sm, ↓reduceIte, ↓if_pos, ↓if_neg, kI, kJ, kR, kV, w32_eq, w64_eq, reduceCtorEq, Int.reduceAdd, Int.reduceMul, Int.reduceSub, o_c141, ↓o_g141_0, ↓o_g141_1, ↓o_g141_5, ↓o_g141_6, ↓o_g141_7, ↓o_g141_8, ↓o_g141_9, ↓o_g141_21, ↓o_g141_25, ↓o_g141_26, ↓o_g141_27, ↓o_g141_28, ↓o_g141_29, ↓o_g141_30, ↓o_g141_31, ↓o_g141_34, ↓o_g141_35, ↓o_g141_36, ↓b1, ↓a_st142, ↓o_p141_22, ↓o_p141_23]
      rcases auts_all Z (s0 := sbC s a) hT ha3 w hC _ T (mm_upd (s.2 142) 1895 0) (fun _ => 0) 0 0 0 0 (Nat.le_refl _) hk (UI_0 _) hL (by omega) (by omega) with ⟨kd, pl, z0, z1, z2⟩ | ⟨T', G', O', m', c', z0, z1, z2, z3⟩
      · obtain ⟨s3, b3, f9, f10, g3⟩ := z1 _ cu
        have cr : ∀ f : Int → mW → mO, mm_kI (mm_run (zP Z) 6 [.inr (.inr (some 53))] (mk s1)) f = f 0 (mk s3) := fun f => by rw [c_readA, b3, kI]
        obtain ⟨t2, cT, rp⟩ := rst (uF s3 3 15 9) (g3.1 142 (by unfold pcA; omega)) (g3.1 143 (by unfold pcA; omega)) (g3.1 147 (by unfold pcA; omega)) (by rw [uF_1, if_neg (by omega), g3.2 141 10 (by unfold pcF; omega)]; exact sbC_1 s a (by omega) 10)
        obtain ⟨t3, b4, r18, r17, g4, m1, m2⟩ := z2 _ t2 rp
        refine ⟨-1, uF s3 3 15 9, uF (uF t3 141 16 kd) 141 2 9, fun f => ?_, fun f => ?_, inv_fault hI f9 f10 g3 r17 g4 m1 m2⟩
        · rw [B_X11_autumns]
          simp (disch := first | with_reducible assumption | omega) only [↓sm, ↓reduceIte, ↓if_pos, ↓if_neg, kI, kJ, kR, kV, w32_eq, w64_eq, reduceCtorEq, Int.reduceAdd, Int.reduceMul, Int.reduceSub, o_c3, ↓o_g3_0, ↓o_g3_1, ↓o_g3_2, ↓o_g3_3, ↓o_g3_4, ↓o_g3_5, ↓o_g3_6, ↓o_g3_7, ↓o_g3_8, ↓o_g3_9, ↓o_g3_10, ↓o_g3_11, ↓o_g3_12, ↓o_g3_13, ↓o_g3_14, ↓o_g3_15, ↓o_g3_16, ↓o_g3_17, ↓a_ln4, ↓a_ld4, ↓a_ln61, ↓a_ld61, ↓a_ln62, ↓a_ld62, ↓d_none Z, ↓d_done Z, ↓d_refused Z, ↓d_granted Z, o_c5, o_c53, ↓o_g5_4, ↓k_isIn_t Z, ↓c1, ↓cr]
        · have n0 : ¬ kd = 0 := by omega
          rw [cT, b4, B_X12_autumns_41]
          simp (disch := first | with_reducible assumption | omega) only [↓sm, ↓reduceIte, ↓if_pos, ↓if_neg, kI, kJ, kR, kV, w32_eq, w64_eq, reduceCtorEq, Int.reduceAdd, Int.reduceMul, Int.reduceSub, o_c141, ↓rI141_18 r18, ↓o_g141_23, ↓r_taken_f Z r18 z0]
      · obtain ⟨s3, b3, hc⟩ := z2 _ cu
        have g3 := hc.2.2.2.2.2.2.2
        have cr : ∀ f : Int → mW → mO, mm_kI (mm_run (zP Z) 6 [.inr (.inr (some 53))] (mk s1)) f = f 1 (mk s3) := fun f => by rw [c_readA, b3, kI]
        have u33 : isU 33 := by unfold isU; omega
        have u54 : isU 54 := by unfold isU; omega
        have ga : Ag (fun q => 34 ≤ q ∧ q ≤ 38) (fun q _ => q = 33) s3 (cpU s3 33 54) := cpU_Ag (Ag_refl _ _ s3) 33 54 (fun r r0 r1 => by omega) (fun r k hr => hr)
        have u2 : ∀ q, ¬ (34 ≤ q ∧ q ≤ 38) → ¬ pcA q → (auC s3).2 q = s.2 q := fun q h1 h2 => (ga.1 q h1).trans (g3.1 q h2)
        obtain ⟨t2, cT, rp⟩ := rst (auC s3) (u2 142 (by omega) (by unfold pcA; omega)) (u2 143 (by omega) (by unfold pcA; omega)) (u2 147 (by omega) (by unfold pcA; omega)) (by unfold auC; rw [uF_1, if_neg (by omega), ga.2 141 10 (by omega), g3.2 141 10 (by unfold pcG; omega)]; exact sbC_1 s a (by omega) 10)
        obtain ⟨t3, b4, hu⟩ := z3 _ t2 rp
        have v1 : (cpU s3 33 54).1 33 1 = c' := (cpU_f s3 33 54 (by omega)).2.1.trans hc.2.2.1
        refine ⟨c', auC s3, auR t3 m', fun f => ?_, fun f => ?_, inv_aut hI z0 hc z1 hu⟩
        · have n3 : ¬ 300 < a := by omega
          rw [B_X11_autumns]
          simp (disch := first | with_reducible assumption | omega) only [↓sm, ↓reduceIte, ↓if_pos, ↓if_neg, kI, kJ, kR, kV, w32_eq, w64_eq, reduceCtorEq, Int.reduceAdd, Int.reduceMul, Int.reduceSub, o_c3, ↓o_g3_0, ↓o_g3_1, ↓o_g3_2, ↓o_g3_3, ↓o_g3_4, ↓o_g3_5, ↓o_g3_6, ↓o_g3_7, ↓o_g3_8, ↓o_g3_9, ↓o_g3_10, ↓o_g3_11, ↓o_g3_12, ↓o_g3_13, ↓o_g3_14, ↓o_g3_15, ↓o_g3_16, ↓o_g3_17, ↓a_ln4, ↓a_ld4, ↓a_ln61, ↓a_ld61, ↓a_ln62, ↓a_ld62, ↓d_none Z, ↓d_done Z, ↓d_refused Z, ↓d_granted Z, o_c5, o_c53, o_c33, ↓o_g5_4, ↓k_isIn_t Z, ↓c1, ↓cr, ↓o_g53_2, ↓c_copyU Z s3 u33 u54 (by omega) (Or.inr hc.2.1), ↓rI33_1 v1]
          rfl
        · obtain ⟨m0, mc, c30, -, -⟩ := ui_c z0
          have e18 : t3.1 141 18 = 0 := hu.2.2.2.1
          have e95 : ∀ f : Int → mO, (mm_ld 0 (mk t3) 142 1895).bind f = f m' := fun f => by rw [r_at hu.2.1 f 1895 (by omega) (by omega), hu.2.2.2.2.2.2.1]
          have lp := lp_cS Z (uA t3 142 7 m') (c := c') e18 hu.2.2.2.2.2.1 104 (by omega) (by omega)
          rw [cS_0] at lp
          rw [cT, b4, B_X12_autumns_41]
          simp (disch := first | with_reducible assumption | omega) only [↓sm, ↓reduceIte, ↓if_pos, ↓if_neg, kI, kJ, kR, kV, w32_eq, w64_eq, reduceCtorEq, Int.reduceAdd, Int.reduceMul, Int.reduceSub, o_c141, ↓o_g141_0, ↓o_g141_1, ↓o_g141_5, ↓o_g141_6, ↓o_g141_7, ↓o_g141_8, ↓o_g141_9, ↓o_g141_21, ↓o_g141_25, ↓o_g141_26, ↓o_g141_27, ↓o_g141_28, ↓o_g141_29, ↓o_g141_30, ↓o_g141_31, ↓o_g141_34, ↓o_g141_35, ↓o_g141_36, ↓rI141_18 e18, ↓e95, ↓a_st142, ↓lp]
          rfl
    · refine op_rdx hI (-1) 1 (fun f => ?_) (fun t e f => ?_)
      · have n3 : 300 < a := by omega
        rw [B_X11_autumns]
        simp (disch := first | assumption | omega) only [↓sm, ↓reduceIte, ↓if_pos, ↓if_neg, kI, kJ, kR, kV, w32_eq, w64_eq, reduceCtorEq, Int.reduceAdd, Int.reduceMul, Int.reduceSub, o_c3, ↓o_g3_0, ↓o_g3_1, ↓o_g3_2, ↓o_g3_3, ↓o_g3_4, ↓o_g3_5, ↓o_g3_6, ↓o_g3_7, ↓o_g3_8, ↓o_g3_9, ↓o_g3_10, ↓o_g3_11, ↓o_g3_12, ↓o_g3_13, ↓o_g3_14, ↓o_g3_15, ↓o_g3_16, ↓o_g3_17, ↓a_ln4, ↓a_ld4, ↓a_ln61, ↓a_ld61, ↓a_ln62, ↓a_ld62, ↓d_none Z, ↓d_done Z, ↓d_refused Z, ↓d_granted Z, ↓o_g5_4, ↓k_isIn_t Z]
      · rw [B_X12_autumns]
        simp (disch := first | with_reducible assumption | omega) only [↓sm, ↓reduceIte, ↓if_pos, ↓if_neg, kI, kJ, kR, kV, w32_eq, w64_eq, reduceCtorEq, Int.reduceAdd, Int.reduceMul, Int.reduceSub, o_c141, ↓r_begins_f Z (t := t) (n := a) (l := 300) (by omega), ↓d_refuse Z]
  · refine op_rdx hI (-1) 1 (fun f => ?_) (fun t e f => ?_)
    · rw [B_X11_autumns]
      simp (disch := first | assumption | omega) only [↓sm, ↓reduceIte, ↓if_pos, ↓if_neg, kI, kJ, kR, kV, w32_eq, w64_eq, reduceCtorEq, Int.reduceAdd, Int.reduceMul, Int.reduceSub, o_c3, ↓o_g3_0, ↓o_g3_1, ↓o_g3_2, ↓o_g3_3, ↓o_g3_4, ↓o_g3_5, ↓o_g3_6, ↓o_g3_7, ↓o_g3_8, ↓o_g3_9, ↓o_g3_10, ↓o_g3_11, ↓o_g3_12, ↓o_g3_13, ↓o_g3_14, ↓o_g3_15, ↓o_g3_16, ↓o_g3_17, ↓a_ln4, ↓a_ld4, ↓a_ln61, ↓a_ld61, ↓a_ln62, ↓a_ld62, ↓d_none Z, ↓d_done Z, ↓d_refused Z, ↓d_granted Z, ↓o_g5_4, ↓k_isIn_f Z]
    · have e10 : t.1 141 10 = s.1 5 4 := by rw [e, uF_1, if_neg (by omega)]; exact x1.symm
      rw [B_X12_autumns]
      simp (disch := first | with_reducible assumption | omega) only [↓sm, ↓reduceIte, ↓if_pos, ↓if_neg, kI, kJ, kR, kV, w32_eq, w64_eq, reduceCtorEq, Int.reduceAdd, Int.reduceMul, Int.reduceSub, o_c141, ↓r_begins_f Z (t := t) (n := a) (l := 300) (by rw [e10]; omega), ↓d_refuse Z]
