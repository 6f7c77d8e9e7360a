/-! pour, copyThorns, feed, fault, lived -/
theorem op_pour (Z : mX) (s : mS) (hI : Inv s) (a p b q n : Int) (hp : zR32 p) (hq : zR32 q) : OpI Z s 142 226 [.inl a, .inl p, .inl b, .inl q, .inl n] := by
  unfold zR32 at hp hq
  by_cases ha : 0 ≤ a ∧ a < 4
  case neg =>
    refine op_rd hI 0 1 (fun f => ?_) (fun t e f => ?_)
    · rw [B_X11_pour]
      by_cases hb : 0 ≤ b ∧ b < 4
      · simp (disch := first | assumption | omega) only [↓sm, ↓reduceIte, ↓if_pos, ↓if_neg, kI, kJ, kR, kV, w32_eq, w64_eq, reduceCtorEq, Int.reduceAdd, Int.reduceMul, Int.reduceSub, o_c3, ↓o_g3_0, ↓o_g3_1, ↓o_g3_2, ↓o_g3_3, ↓o_g3_4, ↓o_g3_5, ↓o_g3_6, ↓o_g3_7, ↓o_g3_8, ↓o_g3_9, ↓o_g3_10, ↓o_g3_11, ↓o_g3_12, ↓o_g3_13, ↓o_g3_14, ↓o_g3_15, ↓o_g3_16, ↓o_g3_17, ↓a_ln4, ↓a_ld4, ↓a_ln61, ↓a_ld61, ↓a_ln62, ↓a_ld62, ↓d_none Z, ↓d_done Z, ↓d_refused Z, ↓d_granted Z, ↓c_trayAt_f Z _ a ha, ↓c_trayAt_t Z, reduceCtorEq]
      · simp (disch := first | assumption | omega) only [↓sm, ↓reduceIte, ↓if_pos, ↓if_neg, kI, kJ, kR, kV, w32_eq, w64_eq, reduceCtorEq, Int.reduceAdd, Int.reduceMul, Int.reduceSub, o_c3, ↓o_g3_0, ↓o_g3_1, ↓o_g3_2, ↓o_g3_3, ↓o_g3_4, ↓o_g3_5, ↓o_g3_6, ↓o_g3_7, ↓o_g3_8, ↓o_g3_9, ↓o_g3_10, ↓o_g3_11, ↓o_g3_12, ↓o_g3_13, ↓o_g3_14, ↓o_g3_15, ↓o_g3_16, ↓o_g3_17, ↓a_ln4, ↓a_ld4, ↓a_ln61, ↓a_ld61, ↓a_ln62, ↓a_ld62, ↓d_none Z, ↓d_done Z, ↓d_refused Z, ↓d_granted Z, ↓c_trayAt_f Z, reduceCtorEq]
    · rw [B_X12_pour]
      simp (disch := first | assumption | omega) only [↓sm, ↓reduceIte, ↓if_pos, ↓if_neg, kI, kJ, kR, kV, w32_eq, w64_eq, reduceCtorEq, Int.reduceAdd, Int.reduceMul, Int.reduceSub, o_c141, ↓o_g141_0, ↓o_g141_1, ↓o_g141_5, ↓o_g141_6, ↓o_g141_7, ↓o_g141_8, ↓o_g141_9, ↓o_g141_21, ↓o_g141_25, ↓o_g141_26, ↓o_g141_27, ↓o_g141_28, ↓o_g141_29, ↓o_g141_30, ↓o_g141_31, ↓o_g141_34, ↓o_g141_35, ↓o_g141_36, ↓d_refuse Z, ↓d_gives Z, ↓d_is0 Z, ↓d_is1 Z, ↓d_isFrom_t Z, ↓d_isFrom_f Z, ↓d_orNone_t Z, ↓d_orNone_f Z, ↓r_isTray_f Z]
  case pos =>
    by_cases hb : 0 ≤ b ∧ b < 4
    case neg =>
      refine op_rd hI 0 1 (fun f => ?_) (fun t e f => ?_)
      · rw [B_X11_pour]
        simp (disch := first | assumption | omega) only [↓sm, ↓reduceIte, ↓if_pos, ↓if_neg, kI, kJ, kR, kV, w32_eq, w64_eq, reduceCtorEq, Int.reduceAdd, Int.reduceMul, Int.reduceSub, o_c3, ↓o_g3_0, ↓o_g3_1, ↓o_g3_2, ↓o_g3_3, ↓o_g3_4, ↓o_g3_5, ↓o_g3_6, ↓o_g3_7, ↓o_g3_8, ↓o_g3_9, ↓o_g3_10, ↓o_g3_11, ↓o_g3_12, ↓o_g3_13, ↓o_g3_14, ↓o_g3_15, ↓o_g3_16, ↓o_g3_17, ↓a_ln4, ↓a_ld4, ↓a_ln61, ↓a_ld61, ↓a_ln62, ↓a_ld62, ↓d_none Z, ↓d_done Z, ↓d_refused Z, ↓d_granted Z, ↓c_trayAt_t Z, ↓c_trayAt_f Z, reduceCtorEq]
      · rw [B_X12_pour]
        simp (disch := first | assumption | omega) only [↓sm, ↓reduceIte, ↓if_pos, ↓if_neg, kI, kJ, kR, kV, w32_eq, w64_eq, reduceCtorEq, Int.reduceAdd, Int.reduceMul, Int.reduceSub, o_c141, ↓o_g141_0, ↓o_g141_1, ↓o_g141_5, ↓o_g141_6, ↓o_g141_7, ↓o_g141_8, ↓o_g141_9, ↓o_g141_21, ↓o_g141_25, ↓o_g141_26, ↓o_g141_27, ↓o_g141_28, ↓o_g141_29, ↓o_g141_30, ↓o_g141_31, ↓o_g141_34, ↓o_g141_35, ↓o_g141_36, ↓d_refuse Z, ↓d_gives Z, ↓d_is0 Z, ↓d_is1 Z, ↓d_isFrom_t Z, ↓d_isFrom_f Z, ↓d_orNone_t Z, ↓d_orNone_f Z, ↓r_isTray_t Z, ↓r_isTray_f Z]
    case pos =>
      by_cases hn : 0 ≤ p ∧ 0 ≤ q ∧ 0 ≤ n
      case neg =>
        refine op_rd hI 0 1 (fun f => ?_) (fun t e f => ?_)
        · rw [B_X11_pour]
          by_cases p0 : p < 0
          · simp (disch := first | assumption | omega) only [↓sm, ↓reduceIte, ↓if_pos, ↓if_neg, kI, kJ, kR, kV, w32_eq, w64_eq, reduceCtorEq, Int.reduceAdd, Int.reduceMul, Int.reduceSub, o_c3, ↓o_g3_0, ↓o_g3_1, ↓o_g3_2, ↓o_g3_3, ↓o_g3_4, ↓o_g3_5, ↓o_g3_6, ↓o_g3_7, ↓o_g3_8, ↓o_g3_9, ↓o_g3_10, ↓o_g3_11, ↓o_g3_12, ↓o_g3_13, ↓o_g3_14, ↓o_g3_15, ↓o_g3_16, ↓o_g3_17, ↓a_ln4, ↓a_ld4, ↓a_ln61, ↓a_ld61, ↓a_ln62, ↓a_ld62, ↓d_none Z, ↓d_done Z, ↓d_refused Z, ↓d_granted Z, ↓c_trayAt_t Z, reduceCtorEq]
          · by_cases q0 : q < 0
            · simp (disch := first | assumption | omega) only [↓sm, ↓reduceIte, ↓if_pos, ↓if_neg, kI, kJ, kR, kV, w32_eq, w64_eq, reduceCtorEq, Int.reduceAdd, Int.reduceMul, Int.reduceSub, o_c3, ↓o_g3_0, ↓o_g3_1, ↓o_g3_2, ↓o_g3_3, ↓o_g3_4, ↓o_g3_5, ↓o_g3_6, ↓o_g3_7, ↓o_g3_8, ↓o_g3_9, ↓o_g3_10, ↓o_g3_11, ↓o_g3_12, ↓o_g3_13, ↓o_g3_14, ↓o_g3_15, ↓o_g3_16, ↓o_g3_17, ↓a_ln4, ↓a_ld4, ↓a_ln61, ↓a_ld61, ↓a_ln62, ↓a_ld62, ↓d_none Z, ↓d_done Z, ↓d_refused Z, ↓d_granted Z, ↓c_trayAt_t Z, reduceCtorEq]
            · simp (disch := first | assumption | omega) only [↓sm, ↓reduceIte, ↓if_pos, ↓if_neg, kI, kJ, kR, kV, w32_eq, w64_eq, reduceCtorEq, Int.reduceAdd, Int.reduceMul, Int.reduceSub, o_c3, ↓o_g3_0, ↓o_g3_1, ↓o_g3_2, ↓o_g3_3, ↓o_g3_4, ↓o_g3_5, ↓o_g3_6, ↓o_g3_7, ↓o_g3_8, ↓o_g3_9, ↓o_g3_10, ↓o_g3_11, ↓o_g3_12, ↓o_g3_13, ↓o_g3_14, ↓o_g3_15, ↓o_g3_16, ↓o_g3_17, ↓a_ln4, ↓a_ld4, ↓a_ln61, ↓a_ld61, ↓a_ln62, ↓a_ld62, ↓d_none Z, ↓d_done Z, ↓d_refused Z, ↓d_granted Z, ↓c_trayAt_t Z, reduceCtorEq]
        · rw [B_X12_pour]
          by_cases p0 : p < 0
          · simp (disch := first | assumption | omega) only [↓sm, ↓reduceIte, ↓if_pos, ↓if_neg, kI, kJ, kR, kV, w32_eq, w64_eq, reduceCtorEq, Int.reduceAdd, Int.reduceMul, Int.reduceSub, o_c141, ↓o_g141_0, ↓o_g141_1, ↓o_g141_5, ↓o_g141_6, ↓o_g141_7, ↓o_g141_8, ↓o_g141_9, ↓o_g141_21, ↓o_g141_25, ↓o_g141_26, ↓o_g141_27, ↓o_g141_28, ↓o_g141_29, ↓o_g141_30, ↓o_g141_31, ↓o_g141_34, ↓o_g141_35, ↓o_g141_36, ↓d_refuse Z, ↓d_gives Z, ↓d_is0 Z, ↓d_is1 Z, ↓d_isFrom_t Z, ↓d_isFrom_f Z, ↓d_orNone_t Z, ↓d_orNone_f Z, ↓r_isTray_t Z]
          · by_cases q0 : q < 0
            · simp (disch := first | assumption | omega) only [↓sm, ↓reduceIte, ↓if_pos, ↓if_neg, kI, kJ, kR, kV, w32_eq, w64_eq, reduceCtorEq, Int.reduceAdd, Int.reduceMul, Int.reduceSub, o_c141, ↓o_g141_0, ↓o_g141_1, ↓o_g141_5, ↓o_g141_6, ↓o_g141_7, ↓o_g141_8, ↓o_g141_9, ↓o_g141_21, ↓o_g141_25, ↓o_g141_26, ↓o_g141_27, ↓o_g141_28, ↓o_g141_29, ↓o_g141_30, ↓o_g141_31, ↓o_g141_34, ↓o_g141_35, ↓o_g141_36, ↓d_refuse Z, ↓d_gives Z, ↓d_is0 Z, ↓d_is1 Z, ↓d_isFrom_t Z, ↓d_isFrom_f Z, ↓d_orNone_t Z, ↓d_orNone_f Z, ↓r_isTray_t Z]
            · simp (disch := first | assumption | omega) only [↓sm, ↓reduceIte, ↓if_pos, ↓if_neg, kI, kJ, kR, kV, w32_eq, w64_eq, reduceCtorEq, Int.reduceAdd, Int.reduceMul, Int.reduceSub, o_c141, ↓o_g141_0, ↓o_g141_1, ↓o_g141_5, ↓o_g141_6, ↓o_g141_7, ↓o_g141_8, ↓o_g141_9, ↓o_g141_21, ↓o_g141_25, ↓o_g141_26, ↓o_g141_27, ↓o_g141_28, ↓o_g141_29, ↓o_g141_30, ↓o_g141_31, ↓o_g141_34, ↓o_g141_35, ↓o_g141_36, ↓d_refuse Z, ↓d_gives Z, ↓d_is0 Z, ↓d_is1 Z, ↓d_isFrom_t Z, ↓d_isFrom_f Z, ↓d_orNone_t Z, ↓d_orNone_f Z, ↓r_isTray_t Z]
      case pos =>
        have qa := isT_of (k := a.toNat) (by omega)
        have qb := isT_of (k := b.toNat) (by omega)
        obtain ⟨b1, b2, b3, b4, b5, b6, b7⟩ := hI.2.2.2.1 a.toNat (by omega)
        obtain ⟨d1, d2, d3, d4, d5, d6, d7⟩ := hI.2.2.2.1 b.toNat (by omega)
        rw [Int.toNat_of_nonneg ha.1] at b1 b2 b3 b4 b5 b6 b7
        rw [Int.toNat_of_nonneg hb.1] at d1 d2 d3 d4 d5 d6 d7
        by_cases m1 : s.2 145 a = -1
        · refine op_rdx hI 0 2 (fun f => ?_) (fun t e f => ?_)
          · rw [B_X11_pour]
            simp (disch := first | assumption | omega) only [↓sm, ↓reduceIte, ↓if_pos, ↓if_neg, kI, kJ, kR, kV, w32_eq, w64_eq, reduceCtorEq, Int.reduceAdd, Int.reduceMul, Int.reduceSub, o_c3, ↓o_g3_0, ↓o_g3_1, ↓o_g3_2, ↓o_g3_3, ↓o_g3_4, ↓o_g3_5, ↓o_g3_6, ↓o_g3_7, ↓o_g3_8, ↓o_g3_9, ↓o_g3_10, ↓o_g3_11, ↓o_g3_12, ↓o_g3_13, ↓o_g3_14, ↓o_g3_15, ↓o_g3_16, ↓o_g3_17, ↓a_ln4, ↓a_ld4, ↓a_ln61, ↓a_ld61, ↓a_ln62, ↓a_ld62, ↓d_none Z, ↓d_done Z, ↓d_refused Z, ↓d_granted Z, ↓c_trayAt_t Z, t_c qa, ↓c8_isMissing_t Z s qa (by rw [b2, m1]), reduceCtorEq]
          · have e5 : t.2 145 = s.2 145 := by rw [e]; rfl
            rw [B_X12_pour]
            simp (disch := first | assumption | omega) only [↓sm, ↓reduceIte, ↓if_pos, ↓if_neg, kI, kJ, kR, kV, w32_eq, w64_eq, reduceCtorEq, Int.reduceAdd, Int.reduceMul, Int.reduceSub, o_c141, ↓o_g141_0, ↓o_g141_1, ↓o_g141_5, ↓o_g141_6, ↓o_g141_7, ↓o_g141_8, ↓o_g141_9, ↓o_g141_21, ↓o_g141_25, ↓o_g141_26, ↓o_g141_27, ↓o_g141_28, ↓o_g141_29, ↓o_g141_30, ↓o_g141_31, ↓o_g141_34, ↓o_g141_35, ↓o_g141_36, ↓d_refuse Z, ↓d_gives Z, ↓d_is0 Z, ↓d_is1 Z, ↓d_isFrom_t Z, ↓d_isFrom_f Z, ↓d_orNone_t Z, ↓d_orNone_f Z, ↓r_isTray_t Z, ↓a_ld145, e5, m1]
        by_cases m2 : s.2 145 b = -1
        · refine op_rdx hI 0 2 (fun f => ?_) (fun t e f => ?_)
          · rw [B_X11_pour]
            simp (disch := first | assumption | omega) only [↓sm, ↓reduceIte, ↓if_pos, ↓if_neg, kI, kJ, kR, kV, w32_eq, w64_eq, reduceCtorEq, Int.reduceAdd, Int.reduceMul, Int.reduceSub, o_c3, ↓o_g3_0, ↓o_g3_1, ↓o_g3_2, ↓o_g3_3, ↓o_g3_4, ↓o_g3_5, ↓o_g3_6, ↓o_g3_7, ↓o_g3_8, ↓o_g3_9, ↓o_g3_10, ↓o_g3_11, ↓o_g3_12, ↓o_g3_13, ↓o_g3_14, ↓o_g3_15, ↓o_g3_16, ↓o_g3_17, ↓a_ln4, ↓a_ld4, ↓a_ln61, ↓a_ld61, ↓a_ln62, ↓a_ld62, ↓d_none Z, ↓d_done Z, ↓d_refused Z, ↓d_granted Z, ↓c_trayAt_t Z, t_c qa, t_c qb, ↓c8_isMissing_f Z s qa (by rw [b2]; exact m1), ↓c8_isMissing_t Z s qb (by rw [d2, m2]), reduceCtorEq]
          · have e5 : t.2 145 = s.2 145 := by rw [e]; rfl
            rw [B_X12_pour]
            simp (disch := first | assumption | omega) only [↓sm, ↓reduceIte, ↓if_pos, ↓if_neg, kI, kJ, kR, kV, w32_eq, w64_eq, reduceCtorEq, Int.reduceAdd, Int.reduceMul, Int.reduceSub, o_c141, ↓o_g141_0, ↓o_g141_1, ↓o_g141_5, ↓o_g141_6, ↓o_g141_7, ↓o_g141_8, ↓o_g141_9, ↓o_g141_21, ↓o_g141_25, ↓o_g141_26, ↓o_g141_27, ↓o_g141_28, ↓o_g141_29, ↓o_g141_30, ↓o_g141_31, ↓o_g141_34, ↓o_g141_35, ↓o_g141_36, ↓d_refuse Z, ↓d_gives Z, ↓d_is0 Z, ↓d_is1 Z, ↓d_isFrom_t Z, ↓d_isFrom_f Z, ↓d_orNone_t Z, ↓d_orNone_f Z, ↓r_isTray_t Z, ↓a_ld145, e5, m1, m2]
        by_cases m3 : s.2 144 a = s.2 144 b
        case neg =>
          refine op_rdx hI 0 8 (fun f => ?_) (fun t e f => ?_)
          · rw [B_X11_pour]
            simp (disch := first | assumption | omega) only [↓sm, ↓reduceIte, ↓if_pos, ↓if_neg, kI, kJ, kR, kV, w32_eq, w64_eq, reduceCtorEq, Int.reduceAdd, Int.reduceMul, Int.reduceSub, o_c3, ↓o_g3_0, ↓o_g3_1, ↓o_g3_2, ↓o_g3_3, ↓o_g3_4, ↓o_g3_5, ↓o_g3_6, ↓o_g3_7, ↓o_g3_8, ↓o_g3_9, ↓o_g3_10, ↓o_g3_11, ↓o_g3_12, ↓o_g3_13, ↓o_g3_14, ↓o_g3_15, ↓o_g3_16, ↓o_g3_17, ↓a_ln4, ↓a_ld4, ↓a_ln61, ↓a_ld61, ↓a_ln62, ↓a_ld62, ↓d_none Z, ↓d_done Z, ↓d_refused Z, ↓d_granted Z, ↓c_trayAt_t Z, t_c qa, t_c qb, ↓c8_isMissing_f Z s qa (by rw [b2]; exact m1), ↓c8_isMissing_f Z s qb (by rw [d2]; exact m2), ↓t_g1 qa, ↓t_g1 qb, b1, d1, m3, reduceCtorEq]
          · have e5 : t.2 145 = s.2 145 := by rw [e]; rfl
            have e4 : t.2 144 = s.2 144 := by rw [e]; rfl
            rw [B_X12_pour]
            simp (disch := first | assumption | omega) only [↓sm, ↓reduceIte, ↓if_pos, ↓if_neg, kI, kJ, kR, kV, w32_eq, w64_eq, reduceCtorEq, Int.reduceAdd, Int.reduceMul, Int.reduceSub, o_c141, ↓o_g141_0, ↓o_g141_1, ↓o_g141_5, ↓o_g141_6, ↓o_g141_7, ↓o_g141_8, ↓o_g141_9, ↓o_g141_21, ↓o_g141_25, ↓o_g141_26, ↓o_g141_27, ↓o_g141_28, ↓o_g141_29, ↓o_g141_30, ↓o_g141_31, ↓o_g141_34, ↓o_g141_35, ↓o_g141_36, ↓d_refuse Z, ↓d_gives Z, ↓d_is0 Z, ↓d_is1 Z, ↓d_isFrom_t Z, ↓d_isFrom_f Z, ↓d_orNone_t Z, ↓d_orNone_f Z, ↓r_isTray_t Z, ↓a_ld145, ↓a_ld144, e5, e4, m1, m2, m3]
        case pos =>
          have hs : s.1 (76 + 2 * a.toNat) 1 = s.1 (76 + 2 * b.toNat) 1 := by rw [b1, d1, m3]
          by_cases m4 : n ≤ s.2 145 a - p
          case neg =>
            refine op_rdx hI 0 3 (fun f => ?_) (fun t e f => ?_)
            · rw [B_X11_pour]
              simp (disch := first | assumption | omega) only [↓sm, ↓reduceIte, ↓if_pos, ↓if_neg, kI, kJ, kR, kV, w32_eq, w64_eq, reduceCtorEq, Int.reduceAdd, Int.reduceMul, Int.reduceSub, o_c3, ↓o_g3_0, ↓o_g3_1, ↓o_g3_2, ↓o_g3_3, ↓o_g3_4, ↓o_g3_5, ↓o_g3_6, ↓o_g3_7, ↓o_g3_8, ↓o_g3_9, ↓o_g3_10, ↓o_g3_11, ↓o_g3_12, ↓o_g3_13, ↓o_g3_14, ↓o_g3_15, ↓o_g3_16, ↓o_g3_17, ↓a_ln4, ↓a_ld4, ↓a_ln61, ↓a_ld61, ↓a_ln62, ↓a_ld62, ↓d_none Z, ↓d_done Z, ↓d_refused Z, ↓d_granted Z, ↓c_trayAt_t Z, t_c qa, t_c qb, ↓c8_isMissing_f Z s qa (by rw [b2]; exact m1), ↓c8_isMissing_f Z s qb (by rw [d2]; exact m2), ↓t_g1 qa, ↓t_g1 qb, hs, ↓c8_holds_f Z s qa p n (by omega) (by omega) (by omega), reduceCtorEq]
            · have e5 : t.2 145 = s.2 145 := by rw [e]; rfl
              have e4 : t.2 144 = s.2 144 := by rw [e]; rfl
              rw [B_X12_pour]
              simp (disch := first | assumption | omega) only [↓sm, ↓reduceIte, ↓if_pos, ↓if_neg, kI, kJ, kR, kV, w32_eq, w64_eq, reduceCtorEq, Int.reduceAdd, Int.reduceMul, Int.reduceSub, o_c141, ↓o_g141_0, ↓o_g141_1, ↓o_g141_5, ↓o_g141_6, ↓o_g141_7, ↓o_g141_8, ↓o_g141_9, ↓o_g141_21, ↓o_g141_25, ↓o_g141_26, ↓o_g141_27, ↓o_g141_28, ↓o_g141_29, ↓o_g141_30, ↓o_g141_31, ↓o_g141_34, ↓o_g141_35, ↓o_g141_36, ↓d_refuse Z, ↓d_gives Z, ↓d_is0 Z, ↓d_is1 Z, ↓d_isFrom_t Z, ↓d_isFrom_f Z, ↓d_orNone_t Z, ↓d_orNone_f Z, ↓r_isTray_t Z, ↓a_ld145, ↓a_ld144, e5, e4, m1, m2, m3]
          case pos =>
            by_cases m5 : n ≤ s.2 145 b - q
            case neg =>
              refine op_rdx hI 0 3 (fun f => ?_) (fun t e f => ?_)
              · rw [B_X11_pour]
                simp (disch := first | assumption | omega) only [↓sm, ↓reduceIte, ↓if_pos, ↓if_neg, kI, kJ, kR, kV, w32_eq, w64_eq, reduceCtorEq, Int.reduceAdd, Int.reduceMul, Int.reduceSub, o_c3, ↓o_g3_0, ↓o_g3_1, ↓o_g3_2, ↓o_g3_3, ↓o_g3_4, ↓o_g3_5, ↓o_g3_6, ↓o_g3_7, ↓o_g3_8, ↓o_g3_9, ↓o_g3_10, ↓o_g3_11, ↓o_g3_12, ↓o_g3_13, ↓o_g3_14, ↓o_g3_15, ↓o_g3_16, ↓o_g3_17, ↓a_ln4, ↓a_ld4, ↓a_ln61, ↓a_ld61, ↓a_ln62, ↓a_ld62, ↓d_none Z, ↓d_done Z, ↓d_refused Z, ↓d_granted Z, ↓c_trayAt_t Z, t_c qa, t_c qb, ↓c8_isMissing_f Z s qa (by rw [b2]; exact m1), ↓c8_isMissing_f Z s qb (by rw [d2]; exact m2), ↓t_g1 qa, ↓t_g1 qb, hs, ↓c8_holds_t Z s qa p n (by omega) (by omega) (by omega) (by omega), ↓c8_holds_f Z s qb q n (by omega) (by omega) (by omega), reduceCtorEq]
              · have e5 : t.2 145 = s.2 145 := by rw [e]; rfl
                have e4 : t.2 144 = s.2 144 := by rw [e]; rfl
                rw [B_X12_pour]
                simp (disch := first | assumption | omega) only [↓sm, ↓reduceIte, ↓if_pos, ↓if_neg, kI, kJ, kR, kV, w32_eq, w64_eq, reduceCtorEq, Int.reduceAdd, Int.reduceMul, Int.reduceSub, o_c141, ↓o_g141_0, ↓o_g141_1, ↓o_g141_5, ↓o_g141_6, ↓o_g141_7, ↓o_g141_8, ↓o_g141_9, ↓o_g141_21, ↓o_g141_25, ↓o_g141_26, ↓o_g141_27, ↓o_g141_28, ↓o_g141_29, ↓o_g141_30, ↓o_g141_31, ↓o_g141_34, ↓o_g141_35, ↓o_g141_36, ↓d_refuse Z, ↓d_gives Z, ↓d_is0 Z, ↓d_is1 Z, ↓d_isFrom_t Z, ↓d_isFrom_f Z, ↓d_orNone_t Z, ↓d_orNone_f Z, ↓r_isTray_t Z, ↓a_ld145, ↓a_ld144, e5, e4, m1, m2, m3]
            case pos =>
              have F : ∃ F : Int, F = 0 ∧ p < q ∨ F = 1 ∧ ¬ p < q := by
                by_cases h : p < q
                · exact ⟨0, Or.inl ⟨rfl, h⟩⟩
                · exact ⟨1, Or.inr ⟨rfl, h⟩⟩
              obtain ⟨F, hF⟩ := F
              obtain ⟨s1, g1, g4, g⟩ := lp_pour Z a.toNat b.toNat (by omega) (by omega) p q n hn.1 hn.2.1 (by omega) (by omega) F hF 0 hn.2.2 s (Int.le_refl 0) hs
              simp only [Int.toNat_of_nonneg ha.1, Int.toNat_of_nonneg hb.1] at g
              refine op_tr hI 1 0 s1 (fun f => ?_) g4 (fun t _ e4 e5 e6 => ?_)
              · rw [B_X11_pour]
                rcases hF with ⟨rfl, h⟩ | ⟨rfl, h⟩
                · simp (disch := first | assumption | omega) only [↓sm, ↓reduceIte, ↓if_pos, ↓if_neg, kI, kJ, kR, kV, w32_eq, w64_eq, reduceCtorEq, Int.reduceAdd, Int.reduceMul, Int.reduceSub, o_c3, ↓o_g3_0, ↓o_g3_1, ↓o_g3_2, ↓o_g3_3, ↓o_g3_4, ↓o_g3_5, ↓o_g3_6, ↓o_g3_7, ↓o_g3_8, ↓o_g3_9, ↓o_g3_10, ↓o_g3_11, ↓o_g3_12, ↓o_g3_13, ↓o_g3_14, ↓o_g3_15, ↓o_g3_16, ↓o_g3_17, ↓a_ln4, ↓a_ld4, ↓a_ln61, ↓a_ld61, ↓a_ln62, ↓a_ld62, ↓d_none Z, ↓d_done Z, ↓d_refused Z, ↓d_granted Z, ↓c_trayAt_t Z, t_c qa, t_c qb, ↓c8_isMissing_f Z s qa (by rw [b2]; exact m1), ↓c8_isMissing_f Z s qb (by rw [d2]; exact m2), ↓t_g1 qa, ↓t_g1 qb, hs, ↓c8_holds_t Z s qa p n (by omega) (by omega) (by omega) (by omega), ↓c8_holds_t Z s qb q n (by omega) (by omega) (by omega) (by omega), reduceCtorEq, B_X8_take, g1]
                · simp (disch := first | assumption | omega) only [↓sm, ↓reduceIte, ↓if_pos, ↓if_neg, kI, kJ, kR, kV, w32_eq, w64_eq, reduceCtorEq, Int.reduceAdd, Int.reduceMul, Int.reduceSub, o_c3, ↓o_g3_0, ↓o_g3_1, ↓o_g3_2, ↓o_g3_3, ↓o_g3_4, ↓o_g3_5, ↓o_g3_6, ↓o_g3_7, ↓o_g3_8, ↓o_g3_9, ↓o_g3_10, ↓o_g3_11, ↓o_g3_12, ↓o_g3_13, ↓o_g3_14, ↓o_g3_15, ↓o_g3_16, ↓o_g3_17, ↓a_ln4, ↓a_ld4, ↓a_ln61, ↓a_ld61, ↓a_ln62, ↓a_ld62, ↓d_none Z, ↓d_done Z, ↓d_refused Z, ↓d_granted Z, ↓c_trayAt_t Z, t_c qa, t_c qb, ↓c8_isMissing_f Z s qa (by rw [b2]; exact m1), ↓c8_isMissing_f Z s qb (by rw [d2]; exact m2), ↓t_g1 qa, ↓t_g1 qb, hs, ↓c8_holds_t Z s qa p n (by omega) (by omega) (by omega) (by omega), ↓c8_holds_t Z s qb q n (by omega) (by omega) (by omega) (by omega), reduceCtorEq, B_X8_take, g1]
              · obtain ⟨t', k2, k3, k5⟩ := g t (RT_eq hI.2.2.2.1 e4 e5 e6) (by rw [e5]; exact m4) (by rw [e5]; exact m5)
                refine ⟨t', fun f => ?_, k5, k3⟩
                rw [B_X12_pour]
                simp (disch := first | assumption | omega) only [↓sm, ↓reduceIte, ↓if_pos, ↓if_neg, kI, kJ, kR, kV, w32_eq, w64_eq, reduceCtorEq, Int.reduceAdd, Int.reduceMul, Int.reduceSub, o_c141, ↓o_g141_0, ↓o_g141_1, ↓o_g141_5, ↓o_g141_6, ↓o_g141_7, ↓o_g141_8, ↓o_g141_9, ↓o_g141_21, ↓o_g141_25, ↓o_g141_26, ↓o_g141_27, ↓o_g141_28, ↓o_g141_29, ↓o_g141_30, ↓o_g141_31, ↓o_g141_34, ↓o_g141_35, ↓o_g141_36, ↓d_refuse Z, ↓d_gives Z, ↓d_is0 Z, ↓d_is1 Z, ↓d_isFrom_t Z, ↓d_isFrom_f Z, ↓d_orNone_t Z, ↓d_orNone_f Z, ↓r_isTray_t Z, ↓a_ld145, ↓a_ld144, e5, e4, m1, m2, m3, k2]
/-! copyThorns -/
theorem c_cthorns1 (Z : mX) {s : mS} {S N : Int → Int} (h : CS s 7 S N) (hw : WF S) {q : Nat} (qa : isT q) (i : Int) (hi : i < ncl S) (i0 : 0 ≤ i) :
    mm_at (zP Z) 184 22 [some (.inr (.inr (some 3))), none, some (.inr (.inr (some q))), none, some (.inl i)] [] (mk s) = mm_at (zP Z) 184 22 [some (.inr (.inr (some 3))), none, some (.inr (.inr (some q))), none, some (.inl ((i + 1)))] [] (mk (uA s (q + 1) i (cutI (s.1 q 1) (S (10 + i))))) := by
  have n := wf_n hw
  have hc := h.2.1 i i0 (by omega)
  conv => lhs; rw [B_X11_copyThorns_22]
  simp (disch := first | assumption | omega) only [↓sm, ↓reduceIte, ↓if_pos, ↓if_neg, kI, kJ, kR, kV, w32_eq, w64_eq, reduceCtorEq, Int.reduceAdd, Int.reduceMul, Int.reduceSub, o_c3, ↓o_g3_0, ↓o_g3_1, ↓o_g3_2, ↓o_g3_3, ↓o_g3_4, ↓o_g3_5, ↓o_g3_6, ↓o_g3_7, ↓o_g3_8, ↓o_g3_9, ↓o_g3_10, ↓o_g3_11, ↓o_g3_12, ↓o_g3_13, ↓o_g3_14, ↓o_g3_15, ↓o_g3_16, ↓o_g3_17, ↓a_ln4, ↓a_ld4, ↓a_ln61, ↓a_ld61, ↓a_ln62, ↓a_ld62, o_c7, ↓o_g7_4, ↓o_g7_5, ↓o_g7_7, ↓o_g7_8, ↓o_g7_9, ↓o_g7_11, ↓o_g7_12, ↓o_g7_13, ↓o_g7_14, ↓o_g7_15, ↓o_g7_16, ↓o_g7_17, ↓q_wide h, ↓q_high h, ↓q_odds h, ↓q_year h, ↓q_less h, ↓q_pups h, ↓q_thorns h Z, ↓q_berries h Z, ↓q_hours h hw Z, ↓q_needs h hw Z, ↓q_at h hw Z, ↓q_want h hw Z, ↓q_knows h hw Z, ↓q_caught h hw Z, ↓q_marks h hw Z, ↓q_torn h hw Z, ↓c_cells h hw Z, ↓c_hasCell_t h hw Z, ↓c_hasCell_f h hw Z, ↓c_hasLesson_t h hw Z, ↓c_hasLesson_f h hw Z, ↓c_hasPupil_t h hw Z, ↓c_hasPupil_f h hw Z, ↓c_isCellNumber_t h hw Z, ↓c_isCellNumber_f h hw Z, ↓c_beside h hw Z, ↓c_touch h hw Z, ↓c_catchOf h hw Z, ↓c_clearSet h hw Z, ↓c_isCaught_t h hw Z, ↓c_isCaught_f h hw Z, ↓c_caughtSet h hw Z, ↓c_pupilsAt h hw Z, ↓c_pupilsWhoKnow h hw Z, ↓c_areNear h hw Z, ↓c_canHelp h hw Z, ↓c_helperSet h hw Z, ↓c_nextLesson h hw Z, ↓c_isNearSome h hw Z, ↓c_freedSet h hw Z, t_c qa, ↓c8_set Z s qa, hc.1]
theorem c_cthorns0 (Z : mX) {s : mS} {S N : Int → Int} (h : CS s 7 S N) (hw : WF S) {q : Nat} :
    mm_at (zP Z) 184 22 [some (.inr (.inr (some 3))), none, some (.inr (.inr (some q))), none, some (.inl ((ncl S)))] [] (mk s) = some (some (.inl (ncl S)), mk (uF s 3 15 0)) := by
  rw [B_X11_copyThorns_22]
  simp (disch := first | assumption | omega) only [↓sm, ↓reduceIte, ↓if_pos, ↓if_neg, kI, kJ, kR, kV, w32_eq, w64_eq, reduceCtorEq, Int.reduceAdd, Int.reduceMul, Int.reduceSub, o_c3, ↓o_g3_0, ↓o_g3_1, ↓o_g3_2, ↓o_g3_3, ↓o_g3_4, ↓o_g3_5, ↓o_g3_6, ↓o_g3_7, ↓o_g3_8, ↓o_g3_9, ↓o_g3_10, ↓o_g3_11, ↓o_g3_12, ↓o_g3_13, ↓o_g3_14, ↓o_g3_15, ↓o_g3_16, ↓o_g3_17, ↓a_ln4, ↓a_ld4, ↓a_ln61, ↓a_ld61, ↓a_ln62, ↓a_ld62, o_c7, ↓o_g7_4, ↓o_g7_5, ↓o_g7_7, ↓o_g7_8, ↓o_g7_9, ↓o_g7_11, ↓o_g7_12, ↓o_g7_13, ↓o_g7_14, ↓o_g7_15, ↓o_g7_16, ↓o_g7_17, ↓q_wide h, ↓q_high h, ↓q_odds h, ↓q_year h, ↓q_less h, ↓q_pups h, ↓q_thorns h Z, ↓q_berries h Z, ↓q_hours h hw Z, ↓q_needs h hw Z, ↓q_at h hw Z, ↓q_want h hw Z, ↓q_knows h hw Z, ↓q_caught h hw Z, ↓q_marks h hw Z, ↓q_torn h hw Z, ↓c_cells h hw Z, ↓c_hasCell_t h hw Z, ↓c_hasCell_f h hw Z, ↓c_hasLesson_t h hw Z, ↓c_hasLesson_f h hw Z, ↓c_hasPupil_t h hw Z, ↓c_hasPupil_f h hw Z, ↓c_isCellNumber_t h hw Z, ↓c_isCellNumber_f h hw Z, ↓c_beside h hw Z, ↓c_touch h hw Z, ↓c_catchOf h hw Z, ↓c_clearSet h hw Z, ↓c_isCaught_t h hw Z, ↓c_isCaught_f h hw Z, ↓c_caughtSet h hw Z, ↓c_pupilsAt h hw Z, ↓c_pupilsWhoKnow h hw Z, ↓c_areNear h hw Z, ↓c_canHelp h hw Z, ↓c_helperSet h hw Z, ↓c_nextLesson h hw Z, ↓c_isNearSome h hw Z, ↓c_freedSet h hw Z, ↓d_none Z, ↓d_done Z, ↓d_refused Z, ↓d_granted Z]
theorem r_cthorns1 (Z : mX) {s : mS} {S : Int → Int} (e : s.2 142 = S) (hw : WF S) (a i : Int) (a0 : 0 ≤ a) (a1 : a < 4) (hi : i < ncl S) (i0 : 0 ≤ i) :
    mm_at (zP Z) 348 31 [some (.inr (.inr (some 141))), some (.inl a), some (.inl i)] [] (mk s) = mm_at (zP Z) 348 31 [some (.inr (.inr (some 141))), some (.inl a), some (.inl ((i + 1)))] [] (mk (uA s 146 (60 * a + i) (cutI (s.2 144 a) (S (10 + i))))) := by
  have n := wf_n hw
  conv => lhs; rw [B_X12_copyThorns_31]
  simp (disch := first | assumption | omega) only [↓sm, ↓reduceIte, ↓if_pos, ↓if_neg, kI, kJ, kR, kV, w32_eq, w64_eq, reduceCtorEq, Int.reduceAdd, Int.reduceMul, Int.reduceSub, o_c141, ↓o_g141_0, ↓o_g141_1, ↓o_g141_5, ↓o_g141_6, ↓o_g141_7, ↓o_g141_8, ↓o_g141_9, ↓o_g141_21, ↓o_g141_25, ↓o_g141_26, ↓o_g141_27, ↓o_g141_28, ↓o_g141_29, ↓o_g141_30, ↓o_g141_31, ↓o_g141_34, ↓o_g141_35, ↓o_g141_36, ↓r_pupilAt e hw Z, ↓r_at e, ↓r_atw e, ↓r_cellsOf e hw Z, ↓r_isCell_t e hw Z, ↓r_isCell_f e hw Z, ↓r_isLesson_t e hw Z, ↓r_isLesson_f e hw Z, ↓r_isPupil_t e hw Z, ↓r_isPupil_f e hw Z, ↓r_pupilOf e hw Z, ↓r_needsOf e hw Z, ↓r_catchBy e hw Z, ↓r_catchOf e hw Z, ↓r_isCaught_t e hw Z, ↓r_isCaught_f e hw Z, ↓r_allCaught e hw Z, ↓r_whoIs0 e hw Z, ↓r_whoIs1 e hw Z, ↓r_sideOf e hw Z, ↓r_isNear e hw Z, ↓r_nextLesson e hw Z, ↓r_canFree e hw Z, ↓r_nearTo e hw Z, ↓r_isIn Z, ↓r_pupilRow Z, ↓r_lessonRow Z, ↓k_bits Z, ↓a_ld144, ↓r_cut Z, ↓a_st146, a_st146]
theorem r_cthorns0 (Z : mX) {s : mS} {S : Int → Int} (e : s.2 142 = S) (hw : WF S) (a : Int) :
    mm_at (zP Z) 348 31 [some (.inr (.inr (some 141))), some (.inl a), some (.inl ((ncl S)))] [] (mk s) = some (some (.inl (ncl S)), mk (uF s 141 2 0)) := by
  rw [B_X12_copyThorns_31]
  simp (disch := first | assumption | omega) only [↓sm, ↓reduceIte, ↓if_pos, ↓if_neg, kI, kJ, kR, kV, w32_eq, w64_eq, reduceCtorEq, Int.reduceAdd, Int.reduceMul, Int.reduceSub, o_c141, ↓o_g141_0, ↓o_g141_1, ↓o_g141_5, ↓o_g141_6, ↓o_g141_7, ↓o_g141_8, ↓o_g141_9, ↓o_g141_21, ↓o_g141_25, ↓o_g141_26, ↓o_g141_27, ↓o_g141_28, ↓o_g141_29, ↓o_g141_30, ↓o_g141_31, ↓o_g141_34, ↓o_g141_35, ↓o_g141_36, ↓r_pupilAt e hw Z, ↓r_at e, ↓r_atw e, ↓r_cellsOf e hw Z, ↓r_isCell_t e hw Z, ↓r_isCell_f e hw Z, ↓r_isLesson_t e hw Z, ↓r_isLesson_f e hw Z, ↓r_isPupil_t e hw Z, ↓r_isPupil_f e hw Z, ↓r_pupilOf e hw Z, ↓r_needsOf e hw Z, ↓r_catchBy e hw Z, ↓r_catchOf e hw Z, ↓r_isCaught_t e hw Z, ↓r_isCaught_f e hw Z, ↓r_allCaught e hw Z, ↓r_whoIs0 e hw Z, ↓r_whoIs1 e hw Z, ↓r_sideOf e hw Z, ↓r_isNear e hw Z, ↓r_nextLesson e hw Z, ↓r_canFree e hw Z, ↓r_nearTo e hw Z, ↓r_isIn Z, ↓r_pupilRow Z, ↓r_lessonRow Z, ↓k_bits Z, ↓d_refuse Z, ↓d_gives Z, ↓d_is0 Z, ↓d_is1 Z, ↓d_isFrom_t Z, ↓d_isFrom_f Z, ↓d_orNone_t Z, ↓d_orNone_f Z]
theorem RT_cthorns {s t : mS} (hR : RT s t) {a : Nat} (ha : a < 4) {i v : Int} (i0 : 0 ≤ i) (i1 : i < t.2 145 a) : RT (uA s (76 + 2 * a + 1) i (cutI (s.1 (76 + 2 * a) 1) v)) (uA t 146 (60 * (a : Int) + i) (cutI (t.2 144 a) v)) := by
  have b1 := (hR a ha).1
  rw [b1]
  exact RT_up hR (k := a) (j := i) ha i0 i1 (cutI_cut _ _)
theorem CS_tr {s : mS} {S N : Int → Int} (h : CS s 7 S N) {q : Nat} (hq : 20 ≤ q) (i v : Int) : CS (uA s q i v) 7 S N := CS_fr h (fun k => rfl) (fun j j0 j1 => uA_n s (by omega) _ _)
theorem lp_cthorns (Z : mX) (S : Int → Int) (hw : WF S) (a : Nat) (ha : a < 4) : ∀ i : Int, i ≤ ncl S → ∀ s : mS, 0 ≤ i → (∃ N, CS s 7 S N) →
    ∃ s', mm_at (zP Z) 184 22 [some (.inr (.inr (some 3))), none, some (.inr (.inr (some ((76 + 2 * a))))), none, some (.inl i)] [] (mk s) = some (some (.inl (ncl S)), mk (uF s' 3 15 0)) ∧ Ag tcA tcF s s' ∧ ∀ t : mS, t.2 142 = S → RT s t → ncl S ≤ t.2 145 a → ∃ t', mm_at (zP Z) 348 31 [some (.inr (.inr (some 141))), some (.inl ((a : Int))), some (.inl i)] [] (mk t) = some (some (.inl (ncl S)), mk (uF t' 141 2 0)) ∧ RT s' t' ∧ Ag trA noF t t' := by
  refine up ?_ ?_
  · intro s i0 ⟨N, h⟩
    exact ⟨s, c_cthorns0 Z h hw, Ag_refl _ _ _, fun t e hR _ => ⟨t, r_cthorns0 Z e hw _, hR, Ag_refl _ _ _⟩⟩
  · intro i hi ih s i0 ⟨N, h⟩
    obtain ⟨s', g1, g4, g⟩ := ih (uA s (76 + 2 * a + 1) i (cutI (s.1 (76 + 2 * a) 1) (S (10 + i)))) (by omega) ⟨N, CS_tr h (by omega) _ _⟩
    refine ⟨s', (c_cthorns1 Z h hw (isT_of ha) i hi i0).trans g1, Ag_trans (Ag_uA (Ag_refl _ _ _) (by unfold tcA; omega) _ _) g4, fun t e hR hn => ?_⟩
    obtain ⟨t', g2, g3, g5⟩ := g _ (by rw [uA_n t (by decide)]; exact e) (RT_cthorns hR ha (v := S (10 + i)) i0 (by omega)) (by rw [uA_n t (by decide)]; exact hn)
    exact ⟨t', (r_cthorns1 Z e hw (a : Int) i (by omega) (by omega) hi i0).trans g2, g3, Ag_trans (Ag_uA (Ag_refl _ _ _) (by unfold trA; omega) _ _) g5⟩
theorem op_copyThorns (Z : mX) (s : mS) (hI : Inv s) (a : Int) : OpI Z s 184 348 [.inl a] := by
  have h := hI.2.2.1.2
  have hw := hI.2.2.1.1
  have n := wf_n hw
  by_cases ha : 0 ≤ a ∧ a < 4
  case neg =>
    refine op_rd hI (-1) 1 (fun f => ?_) (fun t e f => ?_)
    · rw [B_X11_copyThorns]
      simp (disch := first | assumption | omega) only [↓sm, ↓reduceIte, ↓if_pos, ↓if_neg, kI, kJ, kR, kV, w32_eq, w64_eq, reduceCtorEq, Int.reduceAdd, Int.reduceMul, Int.reduceSub, o_c3, ↓o_g3_0, ↓o_g3_1, ↓o_g3_2, ↓o_g3_3, ↓o_g3_4, ↓o_g3_5, ↓o_g3_6, ↓o_g3_7, ↓o_g3_8, ↓o_g3_9, ↓o_g3_10, ↓o_g3_11, ↓o_g3_12, ↓o_g3_13, ↓o_g3_14, ↓o_g3_15, ↓o_g3_16, ↓o_g3_17, ↓a_ln4, ↓a_ld4, ↓a_ln61, ↓a_ld61, ↓a_ln62, ↓a_ld62, o_c7, ↓o_g7_4, ↓o_g7_5, ↓o_g7_7, ↓o_g7_8, ↓o_g7_9, ↓o_g7_11, ↓o_g7_12, ↓o_g7_13, ↓o_g7_14, ↓o_g7_15, ↓o_g7_16, ↓o_g7_17, ↓q_wide h, ↓q_high h, ↓q_odds h, ↓q_year h, ↓q_less h, ↓q_pups h, ↓q_thorns h Z, ↓q_berries h Z, ↓q_hours h hw Z, ↓q_needs h hw Z, ↓q_at h hw Z, ↓q_want h hw Z, ↓q_knows h hw Z, ↓q_caught h hw Z, ↓q_marks h hw Z, ↓q_torn h hw Z, ↓c_cells h hw Z, ↓c_hasCell_t h hw Z, ↓c_hasCell_f h hw Z, ↓c_hasLesson_t h hw Z, ↓c_hasLesson_f h hw Z, ↓c_hasPupil_t h hw Z, ↓c_hasPupil_f h hw Z, ↓c_isCellNumber_t h hw Z, ↓c_isCellNumber_f h hw Z, ↓c_beside h hw Z, ↓c_touch h hw Z, ↓c_catchOf h hw Z, ↓c_clearSet h hw Z, ↓c_isCaught_t h hw Z, ↓c_isCaught_f h hw Z, ↓c_caughtSet h hw Z, ↓c_pupilsAt h hw Z, ↓c_pupilsWhoKnow h hw Z, ↓c_areNear h hw Z, ↓c_canHelp h hw Z, ↓c_helperSet h hw Z, ↓c_nextLesson h hw Z, ↓c_isNearSome h hw Z, ↓c_freedSet h hw Z, ↓d_none Z, ↓d_done Z, ↓d_refused Z, ↓d_granted Z, ↓c_trayAt_f Z, ↓c_trouble_n Z, reduceCtorEq]
    · rw [B_X12_copyThorns]
      simp (disch := first | assumption | omega) only [↓sm, ↓reduceIte, ↓if_pos, ↓if_neg, kI, kJ, kR, kV, w32_eq, w64_eq, reduceCtorEq, Int.reduceAdd, Int.reduceMul, Int.reduceSub, o_c141, ↓o_g141_0, ↓o_g141_1, ↓o_g141_5, ↓o_g141_6, ↓o_g141_7, ↓o_g141_8, ↓o_g141_9, ↓o_g141_21, ↓o_g141_25, ↓o_g141_26, ↓o_g141_27, ↓o_g141_28, ↓o_g141_29, ↓o_g141_30, ↓o_g141_31, ↓o_g141_34, ↓o_g141_35, ↓o_g141_36, ↓d_refuse Z, ↓d_gives Z, ↓d_is0 Z, ↓d_is1 Z, ↓d_isFrom_t Z, ↓d_isFrom_f Z, ↓d_orNone_t Z, ↓d_orNone_f Z, ↓r_isTray_f Z]
  case pos =>
    have qa := isT_of (k := a.toNat) (by omega)
    obtain ⟨b1, b2, b3, b4, b5, b6, b7⟩ := hI.2.2.2.1 a.toNat (by omega)
    rw [Int.toNat_of_nonneg ha.1] at b1 b2 b3 b4 b5 b6 b7
    by_cases m1 : s.2 145 a = -1
    · refine op_rdx hI (-1) 2 (fun f => ?_) (fun t e f => ?_)
      · rw [B_X11_copyThorns]
        simp (disch := first | assumption | omega) only [↓sm, ↓reduceIte, ↓if_pos, ↓if_neg, kI, kJ, kR, kV, w32_eq, w64_eq, reduceCtorEq, Int.reduceAdd, Int.reduceMul, Int.reduceSub, o_c3, ↓o_g3_0, ↓o_g3_1, ↓o_g3_2, ↓o_g3_3, ↓o_g3_4, ↓o_g3_5, ↓o_g3_6, ↓o_g3_7, ↓o_g3_8, ↓o_g3_9, ↓o_g3_10, ↓o_g3_11, ↓o_g3_12, ↓o_g3_13, ↓o_g3_14, ↓o_g3_15, ↓o_g3_16, ↓o_g3_17, ↓a_ln4, ↓a_ld4, ↓a_ln61, ↓a_ld61, ↓a_ln62, ↓a_ld62, o_c7, ↓o_g7_4, ↓o_g7_5, ↓o_g7_7, ↓o_g7_8, ↓o_g7_9, ↓o_g7_11, ↓o_g7_12, ↓o_g7_13, ↓o_g7_14, ↓o_g7_15, ↓o_g7_16, ↓o_g7_17, ↓q_wide h, ↓q_high h, ↓q_odds h, ↓q_year h, ↓q_less h, ↓q_pups h, ↓q_thorns h Z, ↓q_berries h Z, ↓q_hours h hw Z, ↓q_needs h hw Z, ↓q_at h hw Z, ↓q_want h hw Z, ↓q_knows h hw Z, ↓q_caught h hw Z, ↓q_marks h hw Z, ↓q_torn h hw Z, ↓c_cells h hw Z, ↓c_hasCell_t h hw Z, ↓c_hasCell_f h hw Z, ↓c_hasLesson_t h hw Z, ↓c_hasLesson_f h hw Z, ↓c_hasPupil_t h hw Z, ↓c_hasPupil_f h hw Z, ↓c_isCellNumber_t h hw Z, ↓c_isCellNumber_f h hw Z, ↓c_beside h hw Z, ↓c_touch h hw Z, ↓c_catchOf h hw Z, ↓c_clearSet h hw Z, ↓c_isCaught_t h hw Z, ↓c_isCaught_f h hw Z, ↓c_caughtSet h hw Z, ↓c_pupilsAt h hw Z, ↓c_pupilsWhoKnow h hw Z, ↓c_areNear h hw Z, ↓c_canHelp h hw Z, ↓c_helperSet h hw Z, ↓c_nextLesson h hw Z, ↓c_isNearSome h hw Z, ↓c_freedSet h hw Z, ↓d_none Z, ↓d_done Z, ↓d_refused Z, ↓d_granted Z, ↓c_trayAt_t Z, ↓c_trouble Z s qa 0 _ (by omega) (by omega), b2, m1, twr, reduceCtorEq]
      · have e5 : t.2 145 = s.2 145 := by rw [e]; rfl
        rw [B_X12_copyThorns]
        simp (disch := first | assumption | omega) only [↓sm, ↓reduceIte, ↓if_pos, ↓if_neg, kI, kJ, kR, kV, w32_eq, w64_eq, reduceCtorEq, Int.reduceAdd, Int.reduceMul, Int.reduceSub, o_c141, ↓o_g141_0, ↓o_g141_1, ↓o_g141_5, ↓o_g141_6, ↓o_g141_7, ↓o_g141_8, ↓o_g141_9, ↓o_g141_21, ↓o_g141_25, ↓o_g141_26, ↓o_g141_27, ↓o_g141_28, ↓o_g141_29, ↓o_g141_30, ↓o_g141_31, ↓o_g141_34, ↓o_g141_35, ↓o_g141_36, ↓d_refuse Z, ↓d_gives Z, ↓d_is0 Z, ↓d_is1 Z, ↓d_isFrom_t Z, ↓d_isFrom_f Z, ↓d_orNone_t Z, ↓d_orNone_f Z, ↓r_isTray_t Z, ↓a_ld145, e5, m1]
    by_cases m2 : ncl (s.2 142) ≤ s.2 145 a
    case neg =>
      refine op_rdx hI (-1) 3 (fun f => ?_) (fun t e f => ?_)
      · rw [B_X11_copyThorns]
        simp (disch := first | assumption | omega) only [↓sm, ↓reduceIte, ↓if_pos, ↓if_neg, kI, kJ, kR, kV, w32_eq, w64_eq, reduceCtorEq, Int.reduceAdd, Int.reduceMul, Int.reduceSub, o_c3, ↓o_g3_0, ↓o_g3_1, ↓o_g3_2, ↓o_g3_3, ↓o_g3_4, ↓o_g3_5, ↓o_g3_6, ↓o_g3_7, ↓o_g3_8, ↓o_g3_9, ↓o_g3_10, ↓o_g3_11, ↓o_g3_12, ↓o_g3_13, ↓o_g3_14, ↓o_g3_15, ↓o_g3_16, ↓o_g3_17, ↓a_ln4, ↓a_ld4, ↓a_ln61, ↓a_ld61, ↓a_ln62, ↓a_ld62, o_c7, ↓o_g7_4, ↓o_g7_5, ↓o_g7_7, ↓o_g7_8, ↓o_g7_9, ↓o_g7_11, ↓o_g7_12, ↓o_g7_13, ↓o_g7_14, ↓o_g7_15, ↓o_g7_16, ↓o_g7_17, ↓q_wide h, ↓q_high h, ↓q_odds h, ↓q_year h, ↓q_less h, ↓q_pups h, ↓q_thorns h Z, ↓q_berries h Z, ↓q_hours h hw Z, ↓q_needs h hw Z, ↓q_at h hw Z, ↓q_want h hw Z, ↓q_knows h hw Z, ↓q_caught h hw Z, ↓q_marks h hw Z, ↓q_torn h hw Z, ↓c_cells h hw Z, ↓c_hasCell_t h hw Z, ↓c_hasCell_f h hw Z, ↓c_hasLesson_t h hw Z, ↓c_hasLesson_f h hw Z, ↓c_hasPupil_t h hw Z, ↓c_hasPupil_f h hw Z, ↓c_isCellNumber_t h hw Z, ↓c_isCellNumber_f h hw Z, ↓c_beside h hw Z, ↓c_touch h hw Z, ↓c_catchOf h hw Z, ↓c_clearSet h hw Z, ↓c_isCaught_t h hw Z, ↓c_isCaught_f h hw Z, ↓c_caughtSet h hw Z, ↓c_pupilsAt h hw Z, ↓c_pupilsWhoKnow h hw Z, ↓c_areNear h hw Z, ↓c_canHelp h hw Z, ↓c_helperSet h hw Z, ↓c_nextLesson h hw Z, ↓c_isNearSome h hw Z, ↓c_freedSet h hw Z, ↓d_none Z, ↓d_done Z, ↓d_refused Z, ↓d_granted Z, ↓c_trayAt_t Z, ↓c_trouble Z s qa 0 _ (by omega) (by omega), b2, m1, twr, reduceCtorEq]
      · have e5 : t.2 145 = s.2 145 := by rw [e]; rfl
        have e2 : t.2 142 = s.2 142 := by rw [e]; rfl
        rw [B_X12_copyThorns]
        simp (disch := first | assumption | omega) only [↓sm, ↓reduceIte, ↓if_pos, ↓if_neg, kI, kJ, kR, kV, w32_eq, w64_eq, reduceCtorEq, Int.reduceAdd, Int.reduceMul, Int.reduceSub, o_c141, ↓o_g141_0, ↓o_g141_1, ↓o_g141_5, ↓o_g141_6, ↓o_g141_7, ↓o_g141_8, ↓o_g141_9, ↓o_g141_21, ↓o_g141_25, ↓o_g141_26, ↓o_g141_27, ↓o_g141_28, ↓o_g141_29, ↓o_g141_30, ↓o_g141_31, ↓o_g141_34, ↓o_g141_35, ↓o_g141_36, ↓d_refuse Z, ↓d_gives Z, ↓d_is0 Z, ↓d_is1 Z, ↓d_isFrom_t Z, ↓d_isFrom_f Z, ↓d_orNone_t Z, ↓d_orNone_f Z, ↓r_isTray_t Z, ↓a_ld145, e5, m1, ↓r_cellsOf e2 hw Z]
    case pos =>
      obtain ⟨s1, g1, g4, g⟩ := lp_cthorns Z (s.2 142) hw a.toNat (by omega) 0 (by omega) s (Int.le_refl 0) ⟨_, h⟩
      simp only [Int.toNat_of_nonneg ha.1] at g
      refine op_tr hI (ncl (s.2 142)) 0 s1 (fun f => ?_) g4 (fun t e2 e4 e5 e6 => ?_)
      · rw [B_X11_copyThorns]
        simp (disch := first | assumption | omega) only [↓sm, ↓reduceIte, ↓if_pos, ↓if_neg, kI, kJ, kR, kV, w32_eq, w64_eq, reduceCtorEq, Int.reduceAdd, Int.reduceMul, Int.reduceSub, o_c3, ↓o_g3_0, ↓o_g3_1, ↓o_g3_2, ↓o_g3_3, ↓o_g3_4, ↓o_g3_5, ↓o_g3_6, ↓o_g3_7, ↓o_g3_8, ↓o_g3_9, ↓o_g3_10, ↓o_g3_11, ↓o_g3_12, ↓o_g3_13, ↓o_g3_14, ↓o_g3_15, ↓o_g3_16, ↓o_g3_17, ↓a_ln4, ↓a_ld4, ↓a_ln61, ↓a_ld61, ↓a_ln62, ↓a_ld62, o_c7, ↓o_g7_4, ↓o_g7_5, ↓o_g7_7, ↓o_g7_8, ↓o_g7_9, ↓o_g7_11, ↓o_g7_12, ↓o_g7_13, ↓o_g7_14, ↓o_g7_15, ↓o_g7_16, ↓o_g7_17, ↓q_wide h, ↓q_high h, ↓q_odds h, ↓q_year h, ↓q_less h, ↓q_pups h, ↓q_thorns h Z, ↓q_berries h Z, ↓q_hours h hw Z, ↓q_needs h hw Z, ↓q_at h hw Z, ↓q_want h hw Z, ↓q_knows h hw Z, ↓q_caught h hw Z, ↓q_marks h hw Z, ↓q_torn h hw Z, ↓c_cells h hw Z, ↓c_hasCell_t h hw Z, ↓c_hasCell_f h hw Z, ↓c_hasLesson_t h hw Z, ↓c_hasLesson_f h hw Z, ↓c_hasPupil_t h hw Z, ↓c_hasPupil_f h hw Z, ↓c_isCellNumber_t h hw Z, ↓c_isCellNumber_f h hw Z, ↓c_beside h hw Z, ↓c_touch h hw Z, ↓c_catchOf h hw Z, ↓c_clearSet h hw Z, ↓c_isCaught_t h hw Z, ↓c_isCaught_f h hw Z, ↓c_caughtSet h hw Z, ↓c_pupilsAt h hw Z, ↓c_pupilsWhoKnow h hw Z, ↓c_areNear h hw Z, ↓c_canHelp h hw Z, ↓c_helperSet h hw Z, ↓c_nextLesson h hw Z, ↓c_isNearSome h hw Z, ↓c_freedSet h hw Z, ↓d_none Z, ↓d_done Z, ↓d_refused Z, ↓d_granted Z, ↓c_trayAt_t Z, ↓c_trouble Z s qa 0 _ (by omega) (by omega), b2, m1, twr, reduceCtorEq, g1]
      · obtain ⟨t', k2, k3, k5⟩ := g t e2 (RT_eq hI.2.2.2.1 e4 e5 e6) (by rw [e5]; exact m2)
        refine ⟨t', fun f => ?_, k5, k3⟩
        rw [B_X12_copyThorns]
        simp (disch := first | assumption | omega) only [↓sm, ↓reduceIte, ↓if_pos, ↓if_neg, kI, kJ, kR, kV, w32_eq, w64_eq, reduceCtorEq, Int.reduceAdd, Int.reduceMul, Int.reduceSub, o_c141, ↓o_g141_0, ↓o_g141_1, ↓o_g141_5, ↓o_g141_6, ↓o_g141_7, ↓o_g141_8, ↓o_g141_9, ↓o_g141_21, ↓o_g141_25, ↓o_g141_26, ↓o_g141_27, ↓o_g141_28, ↓o_g141_29, ↓o_g141_30, ↓o_g141_31, ↓o_g141_34, ↓o_g141_35, ↓o_g141_36, ↓d_refuse Z, ↓d_gives Z, ↓d_is0 Z, ↓d_is1 Z, ↓d_isFrom_t Z, ↓d_isFrom_f Z, ↓d_orNone_t Z, ↓d_orNone_f Z, ↓r_isTray_t Z, ↓a_ld145, e5, m1, ↓r_cellsOf e2 hw Z, k2]
