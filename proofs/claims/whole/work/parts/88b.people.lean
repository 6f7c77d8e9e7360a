/-! lessons and pupils, both sides (printed by gen/parts2.py) -/
theorem adL_Ag (s : mS) (m a y W : Int) : Ag (fun q => 41 ≤ q ∧ q ≤ 52) (fun q _ => q = 40) s (adL s m a y W) := Ag_uF (F := fun q _ => q = 40) (Ag_uA (Ag_uA (Ag_uA (Ag_refl _ _ _) (by omega) _ _) (by omega) _ _) (by omega) _ _) rfl _
theorem adP_Ag (s : mS) (m c a y W : Int) : Ag (fun q => 41 ≤ q ∧ q ≤ 52) (fun q _ => q = 40) s (adP s m c a y W) := Ag_uF (F := fun q _ => q = 40) (Ag_uA (Ag_uA (Ag_uA (Ag_uA (Ag_uA (Ag_uA (Ag_uA (Ag_refl _ _ _) (by omega) _ _) (by omega) _ _) (by omega) _ _) (by omega) _ _) (by omega) _ _) (by omega) _ _) (by omega) _ _) rfl _
set_option maxHeartbeats 8000000 in
theorem part_lesson (Z : mX) {s0 : mS} {b : Int → Int} {n : Int} (hT : TB0 b n) {G0 H0 G H : Int → Int} {th od gr : Int} {T : mT} (hk : TT b n T) (hD : DrI (shG G) th od gr) (hL : Lo G0 H0 G H) (h2 : tK T = 2) (hv : tV T = 5) : Part Z s0 b n G0 H0 T G H th od gr := by
  obtain ⟨w, d7, dt, dd, dg, d0, dz⟩ := id hD
  have w0 := wf0 w
  obtain ⟨T1, p1, hk1, N0, M0⟩ := nxt Z hT hk
  obtain ⟨T2, p2, hk2, N1, M1⟩ := nxt Z hT hk1
  obtain ⟨T3, p3, hk3, N2, M2⟩ := nxt Z hT hk2
  obtain ⟨T4, p4, hk4, N3, M3⟩ := nxt Z hT hk3
  have q0 := tk_o hk
  have q1 := tk_o hk1
  have q2 := tk_o hk2
  have q3 := tk_o hk3
  have q4 := tk_o hk4
  by_cases qz : shG G 2 < 7
  · by_cases qa : tK T1 = 3
    · by_cases qb : fd (shN H) (tW T1) (shG G 2) (shG G 2).toNat = -1 ∧ fd (fun p => shN H (7 + p)) (tW T1) (shG G 3) (shG G 3).toNat = -1
      · by_cases qc : tK T2 = 2 ∧ tV T2 = 6
        · by_cases qd : tK T3 = 5 ∧ 1 ≤ tV T3 ∧ tV T3 ≤ 9
          · have hH : ∀ k, 0 ≤ k → k < shG G 2 → shN (mm_upd H (48 + 0 + shG G 2) (tW T1)) k = shN H k := fun k k0 k1 => by rw [shN_up H (48 + 0 + shG G 2) (shG G 2) _ (by omega), up_ne (by omega)]
            have hB := behind Z (s0 := s0) hT (G0 := G0) (H0 := H0) (Gc := G) (Hc := H) (th := th) (od := od) (gr := gr) (m := shG G 2) (row := 1888 + (60 + 2 * shG G 2) + 1) (w := 7) (kw := 8) (by decide) (by omega) (by omega) (by omega) (by omega) rfl hH (by omega) (by omega) hk4 (G := mm_upd (mm_upd G (1888 + (60 + 2 * shG G 2)) (tV T3)) (1888 + (60 + 2 * shG G 2) + 1) 0) (up_eq rfl) (by rw [up_ne (by omega), up_ne (by omega)]; rfl) (Lo_upN (Lo_up (Lo_up hL (by omega) _) (by omega) _) (by omega) _)
            rcases hB with ⟨kd, pl, r0, r1, r2⟩ | ⟨T5, y, r0, hk5, ⟨j, hj⟩, r1, r2⟩
            · refine Or.inl ⟨kd, pl, r0, fun s h => ?_, fun t0 t h => ?_⟩
              · obtain ⟨ek, ef, e6, ew, e46, e4p⟩ := cp_k h
                have e6 := e6 (Or.inl h2)
                rw [hv] at e6
                rw [h2] at ek
                have f2 := h.2.2.1
                have f3 := h.2.2.2.1
                have f4 := h.2.2.2.2.1
                obtain ⟨s1, a1, x1, g1⟩ := cp_adv N0 h
                obtain ⟨s2, a2, x2, z2⟩ := c_new_t Z N1 x1 w qa qb.1 qb.2
                obtain ⟨s3, a3, x3, g3⟩ := cp_word N2 x2 (w := 6) qc
                obtain ⟨s4, a4, x4, z4, g4⟩ := cp_num N3 x3 (l := 1) (m := 9) qd
                obtain ⟨s5, a5, x5⟩ := r1 s4 x4
                exact ⟨_, fun f => by
                  rw [B_X6_readPart]
                  simp (disch := first | with_reducible assumption | omega) only [↓sm, ↓reduceIte, ↓if_pos, ↓if_neg, kI, kJ, kR, kV, w32_eq, w64_eq, reduceCtorEq, Int.reduceAdd, Int.reduceMul, Int.reduceSub, o_c39, ↓o_g39_0, ↓o_g39_1, o_c5, o_c40, ↓rI40_6 e46, ↓rI40_10 e4p, ↓rI5_5 ek, ↓rI5_6 e6, ↓rI39_2 f2, ↓rI39_3 f3, ↓rI39_4 f4, ↓B_X6_readLesson Z, ↓a1, ↓a2, ↓a3, ↓a4, ↓rI5_8 z4, ↓a5], x5⟩
              · have ew : wn (tK T) (tV T) = 4 := (wn_eq hk (w := 5) (by omega) (by omega)).mpr ⟨h2, hv⟩
                have c0 : ∀ f : Int → mW → mO, mm_kI (mm_run (zP Z) 235 [.inr (.inr (some 141)), .inr (.inr (some 1))] (mk t)) f = f 4 (mk t) := fun f => by rw [r_inW Z hT hk h.1, ew]
                have v0 := rp_told (th' := th) (od' := od) (gr' := gr) h (k := 4) (e := 0) (by omega) (by omega) (by omega) (by omega) (by omega)
                have e2 : ∀ f : Int → mO, (mm_ld 0 (mk (uF t 141 20 (mm_ior (t.1 141 20) (mm_ior (mm_ishl 1 4) 0)))) 142 1890).bind f = f (shG G 2) := fun f => r_at v0.2.1 f _ (by omega) (by omega)
                obtain ⟨t1, b1, y1⟩ := r_new_t Z hT hk1 M0 M1 v0 w (k := 2) (l := 7) (o := 0) (by unfold mny; omega) (by omega) qa qb.1 qb.2
                obtain ⟨t2, b2, y2⟩ := rp_word hT hk2 M2 y1 (w := 6) (k := 7) (by decide) (by omega) (by omega) qc
                obtain ⟨t3, b3, y3⟩ := rp_num hk3 M3 y2 (to := 1888 + (60 + 2 * shG G 2)) (l := 1) (m := 9) (by omega) (by omega) qd
                have wr : mm_w32 (1888 + (60 + 2 * shG G 2)) = 1888 + (60 + 2 * shG G 2) := w32_eq (by omega) (by omega)
                rw [← wr] at b3
                have wr1 : mm_w32 (mm_w32 (1888 + (60 + 2 * shG G 2)) + 1) = 1888 + (60 + 2 * shG G 2) + 1 := by rw [wr]; exact w32_eq (by omega) (by omega)
                have st : ∀ f : mW → mO, (mm_st 0 (mk t3) 142 (mm_w32 (mm_w32 (1888 + (60 + 2 * shG G 2)) + 1)) 0).bind f = f (mk (uA t3 142 (1888 + (60 + 2 * shG G 2) + 1) 0)) := fun f => by rw [wr1]; exact a_st142 t3 f _ _ (by omega) (by omega)
                have k3 := rp_142 y3 (1888 + (60 + 2 * shG G 2) + 1) 0
                obtain ⟨u4, t4, b4, b5, y5⟩ := r2 _ _ k3
                rw [← wr1] at b5
                exact ⟨_, fun f => by
                  rw [B_X12_schoolPart]
                  simp (disch := first | with_reducible assumption | omega) only [↓sm, ↓reduceIte, ↓if_pos, ↓if_neg, kI, kJ, kR, kV, w32_eq, w64_eq, reduceCtorEq, Int.reduceAdd, Int.reduceMul, Int.reduceSub, o_c141, ↓o_g141_0, ↓o_g141_1, ↓o_g141_5, ↓o_g141_6, ↓o_g141_7, ↓o_g141_8, ↓o_g141_9, ↓o_g141_21, ↓o_g141_25, ↓o_g141_26, ↓o_g141_27, ↓o_g141_28, ↓o_g141_29, ↓o_g141_30, ↓o_g141_31, ↓o_g141_34, ↓o_g141_35, ↓o_g141_36, ↓c0, ↓o_g141_20, ↓B_X12_schoolPart_28 Z, ↓B_X12_schoolPart_43 Z, ↓B_X12_schoolPart_46 Z, ↓o_p141_20, ↓B_X12_schoolPart_54 Z, ↓B_X12_schoolPart_84 Z, ↓B_X12_aLesson Z, ↓B_X12_aLesson_46 Z, ↓r_lessonRow Z, ↓e2, ↓b1, ↓b2, ↓b3, ↓st, ↓b4, ↓b5], y5⟩
            · obtain ⟨T6, p6, hk6, N5, M5⟩ := nxt Z hT hk5
              have q5 := tk_o hk5
              have q6 := tk_o hk6
              by_cases qe : tK T5 = 6 ∧ tV T5 = 59
              · refine Or.inr ⟨T6, mm_upd (mm_upd (mm_upd (mm_upd G (1888 + (60 + 2 * shG G 2)) (tV T3)) (1888 + (60 + 2 * shG G 2) + 1) 0) (1888 + (60 + 2 * shG G 2) + 1) y) 1890 (shG G 2 + 1), mm_upd H (48 + 0 + shG G 2) (tW T1), th, od, gr, by omega, hk6, lesson_DI hD (by omega) (tV T3) y j qd.2 hj, (Lo_upN (Lo_up (Lo_up (Lo_up (Lo_up hL (by omega) _) (by omega) _) (by omega) _) (by omega) _) (by omega) _), fun s h => ?_, fun t0 t h => ?_⟩
                · obtain ⟨ek, ef, e6, ew, e46, e4p⟩ := cp_k h
                  have e6 := e6 (Or.inl h2)
                  rw [hv] at e6
                  rw [h2] at ek
                  have f2 := h.2.2.1
                  have f3 := h.2.2.2.1
                  have f4 := h.2.2.2.2.1
                  obtain ⟨s1, a1, x1, g1⟩ := cp_adv N0 h
                  obtain ⟨s2, a2, x2, z2⟩ := c_new_t Z N1 x1 w qa qb.1 qb.2
                  obtain ⟨s3, a3, x3, g3⟩ := cp_word N2 x2 (w := 6) qc
                  obtain ⟨s4, a4, x4, z4, g4⟩ := cp_num N3 x3 (l := 1) (m := 9) qd
                  obtain ⟨s5, a5, x5, z5, z6⟩ := r1 s4 x4
                  obtain ⟨s6, a6, x6, g6⟩ := cp_semi N5 x5 qe
                  have f6 : s6.1 39 6 = y := by rw [g6.2 39 6 (by unfold tyF; omega)]; exact z5
                  have f5 : s6.1 39 5 = tW T1 := by rw [g6.2 39 5 (by unfold tyF; omega), z6, g4.2 39 5 (by unfold tyF; omega), g3.2 39 5 (by unfold tyF; omega)]; exact z2
                  have cad := fun f => c_addLes40 Z (cp_k x6).2.2.2.2.1 (by omega) (by omega) (tV T3) y (tW T1) f
                  have k6 := cp_40 x6 (adL_Ag s6 (shG G 2) (tV T3) y (tW T1)) (cs40_lesson x6.2.1 w (by omega) (tV T3) y (tW T1))
                  exact ⟨_, fun f => by
                    rw [B_X6_readPart]
                    simp (disch := first | with_reducible assumption | omega) only [↓sm, ↓reduceIte, ↓if_pos, ↓if_neg, kI, kJ, kR, kV, w32_eq, w64_eq, reduceCtorEq, Int.reduceAdd, Int.reduceMul, Int.reduceSub, o_c39, ↓o_g39_0, ↓o_g39_1, o_c5, o_c40, ↓rI40_6 e46, ↓rI40_10 e4p, ↓rI5_5 ek, ↓rI5_6 e6, ↓rI39_2 f2, ↓rI39_3 f3, ↓rI39_4 f4, ↓B_X6_readLesson Z, ↓a1, ↓a2, ↓a3, ↓a4, ↓rI5_8 z4, ↓a5, ↓a6, ↓rI39_6 f6, ↓rJ39_5 f5, ↓cad], k6⟩
                · have ew : wn (tK T) (tV T) = 4 := (wn_eq hk (w := 5) (by omega) (by omega)).mpr ⟨h2, hv⟩
                  have c0 : ∀ f : Int → mW → mO, mm_kI (mm_run (zP Z) 235 [.inr (.inr (some 141)), .inr (.inr (some 1))] (mk t)) f = f 4 (mk t) := fun f => by rw [r_inW Z hT hk h.1, ew]
                  have v0 := rp_told (th' := th) (od' := od) (gr' := gr) h (k := 4) (e := 0) (by omega) (by omega) (by omega) (by omega) (by omega)
                  have e2 : ∀ f : Int → mO, (mm_ld 0 (mk (uF t 141 20 (mm_ior (t.1 141 20) (mm_ior (mm_ishl 1 4) 0)))) 142 1890).bind f = f (shG G 2) := fun f => r_at v0.2.1 f _ (by omega) (by omega)
                  obtain ⟨t1, b1, y1⟩ := r_new_t Z hT hk1 M0 M1 v0 w (k := 2) (l := 7) (o := 0) (by unfold mny; omega) (by omega) qa qb.1 qb.2
                  obtain ⟨t2, b2, y2⟩ := rp_word hT hk2 M2 y1 (w := 6) (k := 7) (by decide) (by omega) (by omega) qc
                  obtain ⟨t3, b3, y3⟩ := rp_num hk3 M3 y2 (to := 1888 + (60 + 2 * shG G 2)) (l := 1) (m := 9) (by omega) (by omega) qd
                  have wr : mm_w32 (1888 + (60 + 2 * shG G 2)) = 1888 + (60 + 2 * shG G 2) := w32_eq (by omega) (by omega)
                  rw [← wr] at b3
                  have wr1 : mm_w32 (mm_w32 (1888 + (60 + 2 * shG G 2)) + 1) = 1888 + (60 + 2 * shG G 2) + 1 := by rw [wr]; exact w32_eq (by omega) (by omega)
                  have st : ∀ f : mW → mO, (mm_st 0 (mk t3) 142 (mm_w32 (mm_w32 (1888 + (60 + 2 * shG G 2)) + 1)) 0).bind f = f (mk (uA t3 142 (1888 + (60 + 2 * shG G 2) + 1) 0)) := fun f => by rw [wr1]; exact a_st142 t3 f _ _ (by omega) (by omega)
                  have k3 := rp_142 y3 (1888 + (60 + 2 * shG G 2) + 1) 0
                  obtain ⟨t5, y5, hz⟩ := r2 _ _ k3
                  have k5 := rp_142 y5 1890 (shG G 2 + 1)
                  have e5 : ∀ f : Int → mO, (mm_ld 0 (mk t5) 142 1890).bind f = f (shG G 2) := fun f => by rw [r_at y5.2.1 f _ (by omega) (by omega), up_ne (by omega), up_ne (by omega), up_ne (by omega)]; rfl
                  have sp : ∀ f : mW → mO, (mm_st 0 (mk t5) 142 1890 (mm_w32 (shG G 2 + 1))).bind f = f (mk (uA t5 142 1890 (shG G 2 + 1))) := fun f => by rw [w32_eq (by omega) (by omega)]; exact a_st142 t5 f _ _ (by omega) (by omega)
                  obtain ⟨t5, b5, y5⟩ := rp_semi hk5 M5 k5 qe
                  rcases hz with hz | ⟨u5, hu, hz⟩
                  · exact ⟨_, fun f => by
                      rw [B_X12_schoolPart]
                      simp (disch := first | with_reducible assumption | omega) only [↓sm, ↓reduceIte, ↓if_pos, ↓if_neg, kI, kJ, kR, kV, w32_eq, w64_eq, reduceCtorEq, Int.reduceAdd, Int.reduceMul, Int.reduceSub, o_c141, ↓o_g141_0, ↓o_g141_1, ↓o_g141_5, ↓o_g141_6, ↓o_g141_7, ↓o_g141_8, ↓o_g141_9, ↓o_g141_21, ↓o_g141_25, ↓o_g141_26, ↓o_g141_27, ↓o_g141_28, ↓o_g141_29, ↓o_g141_30, ↓o_g141_31, ↓o_g141_34, ↓o_g141_35, ↓o_g141_36, ↓c0, ↓o_g141_20, ↓B_X12_schoolPart_28 Z, ↓B_X12_schoolPart_43 Z, ↓B_X12_schoolPart_46 Z, ↓o_p141_20, ↓B_X12_schoolPart_54 Z, ↓B_X12_schoolPart_84 Z, ↓B_X12_aLesson Z, ↓B_X12_aLesson_46 Z, ↓r_lessonRow Z, ↓e2, ↓b1, ↓b2, ↓b3, ↓st, ↓e5, ↓sp, ↓b5, ↓hz], y5⟩
                  · rw [← wr1] at hz
                    exact ⟨_, fun f => by
                      rw [B_X12_schoolPart]
                      simp (disch := first | with_reducible assumption | omega) only [↓sm, ↓reduceIte, ↓if_pos, ↓if_neg, kI, kJ, kR, kV, w32_eq, w64_eq, reduceCtorEq, Int.reduceAdd, Int.reduceMul, Int.reduceSub, o_c141, ↓o_g141_0, ↓o_g141_1, ↓o_g141_5, ↓o_g141_6, ↓o_g141_7, ↓o_g141_8, ↓o_g141_9, ↓o_g141_21, ↓o_g141_25, ↓o_g141_26, ↓o_g141_27, ↓o_g141_28, ↓o_g141_29, ↓o_g141_30, ↓o_g141_31, ↓o_g141_34, ↓o_g141_35, ↓o_g141_36, ↓c0, ↓o_g141_20, ↓B_X12_schoolPart_28 Z, ↓B_X12_schoolPart_43 Z, ↓B_X12_schoolPart_46 Z, ↓o_p141_20, ↓B_X12_schoolPart_54 Z, ↓B_X12_schoolPart_84 Z, ↓B_X12_aLesson Z, ↓B_X12_aLesson_46 Z, ↓r_lessonRow Z, ↓e2, ↓b1, ↓b2, ↓b3, ↓st, ↓e5, ↓sp, ↓b5, ↓hu, ↓hz], y5⟩
              · refine Or.inl ⟨fkd T5, tF T5, fkd_1 _, fun s h => ?_, fun t0 t h => ?_⟩
                · obtain ⟨ek, ef, e6, ew, e46, e4p⟩ := cp_k h
                  have e6 := e6 (Or.inl h2)
                  rw [hv] at e6
                  rw [h2] at ek
                  have f2 := h.2.2.1
                  have f3 := h.2.2.2.1
                  have f4 := h.2.2.2.2.1
                  obtain ⟨s1, a1, x1, g1⟩ := cp_adv N0 h
                  obtain ⟨s2, a2, x2, z2⟩ := c_new_t Z N1 x1 w qa qb.1 qb.2
                  obtain ⟨s3, a3, x3, g3⟩ := cp_word N2 x2 (w := 6) qc
                  obtain ⟨s4, a4, x4, z4, g4⟩ := cp_num N3 x3 (l := 1) (m := 9) qd
                  obtain ⟨s5, a5, x5, z5, z6⟩ := r1 s4 x4
                  obtain ⟨s6, a6, x6⟩ := cp_semif Z x5 qe
                  exact ⟨_, fun f => by
                    rw [B_X6_readPart]
                    simp (disch := first | with_reducible assumption | omega) only [↓sm, ↓reduceIte, ↓if_pos, ↓if_neg, kI, kJ, kR, kV, w32_eq, w64_eq, reduceCtorEq, Int.reduceAdd, Int.reduceMul, Int.reduceSub, o_c39, ↓o_g39_0, ↓o_g39_1, o_c5, o_c40, ↓rI40_6 e46, ↓rI40_10 e4p, ↓rI5_5 ek, ↓rI5_6 e6, ↓rI39_2 f2, ↓rI39_3 f3, ↓rI39_4 f4, ↓B_X6_readLesson Z, ↓a1, ↓a2, ↓a3, ↓a4, ↓rI5_8 z4, ↓a5, ↓a6], x6⟩
                · have ew : wn (tK T) (tV T) = 4 := (wn_eq hk (w := 5) (by omega) (by omega)).mpr ⟨h2, hv⟩
                  have c0 : ∀ f : Int → mW → mO, mm_kI (mm_run (zP Z) 235 [.inr (.inr (some 141)), .inr (.inr (some 1))] (mk t)) f = f 4 (mk t) := fun f => by rw [r_inW Z hT hk h.1, ew]
                  have v0 := rp_told (th' := th) (od' := od) (gr' := gr) h (k := 4) (e := 0) (by omega) (by omega) (by omega) (by omega) (by omega)
                  have e2 : ∀ f : Int → mO, (mm_ld 0 (mk (uF t 141 20 (mm_ior (t.1 141 20) (mm_ior (mm_ishl 1 4) 0)))) 142 1890).bind f = f (shG G 2) := fun f => r_at v0.2.1 f _ (by omega) (by omega)
                  obtain ⟨t1, b1, y1⟩ := r_new_t Z hT hk1 M0 M1 v0 w (k := 2) (l := 7) (o := 0) (by unfold mny; omega) (by omega) qa qb.1 qb.2
                  obtain ⟨t2, b2, y2⟩ := rp_word hT hk2 M2 y1 (w := 6) (k := 7) (by decide) (by omega) (by omega) qc
                  obtain ⟨t3, b3, y3⟩ := rp_num hk3 M3 y2 (to := 1888 + (60 + 2 * shG G 2)) (l := 1) (m := 9) (by omega) (by omega) qd
                  have wr : mm_w32 (1888 + (60 + 2 * shG G 2)) = 1888 + (60 + 2 * shG G 2) := w32_eq (by omega) (by omega)
                  rw [← wr] at b3
                  have wr1 : mm_w32 (mm_w32 (1888 + (60 + 2 * shG G 2)) + 1) = 1888 + (60 + 2 * shG G 2) + 1 := by rw [wr]; exact w32_eq (by omega) (by omega)
                  have st : ∀ f : mW → mO, (mm_st 0 (mk t3) 142 (mm_w32 (mm_w32 (1888 + (60 + 2 * shG G 2)) + 1)) 0).bind f = f (mk (uA t3 142 (1888 + (60 + 2 * shG G 2) + 1) 0)) := fun f => by rw [wr1]; exact a_st142 t3 f _ _ (by omega) (by omega)
                  have k3 := rp_142 y3 (1888 + (60 + 2 * shG G 2) + 1) 0
                  obtain ⟨t5, y5, hz⟩ := r2 _ _ k3
                  have k5 := rp_142 y5 1890 (shG G 2 + 1)
                  have e5 : ∀ f : Int → mO, (mm_ld 0 (mk t5) 142 1890).bind f = f (shG G 2) := fun f => by rw [r_at y5.2.1 f _ (by omega) (by omega), up_ne (by omega), up_ne (by omega), up_ne (by omega)]; rfl
                  have sp : ∀ f : mW → mO, (mm_st 0 (mk t5) 142 1890 (mm_w32 (shG G 2 + 1))).bind f = f (mk (uA t5 142 1890 (shG G 2 + 1))) := fun f => by rw [w32_eq (by omega) (by omega)]; exact a_st142 t5 f _ _ (by omega) (by omega)
                  obtain ⟨t5, b5, y5⟩ := rp_semif Z hk5 k5 (Lo_upN (Lo_up (Lo_up (Lo_up (Lo_up hL (by omega) _) (by omega) _) (by omega) _) (by omega) _) (by omega) _) qe
                  rcases hz with hz | ⟨u5, hu, hz⟩
                  · exact ⟨_, fun f => by
                      rw [B_X12_schoolPart]
                      simp (disch := first | with_reducible assumption | omega) only [↓sm, ↓reduceIte, ↓if_pos, ↓if_neg, kI, kJ, kR, kV, w32_eq, w64_eq, reduceCtorEq, Int.reduceAdd, Int.reduceMul, Int.reduceSub, o_c141, ↓o_g141_0, ↓o_g141_1, ↓o_g141_5, ↓o_g141_6, ↓o_g141_7, ↓o_g141_8, ↓o_g141_9, ↓o_g141_21, ↓o_g141_25, ↓o_g141_26, ↓o_g141_27, ↓o_g141_28, ↓o_g141_29, ↓o_g141_30, ↓o_g141_31, ↓o_g141_34, ↓o_g141_35, ↓o_g141_36, ↓c0, ↓o_g141_20, ↓B_X12_schoolPart_28 Z, ↓B_X12_schoolPart_43 Z, ↓B_X12_schoolPart_46 Z, ↓o_p141_20, ↓B_X12_schoolPart_54 Z, ↓B_X12_schoolPart_84 Z, ↓B_X12_aLesson Z, ↓B_X12_aLesson_46 Z, ↓r_lessonRow Z, ↓e2, ↓b1, ↓b2, ↓b3, ↓st, ↓e5, ↓sp, ↓b5, ↓hz], y5⟩
                  · rw [← wr1] at hz
                    exact ⟨_, fun f => by
                      rw [B_X12_schoolPart]
                      simp (disch := first | with_reducible assumption | omega) only [↓sm, ↓reduceIte, ↓if_pos, ↓if_neg, kI, kJ, kR, kV, w32_eq, w64_eq, reduceCtorEq, Int.reduceAdd, Int.reduceMul, Int.reduceSub, o_c141, ↓o_g141_0, ↓o_g141_1, ↓o_g141_5, ↓o_g141_6, ↓o_g141_7, ↓o_g141_8, ↓o_g141_9, ↓o_g141_21, ↓o_g141_25, ↓o_g141_26, ↓o_g141_27, ↓o_g141_28, ↓o_g141_29, ↓o_g141_30, ↓o_g141_31, ↓o_g141_34, ↓o_g141_35, ↓o_g141_36, ↓c0, ↓o_g141_20, ↓B_X12_schoolPart_28 Z, ↓B_X12_schoolPart_43 Z, ↓B_X12_schoolPart_46 Z, ↓o_p141_20, ↓B_X12_schoolPart_54 Z, ↓B_X12_schoolPart_84 Z, ↓B_X12_aLesson Z, ↓B_X12_aLesson_46 Z, ↓r_lessonRow Z, ↓e2, ↓b1, ↓b2, ↓b3, ↓st, ↓e5, ↓sp, ↓b5, ↓hu, ↓hz], y5⟩
          · refine Or.inl ⟨nkd T3, tF T3, nkd_1 _, fun s h => ?_, fun t0 t h => ?_⟩
            · obtain ⟨ek, ef, e6, ew, e46, e4p⟩ := cp_k h
              have e6 := e6 (Or.inl h2)
              rw [hv] at e6
              rw [h2] at ek
              have f2 := h.2.2.1
              have f3 := h.2.2.2.1
              have f4 := h.2.2.2.2.1
              obtain ⟨s1, a1, x1, g1⟩ := cp_adv N0 h
              obtain ⟨s2, a2, x2, z2⟩ := c_new_t Z N1 x1 w qa qb.1 qb.2
              obtain ⟨s3, a3, x3, g3⟩ := cp_word N2 x2 (w := 6) qc
              obtain ⟨s4, a4, x4⟩ := cp_numf Z x3 (l := 1) (m := 9) qd
              exact ⟨_, fun f => by
                rw [B_X6_readPart]
                simp (disch := first | with_reducible assumption | omega) only [↓sm, ↓reduceIte, ↓if_pos, ↓if_neg, kI, kJ, kR, kV, w32_eq, w64_eq, reduceCtorEq, Int.reduceAdd, Int.reduceMul, Int.reduceSub, o_c39, ↓o_g39_0, ↓o_g39_1, o_c5, o_c40, ↓rI40_6 e46, ↓rI40_10 e4p, ↓rI5_5 ek, ↓rI5_6 e6, ↓rI39_2 f2, ↓rI39_3 f3, ↓rI39_4 f4, ↓B_X6_readLesson Z, ↓a1, ↓a2, ↓a3, ↓a4], x4⟩
            · have ew : wn (tK T) (tV T) = 4 := (wn_eq hk (w := 5) (by omega) (by omega)).mpr ⟨h2, hv⟩
              have c0 : ∀ f : Int → mW → mO, mm_kI (mm_run (zP Z) 235 [.inr (.inr (some 141)), .inr (.inr (some 1))] (mk t)) f = f 4 (mk t) := fun f => by rw [r_inW Z hT hk h.1, ew]
              have v0 := rp_told (th' := th) (od' := od) (gr' := gr) h (k := 4) (e := 0) (by omega) (by omega) (by omega) (by omega) (by omega)
              have e2 : ∀ f : Int → mO, (mm_ld 0 (mk (uF t 141 20 (mm_ior (t.1 141 20) (mm_ior (mm_ishl 1 4) 0)))) 142 1890).bind f = f (shG G 2) := fun f => r_at v0.2.1 f _ (by omega) (by omega)
              obtain ⟨t1, b1, y1⟩ := r_new_t Z hT hk1 M0 M1 v0 w (k := 2) (l := 7) (o := 0) (by unfold mny; omega) (by omega) qa qb.1 qb.2
              obtain ⟨t2, b2, y2⟩ := rp_word hT hk2 M2 y1 (w := 6) (k := 7) (by decide) (by omega) (by omega) qc
              obtain ⟨t3, b3, y3⟩ := rp_numf Z hk3 y2 (Lo_upN hL (by omega) _) (to := 1888 + (60 + 2 * shG G 2)) (l := 1) (m := 9) qd
              have wr : mm_w32 (1888 + (60 + 2 * shG G 2)) = 1888 + (60 + 2 * shG G 2) := w32_eq (by omega) (by omega)
              rw [← wr] at b3
              exact ⟨_, fun f => by
                rw [B_X12_schoolPart]
                simp (disch := first | with_reducible assumption | omega) only [↓sm, ↓reduceIte, ↓if_pos, ↓if_neg, kI, kJ, kR, kV, w32_eq, w64_eq, reduceCtorEq, Int.reduceAdd, Int.reduceMul, Int.reduceSub, o_c141, ↓o_g141_0, ↓o_g141_1, ↓o_g141_5, ↓o_g141_6, ↓o_g141_7, ↓o_g141_8, ↓o_g141_9, ↓o_g141_21, ↓o_g141_25, ↓o_g141_26, ↓o_g141_27, ↓o_g141_28, ↓o_g141_29, ↓o_g141_30, ↓o_g141_31, ↓o_g141_34, ↓o_g141_35, ↓o_g141_36, ↓c0, ↓o_g141_20, ↓B_X12_schoolPart_28 Z, ↓B_X12_schoolPart_43 Z, ↓B_X12_schoolPart_46 Z, ↓o_p141_20, ↓B_X12_schoolPart_54 Z, ↓B_X12_schoolPart_84 Z, ↓B_X12_aLesson Z, ↓B_X12_aLesson_46 Z, ↓r_lessonRow Z, ↓e2, ↓b1, ↓b2, ↓b3], y3⟩
        · refine Or.inl ⟨fkd T2, tF T2, fkd_1 _, fun s h => ?_, fun t0 t h => ?_⟩
          · obtain ⟨ek, ef, e6, ew, e46, e4p⟩ := cp_k h
            have e6 := e6 (Or.inl h2)
            rw [hv] at e6
            rw [h2] at ek
            have f2 := h.2.2.1
            have f3 := h.2.2.2.1
            have f4 := h.2.2.2.2.1
            obtain ⟨s1, a1, x1, g1⟩ := cp_adv N0 h
            obtain ⟨s2, a2, x2, z2⟩ := c_new_t Z N1 x1 w qa qb.1 qb.2
            obtain ⟨s3, a3, x3⟩ := cp_wordf Z x2 (w := 6) qc
            exact ⟨_, fun f => by
              rw [B_X6_readPart]
              simp (disch := first | with_reducible assumption | omega) only [↓sm, ↓reduceIte, ↓if_pos, ↓if_neg, kI, kJ, kR, kV, w32_eq, w64_eq, reduceCtorEq, Int.reduceAdd, Int.reduceMul, Int.reduceSub, o_c39, ↓o_g39_0, ↓o_g39_1, o_c5, o_c40, ↓rI40_6 e46, ↓rI40_10 e4p, ↓rI5_5 ek, ↓rI5_6 e6, ↓rI39_2 f2, ↓rI39_3 f3, ↓rI39_4 f4, ↓B_X6_readLesson Z, ↓a1, ↓a2, ↓a3], x3⟩
          · have ew : wn (tK T) (tV T) = 4 := (wn_eq hk (w := 5) (by omega) (by omega)).mpr ⟨h2, hv⟩
            have c0 : ∀ f : Int → mW → mO, mm_kI (mm_run (zP Z) 235 [.inr (.inr (some 141)), .inr (.inr (some 1))] (mk t)) f = f 4 (mk t) := fun f => by rw [r_inW Z hT hk h.1, ew]
            have v0 := rp_told (th' := th) (od' := od) (gr' := gr) h (k := 4) (e := 0) (by omega) (by omega) (by omega) (by omega) (by omega)
            have e2 : ∀ f : Int → mO, (mm_ld 0 (mk (uF t 141 20 (mm_ior (t.1 141 20) (mm_ior (mm_ishl 1 4) 0)))) 142 1890).bind f = f (shG G 2) := fun f => r_at v0.2.1 f _ (by omega) (by omega)
            obtain ⟨t1, b1, y1⟩ := r_new_t Z hT hk1 M0 M1 v0 w (k := 2) (l := 7) (o := 0) (by unfold mny; omega) (by omega) qa qb.1 qb.2
            obtain ⟨t2, b2, y2⟩ := rp_wordf Z hT hk2 y1 (Lo_upN hL (by omega) _) (w := 6) (k := 7) (by decide) (by omega) (by omega) qc
            exact ⟨_, fun f => by
              rw [B_X12_schoolPart]
              simp (disch := first | with_reducible assumption | omega) only [↓sm, ↓reduceIte, ↓if_pos, ↓if_neg, kI, kJ, kR, kV, w32_eq, w64_eq, reduceCtorEq, Int.reduceAdd, Int.reduceMul, Int.reduceSub, o_c141, ↓o_g141_0, ↓o_g141_1, ↓o_g141_5, ↓o_g141_6, ↓o_g141_7, ↓o_g141_8, ↓o_g141_9, ↓o_g141_21, ↓o_g141_25, ↓o_g141_26, ↓o_g141_27, ↓o_g141_28, ↓o_g141_29, ↓o_g141_30, ↓o_g141_31, ↓o_g141_34, ↓o_g141_35, ↓o_g141_36, ↓c0, ↓o_g141_20, ↓B_X12_schoolPart_28 Z, ↓B_X12_schoolPart_43 Z, ↓B_X12_schoolPart_46 Z, ↓o_p141_20, ↓B_X12_schoolPart_54 Z, ↓B_X12_schoolPart_84 Z, ↓B_X12_aLesson Z, ↓B_X12_aLesson_46 Z, ↓r_lessonRow Z, ↓e2, ↓b1, ↓b2], y2⟩
      · refine Or.inl ⟨3, tF T1, by omega, fun s h => ?_, fun t0 t h => ?_⟩
        · obtain ⟨ek, ef, e6, ew, e46, e4p⟩ := cp_k h
          have e6 := e6 (Or.inl h2)
          rw [hv] at e6
          rw [h2] at ek
          have f2 := h.2.2.1
          have f3 := h.2.2.2.1
          have f4 := h.2.2.2.2.1
          obtain ⟨s1, a1, x1, g1⟩ := cp_adv N0 h
          obtain ⟨s2, a2, x2⟩ := c_new_3 Z x1 w qa qb
          exact ⟨_, fun f => by
            rw [B_X6_readPart]
            simp (disch := first | with_reducible assumption | omega) only [↓sm, ↓reduceIte, ↓if_pos, ↓if_neg, kI, kJ, kR, kV, w32_eq, w64_eq, reduceCtorEq, Int.reduceAdd, Int.reduceMul, Int.reduceSub, o_c39, ↓o_g39_0, ↓o_g39_1, o_c5, o_c40, ↓rI40_6 e46, ↓rI40_10 e4p, ↓rI5_5 ek, ↓rI5_6 e6, ↓rI39_2 f2, ↓rI39_3 f3, ↓rI39_4 f4, ↓B_X6_readLesson Z, ↓a1, ↓a2], x2⟩
        · have ew : wn (tK T) (tV T) = 4 := (wn_eq hk (w := 5) (by omega) (by omega)).mpr ⟨h2, hv⟩
          have c0 : ∀ f : Int → mW → mO, mm_kI (mm_run (zP Z) 235 [.inr (.inr (some 141)), .inr (.inr (some 1))] (mk t)) f = f 4 (mk t) := fun f => by rw [r_inW Z hT hk h.1, ew]
          have v0 := rp_told (th' := th) (od' := od) (gr' := gr) h (k := 4) (e := 0) (by omega) (by omega) (by omega) (by omega) (by omega)
          have e2 : ∀ f : Int → mO, (mm_ld 0 (mk (uF t 141 20 (mm_ior (t.1 141 20) (mm_ior (mm_ishl 1 4) 0)))) 142 1890).bind f = f (shG G 2) := fun f => r_at v0.2.1 f _ (by omega) (by omega)
          obtain ⟨t1, b1, y1⟩ := r_new_3 Z hT hk1 M0 v0 hL w (k := 2) (l := 7) (o := 0) (by unfold mny; omega) (by omega) qa qb
          exact ⟨_, fun f => by
            rw [B_X12_schoolPart]
            simp (disch := first | with_reducible assumption | omega) only [↓sm, ↓reduceIte, ↓if_pos, ↓if_neg, kI, kJ, kR, kV, w32_eq, w64_eq, reduceCtorEq, Int.reduceAdd, Int.reduceMul, Int.reduceSub, o_c141, ↓o_g141_0, ↓o_g141_1, ↓o_g141_5, ↓o_g141_6, ↓o_g141_7, ↓o_g141_8, ↓o_g141_9, ↓o_g141_21, ↓o_g141_25, ↓o_g141_26, ↓o_g141_27, ↓o_g141_28, ↓o_g141_29, ↓o_g141_30, ↓o_g141_31, ↓o_g141_34, ↓o_g141_35, ↓o_g141_36, ↓c0, ↓o_g141_20, ↓B_X12_schoolPart_28 Z, ↓B_X12_schoolPart_43 Z, ↓B_X12_schoolPart_46 Z, ↓o_p141_20, ↓B_X12_schoolPart_54 Z, ↓B_X12_schoolPart_84 Z, ↓B_X12_aLesson Z, ↓B_X12_aLesson_46 Z, ↓r_lessonRow Z, ↓e2, ↓b1], y1⟩
    · refine Or.inl ⟨fkd T1, tF T1, fkd_1 _, fun s h => ?_, fun t0 t h => ?_⟩
      · obtain ⟨ek, ef, e6, ew, e46, e4p⟩ := cp_k h
        have e6 := e6 (Or.inl h2)
        rw [hv] at e6
        rw [h2] at ek
        have f2 := h.2.2.1
        have f3 := h.2.2.2.1
        have f4 := h.2.2.2.2.1
        obtain ⟨s1, a1, x1, g1⟩ := cp_adv N0 h
        obtain ⟨s2, a2, x2⟩ := c_new_2 Z x1 qa
        exact ⟨_, fun f => by
          rw [B_X6_readPart]
          simp (disch := first | with_reducible assumption | omega) only [↓sm, ↓reduceIte, ↓if_pos, ↓if_neg, kI, kJ, kR, kV, w32_eq, w64_eq, reduceCtorEq, Int.reduceAdd, Int.reduceMul, Int.reduceSub, o_c39, ↓o_g39_0, ↓o_g39_1, o_c5, o_c40, ↓rI40_6 e46, ↓rI40_10 e4p, ↓rI5_5 ek, ↓rI5_6 e6, ↓rI39_2 f2, ↓rI39_3 f3, ↓rI39_4 f4, ↓B_X6_readLesson Z, ↓a1, ↓a2], x2⟩
      · have ew : wn (tK T) (tV T) = 4 := (wn_eq hk (w := 5) (by omega) (by omega)).mpr ⟨h2, hv⟩
        have c0 : ∀ f : Int → mW → mO, mm_kI (mm_run (zP Z) 235 [.inr (.inr (some 141)), .inr (.inr (some 1))] (mk t)) f = f 4 (mk t) := fun f => by rw [r_inW Z hT hk h.1, ew]
        have v0 := rp_told (th' := th) (od' := od) (gr' := gr) h (k := 4) (e := 0) (by omega) (by omega) (by omega) (by omega) (by omega)
        have e2 : ∀ f : Int → mO, (mm_ld 0 (mk (uF t 141 20 (mm_ior (t.1 141 20) (mm_ior (mm_ishl 1 4) 0)))) 142 1890).bind f = f (shG G 2) := fun f => r_at v0.2.1 f _ (by omega) (by omega)
        obtain ⟨t1, b1, y1⟩ := r_new_2 Z hT hk1 M0 v0 hL (k := 2) (l := 7) (o := 0) (by unfold mny; omega) (by omega) qa
        exact ⟨_, fun f => by
          rw [B_X12_schoolPart]
          simp (disch := first | with_reducible assumption | omega) only [↓sm, ↓reduceIte, ↓if_pos, ↓if_neg, kI, kJ, kR, kV, w32_eq, w64_eq, reduceCtorEq, Int.reduceAdd, Int.reduceMul, Int.reduceSub, o_c141, ↓o_g141_0, ↓o_g141_1, ↓o_g141_5, ↓o_g141_6, ↓o_g141_7, ↓o_g141_8, ↓o_g141_9, ↓o_g141_21, ↓o_g141_25, ↓o_g141_26, ↓o_g141_27, ↓o_g141_28, ↓o_g141_29, ↓o_g141_30, ↓o_g141_31, ↓o_g141_34, ↓o_g141_35, ↓o_g141_36, ↓c0, ↓o_g141_20, ↓B_X12_schoolPart_28 Z, ↓B_X12_schoolPart_43 Z, ↓B_X12_schoolPart_46 Z, ↓o_p141_20, ↓B_X12_schoolPart_54 Z, ↓B_X12_schoolPart_84 Z, ↓B_X12_aLesson Z, ↓B_X12_aLesson_46 Z, ↓r_lessonRow Z, ↓e2, ↓b1], y1⟩
  · refine Or.inl ⟨6, tF T, by omega, fun s h => ?_, fun t0 t h => ?_⟩
    · obtain ⟨ek, ef, e6, ew, e46, e4p⟩ := cp_k h
      have e6 := e6 (Or.inl h2)
      rw [hv] at e6
      rw [h2] at ek
      have f2 := h.2.2.1
      have f3 := h.2.2.2.1
      have f4 := h.2.2.2.2.1
      have nf : ¬ shG G 2 < 7 := by omega
      obtain ⟨s1, a1, x1⟩ := cp_fails Z h 6
      exact ⟨_, fun f => by
        rw [B_X6_readPart]
        simp (disch := first | with_reducible assumption | omega) only [↓sm, ↓reduceIte, ↓if_pos, ↓if_neg, kI, kJ, kR, kV, w32_eq, w64_eq, reduceCtorEq, Int.reduceAdd, Int.reduceMul, Int.reduceSub, o_c39, ↓o_g39_0, ↓o_g39_1, o_c5, o_c40, ↓rI40_6 e46, ↓rI40_10 e4p, ↓rI5_5 ek, ↓rI5_6 e6, ↓rI39_2 f2, ↓rI39_3 f3, ↓rI39_4 f4, ↓B_X6_readLesson Z, nf, ↓a1], x1⟩
    · have ew : wn (tK T) (tV T) = 4 := (wn_eq hk (w := 5) (by omega) (by omega)).mpr ⟨h2, hv⟩
      have c0 : ∀ f : Int → mW → mO, mm_kI (mm_run (zP Z) 235 [.inr (.inr (some 141)), .inr (.inr (some 1))] (mk t)) f = f 4 (mk t) := fun f => by rw [r_inW Z hT hk h.1, ew]
      have v0 := rp_told (th' := th) (od' := od) (gr' := gr) h (k := 4) (e := 0) (by omega) (by omega) (by omega) (by omega) (by omega)
      have e2 : ∀ f : Int → mO, (mm_ld 0 (mk (uF t 141 20 (mm_ior (t.1 141 20) (mm_ior (mm_ishl 1 4) 0)))) 142 1890).bind f = f (shG G 2) := fun f => r_at v0.2.1 f _ (by omega) (by omega)
      obtain ⟨t1, b1, y1⟩ := r_new_6 Z hk v0 hL (k := 2) (l := 7) (o := 0) (by unfold mny; omega) (by omega) (by omega)
      exact ⟨_, fun f => by
        rw [B_X12_schoolPart]
        simp (disch := first | with_reducible assumption | omega) only [↓sm, ↓reduceIte, ↓if_pos, ↓if_neg, kI, kJ, kR, kV, w32_eq, w64_eq, reduceCtorEq, Int.reduceAdd, Int.reduceMul, Int.reduceSub, o_c141, ↓o_g141_0, ↓o_g141_1, ↓o_g141_5, ↓o_g141_6, ↓o_g141_7, ↓o_g141_8, ↓o_g141_9, ↓o_g141_21, ↓o_g141_25, ↓o_g141_26, ↓o_g141_27, ↓o_g141_28, ↓o_g141_29, ↓o_g141_30, ↓o_g141_31, ↓o_g141_34, ↓o_g141_35, ↓o_g141_36, ↓c0, ↓o_g141_20, ↓B_X12_schoolPart_28 Z, ↓B_X12_schoolPart_43 Z, ↓B_X12_schoolPart_46 Z, ↓o_p141_20, ↓B_X12_schoolPart_54 Z, ↓B_X12_schoolPart_84 Z, ↓B_X12_aLesson Z, ↓B_X12_aLesson_46 Z, ↓r_lessonRow Z, ↓e2, ↓b1], y1⟩
set_option maxHeartbeats 8000000 in
theorem pupil_want (Z : mX) {s0 : mS} {b : Int → Int} {n : Int} (hT : TB0 b n) {G0 H0 G H : Int → Int} {th od gr : Int} {T : mT} (hk : TT b n T) (hD : DrI (shG G) th od gr) (hL : Lo G0 H0 G H) (h2 : tK T = 2) (hv : tV T = 8) (qz : shG G 3 < 5) {T1 T2 T3 T4 : mT} (hk1 : TT b n T1) (hk2 : TT b n T2) (hk3 : TT b n T3) (hk4 : TT b n T4) (N0 : NC Z b n T T1) (M0 : NR Z b n T T1) (N1 : NC Z b n T1 T2) (M1 : NR Z b n T1 T2) (N2 : NC Z b n T2 T3) (M2 : NR Z b n T2 T3) (N3 : NC Z b n T3 T4) (M3 : NR Z b n T3 T4) (p1 : tE T ≤ tF T1) (p2 : tE T1 ≤ tF T2) (p3 : tE T2 ≤ tF T3) (p4 : tE T3 ≤ tF T4) (qa : tK T1 = 3) (qb : fd (shN H) (tW T1) (shG G 2) (shG G 2).toNat = -1 ∧ fd (fun p => shN H (7 + p)) (tW T1) (shG G 3) (shG G 3).toNat = -1) (qc : tK T2 = 2 ∧ tV T2 = 9) (qd : tK T3 = 5 ∧ 0 ≤ tV T3 ∧ tV T3 ≤ ncl (shG G) - 1) (qw : tK T4 = 2 ∧ tV T4 = 10) : Part Z s0 b n G0 H0 T G H th od gr := by
  obtain ⟨w, d7, dt, dd, dg, d0, dz⟩ := id hD
  have w0 := wf0 w
  have nn := wf_n w
  have q0 := tk_o hk
  have q1 := tk_o hk1
  have q2 := tk_o hk2
  have q3 := tk_o hk3
  have q4 := tk_o hk4
  obtain ⟨T5, p5, hk5, N4, M4⟩ := nxt Z hT hk4
  obtain ⟨T6, p6, hk6, N5, M5⟩ := nxt Z hT hk5
  have q5 := tk_o hk5
  have q6 := tk_o hk6
  by_cases qn : tK T5 = 5 ∧ 0 ≤ tV T5 ∧ tV T5 ≤ 9
  · have hH : ∀ k, 0 ≤ k → k < shG G 2 → shN (mm_upd H (48 + 7 + shG G 3) (tW T1)) k = shN H k := fun k k0 k1 => by rw [shN_up H (48 + 7 + shG G 3) (7 + shG G 3) _ (by omega), up_ne (by omega)]
    have hB := behind Z (s0 := s0) hT (G0 := G0) (H0 := H0) (Gc := G) (Hc := H) (th := th) (od := od) (gr := 1) (m := shG G 2) (row := 1888 + (74 + 6 * shG G 3) + 2) (w := 11) (kw := 11) (by decide) (by omega) (by omega) (by omega) (by omega) rfl hH (by omega) (by omega) hk6 (G := mm_upd (mm_upd (mm_upd G (1888 + (74 + 6 * shG G 3)) (tV T3)) (1888 + (74 + 6 * shG G 3) + 1) (tV T5)) (1888 + (74 + 6 * shG G 3) + 2) 0) (up_eq rfl) (by rw [up_ne (by omega), up_ne (by omega), up_ne (by omega)]; rfl) (Lo_upN (Lo_up (Lo_up (Lo_up hL (by omega) _) (by omega) _) (by omega) _) (by omega) _)
    rcases hB with ⟨kd, pl, r0, r1, r2⟩ | ⟨T7, y, r0, hk7, ⟨j, hj⟩, r1, r2⟩
    · refine Or.inl ⟨kd, pl, r0, fun s h => ?_, fun t0 t h => ?_⟩
      · obtain ⟨ek, ef, e6, ew, e46, e4p⟩ := cp_k h
        have e6 := e6 (Or.inl h2)
        rw [hv] at e6
        rw [h2] at ek
        have f2 := h.2.2.1
        have f3 := h.2.2.2.1
        have f4 := h.2.2.2.2.1
        have u0 := cp_39 (th' := th) (od' := od) (gr' := 1) h (k := 4) (v := 1) (by omega)
        obtain ⟨s1, a1, x1, g1⟩ := cp_adv N0 u0
        obtain ⟨s2, a2, x2, z2⟩ := c_new_t Z N1 x1 w qa qb.1 qb.2
        obtain ⟨s3, a3, x3, g3⟩ := cp_word N2 x2 (w := 9) qc
        have cc := fun f => c_cells40 Z x3.2.1 w f
        have wn : mm_w32 (ncl (shG G) - 1) = ncl (shG G) - 1 := w32_eq (by omega) (by omega)
        obtain ⟨s4, a4, x4, z4, g4⟩ := cp_num N3 x3 (l := 0) (m := ncl (shG G) - 1) qd
        rw [← wn] at a4
        have iw := fun f => c_isWord Z x4.1 10 f
        rw [if_pos qw] at iw
        obtain ⟨s5, a5, x5, g5⟩ := cp_adv N4 x4
        obtain ⟨s6, a6, x6, w6, g6⟩ := cp_num N5 x5 (l := 0) (m := 9) qn
        obtain ⟨s7, a7, x7⟩ := r1 s6 x6
        exact ⟨_, fun f => by
          rw [B_X6_readPart]
          simp (disch := first | with_reducible assumption | omega) only [↓sm, ↓reduceIte, ↓if_pos, ↓if_neg, kI, kJ, kR, kV, w32_eq, w64_eq, reduceCtorEq, Int.reduceAdd, Int.reduceMul, Int.reduceSub, o_c39, ↓o_g39_0, ↓o_g39_1, o_c5, o_c40, ↓rI40_6 e46, ↓rI40_10 e4p, ↓rI5_5 ek, ↓rI5_6 e6, ↓rI39_2 f2, ↓rI39_3 f3, ↓rI39_4 f4, ↓B_X6_readPupil Z, ↓B_X6_readPupil_64 Z, ↓o_p39_4, ↓a1, ↓a2, ↓a3, ↓cc, ↓a4, ↓rI5_8 z4, ↓iw, ↓a5, ↓a6, ↓rI5_8 w6, ↓a7], x7⟩
      · have ew : wn (tK T) (tV T) = 5 := (wn_eq hk (w := 8) (by omega) (by omega)).mpr ⟨h2, hv⟩
        have c0 : ∀ f : Int → mW → mO, mm_kI (mm_run (zP Z) 235 [.inr (.inr (some 141)), .inr (.inr (some 1))] (mk t)) f = f 5 (mk t) := fun f => by rw [r_inW Z hT hk h.1, ew]
        have v0 := rp_told (th' := th) (od' := od) (gr' := 1) h (k := 5) (e := 1) (by omega) (by omega) (by omega) (by omega) (by omega)
        have e3 : ∀ f : Int → mO, (mm_ld 0 (mk (uF t 141 20 (mm_ior (t.1 141 20) (mm_ior (mm_ishl 1 5) 1)))) 142 1891).bind f = f (shG G 3) := fun f => r_at v0.2.1 f _ (by omega) (by omega)
        obtain ⟨t1, b1, y1⟩ := r_new_t Z hT hk1 M0 M1 v0 w (k := 3) (l := 5) (o := 7) (by unfold mny; omega) (by omega) qa qb.1 qb.2
        obtain ⟨t2, b2, y2⟩ := rp_word hT hk2 M2 y1 (w := 9) (k := 9) (by decide) (by omega) (by omega) qc
        obtain ⟨t3, b3, y3⟩ := rp_cellTo hk3 M3 y2 w (to := 1888 + (74 + 6 * shG G 3)) (by omega) (by omega) qd
        have wr : mm_w32 (1888 + (74 + 6 * shG G 3)) = 1888 + (74 + 6 * shG G 3) := w32_eq (by omega) (by omega)
        rw [← wr] at b3
        have wr1 : mm_w32 (mm_w32 (1888 + (74 + 6 * shG G 3)) + 1) = 1888 + (74 + 6 * shG G 3) + 1 := by rw [wr]; exact w32_eq (by omega) (by omega)
        have wr2 : mm_w32 (mm_w32 (1888 + (74 + 6 * shG G 3)) + 2) = 1888 + (74 + 6 * shG G 3) + 2 := by rw [wr]; exact w32_eq (by omega) (by omega)
        obtain ⟨t4, b4, y4⟩ := rp_want_t hT hk4 hk5 M4 M5 y3 (to := 1888 + (74 + 6 * shG G 3) + 1) (by omega) (by omega) qw qn
        rw [← wr1] at b4
        have k5 := rp_142 y4 (1888 + (74 + 6 * shG G 3) + 2) 0
        have st2 : ∀ f : mW → mO, (mm_st 0 (mk t4) 142 (mm_w32 (mm_w32 (1888 + (74 + 6 * shG G 3)) + 2)) 0).bind f = f (mk (uA t4 142 (1888 + (74 + 6 * shG G 3) + 2) 0)) := fun f => by rw [wr2]; exact a_st142 t4 f _ _ (by omega) (by omega)
        obtain ⟨u4, t7, b7, b8, y7⟩ := r2 _ _ k5
        rw [← wr2] at b8
        exact ⟨_, fun f => by
          rw [B_X12_schoolPart]
          simp (disch := first | with_reducible assumption | omega) only [↓sm, ↓reduceIte, ↓if_pos, ↓if_neg, kI, kJ, kR, kV, w32_eq, w64_eq, reduceCtorEq, Int.reduceAdd, Int.reduceMul, Int.reduceSub, o_c141, ↓o_g141_0, ↓o_g141_1, ↓o_g141_5, ↓o_g141_6, ↓o_g141_7, ↓o_g141_8, ↓o_g141_9, ↓o_g141_21, ↓o_g141_25, ↓o_g141_26, ↓o_g141_27, ↓o_g141_28, ↓o_g141_29, ↓o_g141_30, ↓o_g141_31, ↓o_g141_34, ↓o_g141_35, ↓o_g141_36, ↓c0, ↓o_g141_20, ↓B_X12_schoolPart_28 Z, ↓B_X12_schoolPart_43 Z, ↓B_X12_schoolPart_46 Z, ↓o_p141_20, ↓B_X12_schoolPart_54 Z, ↓B_X12_schoolPart_84 Z, ↓B_X12_aPupil Z, ↓B_X12_aPupil_54 Z, ↓r_pupilRow Z, ↓e3, ↓b1, ↓b2, ↓b3, ↓b4, ↓st2, ↓b7, ↓b8], y7⟩
    · obtain ⟨T8, p8, hk8, N7, M7⟩ := nxt Z hT hk7
      have q7 := tk_o hk7
      have q8 := tk_o hk8
      by_cases qe : tK T7 = 6 ∧ tV T7 = 59
      · refine Or.inr ⟨T8, mm_upd (puG G (tV T3) (tV T5) y) 1891 (shG G 3 + 1), mm_upd H (48 + 7 + shG G 3) (tW T1), th, od, 1, by omega, hk8, pupil_DI hD (by omega) (tV T3) (tV T5) y j qd.2 qn.2 hj, (Lo_upN (Lo_up (Lo_up (Lo_up (Lo_up (Lo_up hL (by omega) _) (by omega) _) (by omega) _) (by omega) _) (by omega) _) (by omega) _), fun s h => ?_, fun t0 t h => ?_⟩
        · obtain ⟨ek, ef, e6, ew, e46, e4p⟩ := cp_k h
          have e6 := e6 (Or.inl h2)
          rw [hv] at e6
          rw [h2] at ek
          have f2 := h.2.2.1
          have f3 := h.2.2.2.1
          have f4 := h.2.2.2.2.1
          have u0 := cp_39 (th' := th) (od' := od) (gr' := 1) h (k := 4) (v := 1) (by omega)
          obtain ⟨s1, a1, x1, g1⟩ := cp_adv N0 u0
          obtain ⟨s2, a2, x2, z2⟩ := c_new_t Z N1 x1 w qa qb.1 qb.2
          obtain ⟨s3, a3, x3, g3⟩ := cp_word N2 x2 (w := 9) qc
          have cc := fun f => c_cells40 Z x3.2.1 w f
          have wn : mm_w32 (ncl (shG G) - 1) = ncl (shG G) - 1 := w32_eq (by omega) (by omega)
          obtain ⟨s4, a4, x4, z4, g4⟩ := cp_num N3 x3 (l := 0) (m := ncl (shG G) - 1) qd
          rw [← wn] at a4
          have iw := fun f => c_isWord Z x4.1 10 f
          rw [if_pos qw] at iw
          obtain ⟨s5, a5, x5, g5⟩ := cp_adv N4 x4
          obtain ⟨s6, a6, x6, w6, g6⟩ := cp_num N5 x5 (l := 0) (m := 9) qn
          obtain ⟨s7, a7, x7, z7, z8⟩ := r1 s6 x6
          obtain ⟨s8, a8, x8, g8⟩ := cp_semi N7 x7 qe
          have f6 : s8.1 39 6 = y := by rw [g8.2 39 6 (by unfold tyF; omega)]; exact z7
          have f5 : s8.1 39 5 = tW T1 := by rw [g8.2 39 5 (by unfold tyF; omega), z8, g6.2 39 5 (by unfold tyF; omega), g5.2 39 5 (by unfold tyF; omega), g4.2 39 5 (by unfold tyF; omega), g3.2 39 5 (by unfold tyF; omega)]; exact z2
          have cad := fun f => c_addPup40 Z (cp_k x8).2.2.2.2.2 (by omega) (by omega) (tV T3) (tV T5) y (tW T1) f
          have k8 := cp_40 x8 (adP_Ag s8 (shG G 3) (tV T3) (tV T5) y (tW T1)) (cs40_pupil x8.2.1 hD (by omega) (tV T3) (tV T5) y (tW T1))
          exact ⟨_, fun f => by
            rw [B_X6_readPart]
            simp (disch := first | with_reducible assumption | omega) only [↓sm, ↓reduceIte, ↓if_pos, ↓if_neg, kI, kJ, kR, kV, w32_eq, w64_eq, reduceCtorEq, Int.reduceAdd, Int.reduceMul, Int.reduceSub, o_c39, ↓o_g39_0, ↓o_g39_1, o_c5, o_c40, ↓rI40_6 e46, ↓rI40_10 e4p, ↓rI5_5 ek, ↓rI5_6 e6, ↓rI39_2 f2, ↓rI39_3 f3, ↓rI39_4 f4, ↓B_X6_readPupil Z, ↓B_X6_readPupil_64 Z, ↓o_p39_4, ↓a1, ↓a2, ↓a3, ↓cc, ↓a4, ↓rI5_8 z4, ↓iw, ↓a5, ↓a6, ↓rI5_8 w6, ↓a7, ↓a8, ↓rI39_6 f6, ↓rJ39_5 f5, ↓cad], k8⟩
        · have ew : wn (tK T) (tV T) = 5 := (wn_eq hk (w := 8) (by omega) (by omega)).mpr ⟨h2, hv⟩
          have c0 : ∀ f : Int → mW → mO, mm_kI (mm_run (zP Z) 235 [.inr (.inr (some 141)), .inr (.inr (some 1))] (mk t)) f = f 5 (mk t) := fun f => by rw [r_inW Z hT hk h.1, ew]
          have v0 := rp_told (th' := th) (od' := od) (gr' := 1) h (k := 5) (e := 1) (by omega) (by omega) (by omega) (by omega) (by omega)
          have e3 : ∀ f : Int → mO, (mm_ld 0 (mk (uF t 141 20 (mm_ior (t.1 141 20) (mm_ior (mm_ishl 1 5) 1)))) 142 1891).bind f = f (shG G 3) := fun f => r_at v0.2.1 f _ (by omega) (by omega)
          obtain ⟨t1, b1, y1⟩ := r_new_t Z hT hk1 M0 M1 v0 w (k := 3) (l := 5) (o := 7) (by unfold mny; omega) (by omega) qa qb.1 qb.2
          obtain ⟨t2, b2, y2⟩ := rp_word hT hk2 M2 y1 (w := 9) (k := 9) (by decide) (by omega) (by omega) qc
          obtain ⟨t3, b3, y3⟩ := rp_cellTo hk3 M3 y2 w (to := 1888 + (74 + 6 * shG G 3)) (by omega) (by omega) qd
          have wr : mm_w32 (1888 + (74 + 6 * shG G 3)) = 1888 + (74 + 6 * shG G 3) := w32_eq (by omega) (by omega)
          rw [← wr] at b3
          have wr1 : mm_w32 (mm_w32 (1888 + (74 + 6 * shG G 3)) + 1) = 1888 + (74 + 6 * shG G 3) + 1 := by rw [wr]; exact w32_eq (by omega) (by omega)
          have wr2 : mm_w32 (mm_w32 (1888 + (74 + 6 * shG G 3)) + 2) = 1888 + (74 + 6 * shG G 3) + 2 := by rw [wr]; exact w32_eq (by omega) (by omega)
          obtain ⟨t4, b4, y4⟩ := rp_want_t hT hk4 hk5 M4 M5 y3 (to := 1888 + (74 + 6 * shG G 3) + 1) (by omega) (by omega) qw qn
          rw [← wr1] at b4
          have k5 := rp_142 y4 (1888 + (74 + 6 * shG G 3) + 2) 0
          have st2 : ∀ f : mW → mO, (mm_st 0 (mk t4) 142 (mm_w32 (mm_w32 (1888 + (74 + 6 * shG G 3)) + 2)) 0).bind f = f (mk (uA t4 142 (1888 + (74 + 6 * shG G 3) + 2) 0)) := fun f => by rw [wr2]; exact a_st142 t4 f _ _ (by omega) (by omega)
          obtain ⟨t7, y7, hz⟩ := r2 _ _ k5
          have k7 := rp_142 y7 1891 (shG G 3 + 1)
          have e7 : ∀ f : Int → mO, (mm_ld 0 (mk t7) 142 1891).bind f = f (shG G 3) := fun f => by rw [r_at y7.2.1 f _ (by omega) (by omega), up_ne (by omega), up_ne (by omega), up_ne (by omega), up_ne (by omega)]; rfl
          have sp : ∀ f : mW → mO, (mm_st 0 (mk t7) 142 1891 (mm_w32 (shG G 3 + 1))).bind f = f (mk (uA t7 142 1891 (shG G 3 + 1))) := fun f => by rw [w32_eq (by omega) (by omega)]; exact a_st142 t7 f _ _ (by omega) (by omega)
          obtain ⟨t6, b6, y6⟩ := rp_semi hk7 M7 k7 qe
          rcases hz with hz | ⟨u5, hu, hz⟩
          · exact ⟨_, fun f => by
              rw [B_X12_schoolPart]
              simp (disch := first | with_reducible assumption | omega) only [↓sm, ↓reduceIte, ↓if_pos, ↓if_neg, kI, kJ, kR, kV, w32_eq, w64_eq, reduceCtorEq, Int.reduceAdd, Int.reduceMul, Int.reduceSub, o_c141, ↓o_g141_0, ↓o_g141_1, ↓o_g141_5, ↓o_g141_6, ↓o_g141_7, ↓o_g141_8, ↓o_g141_9, ↓o_g141_21, ↓o_g141_25, ↓o_g141_26, ↓o_g141_27, ↓o_g141_28, ↓o_g141_29, ↓o_g141_30, ↓o_g141_31, ↓o_g141_34, ↓o_g141_35, ↓o_g141_36, ↓c0, ↓o_g141_20, ↓B_X12_schoolPart_28 Z, ↓B_X12_schoolPart_43 Z, ↓B_X12_schoolPart_46 Z, ↓o_p141_20, ↓B_X12_schoolPart_54 Z, ↓B_X12_schoolPart_84 Z, ↓B_X12_aPupil Z, ↓B_X12_aPupil_54 Z, ↓r_pupilRow Z, ↓e3, ↓b1, ↓b2, ↓b3, ↓b4, ↓st2, ↓e7, ↓sp, ↓b6, ↓hz], y6⟩
          · rw [← wr2] at hz
            exact ⟨_, fun f => by
              rw [B_X12_schoolPart]
              simp (disch := first | with_reducible assumption | omega) only [↓sm, ↓reduceIte, ↓if_pos, ↓if_neg, kI, kJ, kR, kV, w32_eq, w64_eq, reduceCtorEq, Int.reduceAdd, Int.reduceMul, Int.reduceSub, o_c141, ↓o_g141_0, ↓o_g141_1, ↓o_g141_5, ↓o_g141_6, ↓o_g141_7, ↓o_g141_8, ↓o_g141_9, ↓o_g141_21, ↓o_g141_25, ↓o_g141_26, ↓o_g141_27, ↓o_g141_28, ↓o_g141_29, ↓o_g141_30, ↓o_g141_31, ↓o_g141_34, ↓o_g141_35, ↓o_g141_36, ↓c0, ↓o_g141_20, ↓B_X12_schoolPart_28 Z, ↓B_X12_schoolPart_43 Z, ↓B_X12_schoolPart_46 Z, ↓o_p141_20, ↓B_X12_schoolPart_54 Z, ↓B_X12_schoolPart_84 Z, ↓B_X12_aPupil Z, ↓B_X12_aPupil_54 Z, ↓r_pupilRow Z, ↓e3, ↓b1, ↓b2, ↓b3, ↓b4, ↓st2, ↓e7, ↓sp, ↓b6, ↓hu, ↓hz], y6⟩
      · refine Or.inl ⟨fkd T7, tF T7, fkd_1 _, fun s h => ?_, fun t0 t h => ?_⟩
        · obtain ⟨ek, ef, e6, ew, e46, e4p⟩ := cp_k h
          have e6 := e6 (Or.inl h2)
          rw [hv] at e6
          rw [h2] at ek
          have f2 := h.2.2.1
          have f3 := h.2.2.2.1
          have f4 := h.2.2.2.2.1
          have u0 := cp_39 (th' := th) (od' := od) (gr' := 1) h (k := 4) (v := 1) (by omega)
          obtain ⟨s1, a1, x1, g1⟩ := cp_adv N0 u0
          obtain ⟨s2, a2, x2, z2⟩ := c_new_t Z N1 x1 w qa qb.1 qb.2
          obtain ⟨s3, a3, x3, g3⟩ := cp_word N2 x2 (w := 9) qc
          have cc := fun f => c_cells40 Z x3.2.1 w f
          have wn : mm_w32 (ncl (shG G) - 1) = ncl (shG G) - 1 := w32_eq (by omega) (by omega)
          obtain ⟨s4, a4, x4, z4, g4⟩ := cp_num N3 x3 (l := 0) (m := ncl (shG G) - 1) qd
          rw [← wn] at a4
          have iw := fun f => c_isWord Z x4.1 10 f
          rw [if_pos qw] at iw
          obtain ⟨s5, a5, x5, g5⟩ := cp_adv N4 x4
          obtain ⟨s6, a6, x6, w6, g6⟩ := cp_num N5 x5 (l := 0) (m := 9) qn
          obtain ⟨s7, a7, x7, z7, z8⟩ := r1 s6 x6
          obtain ⟨s8, a8, x8⟩ := cp_semif Z x7 qe
          exact ⟨_, fun f => by
            rw [B_X6_readPart]
            simp (disch := first | with_reducible assumption | omega) only [↓sm, ↓reduceIte, ↓if_pos, ↓if_neg, kI, kJ, kR, kV, w32_eq, w64_eq, reduceCtorEq, Int.reduceAdd, Int.reduceMul, Int.reduceSub, o_c39, ↓o_g39_0, ↓o_g39_1, o_c5, o_c40, ↓rI40_6 e46, ↓rI40_10 e4p, ↓rI5_5 ek, ↓rI5_6 e6, ↓rI39_2 f2, ↓rI39_3 f3, ↓rI39_4 f4, ↓B_X6_readPupil Z, ↓B_X6_readPupil_64 Z, ↓o_p39_4, ↓a1, ↓a2, ↓a3, ↓cc, ↓a4, ↓rI5_8 z4, ↓iw, ↓a5, ↓a6, ↓rI5_8 w6, ↓a7, ↓a8], x8⟩
        · have ew : wn (tK T) (tV T) = 5 := (wn_eq hk (w := 8) (by omega) (by omega)).mpr ⟨h2, hv⟩
          have c0 : ∀ f : Int → mW → mO, mm_kI (mm_run (zP Z) 235 [.inr (.inr (some 141)), .inr (.inr (some 1))] (mk t)) f = f 5 (mk t) := fun f => by rw [r_inW Z hT hk h.1, ew]
          have v0 := rp_told (th' := th) (od' := od) (gr' := 1) h (k := 5) (e := 1) (by omega) (by omega) (by omega) (by omega) (by omega)
          have e3 : ∀ f : Int → mO, (mm_ld 0 (mk (uF t 141 20 (mm_ior (t.1 141 20) (mm_ior (mm_ishl 1 5) 1)))) 142 1891).bind f = f (shG G 3) := fun f => r_at v0.2.1 f _ (by omega) (by omega)
          obtain ⟨t1, b1, y1⟩ := r_new_t Z hT hk1 M0 M1 v0 w (k := 3) (l := 5) (o := 7) (by unfold mny; omega) (by omega) qa qb.1 qb.2
          obtain ⟨t2, b2, y2⟩ := rp_word hT hk2 M2 y1 (w := 9) (k := 9) (by decide) (by omega) (by omega) qc
          obtain ⟨t3, b3, y3⟩ := rp_cellTo hk3 M3 y2 w (to := 1888 + (74 + 6 * shG G 3)) (by omega) (by omega) qd
          have wr : mm_w32 (1888 + (74 + 6 * shG G 3)) = 1888 + (74 + 6 * shG G 3) := w32_eq (by omega) (by omega)
          rw [← wr] at b3
          have wr1 : mm_w32 (mm_w32 (1888 + (74 + 6 * shG G 3)) + 1) = 1888 + (74 + 6 * shG G 3) + 1 := by rw [wr]; exact w32_eq (by omega) (by omega)
          have wr2 : mm_w32 (mm_w32 (1888 + (74 + 6 * shG G 3)) + 2) = 1888 + (74 + 6 * shG G 3) + 2 := by rw [wr]; exact w32_eq (by omega) (by omega)
          obtain ⟨t4, b4, y4⟩ := rp_want_t hT hk4 hk5 M4 M5 y3 (to := 1888 + (74 + 6 * shG G 3) + 1) (by omega) (by omega) qw qn
          rw [← wr1] at b4
          have k5 := rp_142 y4 (1888 + (74 + 6 * shG G 3) + 2) 0
          have st2 : ∀ f : mW → mO, (mm_st 0 (mk t4) 142 (mm_w32 (mm_w32 (1888 + (74 + 6 * shG G 3)) + 2)) 0).bind f = f (mk (uA t4 142 (1888 + (74 + 6 * shG G 3) + 2) 0)) := fun f => by rw [wr2]; exact a_st142 t4 f _ _ (by omega) (by omega)
          obtain ⟨t7, y7, hz⟩ := r2 _ _ k5
          have k7 := rp_142 y7 1891 (shG G 3 + 1)
          have e7 : ∀ f : Int → mO, (mm_ld 0 (mk t7) 142 1891).bind f = f (shG G 3) := fun f => by rw [r_at y7.2.1 f _ (by omega) (by omega), up_ne (by omega), up_ne (by omega), up_ne (by omega), up_ne (by omega)]; rfl
          have sp : ∀ f : mW → mO, (mm_st 0 (mk t7) 142 1891 (mm_w32 (shG G 3 + 1))).bind f = f (mk (uA t7 142 1891 (shG G 3 + 1))) := fun f => by rw [w32_eq (by omega) (by omega)]; exact a_st142 t7 f _ _ (by omega) (by omega)
          obtain ⟨t6, b6, y6⟩ := rp_semif Z hk7 k7 (Lo_upN (Lo_up (Lo_up (Lo_up (Lo_up (Lo_up hL (by omega) _) (by omega) _) (by omega) _) (by omega) _) (by omega) _) (by omega) _) qe
          rcases hz with hz | ⟨u5, hu, hz⟩
          · exact ⟨_, fun f => by
              rw [B_X12_schoolPart]
              simp (disch := first | with_reducible assumption | omega) only [↓sm, ↓reduceIte, ↓if_pos, ↓if_neg, kI, kJ, kR, kV, w32_eq, w64_eq, reduceCtorEq, Int.reduceAdd, Int.reduceMul, Int.reduceSub, o_c141, ↓o_g141_0, ↓o_g141_1, ↓o_g141_5, ↓o_g141_6, ↓o_g141_7, ↓o_g141_8, ↓o_g141_9, ↓o_g141_21, ↓o_g141_25, ↓o_g141_26, ↓o_g141_27, ↓o_g141_28, ↓o_g141_29, ↓o_g141_30, ↓o_g141_31, ↓o_g141_34, ↓o_g141_35, ↓o_g141_36, ↓c0, ↓o_g141_20, ↓B_X12_schoolPart_28 Z, ↓B_X12_schoolPart_43 Z, ↓B_X12_schoolPart_46 Z, ↓o_p141_20, ↓B_X12_schoolPart_54 Z, ↓B_X12_schoolPart_84 Z, ↓B_X12_aPupil Z, ↓B_X12_aPupil_54 Z, ↓r_pupilRow Z, ↓e3, ↓b1, ↓b2, ↓b3, ↓b4, ↓st2, ↓e7, ↓sp, ↓b6, ↓hz], y6⟩
          · rw [← wr2] at hz
            exact ⟨_, fun f => by
              rw [B_X12_schoolPart]
              simp (disch := first | with_reducible assumption | omega) only [↓sm, ↓reduceIte, ↓if_pos, ↓if_neg, kI, kJ, kR, kV, w32_eq, w64_eq, reduceCtorEq, Int.reduceAdd, Int.reduceMul, Int.reduceSub, o_c141, ↓o_g141_0, ↓o_g141_1, ↓o_g141_5, ↓o_g141_6, ↓o_g141_7, ↓o_g141_8, ↓o_g141_9, ↓o_g141_21, ↓o_g141_25, ↓o_g141_26, ↓o_g141_27, ↓o_g141_28, ↓o_g141_29, ↓o_g141_30, ↓o_g141_31, ↓o_g141_34, ↓o_g141_35, ↓o_g141_36, ↓c0, ↓o_g141_20, ↓B_X12_schoolPart_28 Z, ↓B_X12_schoolPart_43 Z, ↓B_X12_schoolPart_46 Z, ↓o_p141_20, ↓B_X12_schoolPart_54 Z, ↓B_X12_schoolPart_84 Z, ↓B_X12_aPupil Z, ↓B_X12_aPupil_54 Z, ↓r_pupilRow Z, ↓e3, ↓b1, ↓b2, ↓b3, ↓b4, ↓st2, ↓e7, ↓sp, ↓b6, ↓hu, ↓hz], y6⟩
  · refine Or.inl ⟨nkd T5, tF T5, nkd_1 _, fun s h => ?_, fun t0 t h => ?_⟩
    · obtain ⟨ek, ef, e6, ew, e46, e4p⟩ := cp_k h
      have e6 := e6 (Or.inl h2)
      rw [hv] at e6
      rw [h2] at ek
      have f2 := h.2.2.1
      have f3 := h.2.2.2.1
      have f4 := h.2.2.2.2.1
      have u0 := cp_39 (th' := th) (od' := od) (gr' := 1) h (k := 4) (v := 1) (by omega)
      obtain ⟨s1, a1, x1, g1⟩ := cp_adv N0 u0
      obtain ⟨s2, a2, x2, z2⟩ := c_new_t Z N1 x1 w qa qb.1 qb.2
      obtain ⟨s3, a3, x3, g3⟩ := cp_word N2 x2 (w := 9) qc
      have cc := fun f => c_cells40 Z x3.2.1 w f
      have wn : mm_w32 (ncl (shG G) - 1) = ncl (shG G) - 1 := w32_eq (by omega) (by omega)
      obtain ⟨s4, a4, x4, z4, g4⟩ := cp_num N3 x3 (l := 0) (m := ncl (shG G) - 1) qd
      rw [← wn] at a4
      have iw := fun f => c_isWord Z x4.1 10 f
      rw [if_pos qw] at iw
      obtain ⟨s5, a5, x5, g5⟩ := cp_adv N4 x4
      obtain ⟨s6, a6, x6⟩ := cp_numf Z x5 (l := 0) (m := 9) qn
      exact ⟨_, fun f => by
        rw [B_X6_readPart]
        simp (disch := first | with_reducible assumption | omega) only [↓sm, ↓reduceIte, ↓if_pos, ↓if_neg, kI, kJ, kR, kV, w32_eq, w64_eq, reduceCtorEq, Int.reduceAdd, Int.reduceMul, Int.reduceSub, o_c39, ↓o_g39_0, ↓o_g39_1, o_c5, o_c40, ↓rI40_6 e46, ↓rI40_10 e4p, ↓rI5_5 ek, ↓rI5_6 e6, ↓rI39_2 f2, ↓rI39_3 f3, ↓rI39_4 f4, ↓B_X6_readPupil Z, ↓B_X6_readPupil_64 Z, ↓o_p39_4, ↓a1, ↓a2, ↓a3, ↓cc, ↓a4, ↓rI5_8 z4, ↓iw, ↓a5, ↓a6], x6⟩
    · have ew : wn (tK T) (tV T) = 5 := (wn_eq hk (w := 8) (by omega) (by omega)).mpr ⟨h2, hv⟩
      have c0 : ∀ f : Int → mW → mO, mm_kI (mm_run (zP Z) 235 [.inr (.inr (some 141)), .inr (.inr (some 1))] (mk t)) f = f 5 (mk t) := fun f => by rw [r_inW Z hT hk h.1, ew]
      have v0 := rp_told (th' := th) (od' := od) (gr' := 1) h (k := 5) (e := 1) (by omega) (by omega) (by omega) (by omega) (by omega)
      have e3 : ∀ f : Int → mO, (mm_ld 0 (mk (uF t 141 20 (mm_ior (t.1 141 20) (mm_ior (mm_ishl 1 5) 1)))) 142 1891).bind f = f (shG G 3) := fun f => r_at v0.2.1 f _ (by omega) (by omega)
      obtain ⟨t1, b1, y1⟩ := r_new_t Z hT hk1 M0 M1 v0 w (k := 3) (l := 5) (o := 7) (by unfold mny; omega) (by omega) qa qb.1 qb.2
      obtain ⟨t2, b2, y2⟩ := rp_word hT hk2 M2 y1 (w := 9) (k := 9) (by decide) (by omega) (by omega) qc
      obtain ⟨t3, b3, y3⟩ := rp_cellTo hk3 M3 y2 w (to := 1888 + (74 + 6 * shG G 3)) (by omega) (by omega) qd
      have wr : mm_w32 (1888 + (74 + 6 * shG G 3)) = 1888 + (74 + 6 * shG G 3) := w32_eq (by omega) (by omega)
      rw [← wr] at b3
      have wr1 : mm_w32 (mm_w32 (1888 + (74 + 6 * shG G 3)) + 1) = 1888 + (74 + 6 * shG G 3) + 1 := by rw [wr]; exact w32_eq (by omega) (by omega)
      have wr2 : mm_w32 (mm_w32 (1888 + (74 + 6 * shG G 3)) + 2) = 1888 + (74 + 6 * shG G 3) + 2 := by rw [wr]; exact w32_eq (by omega) (by omega)
      obtain ⟨t4, b4, y4⟩ := rp_want_f Z hT hk4 hk5 M4 y3 (Lo_upN (Lo_up hL (by omega) _) (by omega) _) (to := 1888 + (74 + 6 * shG G 3) + 1) qw qn
      rw [← wr1] at b4
      exact ⟨_, fun f => by
        rw [B_X12_schoolPart]
        simp (disch := first | with_reducible assumption | omega) only [↓sm, ↓reduceIte, ↓if_pos, ↓if_neg, kI, kJ, kR, kV, w32_eq, w64_eq, reduceCtorEq, Int.reduceAdd, Int.reduceMul, Int.reduceSub, o_c141, ↓o_g141_0, ↓o_g141_1, ↓o_g141_5, ↓o_g141_6, ↓o_g141_7, ↓o_g141_8, ↓o_g141_9, ↓o_g141_21, ↓o_g141_25, ↓o_g141_26, ↓o_g141_27, ↓o_g141_28, ↓o_g141_29, ↓o_g141_30, ↓o_g141_31, ↓o_g141_34, ↓o_g141_35, ↓o_g141_36, ↓c0, ↓o_g141_20, ↓B_X12_schoolPart_28 Z, ↓B_X12_schoolPart_43 Z, ↓B_X12_schoolPart_46 Z, ↓o_p141_20, ↓B_X12_schoolPart_54 Z, ↓B_X12_schoolPart_84 Z, ↓B_X12_aPupil Z, ↓B_X12_aPupil_54 Z, ↓r_pupilRow Z, ↓e3, ↓b1, ↓b2, ↓b3, ↓b4], y4⟩
set_option maxHeartbeats 8000000 in
theorem pupil_none (Z : mX) {s0 : mS} {b : Int → Int} {n : Int} (hT : TB0 b n) {G0 H0 G H : Int → Int} {th od gr : Int} {T : mT} (hk : TT b n T) (hD : DrI (shG G) th od gr) (hL : Lo G0 H0 G H) (h2 : tK T = 2) (hv : tV T = 8) (qz : shG G 3 < 5) {T1 T2 T3 T4 : mT} (hk1 : TT b n T1) (hk2 : TT b n T2) (hk3 : TT b n T3) (hk4 : TT b n T4) (N0 : NC Z b n T T1) (M0 : NR Z b n T T1) (N1 : NC Z b n T1 T2) (M1 : NR Z b n T1 T2) (N2 : NC Z b n T2 T3) (M2 : NR Z b n T2 T3) (N3 : NC Z b n T3 T4) (M3 : NR Z b n T3 T4) (p1 : tE T ≤ tF T1) (p2 : tE T1 ≤ tF T2) (p3 : tE T2 ≤ tF T3) (p4 : tE T3 ≤ tF T4) (qa : tK T1 = 3) (qb : fd (shN H) (tW T1) (shG G 2) (shG G 2).toNat = -1 ∧ fd (fun p => shN H (7 + p)) (tW T1) (shG G 3) (shG G 3).toNat = -1) (qc : tK T2 = 2 ∧ tV T2 = 9) (qd : tK T3 = 5 ∧ 0 ≤ tV T3 ∧ tV T3 ≤ ncl (shG G) - 1) (qw : ¬ (tK T4 = 2 ∧ tV T4 = 10)) : Part Z s0 b n G0 H0 T G H th od gr := by
  obtain ⟨w, d7, dt, dd, dg, d0, dz⟩ := id hD
  have w0 := wf0 w
  have nn := wf_n w
  have q0 := tk_o hk
  have q1 := tk_o hk1
  have q2 := tk_o hk2
  have q3 := tk_o hk3
  have q4 := tk_o hk4
  have hH : ∀ k, 0 ≤ k → k < shG G 2 → shN (mm_upd H (48 + 7 + shG G 3) (tW T1)) k = shN H k := fun k k0 k1 => by rw [shN_up H (48 + 7 + shG G 3) (7 + shG G 3) _ (by omega), up_ne (by omega)]
  have hB := behind Z (s0 := s0) hT (G0 := G0) (H0 := H0) (Gc := G) (Hc := H) (th := th) (od := od) (gr := 1) (m := shG G 2) (row := 1888 + (74 + 6 * shG G 3) + 2) (w := 11) (kw := 11) (by decide) (by omega) (by omega) (by omega) (by omega) rfl hH (by omega) (by omega) hk4 (G := mm_upd (mm_upd (mm_upd G (1888 + (74 + 6 * shG G 3)) (tV T3)) (1888 + (74 + 6 * shG G 3) + 1) (0)) (1888 + (74 + 6 * shG G 3) + 2) 0) (up_eq rfl) (by rw [up_ne (by omega), up_ne (by omega), up_ne (by omega)]; rfl) (Lo_upN (Lo_up (Lo_up (Lo_up hL (by omega) _) (by omega) _) (by omega) _) (by omega) _)
  rcases hB with ⟨kd, pl, r0, r1, r2⟩ | ⟨T7, y, r0, hk7, ⟨j, hj⟩, r1, r2⟩
  · refine Or.inl ⟨kd, pl, r0, fun s h => ?_, fun t0 t h => ?_⟩
    · obtain ⟨ek, ef, e6, ew, e46, e4p⟩ := cp_k h
      have e6 := e6 (Or.inl h2)
      rw [hv] at e6
      rw [h2] at ek
      have f2 := h.2.2.1
      have f3 := h.2.2.2.1
      have f4 := h.2.2.2.2.1
      have u0 := cp_39 (th' := th) (od' := od) (gr' := 1) h (k := 4) (v := 1) (by omega)
      obtain ⟨s1, a1, x1, g1⟩ := cp_adv N0 u0
      obtain ⟨s2, a2, x2, z2⟩ := c_new_t Z N1 x1 w qa qb.1 qb.2
      obtain ⟨s3, a3, x3, g3⟩ := cp_word N2 x2 (w := 9) qc
      have cc := fun f => c_cells40 Z x3.2.1 w f
      have wn : mm_w32 (ncl (shG G) - 1) = ncl (shG G) - 1 := w32_eq (by omega) (by omega)
      obtain ⟨s4, a4, x4, z4, g4⟩ := cp_num N3 x3 (l := 0) (m := ncl (shG G) - 1) qd
      rw [← wn] at a4
      have iw := fun f => c_isWord Z x4.1 10 f
      rw [if_neg qw] at iw
      obtain ⟨s7, a7, x7⟩ := r1 s4 x4
      exact ⟨_, fun f => by
        rw [B_X6_readPart]
        simp (disch := first | with_reducible assumption | omega) only [↓sm, ↓reduceIte, ↓if_pos, ↓if_neg, kI, kJ, kR, kV, w32_eq, w64_eq, reduceCtorEq, Int.reduceAdd, Int.reduceMul, Int.reduceSub, o_c39, ↓o_g39_0, ↓o_g39_1, o_c5, o_c40, ↓rI40_6 e46, ↓rI40_10 e4p, ↓rI5_5 ek, ↓rI5_6 e6, ↓rI39_2 f2, ↓rI39_3 f3, ↓rI39_4 f4, ↓B_X6_readPupil Z, ↓B_X6_readPupil_64 Z, ↓o_p39_4, ↓a1, ↓a2, ↓a3, ↓cc, ↓a4, ↓rI5_8 z4, ↓iw, ↓a7], x7⟩
    · have ew : wn (tK T) (tV T) = 5 := (wn_eq hk (w := 8) (by omega) (by omega)).mpr ⟨h2, hv⟩
      have c0 : ∀ f : Int → mW → mO, mm_kI (mm_run (zP Z) 235 [.inr (.inr (some 141)), .inr (.inr (some 1))] (mk t)) f = f 5 (mk t) := fun f => by rw [r_inW Z hT hk h.1, ew]
      have v0 := rp_told (th' := th) (od' := od) (gr' := 1) h (k := 5) (e := 1) (by omega) (by omega) (by omega) (by omega) (by omega)
      have e3 : ∀ f : Int → mO, (mm_ld 0 (mk (uF t 141 20 (mm_ior (t.1 141 20) (mm_ior (mm_ishl 1 5) 1)))) 142 1891).bind f = f (shG G 3) := fun f => r_at v0.2.1 f _ (by omega) (by omega)
      obtain ⟨t1, b1, y1⟩ := r_new_t Z hT hk1 M0 M1 v0 w (k := 3) (l := 5) (o := 7) (by unfold mny; omega) (by omega) qa qb.1 qb.2
      obtain ⟨t2, b2, y2⟩ := rp_word hT hk2 M2 y1 (w := 9) (k := 9) (by decide) (by omega) (by omega) qc
      obtain ⟨t3, b3, y3⟩ := rp_cellTo hk3 M3 y2 w (to := 1888 + (74 + 6 * shG G 3)) (by omega) (by omega) qd
      have wr : mm_w32 (1888 + (74 + 6 * shG G 3)) = 1888 + (74 + 6 * shG G 3) := w32_eq (by omega) (by omega)
      rw [← wr] at b3
      have wr1 : mm_w32 (mm_w32 (1888 + (74 + 6 * shG G 3)) + 1) = 1888 + (74 + 6 * shG G 3) + 1 := by rw [wr]; exact w32_eq (by omega) (by omega)
      have wr2 : mm_w32 (mm_w32 (1888 + (74 + 6 * shG G 3)) + 2) = 1888 + (74 + 6 * shG G 3) + 2 := by rw [wr]; exact w32_eq (by omega) (by omega)
      obtain ⟨t4, b4, y4⟩ := rp_want_n Z hT hk4 y3 (to := 1888 + (74 + 6 * shG G 3) + 1) (by omega) (by omega) qw
      rw [← wr1] at b4
      have k5 := rp_142 y4 (1888 + (74 + 6 * shG G 3) + 2) 0
      have st2 : ∀ f : mW → mO, (mm_st 0 (mk t4) 142 (mm_w32 (mm_w32 (1888 + (74 + 6 * shG G 3)) + 2)) 0).bind f = f (mk (uA t4 142 (1888 + (74 + 6 * shG G 3) + 2) 0)) := fun f => by rw [wr2]; exact a_st142 t4 f _ _ (by omega) (by omega)
      obtain ⟨u4, t7, b7, b8, y7⟩ := r2 _ _ k5
      rw [← wr2] at b8
      exact ⟨_, fun f => by
        rw [B_X12_schoolPart]
        simp (disch := first | with_reducible assumption | omega) only [↓sm, ↓reduceIte, ↓if_pos, ↓if_neg, kI, kJ, kR, kV, w32_eq, w64_eq, reduceCtorEq, Int.reduceAdd, Int.reduceMul, Int.reduceSub, o_c141, ↓o_g141_0, ↓o_g141_1, ↓o_g141_5, ↓o_g141_6, ↓o_g141_7, ↓o_g141_8, ↓o_g141_9, ↓o_g141_21, ↓o_g141_25, ↓o_g141_26, ↓o_g141_27, ↓o_g141_28, ↓o_g141_29, ↓o_g141_30, ↓o_g141_31, ↓o_g141_34, ↓o_g141_35, ↓o_g141_36, ↓c0, ↓o_g141_20, ↓B_X12_schoolPart_28 Z, ↓B_X12_schoolPart_43 Z, ↓B_X12_schoolPart_46 Z, ↓o_p141_20, ↓B_X12_schoolPart_54 Z, ↓B_X12_schoolPart_84 Z, ↓B_X12_aPupil Z, ↓B_X12_aPupil_54 Z, ↓r_pupilRow Z, ↓e3, ↓b1, ↓b2, ↓b3, ↓b4, ↓st2, ↓b7, ↓b8], y7⟩
  · obtain ⟨T8, p8, hk8, N7, M7⟩ := nxt Z hT hk7
    have q7 := tk_o hk7
    have q8 := tk_o hk8
    by_cases qe : tK T7 = 6 ∧ tV T7 = 59
    · refine Or.inr ⟨T8, mm_upd (puG G (tV T3) (0) y) 1891 (shG G 3 + 1), mm_upd H (48 + 7 + shG G 3) (tW T1), th, od, 1, by omega, hk8, pupil_DI hD (by omega) (tV T3) (0) y j qd.2 ⟨by omega, by omega⟩ hj, (Lo_upN (Lo_up (Lo_up (Lo_up (Lo_up (Lo_up hL (by omega) _) (by omega) _) (by omega) _) (by omega) _) (by omega) _) (by omega) _), fun s h => ?_, fun t0 t h => ?_⟩
      · obtain ⟨ek, ef, e6, ew, e46, e4p⟩ := cp_k h
        have e6 := e6 (Or.inl h2)
        rw [hv] at e6
        rw [h2] at ek
        have f2 := h.2.2.1
        have f3 := h.2.2.2.1
        have f4 := h.2.2.2.2.1
        have u0 := cp_39 (th' := th) (od' := od) (gr' := 1) h (k := 4) (v := 1) (by omega)
        obtain ⟨s1, a1, x1, g1⟩ := cp_adv N0 u0
        obtain ⟨s2, a2, x2, z2⟩ := c_new_t Z N1 x1 w qa qb.1 qb.2
        obtain ⟨s3, a3, x3, g3⟩ := cp_word N2 x2 (w := 9) qc
        have cc := fun f => c_cells40 Z x3.2.1 w f
        have wn : mm_w32 (ncl (shG G) - 1) = ncl (shG G) - 1 := w32_eq (by omega) (by omega)
        obtain ⟨s4, a4, x4, z4, g4⟩ := cp_num N3 x3 (l := 0) (m := ncl (shG G) - 1) qd
        rw [← wn] at a4
        have iw := fun f => c_isWord Z x4.1 10 f
        rw [if_neg qw] at iw
        obtain ⟨s7, a7, x7, z7, z8⟩ := r1 s4 x4
        obtain ⟨s8, a8, x8, g8⟩ := cp_semi N7 x7 qe
        have f6 : s8.1 39 6 = y := by rw [g8.2 39 6 (by unfold tyF; omega)]; exact z7
        have f5 : s8.1 39 5 = tW T1 := by rw [g8.2 39 5 (by unfold tyF; omega), z8, g4.2 39 5 (by unfold tyF; omega), g3.2 39 5 (by unfold tyF; omega)]; exact z2
        have cad := fun f => c_addPup40 Z (cp_k x8).2.2.2.2.2 (by omega) (by omega) (tV T3) (0) y (tW T1) f
        have k8 := cp_40 x8 (adP_Ag s8 (shG G 3) (tV T3) (0) y (tW T1)) (cs40_pupil x8.2.1 hD (by omega) (tV T3) (0) y (tW T1))
        exact ⟨_, fun f => by
          rw [B_X6_readPart]
          simp (disch := first | with_reducible assumption | omega) only [↓sm, ↓reduceIte, ↓if_pos, ↓if_neg, kI, kJ, kR, kV, w32_eq, w64_eq, reduceCtorEq, Int.reduceAdd, Int.reduceMul, Int.reduceSub, o_c39, ↓o_g39_0, ↓o_g39_1, o_c5, o_c40, ↓rI40_6 e46, ↓rI40_10 e4p, ↓rI5_5 ek, ↓rI5_6 e6, ↓rI39_2 f2, ↓rI39_3 f3, ↓rI39_4 f4, ↓B_X6_readPupil Z, ↓B_X6_readPupil_64 Z, ↓o_p39_4, ↓a1, ↓a2, ↓a3, ↓cc, ↓a4, ↓rI5_8 z4, ↓iw, ↓a7, ↓a8, ↓rI39_6 f6, ↓rJ39_5 f5, ↓cad], k8⟩
      · have ew : wn (tK T) (tV T) = 5 := (wn_eq hk (w := 8) (by omega) (by omega)).mpr ⟨h2, hv⟩
        have c0 : ∀ f : Int → mW → mO, mm_kI (mm_run (zP Z) 235 [.inr (.inr (some 141)), .inr (.inr (some 1))] (mk t)) f = f 5 (mk t) := fun f => by rw [r_inW Z hT hk h.1, ew]
        have v0 := rp_told (th' := th) (od' := od) (gr' := 1) h (k := 5) (e := 1) (by omega) (by omega) (by omega) (by omega) (by omega)
        have e3 : ∀ f : Int → mO, (mm_ld 0 (mk (uF t 141 20 (mm_ior (t.1 141 20) (mm_ior (mm_ishl 1 5) 1)))) 142 1891).bind f = f (shG G 3) := fun f => r_at v0.2.1 f _ (by omega) (by omega)
        obtain ⟨t1, b1, y1⟩ := r_new_t Z hT hk1 M0 M1 v0 w (k := 3) (l := 5) (o := 7) (by unfold mny; omega) (by omega) qa qb.1 qb.2
        obtain ⟨t2, b2, y2⟩ := rp_word hT hk2 M2 y1 (w := 9) (k := 9) (by decide) (by omega) (by omega) qc
        obtain ⟨t3, b3, y3⟩ := rp_cellTo hk3 M3 y2 w (to := 1888 + (74 + 6 * shG G 3)) (by omega) (by omega) qd
        have wr : mm_w32 (1888 + (74 + 6 * shG G 3)) = 1888 + (74 + 6 * shG G 3) := w32_eq (by omega) (by omega)
        rw [← wr] at b3
        have wr1 : mm_w32 (mm_w32 (1888 + (74 + 6 * shG G 3)) + 1) = 1888 + (74 + 6 * shG G 3) + 1 := by rw [wr]; exact w32_eq (by omega) (by omega)
        have wr2 : mm_w32 (mm_w32 (1888 + (74 + 6 * shG G 3)) + 2) = 1888 + (74 + 6 * shG G 3) + 2 := by rw [wr]; exact w32_eq (by omega) (by omega)
        obtain ⟨t4, b4, y4⟩ := rp_want_n Z hT hk4 y3 (to := 1888 + (74 + 6 * shG G 3) + 1) (by omega) (by omega) qw
        rw [← wr1] at b4
        have k5 := rp_142 y4 (1888 + (74 + 6 * shG G 3) + 2) 0
        have st2 : ∀ f : mW → mO, (mm_st 0 (mk t4) 142 (mm_w32 (mm_w32 (1888 + (74 + 6 * shG G 3)) + 2)) 0).bind f = f (mk (uA t4 142 (1888 + (74 + 6 * shG G 3) + 2) 0)) := fun f => by rw [wr2]; exact a_st142 t4 f _ _ (by omega) (by omega)
        obtain ⟨t7, y7, hz⟩ := r2 _ _ k5
        have k7 := rp_142 y7 1891 (shG G 3 + 1)
        have e7 : ∀ f : Int → mO, (mm_ld 0 (mk t7) 142 1891).bind f = f (shG G 3) := fun f => by rw [r_at y7.2.1 f _ (by omega) (by omega), up_ne (by omega), up_ne (by omega), up_ne (by omega), up_ne (by omega)]; rfl
        have sp : ∀ f : mW → mO, (mm_st 0 (mk t7) 142 1891 (mm_w32 (shG G 3 + 1))).bind f = f (mk (uA t7 142 1891 (shG G 3 + 1))) := fun f => by rw [w32_eq (by omega) (by omega)]; exact a_st142 t7 f _ _ (by omega) (by omega)
        obtain ⟨t6, b6, y6⟩ := rp_semi hk7 M7 k7 qe
        rcases hz with hz | ⟨u5, hu, hz⟩
        · exact ⟨_, fun f => by
            rw [B_X12_schoolPart]
            simp (disch := first | with_reducible assumption | omega) only [↓sm, ↓reduceIte, ↓if_pos, ↓if_neg, kI, kJ, kR, kV, w32_eq, w64_eq, reduceCtorEq, Int.reduceAdd, Int.reduceMul, Int.reduceSub, o_c141, ↓o_g141_0, ↓o_g141_1, ↓o_g141_5, ↓o_g141_6, ↓o_g141_7, ↓o_g141_8, ↓o_g141_9, ↓o_g141_21, ↓o_g141_25, ↓o_g141_26, ↓o_g141_27, ↓o_g141_28, ↓o_g141_29, ↓o_g141_30, ↓o_g141_31, ↓o_g141_34, ↓o_g141_35, ↓o_g141_36, ↓c0, ↓o_g141_20, ↓B_X12_schoolPart_28 Z, ↓B_X12_schoolPart_43 Z, ↓B_X12_schoolPart_46 Z, ↓o_p141_20, ↓B_X12_schoolPart_54 Z, ↓B_X12_schoolPart_84 Z, ↓B_X12_aPupil Z, ↓B_X12_aPupil_54 Z, ↓r_pupilRow Z, ↓e3, ↓b1, ↓b2, ↓b3, ↓b4, ↓st2, ↓e7, ↓sp, ↓b6, ↓hz], y6⟩
        · rw [← wr2] at hz
          exact ⟨_, fun f => by
            rw [B_X12_schoolPart]
            simp (disch := first | with_reducible assumption | omega) only [↓sm, ↓reduceIte, ↓if_pos, ↓if_neg, kI, kJ, kR, kV, w32_eq, w64_eq, reduceCtorEq, Int.reduceAdd, Int.reduceMul, Int.reduceSub, o_c141, ↓o_g141_0, ↓o_g141_1, ↓o_g141_5, ↓o_g141_6, ↓o_g141_7, ↓o_g141_8, ↓o_g141_9, ↓o_g141_21, ↓o_g141_25, ↓o_g141_26, ↓o_g141_27, ↓o_g141_28, ↓o_g141_29, ↓o_g141_30, ↓o_g141_31, ↓o_g141_34, ↓o_g141_35, ↓o_g141_36, ↓c0, ↓o_g141_20, ↓B_X12_schoolPart_28 Z, ↓B_X12_schoolPart_43 Z, ↓B_X12_schoolPart_46 Z, ↓o_p141_20, ↓B_X12_schoolPart_54 Z, ↓B_X12_schoolPart_84 Z, ↓B_X12_aPupil Z, ↓B_X12_aPupil_54 Z, ↓r_pupilRow Z, ↓e3, ↓b1, ↓b2, ↓b3, ↓b4, ↓st2, ↓e7, ↓sp, ↓b6, ↓hu, ↓hz], y6⟩
    · refine Or.inl ⟨fkd T7, tF T7, fkd_1 _, fun s h => ?_, fun t0 t h => ?_⟩
      · obtain ⟨ek, ef, e6, ew, e46, e4p⟩ := cp_k h
        have e6 := e6 (Or.inl h2)
        rw [hv] at e6
        rw [h2] at ek
        have f2 := h.2.2.1
        have f3 := h.2.2.2.1
        have f4 := h.2.2.2.2.1
        have u0 := cp_39 (th' := th) (od' := od) (gr' := 1) h (k := 4) (v := 1) (by omega)
        obtain ⟨s1, a1, x1, g1⟩ := cp_adv N0 u0
        obtain ⟨s2, a2, x2, z2⟩ := c_new_t Z N1 x1 w qa qb.1 qb.2
        obtain ⟨s3, a3, x3, g3⟩ := cp_word N2 x2 (w := 9) qc
        have cc := fun f => c_cells40 Z x3.2.1 w f
        have wn : mm_w32 (ncl (shG G) - 1) = ncl (shG G) - 1 := w32_eq (by omega) (by omega)
        obtain ⟨s4, a4, x4, z4, g4⟩ := cp_num N3 x3 (l := 0) (m := ncl (shG G) - 1) qd
        rw [← wn] at a4
        have iw := fun f => c_isWord Z x4.1 10 f
        rw [if_neg qw] at iw
        obtain ⟨s7, a7, x7, z7, z8⟩ := r1 s4 x4
        obtain ⟨s8, a8, x8⟩ := cp_semif Z x7 qe
        exact ⟨_, fun f => by
          rw [B_X6_readPart]
          simp (disch := first | with_reducible assumption | omega) only [↓sm, ↓reduceIte, ↓if_pos, ↓if_neg, kI, kJ, kR, kV, w32_eq, w64_eq, reduceCtorEq, Int.reduceAdd, Int.reduceMul, Int.reduceSub, o_c39, ↓o_g39_0, ↓o_g39_1, o_c5, o_c40, ↓rI40_6 e46, ↓rI40_10 e4p, ↓rI5_5 ek, ↓rI5_6 e6, ↓rI39_2 f2, ↓rI39_3 f3, ↓rI39_4 f4, ↓B_X6_readPupil Z, ↓B_X6_readPupil_64 Z, ↓o_p39_4, ↓a1, ↓a2, ↓a3, ↓cc, ↓a4, ↓rI5_8 z4, ↓iw, ↓a7, ↓a8], x8⟩
      · have ew : wn (tK T) (tV T) = 5 := (wn_eq hk (w := 8) (by omega) (by omega)).mpr ⟨h2, hv⟩
        have c0 : ∀ f : Int → mW → mO, mm_kI (mm_run (zP Z) 235 [.inr (.inr (some 141)), .inr (.inr (some 1))] (mk t)) f = f 5 (mk t) := fun f => by rw [r_inW Z hT hk h.1, ew]
        have v0 := rp_told (th' := th) (od' := od) (gr' := 1) h (k := 5) (e := 1) (by omega) (by omega) (by omega) (by omega) (by omega)
        have e3 : ∀ f : Int → mO, (mm_ld 0 (mk (uF t 141 20 (mm_ior (t.1 141 20) (mm_ior (mm_ishl 1 5) 1)))) 142 1891).bind f = f (shG G 3) := fun f => r_at v0.2.1 f _ (by omega) (by omega)
        obtain ⟨t1, b1, y1⟩ := r_new_t Z hT hk1 M0 M1 v0 w (k := 3) (l := 5) (o := 7) (by unfold mny; omega) (by omega) qa qb.1 qb.2
        obtain ⟨t2, b2, y2⟩ := rp_word hT hk2 M2 y1 (w := 9) (k := 9) (by decide) (by omega) (by omega) qc
        obtain ⟨t3, b3, y3⟩ := rp_cellTo hk3 M3 y2 w (to := 1888 + (74 + 6 * shG G 3)) (by omega) (by omega) qd
        have wr : mm_w32 (1888 + (74 + 6 * shG G 3)) = 1888 + (74 + 6 * shG G 3) := w32_eq (by omega) (by omega)
        rw [← wr] at b3
        have wr1 : mm_w32 (mm_w32 (1888 + (74 + 6 * shG G 3)) + 1) = 1888 + (74 + 6 * shG G 3) + 1 := by rw [wr]; exact w32_eq (by omega) (by omega)
        have wr2 : mm_w32 (mm_w32 (1888 + (74 + 6 * shG G 3)) + 2) = 1888 + (74 + 6 * shG G 3) + 2 := by rw [wr]; exact w32_eq (by omega) (by omega)
        obtain ⟨t4, b4, y4⟩ := rp_want_n Z hT hk4 y3 (to := 1888 + (74 + 6 * shG G 3) + 1) (by omega) (by omega) qw
        rw [← wr1] at b4
        have k5 := rp_142 y4 (1888 + (74 + 6 * shG G 3) + 2) 0
        have st2 : ∀ f : mW → mO, (mm_st 0 (mk t4) 142 (mm_w32 (mm_w32 (1888 + (74 + 6 * shG G 3)) + 2)) 0).bind f = f (mk (uA t4 142 (1888 + (74 + 6 * shG G 3) + 2) 0)) := fun f => by rw [wr2]; exact a_st142 t4 f _ _ (by omega) (by omega)
        obtain ⟨t7, y7, hz⟩ := r2 _ _ k5
        have k7 := rp_142 y7 1891 (shG G 3 + 1)
        have e7 : ∀ f : Int → mO, (mm_ld 0 (mk t7) 142 1891).bind f = f (shG G 3) := fun f => by rw [r_at y7.2.1 f _ (by omega) (by omega), up_ne (by omega), up_ne (by omega), up_ne (by omega), up_ne (by omega)]; rfl
        have sp : ∀ f : mW → mO, (mm_st 0 (mk t7) 142 1891 (mm_w32 (shG G 3 + 1))).bind f = f (mk (uA t7 142 1891 (shG G 3 + 1))) := fun f => by rw [w32_eq (by omega) (by omega)]; exact a_st142 t7 f _ _ (by omega) (by omega)
        obtain ⟨t6, b6, y6⟩ := rp_semif Z hk7 k7 (Lo_upN (Lo_up (Lo_up (Lo_up (Lo_up (Lo_up hL (by omega) _) (by omega) _) (by omega) _) (by omega) _) (by omega) _) (by omega) _) qe
        rcases hz with hz | ⟨u5, hu, hz⟩
        · exact ⟨_, fun f => by
            rw [B_X12_schoolPart]
            simp (disch := first | with_reducible assumption | omega) only [↓sm, ↓reduceIte, ↓if_pos, ↓if_neg, kI, kJ, kR, kV, w32_eq, w64_eq, reduceCtorEq, Int.reduceAdd, Int.reduceMul, Int.reduceSub, o_c141, ↓o_g141_0, ↓o_g141_1, ↓o_g141_5, ↓o_g141_6, ↓o_g141_7, ↓o_g141_8, ↓o_g141_9, ↓o_g141_21, ↓o_g141_25, ↓o_g141_26, ↓o_g141_27, ↓o_g141_28, ↓o_g141_29, ↓o_g141_30, ↓o_g141_31, ↓o_g141_34, ↓o_g141_35, ↓o_g141_36, ↓c0, ↓o_g141_20, ↓B_X12_schoolPart_28 Z, ↓B_X12_schoolPart_43 Z, ↓B_X12_schoolPart_46 Z, ↓o_p141_20, ↓B_X12_schoolPart_54 Z, ↓B_X12_schoolPart_84 Z, ↓B_X12_aPupil Z, ↓B_X12_aPupil_54 Z, ↓r_pupilRow Z, ↓e3, ↓b1, ↓b2, ↓b3, ↓b4, ↓st2, ↓e7, ↓sp, ↓b6, ↓hz], y6⟩
        · rw [← wr2] at hz
          exact ⟨_, fun f => by
            rw [B_X12_schoolPart]
            simp (disch := first | with_reducible assumption | omega) only [↓sm, ↓reduceIte, ↓if_pos, ↓if_neg, kI, kJ, kR, kV, w32_eq, w64_eq, reduceCtorEq, Int.reduceAdd, Int.reduceMul, Int.reduceSub, o_c141, ↓o_g141_0, ↓o_g141_1, ↓o_g141_5, ↓o_g141_6, ↓o_g141_7, ↓o_g141_8, ↓o_g141_9, ↓o_g141_21, ↓o_g141_25, ↓o_g141_26, ↓o_g141_27, ↓o_g141_28, ↓o_g141_29, ↓o_g141_30, ↓o_g141_31, ↓o_g141_34, ↓o_g141_35, ↓o_g141_36, ↓c0, ↓o_g141_20, ↓B_X12_schoolPart_28 Z, ↓B_X12_schoolPart_43 Z, ↓B_X12_schoolPart_46 Z, ↓o_p141_20, ↓B_X12_schoolPart_54 Z, ↓B_X12_schoolPart_84 Z, ↓B_X12_aPupil Z, ↓B_X12_aPupil_54 Z, ↓r_pupilRow Z, ↓e3, ↓b1, ↓b2, ↓b3, ↓b4, ↓st2, ↓e7, ↓sp, ↓b6, ↓hu, ↓hz], y6⟩
set_option maxHeartbeats 8000000 in
theorem part_pupil (Z : mX) {s0 : mS} {b : Int → Int} {n : Int} (hT : TB0 b n) {G0 H0 G H : Int → Int} {th od gr : Int} {T : mT} (hk : TT b n T) (hD : DrI (shG G) th od gr) (hL : Lo G0 H0 G H) (h2 : tK T = 2) (hv : tV T = 8) : Part Z s0 b n G0 H0 T G H th od gr := by
  obtain ⟨w, d7, dt, dd, dg, d0, dz⟩ := id hD
  have w0 := wf0 w
  have nn := wf_n w
  obtain ⟨T1, p1, hk1, N0, M0⟩ := nxt Z hT hk
  obtain ⟨T2, p2, hk2, N1, M1⟩ := nxt Z hT hk1
  obtain ⟨T3, p3, hk3, N2, M2⟩ := nxt Z hT hk2
  obtain ⟨T4, p4, hk4, N3, M3⟩ := nxt Z hT hk3
  have q0 := tk_o hk
  have q1 := tk_o hk1
  have q2 := tk_o hk2
  have q3 := tk_o hk3
  have q4 := tk_o hk4
  by_cases qz : shG G 3 < 5
  · by_cases qa : tK T1 = 3
    · by_cases qb : fd (shN H) (tW T1) (shG G 2) (shG G 2).toNat = -1 ∧ fd (fun p => shN H (7 + p)) (tW T1) (shG G 3) (shG G 3).toNat = -1
      · by_cases qc : tK T2 = 2 ∧ tV T2 = 9
        · by_cases qd : tK T3 = 5 ∧ 0 ≤ tV T3 ∧ tV T3 ≤ ncl (shG G) - 1
          · by_cases qw : tK T4 = 2 ∧ tV T4 = 10
            · exact pupil_want Z hT hk hD hL h2 hv qz hk1 hk2 hk3 hk4 N0 M0 N1 M1 N2 M2 N3 M3 p1 p2 p3 p4 qa qb qc qd qw
            · exact pupil_none Z hT hk hD hL h2 hv qz hk1 hk2 hk3 hk4 N0 M0 N1 M1 N2 M2 N3 M3 p1 p2 p3 p4 qa qb qc qd qw
          · refine Or.inl ⟨nkd T3, tF T3, nkd_1 _, fun s h => ?_, fun t0 t h => ?_⟩
            · obtain ⟨ek, ef, e6, ew, e46, e4p⟩ := cp_k h
              have e6 := e6 (Or.inl h2)
              rw [hv] at e6
              rw [h2] at ek
              have f2 := h.2.2.1
              have f3 := h.2.2.2.1
              have f4 := h.2.2.2.2.1
              have u0 := cp_39 (th' := th) (od' := od) (gr' := 1) h (k := 4) (v := 1) (by omega)
              obtain ⟨s1, a1, x1, g1⟩ := cp_adv N0 u0
              obtain ⟨s2, a2, x2, z2⟩ := c_new_t Z N1 x1 w qa qb.1 qb.2
              obtain ⟨s3, a3, x3, g3⟩ := cp_word N2 x2 (w := 9) qc
              have cc := fun f => c_cells40 Z x3.2.1 w f
              have wn : mm_w32 (ncl (shG G) - 1) = ncl (shG G) - 1 := w32_eq (by omega) (by omega)
              obtain ⟨s4, a4, x4⟩ := cp_numf Z x3 (l := 0) (m := ncl (shG G) - 1) qd
              rw [← wn] at a4
              exact ⟨_, fun f => by
                rw [B_X6_readPart]
                simp (disch := first | with_reducible assumption | omega) only [↓sm, ↓reduceIte, ↓if_pos, ↓if_neg, kI, kJ, kR, kV, w32_eq, w64_eq, reduceCtorEq, Int.reduceAdd, Int.reduceMul, Int.reduceSub, o_c39, ↓o_g39_0, ↓o_g39_1, o_c5, o_c40, ↓rI40_6 e46, ↓rI40_10 e4p, ↓rI5_5 ek, ↓rI5_6 e6, ↓rI39_2 f2, ↓rI39_3 f3, ↓rI39_4 f4, ↓B_X6_readPupil Z, ↓B_X6_readPupil_64 Z, ↓o_p39_4, ↓a1, ↓a2, ↓a3, ↓cc, ↓a4], x4⟩
            · have ew : wn (tK T) (tV T) = 5 := (wn_eq hk (w := 8) (by omega) (by omega)).mpr ⟨h2, hv⟩
              have c0 : ∀ f : Int → mW → mO, mm_kI (mm_run (zP Z) 235 [.inr (.inr (some 141)), .inr (.inr (some 1))] (mk t)) f = f 5 (mk t) := fun f => by rw [r_inW Z hT hk h.1, ew]
              have v0 := rp_told (th' := th) (od' := od) (gr' := 1) h (k := 5) (e := 1) (by omega) (by omega) (by omega) (by omega) (by omega)
              have e3 : ∀ f : Int → mO, (mm_ld 0 (mk (uF t 141 20 (mm_ior (t.1 141 20) (mm_ior (mm_ishl 1 5) 1)))) 142 1891).bind f = f (shG G 3) := fun f => r_at v0.2.1 f _ (by omega) (by omega)
              obtain ⟨t1, b1, y1⟩ := r_new_t Z hT hk1 M0 M1 v0 w (k := 3) (l := 5) (o := 7) (by unfold mny; omega) (by omega) qa qb.1 qb.2
              obtain ⟨t2, b2, y2⟩ := rp_word hT hk2 M2 y1 (w := 9) (k := 9) (by decide) (by omega) (by omega) qc
              obtain ⟨t3, b3, y3⟩ := rp_cellTof Z hk3 y2 (Lo_upN hL (by omega) _) w (to := 1888 + (74 + 6 * shG G 3)) qd
              have wr : mm_w32 (1888 + (74 + 6 * shG G 3)) = 1888 + (74 + 6 * shG G 3) := w32_eq (by omega) (by omega)
              rw [← wr] at b3
              exact ⟨_, fun f => by
                rw [B_X12_schoolPart]
                simp (disch := first | with_reducible assumption | omega) only [↓sm, ↓reduceIte, ↓if_pos, ↓if_neg, kI, kJ, kR, kV, w32_eq, w64_eq, reduceCtorEq, Int.reduceAdd, Int.reduceMul, Int.reduceSub, o_c141, ↓o_g141_0, ↓o_g141_1, ↓o_g141_5, ↓o_g141_6, ↓o_g141_7, ↓o_g141_8, ↓o_g141_9, ↓o_g141_21, ↓o_g141_25, ↓o_g141_26, ↓o_g141_27, ↓o_g141_28, ↓o_g141_29, ↓o_g141_30, ↓o_g141_31, ↓o_g141_34, ↓o_g141_35, ↓o_g141_36, ↓c0, ↓o_g141_20, ↓B_X12_schoolPart_28 Z, ↓B_X12_schoolPart_43 Z, ↓B_X12_schoolPart_46 Z, ↓o_p141_20, ↓B_X12_schoolPart_54 Z, ↓B_X12_schoolPart_84 Z, ↓B_X12_aPupil Z, ↓B_X12_aPupil_54 Z, ↓r_pupilRow Z, ↓e3, ↓b1, ↓b2, ↓b3], y3⟩
        · refine Or.inl ⟨fkd T2, tF T2, fkd_1 _, fun s h => ?_, fun t0 t h => ?_⟩
          · obtain ⟨ek, ef, e6, ew, e46, e4p⟩ := cp_k h
            have e6 := e6 (Or.inl h2)
            rw [hv] at e6
            rw [h2] at ek
            have f2 := h.2.2.1
            have f3 := h.2.2.2.1
            have f4 := h.2.2.2.2.1
            have u0 := cp_39 (th' := th) (od' := od) (gr' := 1) h (k := 4) (v := 1) (by omega)
            obtain ⟨s1, a1, x1, g1⟩ := cp_adv N0 u0
            obtain ⟨s2, a2, x2, z2⟩ := c_new_t Z N1 x1 w qa qb.1 qb.2
            obtain ⟨s3, a3, x3⟩ := cp_wordf Z x2 (w := 9) qc
            exact ⟨_, fun f => by
              rw [B_X6_readPart]
              simp (disch := first | with_reducible assumption | omega) only [↓sm, ↓reduceIte, ↓if_pos, ↓if_neg, kI, kJ, kR, kV, w32_eq, w64_eq, reduceCtorEq, Int.reduceAdd, Int.reduceMul, Int.reduceSub, o_c39, ↓o_g39_0, ↓o_g39_1, o_c5, o_c40, ↓rI40_6 e46, ↓rI40_10 e4p, ↓rI5_5 ek, ↓rI5_6 e6, ↓rI39_2 f2, ↓rI39_3 f3, ↓rI39_4 f4, ↓B_X6_readPupil Z, ↓B_X6_readPupil_64 Z, ↓o_p39_4, ↓a1, ↓a2, ↓a3], x3⟩
          · have ew : wn (tK T) (tV T) = 5 := (wn_eq hk (w := 8) (by omega) (by omega)).mpr ⟨h2, hv⟩
            have c0 : ∀ f : Int → mW → mO, mm_kI (mm_run (zP Z) 235 [.inr (.inr (some 141)), .inr (.inr (some 1))] (mk t)) f = f 5 (mk t) := fun f => by rw [r_inW Z hT hk h.1, ew]
            have v0 := rp_told (th' := th) (od' := od) (gr' := 1) h (k := 5) (e := 1) (by omega) (by omega) (by omega) (by omega) (by omega)
            have e3 : ∀ f : Int → mO, (mm_ld 0 (mk (uF t 141 20 (mm_ior (t.1 141 20) (mm_ior (mm_ishl 1 5) 1)))) 142 1891).bind f = f (shG G 3) := fun f => r_at v0.2.1 f _ (by omega) (by omega)
            obtain ⟨t1, b1, y1⟩ := r_new_t Z hT hk1 M0 M1 v0 w (k := 3) (l := 5) (o := 7) (by unfold mny; omega) (by omega) qa qb.1 qb.2
            obtain ⟨t2, b2, y2⟩ := rp_wordf Z hT hk2 y1 (Lo_upN hL (by omega) _) (w := 9) (k := 9) (by decide) (by omega) (by omega) qc
            exact ⟨_, fun f => by
              rw [B_X12_schoolPart]
              simp (disch := first | with_reducible assumption | omega) only [↓sm, ↓reduceIte, ↓if_pos, ↓if_neg, kI, kJ, kR, kV, w32_eq, w64_eq, reduceCtorEq, Int.reduceAdd, Int.reduceMul, Int.reduceSub, o_c141, ↓o_g141_0, ↓o_g141_1, ↓o_g141_5, ↓o_g141_6, ↓o_g141_7, ↓o_g141_8, ↓o_g141_9, ↓o_g141_21, ↓o_g141_25, ↓o_g141_26, ↓o_g141_27, ↓o_g141_28, ↓o_g141_29, ↓o_g141_30, ↓o_g141_31, ↓o_g141_34, ↓o_g141_35, ↓o_g141_36, ↓c0, ↓o_g141_20, ↓B_X12_schoolPart_28 Z, ↓B_X12_schoolPart_43 Z, ↓B_X12_schoolPart_46 Z, ↓o_p141_20, ↓B_X12_schoolPart_54 Z, ↓B_X12_schoolPart_84 Z, ↓B_X12_aPupil Z, ↓B_X12_aPupil_54 Z, ↓r_pupilRow Z, ↓e3, ↓b1, ↓b2], y2⟩
      · refine Or.inl ⟨3, tF T1, by omega, fun s h => ?_, fun t0 t h => ?_⟩
        · obtain ⟨ek, ef, e6, ew, e46, e4p⟩ := cp_k h
          have e6 := e6 (Or.inl h2)
          rw [hv] at e6
          rw [h2] at ek
          have f2 := h.2.2.1
          have f3 := h.2.2.2.1
          have f4 := h.2.2.2.2.1
          have u0 := cp_39 (th' := th) (od' := od) (gr' := 1) h (k := 4) (v := 1) (by omega)
          obtain ⟨s1, a1, x1, g1⟩ := cp_adv N0 u0
          obtain ⟨s2, a2, x2⟩ := c_new_3 Z x1 w qa qb
          exact ⟨_, fun f => by
            rw [B_X6_readPart]
            simp (disch := first | with_reducible assumption | omega) only [↓sm, ↓reduceIte, ↓if_pos, ↓if_neg, kI, kJ, kR, kV, w32_eq, w64_eq, reduceCtorEq, Int.reduceAdd, Int.reduceMul, Int.reduceSub, o_c39, ↓o_g39_0, ↓o_g39_1, o_c5, o_c40, ↓rI40_6 e46, ↓rI40_10 e4p, ↓rI5_5 ek, ↓rI5_6 e6, ↓rI39_2 f2, ↓rI39_3 f3, ↓rI39_4 f4, ↓B_X6_readPupil Z, ↓B_X6_readPupil_64 Z, ↓o_p39_4, ↓a1, ↓a2], x2⟩
        · have ew : wn (tK T) (tV T) = 5 := (wn_eq hk (w := 8) (by omega) (by omega)).mpr ⟨h2, hv⟩
          have c0 : ∀ f : Int → mW → mO, mm_kI (mm_run (zP Z) 235 [.inr (.inr (some 141)), .inr (.inr (some 1))] (mk t)) f = f 5 (mk t) := fun f => by rw [r_inW Z hT hk h.1, ew]
          have v0 := rp_told (th' := th) (od' := od) (gr' := 1) h (k := 5) (e := 1) (by omega) (by omega) (by omega) (by omega) (by omega)
          have e3 : ∀ f : Int → mO, (mm_ld 0 (mk (uF t 141 20 (mm_ior (t.1 141 20) (mm_ior (mm_ishl 1 5) 1)))) 142 1891).bind f = f (shG G 3) := fun f => r_at v0.2.1 f _ (by omega) (by omega)
          obtain ⟨t1, b1, y1⟩ := r_new_3 Z hT hk1 M0 v0 hL w (k := 3) (l := 5) (o := 7) (by unfold mny; omega) (by omega) qa qb
          exact ⟨_, fun f => by
            rw [B_X12_schoolPart]
            simp (disch := first | with_reducible assumption | omega) only [↓sm, ↓reduceIte, ↓if_pos, ↓if_neg, kI, kJ, kR, kV, w32_eq, w64_eq, reduceCtorEq, Int.reduceAdd, Int.reduceMul, Int.reduceSub, o_c141, ↓o_g141_0, ↓o_g141_1, ↓o_g141_5, ↓o_g141_6, ↓o_g141_7, ↓o_g141_8, ↓o_g141_9, ↓o_g141_21, ↓o_g141_25, ↓o_g141_26, ↓o_g141_27, ↓o_g141_28, ↓o_g141_29, ↓o_g141_30, ↓o_g141_31, ↓o_g141_34, ↓o_g141_35, ↓o_g141_36, ↓c0, ↓o_g141_20, ↓B_X12_schoolPart_28 Z, ↓B_X12_schoolPart_43 Z, ↓B_X12_schoolPart_46 Z, ↓o_p141_20, ↓B_X12_schoolPart_54 Z, ↓B_X12_schoolPart_84 Z, ↓B_X12_aPupil Z, ↓B_X12_aPupil_54 Z, ↓r_pupilRow Z, ↓e3, ↓b1], y1⟩
    · refine Or.inl ⟨fkd T1, tF T1, fkd_1 _, fun s h => ?_, fun t0 t h => ?_⟩
      · obtain ⟨ek, ef, e6, ew, e46, e4p⟩ := cp_k h
        have e6 := e6 (Or.inl h2)
        rw [hv] at e6
        rw [h2] at ek
        have f2 := h.2.2.1
        have f3 := h.2.2.2.1
        have f4 := h.2.2.2.2.1
        have u0 := cp_39 (th' := th) (od' := od) (gr' := 1) h (k := 4) (v := 1) (by omega)
        obtain ⟨s1, a1, x1, g1⟩ := cp_adv N0 u0
        obtain ⟨s2, a2, x2⟩ := c_new_2 Z x1 qa
        exact ⟨_, fun f => by
          rw [B_X6_readPart]
          simp (disch := first | with_reducible assumption | omega) only [↓sm, ↓reduceIte, ↓if_pos, ↓if_neg, kI, kJ, kR, kV, w32_eq, w64_eq, reduceCtorEq, Int.reduceAdd, Int.reduceMul, Int.reduceSub, o_c39, ↓o_g39_0, ↓o_g39_1, o_c5, o_c40, ↓rI40_6 e46, ↓rI40_10 e4p, ↓rI5_5 ek, ↓rI5_6 e6, ↓rI39_2 f2, ↓rI39_3 f3, ↓rI39_4 f4, ↓B_X6_readPupil Z, ↓B_X6_readPupil_64 Z, ↓o_p39_4, ↓a1, ↓a2], x2⟩
      · have ew : wn (tK T) (tV T) = 5 := (wn_eq hk (w := 8) (by omega) (by omega)).mpr ⟨h2, hv⟩
        have c0 : ∀ f : Int → mW → mO, mm_kI (mm_run (zP Z) 235 [.inr (.inr (some 141)), .inr (.inr (some 1))] (mk t)) f = f 5 (mk t) := fun f => by rw [r_inW Z hT hk h.1, ew]
        have v0 := rp_told (th' := th) (od' := od) (gr' := 1) h (k := 5) (e := 1) (by omega) (by omega) (by omega) (by omega) (by omega)
        have e3 : ∀ f : Int → mO, (mm_ld 0 (mk (uF t 141 20 (mm_ior (t.1 141 20) (mm_ior (mm_ishl 1 5) 1)))) 142 1891).bind f = f (shG G 3) := fun f => r_at v0.2.1 f _ (by omega) (by omega)
        obtain ⟨t1, b1, y1⟩ := r_new_2 Z hT hk1 M0 v0 hL (k := 3) (l := 5) (o := 7) (by unfold mny; omega) (by omega) qa
        exact ⟨_, fun f => by
          rw [B_X12_schoolPart]
          simp (disch := first | with_reducible assumption | omega) only [↓sm, ↓reduceIte, ↓if_pos, ↓if_neg, kI, kJ, kR, kV, w32_eq, w64_eq, reduceCtorEq, Int.reduceAdd, Int.reduceMul, Int.reduceSub, o_c141, ↓o_g141_0, ↓o_g141_1, ↓o_g141_5, ↓o_g141_6, ↓o_g141_7, ↓o_g141_8, ↓o_g141_9, ↓o_g141_21, ↓o_g141_25, ↓o_g141_26, ↓o_g141_27, ↓o_g141_28, ↓o_g141_29, ↓o_g141_30, ↓o_g141_31, ↓o_g141_34, ↓o_g141_35, ↓o_g141_36, ↓c0, ↓o_g141_20, ↓B_X12_schoolPart_28 Z, ↓B_X12_schoolPart_43 Z, ↓B_X12_schoolPart_46 Z, ↓o_p141_20, ↓B_X12_schoolPart_54 Z, ↓B_X12_schoolPart_84 Z, ↓B_X12_aPupil Z, ↓B_X12_aPupil_54 Z, ↓r_pupilRow Z, ↓e3, ↓b1], y1⟩
  · refine Or.inl ⟨6, tF T, by omega, fun s h => ?_, fun t0 t h => ?_⟩
    · obtain ⟨ek, ef, e6, ew, e46, e4p⟩ := cp_k h
      have e6 := e6 (Or.inl h2)
      rw [hv] at e6
      rw [h2] at ek
      have f2 := h.2.2.1
      have f3 := h.2.2.2.1
      have f4 := h.2.2.2.2.1
      have nf : ¬ shG G 3 < 5 := by omega
      obtain ⟨s1, a1, x1⟩ := cp_fails Z h 6
      exact ⟨_, fun f => by
        rw [B_X6_readPart]
        simp (disch := first | with_reducible assumption | omega) only [↓sm, ↓reduceIte, ↓if_pos, ↓if_neg, kI, kJ, kR, kV, w32_eq, w64_eq, reduceCtorEq, Int.reduceAdd, Int.reduceMul, Int.reduceSub, o_c39, ↓o_g39_0, ↓o_g39_1, o_c5, o_c40, ↓rI40_6 e46, ↓rI40_10 e4p, ↓rI5_5 ek, ↓rI5_6 e6, ↓rI39_2 f2, ↓rI39_3 f3, ↓rI39_4 f4, ↓B_X6_readPupil Z, ↓B_X6_readPupil_64 Z, ↓o_p39_4, nf, ↓a1], x1⟩
    · have ew : wn (tK T) (tV T) = 5 := (wn_eq hk (w := 8) (by omega) (by omega)).mpr ⟨h2, hv⟩
      have c0 : ∀ f : Int → mW → mO, mm_kI (mm_run (zP Z) 235 [.inr (.inr (some 141)), .inr (.inr (some 1))] (mk t)) f = f 5 (mk t) := fun f => by rw [r_inW Z hT hk h.1, ew]
      have v0 := rp_told (th' := th) (od' := od) (gr' := 1) h (k := 5) (e := 1) (by omega) (by omega) (by omega) (by omega) (by omega)
      have e3 : ∀ f : Int → mO, (mm_ld 0 (mk (uF t 141 20 (mm_ior (t.1 141 20) (mm_ior (mm_ishl 1 5) 1)))) 142 1891).bind f = f (shG G 3) := fun f => r_at v0.2.1 f _ (by omega) (by omega)
      obtain ⟨t1, b1, y1⟩ := r_new_6 Z hk v0 hL (k := 3) (l := 5) (o := 7) (by unfold mny; omega) (by omega) (by omega)
      exact ⟨_, fun f => by
        rw [B_X12_schoolPart]
        simp (disch := first | with_reducible assumption | omega) only [↓sm, ↓reduceIte, ↓if_pos, ↓if_neg, kI, kJ, kR, kV, w32_eq, w64_eq, reduceCtorEq, Int.reduceAdd, Int.reduceMul, Int.reduceSub, o_c141, ↓o_g141_0, ↓o_g141_1, ↓o_g141_5, ↓o_g141_6, ↓o_g141_7, ↓o_g141_8, ↓o_g141_9, ↓o_g141_21, ↓o_g141_25, ↓o_g141_26, ↓o_g141_27, ↓o_g141_28, ↓o_g141_29, ↓o_g141_30, ↓o_g141_31, ↓o_g141_34, ↓o_g141_35, ↓o_g141_36, ↓c0, ↓o_g141_20, ↓B_X12_schoolPart_28 Z, ↓B_X12_schoolPart_43 Z, ↓B_X12_schoolPart_46 Z, ↓o_p141_20, ↓B_X12_schoolPart_54 Z, ↓B_X12_schoolPart_84 Z, ↓B_X12_aPupil Z, ↓B_X12_aPupil_54 Z, ↓r_pupilRow Z, ↓e3, ↓b1], y1⟩
