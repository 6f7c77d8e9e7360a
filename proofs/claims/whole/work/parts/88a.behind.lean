/-! lessons behind a word, or none -/
theorem behind (Z : mX) {s0 : mS} {b : Int → Int} {n : Int} (hT : TB0 b n) {G0 H0 Gc Hc H G : Int → Int} {th od gr m row w kw : Int} (hw : km w = kw) (w0 : 0 ≤ w) (w1 : w < 27) (m0 : 0 ≤ m) (m7 : m ≤ 7) (hm : shG Gc 2 = m) (hH : ∀ k, 0 ≤ k → k < m → shN H k = shN Hc k) (r0 : 1948 ≤ row) (r1 : row < 2464) {T : mT} (hk : TT b n T) (hG : G row = 0) (hG2 : G 1890 = m) (hL : Lo G0 H0 G H) :
    (∃ kd pl, 1 ≤ kd ∧ (∀ s, CP s0 b n T Gc Hc th od gr s → ∃ s', (∀ f : Int → mW → mO, mm_kI (mm_run (zP Z) 89 [.inr (.inr (some 39)), .inl w] (mk s)) f = f 0 (mk s')) ∧ CFl s0 kd pl s') ∧
      (∀ t0 t, RP t0 b n T G H th od gr t → ∃ t1 t', (∀ f : Int → mW → mO, mm_kI (mm_run (zP Z) 250 [.inr (.inr (some 141)), .inl kw] (mk t)) f = f 1 (mk t1)) ∧ (∀ f : Int → mW → mO, mm_kI (mm_run (zP Z) 256 [.inr (.inr (some 141)), .inl row] (mk t1)) f = f 0 (mk t')) ∧ RFl t0 G0 H0 kd pl t')) ∨
    (∃ T' y, tF T ≤ tF T' ∧ TT b n T' ∧ (∃ j, LsI m y j) ∧ (∀ s, CP s0 b n T Gc Hc th od gr s → ∃ s', (∀ f : Int → mW → mO, mm_kI (mm_run (zP Z) 89 [.inr (.inr (some 39)), .inl w] (mk s)) f = f 1 (mk s')) ∧ CP s0 b n T' Gc Hc th od gr s' ∧ s'.1 39 6 = y ∧ s'.1 39 5 = s.1 39 5) ∧
      (∀ t0 t, RP t0 b n T G H th od gr t → ∃ t', RP t0 b n T' (mm_upd G row y) H th od gr t' ∧ ((∀ f : Int → mW → mO, mm_kI (mm_run (zP Z) 250 [.inr (.inr (some 141)), .inl kw] (mk t)) f = f 0 (mk t')) ∨ ∃ t1, (∀ f : Int → mW → mO, mm_kI (mm_run (zP Z) 250 [.inr (.inr (some 141)), .inl kw] (mk t)) f = f 1 (mk t1)) ∧ (∀ f : Int → mW → mO, mm_kI (mm_run (zP Z) 256 [.inr (.inr (some 141)), .inl row] (mk t1)) f = f 1 (mk t'))))) := by
  by_cases q : tK T = 2 ∧ tV T = w
  · obtain ⟨T1, p1, hk1, N0, M0⟩ := nxt Z hT hk
    have tk := tk_k hk
    have C : ∀ s, CP s0 b n T Gc Hc th od gr s → ∃ s', (∀ f : Int → mW → mO, mm_kI (mm_run (zP Z) 89 [.inr (.inr (some 39)), .inl w] (mk s)) f = mm_kI (mm_at (zP Z) 89 15 [some (.inr (.inr (some 39))), none, some (.inl 0), none] [] (mk s')) f) ∧ CP s0 b n T1 Gc Hc th od gr s' ∧ s'.1 39 6 = 0 ∧ s'.1 39 5 = s.1 39 5 := by
      intro s h
      have u0 := cp_39' h (k := 6) (Or.inr rfl) 0
      obtain ⟨s', a, c, g⟩ := cp_adv N0 u0
      have cw := fun f => c_isWord Z u0.1 w f
      rw [if_pos q] at cw
      refine ⟨s', fun f => ?_, c, by rw [g.2 39 6 (by unfold tyF; omega), uF_1, if_pos ⟨rfl, rfl⟩], by rw [g.2 39 5 (by unfold tyF; omega), uF_1, if_neg (by omega)]⟩
      rw [B_X6_takesLessonsBehind]
      simp (disch := first | assumption | omega) only [↓sm, ↓reduceIte, ↓if_pos, ↓if_neg, kI, kJ, kR, kV, w32_eq, w64_eq, reduceCtorEq, Int.reduceAdd, Int.reduceMul, Int.reduceSub, o_c39, ↓o_g39_0, ↓o_g39_1, ↓o_g39_2, ↓o_g39_3, ↓o_g39_4, ↓o_g39_5, ↓o_g39_6, o_c5, ↓o_p39_6, ↓cw, ↓a]
    have R : ∀ t0 t, RP t0 b n T G H th od gr t → ∃ t', (∀ f : Int → mW → mO, mm_kI (mm_run (zP Z) 250 [.inr (.inr (some 141)), .inl kw] (mk t)) f = f 1 (mk t')) ∧ RP t0 b n T1 G H th od gr t' := fun t0 t h => rp_there hT hk M0 h hw w0 w1 q
    rcases less_loop Z (s0 := s0) hT (th := th) (od := od) (gr := gr) m0 m7 hm hH r0 r1 _ T1 G 0 0 rfl hk1 LsI_0 hG hG2 hL with ⟨kd, pl, z0, z1, z2⟩ | ⟨T', y, z0, z1, z2, z3, z4⟩
    · refine Or.inl ⟨kd, pl, z0, fun s h => ?_, fun t0 t h => ?_⟩
      · obtain ⟨s1, a1, c1, d1, -⟩ := C s h
        obtain ⟨s2, a2, c2⟩ := z1 s1 c1 d1
        exact ⟨s2, fun f => by rw [a1, a2, kI], c2⟩
      · obtain ⟨t1, a1, c1⟩ := R t0 t h
        obtain ⟨t2, a2, c2⟩ := z2 t0 t1 c1
        exact ⟨t1, t2, a1, a2, c2⟩
    · refine Or.inr ⟨T', y, by omega, z1, z2, fun s h => ?_, fun t0 t h => ?_⟩
      · obtain ⟨s1, a1, c1, d1, d2⟩ := C s h
        obtain ⟨s2, a2, c2, d3, d4⟩ := z3 s1 c1 d1
        exact ⟨s2, fun f => by rw [a1, a2, kI], c2, d3, d4.trans d2⟩
      · obtain ⟨t1, a1, c1⟩ := R t0 t h
        obtain ⟨t2, a2, c2⟩ := z4 t0 t1 c1
        exact ⟨t2, c2, Or.inr ⟨t1, a1, a2⟩⟩
  · refine Or.inr ⟨T, 0, by omega, hk, ⟨0, LsI_0⟩, fun s h => ?_, fun t0 t h => ?_⟩
    · have u0 := cp_39' h (k := 6) (Or.inr rfl) 0
      have cw := fun f => c_isWord Z u0.1 w f
      rw [if_neg q] at cw
      refine ⟨uF s 39 6 0, fun f => ?_, u0, by rw [uF_1, if_pos ⟨rfl, rfl⟩], by rw [uF_1, if_neg (by omega)]⟩
      rw [B_X6_takesLessonsBehind]
      simp (disch := first | assumption | omega) only [↓sm, ↓reduceIte, ↓if_pos, ↓if_neg, kI, kJ, kR, kV, w32_eq, w64_eq, reduceCtorEq, Int.reduceAdd, Int.reduceMul, Int.reduceSub, o_c39, ↓o_g39_0, ↓o_g39_1, ↓o_g39_2, ↓o_g39_3, ↓o_g39_4, ↓o_g39_5, ↓o_g39_6, o_c5, ↓o_p39_6, ↓cw]
    · refine ⟨t, by rw [up_id hG]; exact h, Or.inl (fun f => r_there_f Z hT hk h.1 hw w0 w1 q f)⟩
/-! a lesson, a pupil told -/
theorem lesson_rl {G H : Int → Int} (w : WF (shG G)) (m7 : shG G 2 < 7) (a y W : Int) : Rl (shG G) (shG (mm_upd (mm_upd (mm_upd G (1888 + (60 + 2 * shG G 2)) a) (1888 + (60 + 2 * shG G 2) + 1) 0) (1888 + (60 + 2 * shG G 2) + 1) y)) (shN H) (shN (mm_upd H (48 + 0 + shG G 2) W)) := by
  have w0 := wf0 w
  rw [sh_up _ (1888 + (60 + 2 * shG G 2) + 1) (60 + 2 * shG G 2 + 1) y (by omega), sh_up _ (1888 + (60 + 2 * shG G 2) + 1) (60 + 2 * shG G 2 + 1) 0 (by omega), sh_up G (1888 + (60 + 2 * shG G 2)) (60 + 2 * shG G 2) a (by omega), shN_up H (48 + 0 + shG G 2) (shG G 2) W (by omega)]
  exact Rl_upN (Rl_up (Rl_up (Rl_up (Rl_refl _ _) w (by omega) _) w (by omega) _) w (by omega) _) w (by omega) _
theorem cs40_lesson {s : mS} {G H : Int → Int} (h : CS s 40 (shG G) (shN H)) (w : WF (shG G)) (m7 : shG G 2 < 7) (a y W : Int) : CS (adL s (shG G 2) a y W) 40 (shG (mm_upd (mm_upd (mm_upd (mm_upd G (1888 + (60 + 2 * shG G 2)) a) (1888 + (60 + 2 * shG G 2) + 1) 0) (1888 + (60 + 2 * shG G 2) + 1) y) 1890 (shG G 2 + 1))) (shN (mm_upd H (48 + 0 + shG G 2) W)) := by
  rw [sh_up _ 1890 2 _ (by omega)]
  refine cs40_adL h w rfl m7 (lesson_rl w m7 a y W) ?_ ?_ ?_
  · show mm_upd _ _ _ (1888 + (60 + 2 * shG G 2)) = a
    rw [up_ne (by omega), up_ne (by omega), up_eq rfl]
  · show mm_upd _ _ _ (1888 + (60 + 2 * shG G 2 + 1)) = y
    rw [up_eq (by omega)]
  · show mm_upd _ _ _ (48 + shG G 2) = W
    rw [up_eq (by omega)]
theorem lesson_DI {G : Int → Int} {th od gr : Int} (hD : DrI (shG G) th od gr) (m7 : shG G 2 < 7) (a y j : Int) (a0 : 1 ≤ a ∧ a ≤ 9) (hy : LsI (shG G 2) y j) : DrI (shG (mm_upd (mm_upd (mm_upd (mm_upd G (1888 + (60 + 2 * shG G 2)) a) (1888 + (60 + 2 * shG G 2) + 1) 0) (1888 + (60 + 2 * shG G 2) + 1) y) 1890 (shG G 2 + 1))) th od gr := by
  have w0 := wf0 hD.1
  rw [sh_up _ 1890 2 _ (by omega), sh_up _ (1888 + (60 + 2 * shG G 2) + 1) (60 + 2 * shG G 2 + 1) y (by omega), sh_up _ (1888 + (60 + 2 * shG G 2) + 1) (60 + 2 * shG G 2 + 1) 0 (by omega), sh_up G (1888 + (60 + 2 * shG G 2)) (60 + 2 * shG G 2) a (by omega)]
  generalize shG G = D at *
  have e : ∀ i, i ≠ 2 → i ≠ 60 + 2 * D 2 → i ≠ 60 + 2 * D 2 + 1 → mm_upd (mm_upd (mm_upd (mm_upd D (60 + 2 * D 2) a) (60 + 2 * D 2 + 1) 0) (60 + 2 * D 2 + 1) y) 2 (D 2 + 1) i = D i := fun i h1 h2 h3 => by
    rw [up_ne h1, up_ne h3, up_ne h3, up_ne h2]
  have e2 : mm_upd (mm_upd (mm_upd (mm_upd D (60 + 2 * D 2) a) (60 + 2 * D 2 + 1) 0) (60 + 2 * D 2 + 1) y) 2 (D 2 + 1) 2 = D 2 + 1 := up_eq rfl
  have ea : mm_upd (mm_upd (mm_upd (mm_upd D (60 + 2 * D 2) a) (60 + 2 * D 2 + 1) 0) (60 + 2 * D 2 + 1) y) 2 (D 2 + 1) (60 + 2 * D 2) = a := by
    rw [up_ne (by omega), up_ne (by omega), up_ne (by omega), up_eq rfl]
  have ey : mm_upd (mm_upd (mm_upd (mm_upd D (60 + 2 * D 2) a) (60 + 2 * D 2 + 1) 0) (60 + 2 * D 2 + 1) y) 2 (D 2 + 1) (60 + 2 * D 2 + 1) = y := by
    rw [up_ne (by omega), up_eq rfl]
  generalize mm_upd (mm_upd (mm_upd (mm_upd D (60 + 2 * D 2) a) (60 + 2 * D 2 + 1) 0) (60 + 2 * D 2 + 1) y) 2 (D 2 + 1) = D' at e e2 ea ey
  obtain ⟨w, h7, h1, h2, h3, h4, h5⟩ := hD
  have en : ncl D' = ncl D := by unfold ncl; rw [e 0 (by omega) (by omega) (by omega), e 1 (by omega) (by omega) (by omega)]
  refine ⟨?_, by rw [e 7 (by omega) (by omega) (by omega)]; exact h7, h1, h2, h3, fun hg => ⟨by rw [e 3 (by omega) (by omega) (by omega)]; exact (h4 hg).1, fun c c0 c1 => ?_⟩, fun p p0 p1 => ?_⟩
  · unfold WF at *
    rw [en, e2, e 0 (by omega) (by omega) (by omega), e 1 (by omega) (by omega) (by omega), e 3 (by omega) (by omega) (by omega), e 4 (by omega) (by omega) (by omega), e 5 (by omega) (by omega) (by omega)]
    refine ⟨by omega, fun c c0 c1 => ?_, fun k k0 k1 => ?_, fun p p0 p1 => ?_⟩
    · rw [e _ (by omega) (by omega) (by omega), e _ (by omega) (by omega) (by omega)]
      exact w.2.1 c c0 c1
    · by_cases hk : k = D 2
      · rw [hk, ea, ey]
        exact ⟨a0.1, a0.2, hy.1, hy.2.1, hy.2.2.2⟩
      · rw [e _ (by omega) (by omega) (by omega), e _ (by omega) (by omega) (by omega)]
        exact w.2.2.1 k k0 (by omega)
    · rw [e _ (by omega) (by omega) (by omega), e _ (by omega) (by omega) (by omega), e _ (by omega) (by omega) (by omega), e _ (by omega) (by omega) (by omega), e _ (by omega) (by omega) (by omega), e _ (by omega) (by omega) (by omega)]
      exact w.2.2.2 p p0 p1
  · rw [e _ (by omega) (by omega) (by omega), e _ (by omega) (by omega) (by omega)]
    exact (h4 hg).2 c c0 c1
  · rw [e 3 (by omega) (by omega) (by omega)] at p0
    rw [e _ (by omega) (by omega) (by omega), e _ (by omega) (by omega) (by omega), e _ (by omega) (by omega) (by omega)]
    exact h5 p p0 p1
/-- the reference's rows of a pupil, ahead of the count -/
def puG (G : Int → Int) (c wa y : Int) : Int → Int := mm_upd (mm_upd (mm_upd (mm_upd G (1888 + (74 + 6 * shG G 3)) c) (1888 + (74 + 6 * shG G 3) + 1) wa) (1888 + (74 + 6 * shG G 3) + 2) 0) (1888 + (74 + 6 * shG G 3) + 2) y
theorem sh_puG (G : Int → Int) (c wa y : Int) : shG (puG G c wa y) = mm_upd (mm_upd (mm_upd (mm_upd (shG G) (74 + 6 * shG G 3) c) (74 + 6 * shG G 3 + 1) wa) (74 + 6 * shG G 3 + 2) 0) (74 + 6 * shG G 3 + 2) y := by
  unfold puG
  rw [sh_up _ (1888 + (74 + 6 * shG G 3) + 2) (74 + 6 * shG G 3 + 2) y (by omega), sh_up _ (1888 + (74 + 6 * shG G 3) + 2) (74 + 6 * shG G 3 + 2) 0 (by omega), sh_up _ (1888 + (74 + 6 * shG G 3) + 1) (74 + 6 * shG G 3 + 1) wa (by omega), sh_up G (1888 + (74 + 6 * shG G 3)) (74 + 6 * shG G 3) c (by omega)]
theorem cs40_pupil {s : mS} {G H : Int → Int} {th od gr : Int} (h : CS s 40 (shG G) (shN H)) (hD : DrI (shG G) th od gr) (m5 : shG G 3 < 5) (c wa y W : Int) : CS (adP s (shG G 3) c wa y W) 40 (shG (mm_upd (puG G c wa y) 1891 (shG G 3 + 1))) (shN (mm_upd H (48 + 7 + shG G 3) W)) := by
  have w0 := wf0 hD.1
  have z := hD.2.2.2.2.2.2 (shG G 3) (by omega) m5
  rw [sh_up _ 1891 3 _ (by omega), shN_up H (48 + 7 + shG G 3) (7 + shG G 3) W (by omega)]
  have r : Rl (shG G) (shG (puG G c wa y)) (shN H) (mm_upd (shN H) (7 + shG G 3) W) := by
    rw [sh_puG]
    exact Rl_upN (Rl_up (Rl_up (Rl_up (Rl_up (Rl_refl _ _) hD.1 (by omega) _) hD.1 (by omega) _) hD.1 (by omega) _) hD.1 (by omega) _) hD.1 (by omega) _
  refine cs40_adP h hD.1 rfl m5 r ?_ ?_ ?_ ?_ ?_ ?_ (up_eq rfl)
  · rw [sh_puG, up_ne (by omega), up_ne (by omega), up_ne (by omega), up_eq rfl]
  · rw [sh_puG, up_ne (by omega), up_ne (by omega), up_eq rfl]
  · rw [sh_puG, up_eq rfl]
  · rw [sh_puG, up_ne (by omega), up_ne (by omega), up_ne (by omega), up_ne (by omega)]; exact z.1
  · rw [sh_puG, up_ne (by omega), up_ne (by omega), up_ne (by omega), up_ne (by omega)]; exact z.2.1
  · rw [sh_puG, up_ne (by omega), up_ne (by omega), up_ne (by omega), up_ne (by omega)]; exact z.2.2
theorem pupil_DI {G : Int → Int} {th od gr : Int} (hD : DrI (shG G) th od gr) (m5 : shG G 3 < 5) (c wa y j : Int) (hc : 0 ≤ c ∧ c ≤ ncl (shG G) - 1) (hw : 0 ≤ wa ∧ wa ≤ 9) (hy : LsI (shG G 2) y j) : DrI (shG (mm_upd (puG G c wa y) 1891 (shG G 3 + 1))) th od 1 := by
  have w0 := wf0 hD.1
  have z := hD.2.2.2.2.2.2 (shG G 3) (by omega) m5
  rw [sh_up _ 1891 3 _ (by omega), sh_puG]
  generalize shG G = D at *
  have e : ∀ i, i ≠ 3 → i ≠ 74 + 6 * D 3 → i ≠ 74 + 6 * D 3 + 1 → i ≠ 74 + 6 * D 3 + 2 → mm_upd (mm_upd (mm_upd (mm_upd (mm_upd D (74 + 6 * D 3) c) (74 + 6 * D 3 + 1) wa) (74 + 6 * D 3 + 2) 0) (74 + 6 * D 3 + 2) y) 3 (D 3 + 1) i = D i := fun i h1 h2 h3 h4 => by
    rw [up_ne h1, up_ne h4, up_ne h4, up_ne h3, up_ne h2]
  have e3 : mm_upd (mm_upd (mm_upd (mm_upd (mm_upd D (74 + 6 * D 3) c) (74 + 6 * D 3 + 1) wa) (74 + 6 * D 3 + 2) 0) (74 + 6 * D 3 + 2) y) 3 (D 3 + 1) 3 = D 3 + 1 := up_eq rfl
  have ec : mm_upd (mm_upd (mm_upd (mm_upd (mm_upd D (74 + 6 * D 3) c) (74 + 6 * D 3 + 1) wa) (74 + 6 * D 3 + 2) 0) (74 + 6 * D 3 + 2) y) 3 (D 3 + 1) (74 + 6 * D 3) = c := by
    rw [up_ne (by omega), up_ne (by omega), up_ne (by omega), up_ne (by omega), up_eq rfl]
  have ew : mm_upd (mm_upd (mm_upd (mm_upd (mm_upd D (74 + 6 * D 3) c) (74 + 6 * D 3 + 1) wa) (74 + 6 * D 3 + 2) 0) (74 + 6 * D 3 + 2) y) 3 (D 3 + 1) (74 + 6 * D 3 + 1) = wa := by
    rw [up_ne (by omega), up_ne (by omega), up_ne (by omega), up_eq rfl]
  have ey : mm_upd (mm_upd (mm_upd (mm_upd (mm_upd D (74 + 6 * D 3) c) (74 + 6 * D 3 + 1) wa) (74 + 6 * D 3 + 2) 0) (74 + 6 * D 3 + 2) y) 3 (D 3 + 1) (74 + 6 * D 3 + 2) = y := by
    rw [up_ne (by omega), up_eq rfl]
  generalize mm_upd (mm_upd (mm_upd (mm_upd (mm_upd D (74 + 6 * D 3) c) (74 + 6 * D 3 + 1) wa) (74 + 6 * D 3 + 2) 0) (74 + 6 * D 3 + 2) y) 3 (D 3 + 1) = D' at e e3 ec ew ey
  obtain ⟨w, h7, h1, h2, h3, h4, h5⟩ := hD
  have en : ncl D' = ncl D := by unfold ncl; rw [e 0 (by omega) (by omega) (by omega) (by omega), e 1 (by omega) (by omega) (by omega) (by omega)]
  refine ⟨?_, by rw [e 7 (by omega) (by omega) (by omega) (by omega)]; exact h7, h1, h2, by omega, fun hg => by omega, fun p p0 p1 => ?_⟩
  · unfold WF at *
    rw [en, e3, e 0 (by omega) (by omega) (by omega) (by omega), e 1 (by omega) (by omega) (by omega) (by omega), e 2 (by omega) (by omega) (by omega) (by omega), e 4 (by omega) (by omega) (by omega) (by omega), e 5 (by omega) (by omega) (by omega) (by omega)]
    refine ⟨by omega, fun c c0 c1 => ?_, fun k k0 k1 => ?_, fun p p0 p1 => ?_⟩
    · rw [e _ (by omega) (by omega) (by omega) (by omega), e _ (by omega) (by omega) (by omega) (by omega)]
      exact w.2.1 c c0 c1
    · rw [e _ (by omega) (by omega) (by omega) (by omega), e _ (by omega) (by omega) (by omega) (by omega)]
      exact w.2.2.1 k k0 k1
    · by_cases hp : p = D 3
      · rw [hp, ec, ew, ey, e _ (by omega) (by omega) (by omega) (by omega), e _ (by omega) (by omega) (by omega) (by omega), e _ (by omega) (by omega) (by omega) (by omega), z.1, z.2.1, z.2.2]
        have := hy.1
        have := hy.2.1
        omega
      · rw [e _ (by omega) (by omega) (by omega) (by omega), e _ (by omega) (by omega) (by omega) (by omega), e _ (by omega) (by omega) (by omega) (by omega), e _ (by omega) (by omega) (by omega) (by omega), e _ (by omega) (by omega) (by omega) (by omega), e _ (by omega) (by omega) (by omega) (by omega)]
        exact w.2.2.2 p p0 (by omega)
  · rw [e3] at p0
    rw [e _ (by omega) (by omega) (by omega) (by omega), e _ (by omega) (by omega) (by omega) (by omega), e _ (by omega) (by omega) (by omega) (by omega)]
    exact h5 p (by omega) p1
