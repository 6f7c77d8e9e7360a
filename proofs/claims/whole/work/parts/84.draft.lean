/-! the draft of a school: G, H the reference's numbers and names -/
def shG (G : Int → Int) : Int → Int := fun j => G (1888 + j)
def shN (H : Int → Int) : Int → Int := fun k => H (48 + k)
theorem sh_up (G : Int → Int) (I j v : Int) (h : I = 1888 + j) : shG (mm_upd G I v) = mm_upd (shG G) j v := by
  funext i
  unfold shG mm_upd
  by_cases hi : i = j
  · rw [if_pos (by omega), if_pos hi]
  · rw [if_neg (by omega), if_neg hi]
theorem shN_up (H : Int → Int) (I j v : Int) (h : I = 48 + j) : shN (mm_upd H I v) = mm_upd (shN H) j v := by
  funext i
  unfold shN mm_upd
  by_cases hi : i = j
  · rw [if_pos (by omega), if_pos hi]
  · rw [if_neg (by omega), if_neg hi]
/-- the same as far as it is told -/
def Rl (S S' N N' : Int → Int) : Prop := (∀ j, 0 ≤ j → j < 60 → S' j = S j) ∧ (∀ j, 60 ≤ j → j < 60 + 2 * S 2 → S' j = S j) ∧ (∀ j, 74 ≤ j → j < 74 + 6 * S 3 → S' j = S j) ∧ (∀ k, 0 ≤ k → k < S 2 → N' k = N k) ∧ (∀ p, 0 ≤ p → p < S 3 → N' (7 + p) = N (7 + p))
theorem WF_rl {S S' N N' : Int → Int} (h : WF S) (r : Rl S S' N N') : WF S' := by
  obtain ⟨r1, r2, r3, -, -⟩ := r
  have en : ncl S' = ncl S := by unfold ncl; rw [r1 0 (by omega) (by omega), r1 1 (by omega) (by omega)]
  have w := wf0 h
  unfold WF at *
  rw [en, r1 0 (by omega) (by omega), r1 1 (by omega) (by omega), r1 2 (by omega) (by omega), r1 3 (by omega) (by omega), r1 4 (by omega) (by omega), r1 5 (by omega) (by omega)]
  refine ⟨h.1, fun c c0 c1 => ?_, fun k k0 k1 => ?_, fun p p0 p1 => ?_⟩
  · rw [r1 _ (by omega) (by omega), r1 _ (by omega) (by omega)]
    exact h.2.1 c c0 c1
  · rw [r2 _ (by omega) (by omega), r2 _ (by omega) (by omega)]
    exact h.2.2.1 k k0 k1
  · rw [r3 _ (by omega) (by omega), r3 _ (by omega) (by omega), r3 _ (by omega) (by omega), r3 _ (by omega) (by omega), r3 _ (by omega) (by omega), r3 _ (by omega) (by omega)]
    exact h.2.2.2 p p0 p1
theorem CS_rl {s : mS} {o : Nat} {S S' N N' : Int → Int} (h : CS s o S N) (r : Rl S S' N N') : CS s o S' N' := by
  obtain ⟨r1, r2, r3, r4, r5⟩ := r
  unfold CS at *
  rw [r1 0 (by omega) (by omega), r1 1 (by omega) (by omega), r1 2 (by omega) (by omega), r1 3 (by omega) (by omega), r1 4 (by omega) (by omega), r1 5 (by omega) (by omega)]
  refine ⟨h.1, fun c c0 c1 => ?_, fun k k0 k1 => ?_, fun p p0 p1 => ?_, h.2.2.2.2⟩
  · rw [r1 _ (by omega) (by omega), r1 _ (by omega) (by omega)]
    exact h.2.1 c c0 c1
  · rw [r2 _ (by omega) (by omega), r2 _ (by omega) (by omega), r4 _ (by omega) (by omega)]
    exact h.2.2.1 k k0 k1
  · rw [r3 _ (by omega) (by omega), r3 _ (by omega) (by omega), r3 _ (by omega) (by omega), r3 _ (by omega) (by omega), r3 _ (by omega) (by omega), r3 _ (by omega) (by omega), r5 _ (by omega) (by omega)]
    exact h.2.2.2.1 p p0 p1
theorem Rl_refl (S N : Int → Int) : Rl S S N N := ⟨fun _ _ _ => rfl, fun _ _ _ => rfl, fun _ _ _ => rfl, fun _ _ _ => rfl, fun _ _ _ => rfl⟩
theorem Rl_up {S S' N N' : Int → Int} (r : Rl S S' N N') (w : WF S) {I : Int} (h : (60 + 2 * S 2 ≤ I ∧ I < 74) ∨ 74 + 6 * S 3 ≤ I) (v : Int) : Rl S (mm_upd S' I v) N N' := by
  obtain ⟨r1, r2, r3, r4, r5⟩ := r
  have w := wf0 w
  refine ⟨fun j j0 j1 => ?_, fun j j0 j1 => ?_, fun j j0 j1 => ?_, r4, r5⟩
  · rw [up_ne (by omega)]; exact r1 j j0 j1
  · rw [up_ne (by omega)]; exact r2 j j0 j1
  · rw [up_ne (by omega)]; exact r3 j j0 j1
theorem Rl_upN {S S' N N' : Int → Int} (r : Rl S S' N N') (w : WF S) {I : Int} (h : (S 2 ≤ I ∧ I < 7) ∨ 7 + S 3 ≤ I) (v : Int) : Rl S S' N (mm_upd N' I v) := by
  obtain ⟨r1, r2, r3, r4, r5⟩ := r
  have w := wf0 w
  refine ⟨r1, r2, r3, fun j j0 j1 => ?_, fun j j0 j1 => ?_⟩
  · rw [up_ne (by omega)]; exact r4 j j0 j1
  · rw [up_ne (by omega)]; exact r5 j j0 j1
/-- what holds of a draft -/
def DrI (D : Int → Int) (th od gr : Int) : Prop := WF D ∧ D 7 = -1 ∧ (th = 0 ∨ th = 1) ∧ (od = 0 ∨ od = 1) ∧ (gr = 0 ∨ gr = 1) ∧ (gr = 0 → D 3 = 0 ∧ ∀ c, 0 ≤ c → c < 25 → D (10 + c) = 0 ∧ D (35 + c) = 0) ∧
  (∀ p, D 3 ≤ p → p < 5 → D (74 + 6 * p + 3) = 0 ∧ D (74 + 6 * p + 4) = 0 ∧ D (74 + 6 * p + 5) = 0)
theorem DI_up {D : Int → Int} {th od gr : Int} (h : DrI D th od gr) {I : Int} (hI : (60 + 2 * D 2 ≤ I ∧ I < 74) ∨ (74 + 6 * D 3 ≤ I ∧ I < 74 + 6 * D 3 + 3) ∨ 104 ≤ I) (v : Int) : DrI (mm_upd D I v) th od gr := by
  obtain ⟨w, h7, h1, h2, h3, h4, h5⟩ := h
  have w0 := wf0 w
  refine ⟨WF_rl w (Rl_up (Rl_refl D D) w (by omega) v), by rw [up_ne (by omega)]; exact h7, h1, h2, h3, fun hg => ?_, fun p p0 p1 => ?_⟩
  · obtain ⟨a, b⟩ := h4 hg
    refine ⟨by rw [up_ne (by omega)]; exact a, fun c c0 c1 => ?_⟩
    rw [up_ne (by omega), up_ne (by omega)]
    exact b c c0 c1
  · rw [up_ne (by omega)] at p0
    rw [up_ne (by omega), up_ne (by omega), up_ne (by omega)]
    exact h5 p p0 p1
def Lo (G0 H0 G H : Int → Int) : Prop := (∀ j, j < 1888 → G j = G0 j) ∧ (∀ j, j < 48 → H j = H0 j)
theorem Lo_up {G0 H0 G H : Int → Int} (h : Lo G0 H0 G H) {I : Int} (hI : 1888 ≤ I) (v : Int) : Lo G0 H0 (mm_upd G I v) H := ⟨fun j hj => by rw [up_ne (by omega)]; exact h.1 j hj, h.2⟩
theorem Lo_upN {G0 H0 G H : Int → Int} (h : Lo G0 H0 G H) {I : Int} (hI : 48 ≤ I) (v : Int) : Lo G0 H0 G (mm_upd H I v) := ⟨h.1, fun j hj => by rw [up_ne (by omega)]; exact h.2 j hj⟩
/-! the class's draft (object 40) changed -/
theorem cs40_num {s : mS} {S N : Int → Int} (h : CS s 40 S N) {k : Nat} {I : Int} (hk : k = 0 ∧ I = 0 ∨ k = 1 ∧ I = 1 ∨ k = 2 ∧ I = 4) (v : Int) (hw : WF S) : CS (uF s 40 k v) 40 (mm_upd S I v) N := by
  have w := wf0 hw
  have e : ∀ j, j ≠ I → mm_upd S I v j = S j := fun j hj => if_neg hj
  unfold CS at *
  obtain ⟨⟨b0, b1, b2, b3, b4, b5⟩, h2, h3, h4, h5⟩ := h
  rw [e 2 (by omega), e 3 (by omega), e 5 (by omega), uF_2]
  refine ⟨?_, fun c c0 c1 => ?_, fun l l0 l1 => ?_, fun p' q0 q1 => ?_, h5⟩
  · simp only [uF_1]
    rcases hk with ⟨rfl, rfl⟩ | ⟨rfl, rfl⟩ | ⟨rfl, rfl⟩
    · rw [e 1 (by omega), e 4 (by omega), up_eq (j := 0) rfl]
      simp [b0, b1, b2, b3, b4, b5]
    · rw [e 0 (by omega), e 4 (by omega), up_eq (j := 1) rfl]
      simp [b0, b1, b2, b3, b4, b5]
    · rw [e 0 (by omega), e 1 (by omega), up_eq (j := 4) rfl]
      simp [b0, b1, b2, b3, b4, b5]
  · rw [e _ (by omega), e _ (by omega)]
    exact h2 c c0 c1
  · rw [e _ (by omega), e _ (by omega)]
    exact h3 l l0 l1
  · rw [e _ (by omega), e _ (by omega), e _ (by omega), e _ (by omega), e _ (by omega), e _ (by omega)]
    exact h4 p' q0 q1
theorem cs40_cell {s : mS} {S N : Int → Int} (h : CS s 40 S N) (hw : WF S) {q k : Nat} {c I : Int} (hq : q = 41 + k) (hk : k < 2) (c0 : 0 ≤ c) (c1 : c < 25) (hI : I = 10 + 25 * k + c) (v : Int) : CS (uA s q c v) 40 (mm_upd S I v) N := by
  subst hq
  subst hI
  have w := wf0 hw
  have e : ∀ j, j ≠ 10 + 25 * k + c → mm_upd S (10 + 25 * k + c) v j = S j := fun j hj => if_neg hj
  have g : ∀ q, q ≠ 41 + k → (uA s (41 + k) c v).2 q = s.2 q := fun q hq => uA_n s hq c v
  unfold CS at *
  rw [e 0 (by omega), e 1 (by omega), e 2 (by omega), e 3 (by omega), e 4 (by omega), e 5 (by omega)]
  refine ⟨h.1, fun c' q0 q1 => ?_, fun l l0 l1 => ?_, fun p' q0 q1 => ?_, fun p' q0 q1 => ?_⟩
  · obtain ⟨a0, a1⟩ := h.2.1 c' q0 q1
    rw [uA_2, uA_2]
    unfold mm_upd
    have hk' : k = 0 ∨ k = 1 := by omega
    by_cases hc : c' = c
    · subst hc
      rcases hk' with rfl | rfl
      · rw [if_pos (by omega), if_pos (by omega), if_neg (by omega), if_neg (by omega)]
        exact ⟨rfl, a1⟩
      · rw [if_neg (by omega), if_neg (by omega), if_pos (by omega), if_pos (by omega)]
        exact ⟨a0, rfl⟩
    · rw [if_neg (by omega), if_neg (by omega), if_neg (by omega), if_neg (by omega)]
      exact ⟨a0, a1⟩
  · rw [e _ (by omega), e _ (by omega), g _ (by omega), g _ (by omega), g _ (by omega)]
    exact h.2.2.1 l l0 l1
  · rw [e _ (by omega), e _ (by omega), e _ (by omega), e _ (by omega), e _ (by omega), e _ (by omega), g _ (by omega), g _ (by omega), g _ (by omega), g _ (by omega), g _ (by omega), g _ (by omega), g _ (by omega)]
    exact h.2.2.2.1 p' q0 q1
  · rw [g _ (by omega), g _ (by omega)]
    exact h.2.2.2.2 p' q0 q1
theorem c_cells40 (Z : mX) {s : mS} {S N : Int → Int} (h : CS s 40 S N) (hw : WF S) (f : Int → mW → mO) : mm_kI (mm_run (zP Z) 48 [.inr (.inr (some 40))] (mk s)) f = f (ncl S) (mk s) := by
  have w := wf0 hw
  have n := w_ncl hw
  rw [B_X5_cells]
  simp (disch := first | assumption | omega) only [↓sm, ↓reduceIte, ↓if_pos, ↓if_neg, kI, kJ, kR, kV, w32_eq, w64_eq, reduceCtorEq, Int.reduceAdd, Int.reduceMul, Int.reduceSub, ↓o_g40_0, ↓o_g40_1, h.1.1, h.1.2.1, n]
/-- a lesson laid into the class's draft -/
def adL (s : mS) (m hr nd W : Int) : mS := uF (uA (uA (uA s 43 m hr) 44 m nd) 45 m W) 40 6 (m + 1)
theorem c_addLes40 (Z : mX) {s : mS} {m : Int} (hm : s.1 40 6 = m) (m0 : 0 ≤ m) (m1 : m < 7) (hr nd W : Int) (f : mW → mO) : mm_kV (mm_run (zP Z) 55 [.inr (.inr (some 40)), .inl hr, .inl nd, .inr (.inl W)] (mk s)) f = f (mk (adL s m hr nd W)) := by
  have e : ∀ q i v, (uA s q i v).1 40 6 = m := fun _ _ _ => hm
  have e2 : ∀ q i v q' i' v', (uA (uA s q i v) q' i' v').1 40 6 = m := fun _ _ _ _ _ _ => hm
  have e3 : (uA (uA (uA s 43 m hr) 44 m nd) 45 m W).1 40 6 = m := hm
  rw [B_X5_addLesson]
  unfold adL
  simp (disch := first | assumption | omega) only [↓sm, ↓reduceIte, ↓if_pos, ↓if_neg, kI, kJ, kR, kV, w32_eq, w64_eq, reduceCtorEq, Int.reduceAdd, Int.reduceMul, Int.reduceSub, o_c40, ↓o_g40_0, ↓o_g40_1, ↓o_g40_2, ↓o_g40_3, ↓o_g40_4, ↓o_g40_5, ↓o_g40_6, ↓o_g40_7, ↓o_g40_8, ↓o_g40_9, ↓o_g40_10, ↓o_g40_11, ↓o_g40_12, ↓o_g40_13, ↓o_g40_14, ↓o_g40_15, ↓o_g40_16, ↓o_g40_17, ↓a_ln41, ↓a_ld41, ↓a_ln42, ↓a_ld42, ↓a_ln43, ↓a_ld43, ↓a_ln44, ↓a_ld44, ↓a_ln45, ↓a_ld45, ↓a_ln46, ↓a_ld46, ↓a_ln47, ↓a_ld47, ↓a_ln48, ↓a_ld48, ↓a_ln49, ↓a_ld49, ↓a_ln50, ↓a_ld50, ↓a_ln51, ↓a_ld51, ↓a_ln52, ↓a_ld52, hm, p_43 Z, e, p_44 Z, e2, a_st45, e3, o_p40_6]
theorem cs40_adL {s : mS} {S N S' N' : Int → Int} {m hr nd W : Int} (h : CS s 40 S N) (hw : WF S) (hm : S 2 = m) (m1 : m < 7) (r : Rl S S' N N') (e1 : S' (60 + 2 * m) = hr) (e2 : S' (60 + 2 * m + 1) = nd) (e3 : N' m = W) : CS (adL s m hr nd W) 40 (mm_upd S' 2 (m + 1)) N' := by
  have w := wf0 hw
  have h' := CS_rl h r
  obtain ⟨r1, r2, r3, r4, r5⟩ := r
  have q2 : S' 2 = m := (r1 2 (by omega) (by omega)).trans hm
  have q3 : S' 3 = S 3 := r1 3 (by omega) (by omega)
  have e : ∀ j, j ≠ 2 → mm_upd S' 2 (m + 1) j = S' j := fun j hj => if_neg hj
  have g : ∀ q, q ≠ 43 → q ≠ 44 → q ≠ 45 → (adL s m hr nd W).2 q = s.2 q := fun q h1 h2 h3 => by
    unfold adL
    rw [uF_2, uA_n _ h3, uA_n _ h2, uA_n _ h1]
  unfold CS at *
  obtain ⟨⟨b0, b1, b2, b3, b4, b5⟩, h2, h3, h4, h5⟩ := h'
  rw [e 0 (by omega), e 1 (by omega), e 3 (by omega), e 4 (by omega), e 5 (by omega), up_eq rfl]
  refine ⟨?_, fun c c0 c1 => ?_, fun l l0 l1 => ?_, fun p' p0 p1 => ?_, fun p' p0 p1 => ?_⟩
  · unfold adL
    simp only [uF_1, uA_1]
    simp [b0, b1, b2, b3, b5]
  · rw [e _ (by omega), e _ (by omega), g _ (by omega) (by omega) (by omega), g _ (by omega) (by omega) (by omega)]
    exact h2 c c0 c1
  · rw [e _ (by omega), e _ (by omega)]
    unfold adL
    simp only [uF_2, uA_2]
    by_cases hl : l = m
    · subst hl
      simp [e1, e2, e3]
    · have := h3 l l0 (by omega)
      simp [hl]
      exact this
  · rw [e _ (by omega), e _ (by omega), e _ (by omega), e _ (by omega), e _ (by omega), e _ (by omega)]
    rw [g _ (by omega) (by omega) (by omega), g _ (by omega) (by omega) (by omega), g _ (by omega) (by omega) (by omega), g _ (by omega) (by omega) (by omega), g _ (by omega) (by omega) (by omega), g _ (by omega) (by omega) (by omega), g _ (by omega) (by omega) (by omega)]
    exact h4 p' p0 p1
  · rw [g _ (by omega) (by omega) (by omega), g _ (by omega) (by omega) (by omega)]
    exact h5 p' p0 p1
/-- a pupil -/
def adP (s : mS) (m c wa kn W : Int) : mS := uF (uA (uA (uA (uA (uA (uA (uA s 46 m c) 47 m wa) 48 m kn) 49 m 0) 50 m 0) 51 m 0) 52 m W) 40 10 (m + 1)
theorem c_addPup40 (Z : mX) {s : mS} {m : Int} (hm : s.1 40 10 = m) (m0 : 0 ≤ m) (m1 : m < 5) (c wa kn W : Int) (f : mW → mO) : mm_kV (mm_run (zP Z) 56 [.inr (.inr (some 40)), .inl c, .inl wa, .inl kn, .inr (.inl W)] (mk s)) f = f (mk (adP s m c wa kn W)) := by
  have e : ∀ (u : mS) q i v, (uA u q i v).1 40 10 = u.1 40 10 := fun _ _ _ _ => rfl
  rw [B_X5_addPupil]
  unfold adP
  simp (disch := first | assumption | omega) only [↓sm, ↓reduceIte, ↓if_pos, ↓if_neg, kI, kJ, kR, kV, w32_eq, w64_eq, reduceCtorEq, Int.reduceAdd, Int.reduceMul, Int.reduceSub, o_c40, ↓o_g40_0, ↓o_g40_1, ↓o_g40_2, ↓o_g40_3, ↓o_g40_4, ↓o_g40_5, ↓o_g40_6, ↓o_g40_7, ↓o_g40_8, ↓o_g40_9, ↓o_g40_10, ↓o_g40_11, ↓o_g40_12, ↓o_g40_13, ↓o_g40_14, ↓o_g40_15, ↓o_g40_16, ↓o_g40_17, ↓a_ln41, ↓a_ld41, ↓a_ln42, ↓a_ld42, ↓a_ln43, ↓a_ld43, ↓a_ln44, ↓a_ld44, ↓a_ln45, ↓a_ld45, ↓a_ln46, ↓a_ld46, ↓a_ln47, ↓a_ld47, ↓a_ln48, ↓a_ld48, ↓a_ln49, ↓a_ld49, ↓a_ln50, ↓a_ld50, ↓a_ln51, ↓a_ld51, ↓a_ln52, ↓a_ld52, e, hm, p_46 Z, p_47 Z, p_48 Z, p_49 Z, p_50 Z, p_51 Z, a_st52, o_p40_10]
theorem cs40_adP {s : mS} {S N S' N' : Int → Int} {m c wa kn W : Int} (h : CS s 40 S N) (hw : WF S) (hm : S 3 = m) (m1 : m < 5) (r : Rl S S' N N') (e0 : S' (74 + 6 * m) = c) (e1 : S' (74 + 6 * m + 1) = wa) (e2 : S' (74 + 6 * m + 2) = kn) (e3 : S' (74 + 6 * m + 3) = 0) (e4 : S' (74 + 6 * m + 4) = 0) (e5 : S' (74 + 6 * m + 5) = 0) (e6 : N' (7 + m) = W) : CS (adP s m c wa kn W) 40 (mm_upd S' 3 (m + 1)) N' := by
  have w := wf0 hw
  have h' := CS_rl h r
  obtain ⟨r1, r2, r3, r4, r5⟩ := r
  have q3 : S' 3 = m := (r1 3 (by omega) (by omega)).trans hm
  have q2 : S' 2 = S 2 := r1 2 (by omega) (by omega)
  have e : ∀ j, j ≠ 3 → mm_upd S' 3 (m + 1) j = S' j := fun j hj => if_neg hj
  have g : ∀ q, q < 46 → (adP s m c wa kn W).2 q = s.2 q := fun q h1 => by
    unfold adP
    rw [uF_2, uA_n _ (by omega), uA_n _ (by omega), uA_n _ (by omega), uA_n _ (by omega), uA_n _ (by omega), uA_n _ (by omega), uA_n _ (by omega)]
  unfold CS at *
  obtain ⟨⟨b0, b1, b2, b3, b4, b5⟩, h2, h3, h4, h5⟩ := h'
  rw [e 0 (by omega), e 1 (by omega), e 2 (by omega), e 4 (by omega), e 5 (by omega), up_eq rfl]
  refine ⟨?_, fun c c0 c1 => ?_, fun l l0 l1 => ?_, fun p' p0 p1 => ?_, fun p' p0 p1 => ?_⟩
  · unfold adP
    simp only [uF_1, uA_1]
    simp [b0, b1, b2, b3, b4]
  · rw [e _ (by omega), e _ (by omega), g _ (by omega), g _ (by omega)]
    exact h2 c c0 c1
  · rw [e _ (by omega), e _ (by omega), g _ (by omega), g _ (by omega), g _ (by omega)]
    exact h3 l l0 l1
  · rw [e _ (by omega), e _ (by omega), e _ (by omega), e _ (by omega), e _ (by omega), e _ (by omega)]
    unfold adP
    simp only [uF_2, uA_2]
    by_cases hl : p' = m
    · subst hl
      simp [e0, e1, e2, e3, e4, e5, e6]
    · have := h4 p' p0 (by omega)
      simp [hl]
      exact this
  · unfold adP
    simp only [uF_2, uA_2]
    have := h5 p' (by omega) p1
    have hl : ¬ p' = m := by omega
    simp [hl]
    exact this
