/-! more of what is done with tokens: flags, cells, new names -/
theorem b_if {p : Prop} [Decidable p] {x : Bool} (h : x = decide p) : (if x = true then (1 : Int) else 0) = if p then 1 else 0 := by
  rw [h]
  by_cases hp : p
  · simp [hp]
  · simp [hp]
theorem rp_b0 {t0 t : mS} {b : Int → Int} {n : Int} {T : mT} {G H : Int → Int} {th od gr : Int} (h : RP t0 b n T G H th od gr t) : mm_iand (mm_ishr (t.1 141 20) 0) 1 = if th = 1 ∨ gr = 1 then 1 else 0 := by
  rw [has_s (by omega) (by omega)]
  exact b_if h.2.2.2.2.1
theorem rp_b1 {t0 t : mS} {b : Int → Int} {n : Int} {T : mT} {G H : Int → Int} {th od gr : Int} (h : RP t0 b n T G H th od gr t) : mm_iand (mm_ishr (t.1 141 20) 1) 1 = if od = 1 then 1 else 0 := by
  rw [has_s (by omega) (by omega)]
  exact b_if h.2.2.2.2.2.1
theorem rp_cells {t0 t : mS} {b : Int → Int} {n : Int} {T : mT} {G H : Int → Int} {th od gr : Int} (h : RP t0 b n T G H th od gr t) (w : WF (shG G)) (Z : mX) (f : Int → mW → mO) : mm_kI (mm_run (zP Z) 248 [.inr (.inr (some 141)), .inl 1888] (mk t)) f = f (ncl (shG G)) (mk t) := by
  have n := w_ncl w
  have e0 : G 1888 = shG G 0 := rfl
  have e1 : G 1889 = shG G 1 := rfl
  rw [B_X12_cellsOf]
  simp (disch := first | assumption | omega) only [↓sm, ↓reduceIte, ↓if_pos, ↓if_neg, kI, kJ, kR, kV, w32_eq, w64_eq, reduceCtorEq, Int.reduceAdd, Int.reduceMul, Int.reduceSub, o_c141, ↓o_g141_0, ↓o_g141_1, ↓o_g141_5, ↓o_g141_6, ↓o_g141_7, ↓o_g141_8, ↓o_g141_9, ↓o_g141_21, ↓o_g141_25, ↓o_g141_26, ↓o_g141_27, ↓o_g141_28, ↓o_g141_29, ↓o_g141_30, ↓o_g141_31, ↓o_g141_34, ↓o_g141_35, ↓o_g141_36, ↓r_atw h.2.1, ↓r_at h.2.1, e0, e1, n]
/-- a part of a school's text: both sides fail alike, or both go on -/
def Part (Z : mX) (s0 : mS) (b : Int → Int) (n : Int) (G0 H0 : Int → Int) (T : mT) (G H : Int → Int) (th od gr : Int) : Prop :=
  (∃ kd pl, 1 ≤ kd ∧ (∀ s, CP s0 b n T G H th od gr s → ∃ s', (∀ f : Int → mW → mO, mm_kI (mm_run (zP Z) 82 [.inr (.inr (some 39))] (mk s)) f = f 0 (mk s')) ∧ CFl s0 kd pl s') ∧
    (∀ t0 t, RP t0 b n T G H th od gr t → ∃ t', (∀ f : Int → mW → mO, mm_kI (mm_run (zP Z) 261 [.inr (.inr (some 141))] (mk t)) f = f 0 (mk t')) ∧ RFl t0 G0 H0 kd pl t')) ∨
  (∃ T' G' H' th' od' gr', tE T ≤ tF T' ∧ TT b n T' ∧ DrI (shG G') th' od' gr' ∧ Lo G0 H0 G' H' ∧
    (∀ s, CP s0 b n T G H th od gr s → ∃ s', (∀ f : Int → mW → mO, mm_kI (mm_run (zP Z) 82 [.inr (.inr (some 39))] (mk s)) f = f 1 (mk s')) ∧ CP s0 b n T' G' H' th' od' gr' s') ∧
    (∀ t0 t, RP t0 b n T G H th od gr t → ∃ t', (∀ f : Int → mW → mO, mm_kI (mm_run (zP Z) 261 [.inr (.inr (some 141))] (mk t)) f = f 1 (mk t')) ∧ RP t0 b n T' G' H' th' od' gr' t'))
theorem cs40_wide {s : mS} {G N : Int → Int} (h : CS s 40 (shG G) N) (w : WF (shG G)) (v : Int) : CS (uF s 40 0 v) 40 (shG (mm_upd G 1888 v)) N := by
  rw [sh_up G 1888 0 v (by omega)]
  exact cs40_num h (by omega) v w
theorem cs40_high {s : mS} {G N : Int → Int} (h : CS s 40 (shG G) N) (w : WF (shG G)) (v : Int) : CS (uF s 40 1 v) 40 (shG (mm_upd G 1889 v)) N := by
  rw [sh_up G 1889 1 v (by omega)]
  exact cs40_num h (by omega) v w
theorem cs40_odds {s : mS} {G N : Int → Int} (h : CS s 40 (shG G) N) (w : WF (shG G)) (v : Int) : CS (uF s 40 2 v) 40 (shG (mm_upd G 1892 v)) N := by
  rw [sh_up G 1892 4 v (by omega)]
  exact cs40_num h (by omega) v w
/-- no plants, no pupils: another thicket is as good -/
theorem WF_thicket {D : Int → Int} (w : WF D) (d0 : D 3 = 0 ∧ ∀ c, 0 ≤ c → c < 25 → D (10 + c) = 0 ∧ D (35 + c) = 0) {I v : Int} (hI : I = 0 ∨ I = 1) (v0 : 1 ≤ v) (v1 : v ≤ 5) : WF (mm_upd D I v) := by
  have w0 := wf0 w
  obtain ⟨z3, zc⟩ := d0
  unfold WF at *
  rw [up_ne (j := 2) (by omega), up_ne (j := 3) (by omega), up_ne (j := 4) (by omega), up_ne (j := 5) (by omega)]
  refine ⟨?_, fun c c0 c1 => ?_, fun k k0 k1 => ?_, fun p p0 p1 => by omega⟩
  · rcases hI with rfl | rfl
    · rw [up_eq rfl, up_ne (by omega)]; omega
    · rw [up_eq rfl, up_ne (by omega)]; omega
  · rw [up_ne (by omega), up_ne (by omega)]
    obtain ⟨a, b⟩ := zc c c0 c1
    omega
  · rw [up_ne (by omega), up_ne (by omega)]
    exact w.2.2.1 k k0 k1
theorem thicket_w1 {G : Int → Int} {th od gr : Int} (hD : DrI (shG G) th od gr) (hg : gr = 0) (v : Int) (v0 : 1 ≤ v) (v1 : v ≤ 5) : WF (shG (mm_upd G 1888 v)) := by
  rw [sh_up G 1888 0 v (by omega)]
  exact WF_thicket hD.1 (hD.2.2.2.2.2.1 hg) (by omega) v0 v1
theorem thicket_DI {G : Int → Int} {th od gr : Int} (hD : DrI (shG G) th od gr) (hg : gr = 0) (v u : Int) (v0 : 1 ≤ v ∧ v ≤ 5) (u0 : 1 ≤ u ∧ u ≤ 5) : DrI (shG (mm_upd (mm_upd G 1888 v) 1889 u)) 1 od gr := by
  obtain ⟨w, h7, h1, h2, h3, h4, h5⟩ := hD
  obtain ⟨z3, zc⟩ := h4 hg
  rw [sh_up _ 1889 1 u (by omega), sh_up G 1888 0 v (by omega)]
  have w1 := WF_thicket w ⟨z3, zc⟩ (I := 0) (by omega) v0.1 v0.2
  have w2 := WF_thicket w1 ⟨by rw [up_ne (by omega)]; exact z3, fun c c0 c1 => by rw [up_ne (by omega), up_ne (by omega)]; exact zc c c0 c1⟩ (I := 1) (by omega) u0.1 u0.2
  refine ⟨w2, by rw [up_ne (by omega), up_ne (by omega)]; exact h7, by omega, h2, h3, fun _ => ⟨by rw [up_ne (by omega), up_ne (by omega)]; exact z3, fun c c0 c1 => ?_⟩, fun p p0 p1 => ?_⟩
  · rw [up_ne (by omega), up_ne (by omega), up_ne (by omega), up_ne (by omega)]
    exact zc c c0 c1
  · rw [up_ne (by omega), up_ne (by omega)] at p0
    rw [up_ne (by omega), up_ne (by omega), up_ne (by omega), up_ne (by omega), up_ne (by omega), up_ne (by omega)]
    exact h5 p p0 p1
theorem odds_DI {G : Int → Int} {th od gr : Int} (hD : DrI (shG G) th od gr) (v : Int) (v0 : 0 ≤ v ∧ v ≤ 16) : DrI (shG (mm_upd G 1892 v)) th 1 gr := by
  obtain ⟨w, h7, h1, h2, h3, h4, h5⟩ := hD
  rw [sh_up G 1892 4 v (by omega)]
  have w0 := wf0 w
  refine ⟨wf_num w (by omega), by rw [up_ne (by omega)]; exact h7, h1, by omega, h3, fun hg => ⟨by rw [up_ne (by omega)]; exact (h4 hg).1, fun c c0 c1 => ?_⟩, fun p p0 p1 => ?_⟩
  · rw [up_ne (by omega), up_ne (by omega)]
    exact (h4 hg).2 c c0 c1
  · rw [up_ne (by omega)] at p0
    rw [up_ne (by omega), up_ne (by omega), up_ne (by omega)]
    exact h5 p p0 p1
theorem plant_rl {G H : Int → Int} {k : Nat} (w : WF (shG G)) (hk : k < 2) (c x : Int) : shG (mm_upd (mm_upd G 2352 x) (1898 + 25 * k + c) 0) = mm_upd (shG (mm_upd G 2352 x)) (10 + 25 * k + c) 0 := sh_up _ _ _ _ (by omega)
theorem cs40_plant {s : mS} {G N : Int → Int} {k : Nat} (h : CS s 40 (shG G) N) (w : WF (shG G)) (c : Int) (c0 : 0 ≤ c) (c1 : c < 25) (v : Int) (hk : k < 2) (x : Int) {q : Nat} (hq : q = 41 + k) {I : Int} (hI : I = 1898 + 25 * k + c) : CS (uA s q c v) 40 (shG (mm_upd (mm_upd G 2352 x) I v)) N := by
  have w0 := wf0 w
  have r : Rl (shG G) (shG (mm_upd G 2352 x)) N N := by
    rw [sh_up G 2352 464 x (by omega)]
    exact Rl_up (Rl_refl _ _) w (by omega) x
  rw [sh_up _ I (10 + 25 * k + c) v (by omega)]
  exact cs40_cell (CS_rl h r) (WF_rl w r) hq hk c0 c1 rfl v
theorem plant_DI {G : Int → Int} {th od gr : Int} {k : Nat} (hD : DrI (shG G) th od gr) (c : Int) (c0 : 0 ≤ c) (c1 : c < ncl (shG G)) (v : Int) (v0 : 0 ≤ v ∧ v ≤ 9) (x : Int) (hk : k < 2) {I : Int} (hI : I = 1898 + 25 * k + c) : DrI (shG (mm_upd (mm_upd G 2352 x) I v)) th od 1 := by
  have nn := wf_n hD.1
  have w0 := wf0 hD.1
  have hD' : DrI (shG (mm_upd G 2352 x)) th od gr := by
    rw [sh_up G 2352 464 x (by omega)]
    exact DI_up hD (by omega) x
  have en : ncl (shG (mm_upd G 2352 x)) = ncl (shG G) := by
    rw [sh_up G 2352 464 x (by omega)]
    exact ncl_up (by omega)
  obtain ⟨w, h7, h1, h2, h3, h4, h5⟩ := hD'
  rw [sh_up _ I (10 + 25 * k + c) v (by omega)]
  refine ⟨wf_cell w (k := (k : Int)) (by omega) (by omega) c0 (by omega) rfl v0.1 v0.2, by rw [up_ne (by omega)]; exact h7, h1, h2, by omega, fun hg => by omega, fun p p0 p1 => ?_⟩
  have w1 := wf0 w
  rw [up_ne (by omega)] at p0
  rw [up_ne (by omega), up_ne (by omega), up_ne (by omega)]
  exact h5 p p0 p1
/-! a new name -/
theorem c_new_t (Z : mX) {s0 s : mS} {b : Int → Int} {n : Int} {T T' : mT} {G H : Int → Int} {th od gr : Int} (hN : NC Z b n T T') (h : CP s0 b n T G H th od gr s) (w : WF (shG G)) (h3 : tK T = 3) (hl : fd (shN H) (tW T) (shG G 2) (shG G 2).toNat = -1) (hp : fd (fun p => shN H (7 + p)) (tW T) (shG G 3) (shG G 3).toNat = -1) :
    ∃ s', (∀ f : Int → mW → mO, mm_kI (mm_run (zP Z) 88 [.inr (.inr (some 39))] (mk s)) f = f 1 (mk s')) ∧ CP s0 b n T' G H th od gr s' ∧ s'.1 39 5 = tW T := by
  have w0 := wf0 w
  obtain ⟨ek, ef, -, ew, e46, e4p⟩ := cp_k h
  have ew := ew h3
  have cl := fun f => c_less Z e46 (by omega) (by omega) (tW T) f
  have cp := fun f => c_pup Z e4p (by omega) (by omega) (tW T) f
  rw [cp_fdl h rfl (by omega), hl] at cl
  rw [cp_fdp h rfl (by omega), hp] at cp
  obtain ⟨s', a, c, g⟩ := cp_adv hN (cp_39' h (k := 5) (Or.inl rfl) (tW T))
  refine ⟨s', fun f => ?_, c, by rw [g.2 39 5 (by unfold tyF; omega), uF_1, if_pos ⟨rfl, rfl⟩]⟩
  rw [B_X6_takesNewName]
  simp (disch := first | assumption | omega) only [↓sm, ↓reduceIte, ↓if_pos, ↓if_neg, kI, kJ, kR, kV, w32_eq, w64_eq, reduceCtorEq, Int.reduceAdd, Int.reduceMul, Int.reduceSub, o_c39, ↓o_g39_0, ↓o_g39_1, ↓o_g39_2, ↓o_g39_3, ↓o_g39_4, ↓o_g39_5, ↓o_g39_6, o_c5, ↓o_g5_0, ↓o_g5_1, ↓o_g5_2, ↓o_g5_3, ↓o_g5_4, ↓o_g5_5, ↓o_g5_6, ↓o_g5_7, ↓o_g5_8, ↓o_g5_9, ↓o_g5_10, ↓a_ln6, ↓a_ld6, o_c40, ek, h3, ew, ↓cl, cl, ↓cp, cp, o_p39_5, a]
theorem c_new_2 (Z : mX) {s0 s : mS} {b : Int → Int} {n : Int} {T : mT} {G H : Int → Int} {th od gr : Int} (h : CP s0 b n T G H th od gr s) (h3 : tK T ≠ 3) : ∃ s', (∀ f : Int → mW → mO, mm_kI (mm_run (zP Z) 88 [.inr (.inr (some 39))] (mk s)) f = f 0 (mk s')) ∧ CFl s0 (fkd T) (tF T) s' := by
  obtain ⟨ek, -⟩ := cp_k h
  obtain ⟨s', a, c⟩ := cp_strays Z h
  refine ⟨s', fun f => ?_, c⟩
  rw [B_X6_takesNewName]
  simp (disch := first | assumption | omega) only [↓sm, ↓reduceIte, ↓if_pos, ↓if_neg, kI, kJ, kR, kV, w32_eq, w64_eq, reduceCtorEq, Int.reduceAdd, Int.reduceMul, Int.reduceSub, o_c39, ↓o_g39_0, ↓o_g39_1, ↓o_g39_2, ↓o_g39_3, ↓o_g39_4, ↓o_g39_5, ↓o_g39_6, o_c5, ↓o_g5_0, ↓o_g5_1, ↓o_g5_2, ↓o_g5_3, ↓o_g5_4, ↓o_g5_5, ↓o_g5_6, ↓o_g5_7, ↓o_g5_8, ↓o_g5_9, ↓o_g5_10, ↓a_ln6, ↓a_ld6, ek, h3, ↓a]
theorem c_new_3 (Z : mX) {s0 s : mS} {b : Int → Int} {n : Int} {T : mT} {G H : Int → Int} {th od gr : Int} (h : CP s0 b n T G H th od gr s) (w : WF (shG G)) (h3 : tK T = 3) (hn : ¬ (fd (shN H) (tW T) (shG G 2) (shG G 2).toNat = -1 ∧ fd (fun p => shN H (7 + p)) (tW T) (shG G 3) (shG G 3).toNat = -1)) :
    ∃ s', (∀ f : Int → mW → mO, mm_kI (mm_run (zP Z) 88 [.inr (.inr (some 39))] (mk s)) f = f 0 (mk s')) ∧ CFl s0 3 (tF T) s' := by
  have w0 := wf0 w
  obtain ⟨ek, ef, -, ew, e46, e4p⟩ := cp_k h
  have ew := ew h3
  have cl := fun f => c_less Z e46 (by omega) (by omega) (tW T) f
  have cp := fun f => c_pup Z e4p (by omega) (by omega) (tW T) f
  rw [cp_fdl h rfl (by omega)] at cl
  rw [cp_fdp h rfl (by omega)] at cp
  obtain ⟨s', a, c⟩ := cp_fails Z h 3
  refine ⟨s', fun f => ?_, c⟩
  generalize fd (shN H) (tW T) (shG G 2) (shG G 2).toNat = x at cl hn
  generalize fd (fun p => shN H (7 + p)) (tW T) (shG G 3) (shG G 3).toNat = y at cp hn
  rw [B_X6_takesNewName]
  by_cases hx : x = -1
  · have hy : ¬ y = -1 := fun e => hn ⟨hx, e⟩
    simp (disch := first | assumption | omega) only [↓sm, ↓reduceIte, ↓if_pos, ↓if_neg, kI, kJ, kR, kV, w32_eq, w64_eq, reduceCtorEq, Int.reduceAdd, Int.reduceMul, Int.reduceSub, o_c39, ↓o_g39_0, ↓o_g39_1, ↓o_g39_2, ↓o_g39_3, ↓o_g39_4, ↓o_g39_5, ↓o_g39_6, o_c5, ↓o_g5_0, ↓o_g5_1, ↓o_g5_2, ↓o_g5_3, ↓o_g5_4, ↓o_g5_5, ↓o_g5_6, ↓o_g5_7, ↓o_g5_8, ↓o_g5_9, ↓o_g5_10, ↓a_ln6, ↓a_ld6, o_c40, ek, h3, ew, ↓cl, hx, ↓cp, hy, ↓a]
  · simp (disch := first | assumption | omega) only [↓sm, ↓reduceIte, ↓if_pos, ↓if_neg, kI, kJ, kR, kV, w32_eq, w64_eq, reduceCtorEq, Int.reduceAdd, Int.reduceMul, Int.reduceSub, o_c39, ↓o_g39_0, ↓o_g39_1, ↓o_g39_2, ↓o_g39_3, ↓o_g39_4, ↓o_g39_5, ↓o_g39_6, o_c5, ↓o_g5_0, ↓o_g5_1, ↓o_g5_2, ↓o_g5_3, ↓o_g5_4, ↓o_g5_5, ↓o_g5_6, ↓o_g5_7, ↓o_g5_8, ↓o_g5_9, ↓o_g5_10, ↓a_ln6, ↓a_ld6, o_c40, ek, h3, ew, ↓cl, hx, ↓a]
theorem rp_old (Z : mX) {t0 t : mS} {b : Int → Int} {n : Int} (hT : TB0 b n) {T : mT} (hk : TT b n T) {G H : Int → Int} {th od gr : Int} (h : RP t0 b n T G H th od gr t) (w : WF (shG G)) (h3 : tK T = 3) (f : Int → mW → mO) :
    mm_kI (mm_run (zP Z) 253 [.inr (.inr (some 141))] (mk t)) f = f (if fd (shN H) (tW T) (shG G 2) (shG G 2).toNat = -1 ∧ fd (fun p => shN H (7 + p)) (tW T) (shG G 3) (shG G 3).toNat = -1 then 0 else 1) (mk t) := by
  have w0 := wf0 w
  have cl := fun f => rp_findl Z hT hk h3 h (m := shG G 2) (by omega) (by omega) f
  have cp := fun f => rp_findp Z hT hk h3 h (q := shG G 3) (by omega) (by omega) f
  have e2 : G 1890 = shG G 2 := rfl
  have e3 : G 1891 = shG G 3 := rfl
  generalize fd (shN H) (tW T) (shG G 2) (shG G 2).toNat = x at cl ⊢
  generalize fd (fun p => shN H (7 + p)) (tW T) (shG G 3) (shG G 3).toNat = y at cp ⊢
  rw [B_X12_isOld]
  by_cases hx : x = -1
  · by_cases hy : y = -1
    · rw [if_pos ⟨hx, hy⟩]
      simp (disch := first | assumption | omega) only [↓sm, ↓reduceIte, ↓if_pos, ↓if_neg, kI, kJ, kR, kV, w32_eq, w64_eq, reduceCtorEq, Int.reduceAdd, Int.reduceMul, Int.reduceSub, o_c141, ↓o_g141_0, ↓o_g141_1, ↓o_g141_5, ↓o_g141_6, ↓o_g141_7, ↓o_g141_8, ↓o_g141_9, ↓o_g141_21, ↓o_g141_25, ↓o_g141_26, ↓o_g141_27, ↓o_g141_28, ↓o_g141_29, ↓o_g141_30, ↓o_g141_31, ↓o_g141_34, ↓o_g141_35, ↓o_g141_36, ↓r_at h.2.1, e2, e3, ↓cl, hx, ↓cp, hy]
    · rw [if_neg (fun e => hy e.2)]
      simp (disch := first | assumption | omega) only [↓sm, ↓reduceIte, ↓if_pos, ↓if_neg, kI, kJ, kR, kV, w32_eq, w64_eq, reduceCtorEq, Int.reduceAdd, Int.reduceMul, Int.reduceSub, o_c141, ↓o_g141_0, ↓o_g141_1, ↓o_g141_5, ↓o_g141_6, ↓o_g141_7, ↓o_g141_8, ↓o_g141_9, ↓o_g141_21, ↓o_g141_25, ↓o_g141_26, ↓o_g141_27, ↓o_g141_28, ↓o_g141_29, ↓o_g141_30, ↓o_g141_31, ↓o_g141_34, ↓o_g141_35, ↓o_g141_36, ↓r_at h.2.1, e2, e3, ↓cl, hx, ↓cp, hy]
  · rw [if_neg (fun e => hx e.1)]
    simp (disch := first | assumption | omega) only [↓sm, ↓reduceIte, ↓if_pos, ↓if_neg, kI, kJ, kR, kV, w32_eq, w64_eq, reduceCtorEq, Int.reduceAdd, Int.reduceMul, Int.reduceSub, o_c141, ↓o_g141_0, ↓o_g141_1, ↓o_g141_5, ↓o_g141_6, ↓o_g141_7, ↓o_g141_8, ↓o_g141_9, ↓o_g141_21, ↓o_g141_25, ↓o_g141_26, ↓o_g141_27, ↓o_g141_28, ↓o_g141_29, ↓o_g141_30, ↓o_g141_31, ↓o_g141_34, ↓o_g141_35, ↓o_g141_36, ↓r_at h.2.1, e2, e3, ↓cl, hx]
/-- lessons: 2, 7, 0; pupils: 3, 5, 7 -/
def mny (k l o : Int) : Prop := (k = 2 ∧ l = 7 ∧ o = 0) ∨ (k = 3 ∧ l = 5 ∧ o = 7)
theorem rp_full (Z : mX) {t0 t : mS} {b : Int → Int} {n : Int} {T : mT} {G H : Int → Int} {th od gr : Int} (h : RP t0 b n T G H th od gr t) {k l : Int} (k0 : 0 ≤ k) (k1 : k < 10) (f : Int → mW → mO) : mm_kI (mm_run (zP Z) 252 [.inr (.inr (some 141)), .inl k, .inl l] (mk t)) f = f (if G (1888 + k) = l then 1 else 0) (mk t) := by
  rw [B_X12_isFull]
  by_cases hc : G (1888 + k) = l
  · simp (disch := first | assumption | omega) only [↓sm, ↓reduceIte, ↓if_pos, ↓if_neg, kI, kJ, kR, kV, w32_eq, w64_eq, reduceCtorEq, Int.reduceAdd, Int.reduceMul, Int.reduceSub, o_c141, ↓o_g141_0, ↓o_g141_1, ↓o_g141_5, ↓o_g141_6, ↓o_g141_7, ↓o_g141_8, ↓o_g141_9, ↓o_g141_21, ↓o_g141_25, ↓o_g141_26, ↓o_g141_27, ↓o_g141_28, ↓o_g141_29, ↓o_g141_30, ↓o_g141_31, ↓o_g141_34, ↓o_g141_35, ↓o_g141_36, ↓r_atw h.2.1, hc]
  · simp (disch := first | assumption | omega) only [↓sm, ↓reduceIte, ↓if_pos, ↓if_neg, kI, kJ, kR, kV, w32_eq, w64_eq, reduceCtorEq, Int.reduceAdd, Int.reduceMul, Int.reduceSub, o_c141, ↓o_g141_0, ↓o_g141_1, ↓o_g141_5, ↓o_g141_6, ↓o_g141_7, ↓o_g141_8, ↓o_g141_9, ↓o_g141_21, ↓o_g141_25, ↓o_g141_26, ↓o_g141_27, ↓o_g141_28, ↓o_g141_29, ↓o_g141_30, ↓o_g141_31, ↓o_g141_34, ↓o_g141_35, ↓o_g141_36, ↓r_atw h.2.1, hc]
theorem r_new_6 (Z : mX) {t0 t : mS} {b : Int → Int} {n : Int} {T : mT} (hk : TT b n T) {G0 H0 G H : Int → Int} {th od gr : Int} (h : RP t0 b n T G H th od gr t) (hL : Lo G0 H0 G H) {k l o : Int} (hm : mny k l o) (hc : shG G k = l) (h1 : tK T ≠ 1) : ∃ t', (∀ f : Int → mW → mO, mm_kI (mm_run (zP Z) 254 [.inr (.inr (some 141)), .inl k, .inl l, .inl o] (mk t)) f = f 0 (mk t')) ∧ RFl t0 G0 H0 6 (tF T) t' := by
  obtain ⟨t', a, c⟩ := rp_fails Z hk h hL (k := 6) h1
  refine ⟨t', fun f => ?_, c⟩
  have e : G (1888 + k) = l := hc
  unfold mny at hm
  have cf := fun f => rp_full Z h (k := k) (l := l) (by omega) (by omega) f
  rw [if_pos e] at cf
  rw [B_X12_newOne]
  simp (disch := first | assumption | omega) only [↓sm, ↓reduceIte, ↓if_pos, ↓if_neg, kI, kJ, kR, kV, w32_eq, w64_eq, reduceCtorEq, Int.reduceAdd, Int.reduceMul, Int.reduceSub, o_c141, ↓o_g141_0, ↓o_g141_1, ↓o_g141_5, ↓o_g141_6, ↓o_g141_7, ↓o_g141_8, ↓o_g141_9, ↓o_g141_21, ↓o_g141_25, ↓o_g141_26, ↓o_g141_27, ↓o_g141_28, ↓o_g141_29, ↓o_g141_30, ↓o_g141_31, ↓o_g141_34, ↓o_g141_35, ↓o_g141_36, ↓cf, ↓a]
theorem r_new_2 (Z : mX) {t0 t : mS} {b : Int → Int} {n : Int} (hT : TB0 b n) {T T1 : mT} (hk1 : TT b n T1) (M0 : NR Z b n T T1) {G0 H0 G H : Int → Int} {th od gr : Int} (h : RP t0 b n T G H th od gr t) (hL : Lo G0 H0 G H) {k l o : Int} (hm : mny k l o) (hc : shG G k ≠ l) (h3 : tK T1 ≠ 3) : ∃ t', (∀ f : Int → mW → mO, mm_kI (mm_run (zP Z) 254 [.inr (.inr (some 141)), .inl k, .inl l, .inl o] (mk t)) f = f 0 (mk t')) ∧ RFl t0 G0 H0 (fkd T1) (tF T1) t' := by
  obtain ⟨t1, a1, c1⟩ := rp_adv M0 h
  obtain ⟨t', a, c⟩ := rp_fail2 Z hk1 c1 hL
  refine ⟨t', fun f => ?_, c⟩
  have e : G (1888 + k) ≠ l := hc
  have cn := fun f => rp_name Z hT hk1 c1 f
  rw [if_neg h3] at cn
  unfold mny at hm
  have cf := fun f => rp_full Z h (k := k) (l := l) (by omega) (by omega) f
  rw [if_neg e] at cf
  rw [B_X12_newOne]
  simp (disch := first | assumption | omega) only [↓sm, ↓reduceIte, ↓if_pos, ↓if_neg, kI, kJ, kR, kV, w32_eq, w64_eq, reduceCtorEq, Int.reduceAdd, Int.reduceMul, Int.reduceSub, o_c141, ↓o_g141_0, ↓o_g141_1, ↓o_g141_5, ↓o_g141_6, ↓o_g141_7, ↓o_g141_8, ↓o_g141_9, ↓o_g141_21, ↓o_g141_25, ↓o_g141_26, ↓o_g141_27, ↓o_g141_28, ↓o_g141_29, ↓o_g141_30, ↓o_g141_31, ↓o_g141_34, ↓o_g141_35, ↓o_g141_36, ↓cf, ↓a1, ↓cn, ↓a]
theorem r_new_3 (Z : mX) {t0 t : mS} {b : Int → Int} {n : Int} (hT : TB0 b n) {T T1 : mT} (hk1 : TT b n T1) (M0 : NR Z b n T T1) {G0 H0 G H : Int → Int} {th od gr : Int} (h : RP t0 b n T G H th od gr t) (hL : Lo G0 H0 G H) (w : WF (shG G)) {k l o : Int} (hm : mny k l o) (hc : shG G k ≠ l) (h3 : tK T1 = 3) (hn : ¬ (fd (shN H) (tW T1) (shG G 2) (shG G 2).toNat = -1 ∧ fd (fun p => shN H (7 + p)) (tW T1) (shG G 3) (shG G 3).toNat = -1)) :
    ∃ t', (∀ f : Int → mW → mO, mm_kI (mm_run (zP Z) 254 [.inr (.inr (some 141)), .inl k, .inl l, .inl o] (mk t)) f = f 0 (mk t')) ∧ RFl t0 G0 H0 3 (tF T1) t' := by
  obtain ⟨t1, a1, c1⟩ := rp_adv M0 h
  obtain ⟨t', a, c⟩ := rp_fails Z hk1 c1 hL (k := 3) (by omega)
  refine ⟨t', fun f => ?_, c⟩
  have e : G (1888 + k) ≠ l := hc
  have cn := fun f => rp_name Z hT hk1 c1 f
  rw [if_pos h3] at cn
  have co := fun f => rp_old Z hT hk1 c1 w h3 f
  rw [if_neg hn] at co
  unfold mny at hm
  have cf := fun f => rp_full Z h (k := k) (l := l) (by omega) (by omega) f
  rw [if_neg e] at cf
  rw [B_X12_newOne]
  simp (disch := first | assumption | omega) only [↓sm, ↓reduceIte, ↓if_pos, ↓if_neg, kI, kJ, kR, kV, w32_eq, w64_eq, reduceCtorEq, Int.reduceAdd, Int.reduceMul, Int.reduceSub, o_c141, ↓o_g141_0, ↓o_g141_1, ↓o_g141_5, ↓o_g141_6, ↓o_g141_7, ↓o_g141_8, ↓o_g141_9, ↓o_g141_21, ↓o_g141_25, ↓o_g141_26, ↓o_g141_27, ↓o_g141_28, ↓o_g141_29, ↓o_g141_30, ↓o_g141_31, ↓o_g141_34, ↓o_g141_35, ↓o_g141_36, ↓cf, ↓a1, ↓cn, ↓co, ↓a]
theorem r_new_t (Z : mX) {t0 t : mS} {b : Int → Int} {n : Int} (hT : TB0 b n) {T T1 T2 : mT} (hk1 : TT b n T1) (M0 : NR Z b n T T1) (M1 : NR Z b n T1 T2) {G H : Int → Int} {th od gr : Int} (h : RP t0 b n T G H th od gr t) (w : WF (shG G)) {k l o : Int} (hm : mny k l o) (hc : shG G k ≠ l) (h3 : tK T1 = 3) (hl : fd (shN H) (tW T1) (shG G 2) (shG G 2).toNat = -1) (hp : fd (fun p => shN H (7 + p)) (tW T1) (shG G 3) (shG G 3).toNat = -1) :
    ∃ t', (∀ f : Int → mW → mO, mm_kI (mm_run (zP Z) 254 [.inr (.inr (some 141)), .inl k, .inl l, .inl o] (mk t)) f = f 1 (mk t')) ∧ RP t0 b n T2 G (mm_upd H (48 + o + shG G k) (tW T1)) th od gr t' := by
  have w0 := wf0 w
  obtain ⟨t1, a1, c1⟩ := rp_adv M0 h
  obtain ⟨t', a, c⟩ := rp_adv M1 (rp_143 c1 (48 + o + shG G k) (tW T1))
  refine ⟨t', fun f => ?_, c⟩
  have e : G (1888 + k) = shG G k := rfl
  have cn := fun f => rp_name Z hT hk1 c1 f
  rw [if_pos h3] at cn
  have co := fun f => rp_old Z hT hk1 c1 w h3 f
  rw [if_pos ⟨hl, hp⟩] at co
  have ch := fun f => r_nameHere Z hT (tt_3 hk1 h3) (rt_3 c1.1 h3) f
  have hr : 0 ≤ shG G k ∧ shG G k ≤ 7 ∧ 0 ≤ o ∧ o ≤ 7 ∧ 48 + o + shG G k < 72 := by
    unfold mny at hm
    rcases hm with ⟨rfl, rfl, rfl⟩ | ⟨rfl, rfl, rfl⟩ <;> omega
  unfold mny at hm
  have cf := fun f => rp_full Z h (k := k) (l := l) (by omega) (by omega) f
  rw [if_neg (show ¬ G (1888 + k) = l from hc)] at cf
  have st : ∀ f : mW → mO, (mm_st 3 (mk t1) 143 (mm_w32 (mm_w32 (48 + o) + G (1888 + k))) (tW T1)).bind f = f (mk (uA t1 143 (48 + o + shG G k) (tW T1))) := fun f => by
    rw [e, w32_eq (x := 48 + o) (by omega) (by omega), w32_eq (by omega) (by omega)]
    exact a_st143 t1 f _ _ (by omega) (by omega)
  rw [B_X12_newOne]
  simp (disch := first | assumption | omega) only [↓sm, ↓reduceIte, ↓if_pos, ↓if_neg, kI, kJ, kR, kV, w32_eq, w64_eq, reduceCtorEq, Int.reduceAdd, Int.reduceMul, Int.reduceSub, o_c141, ↓o_g141_0, ↓o_g141_1, ↓o_g141_5, ↓o_g141_6, ↓o_g141_7, ↓o_g141_8, ↓o_g141_9, ↓o_g141_21, ↓o_g141_25, ↓o_g141_26, ↓o_g141_27, ↓o_g141_28, ↓o_g141_29, ↓o_g141_30, ↓o_g141_31, ↓o_g141_34, ↓o_g141_35, ↓o_g141_36, ↓cf, ↓a1, ↓cn, ↓co, ↓r_atw c1.2.1, ↓ch, ↓st, ↓a]
