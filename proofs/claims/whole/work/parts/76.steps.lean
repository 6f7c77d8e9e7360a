/-! steps that are come to -/
theorem uF_id {s : mS} {q k : Nat} {v : Int} (h : s.1 q k = v) : uF s q k v = s := by
  refine Prod.ext (funext fun q' => funext fun k' => ?_) rfl
  rw [uF_1]
  split
  · rename_i x
    rw [x.1, x.2, h]
  · rfl
theorem r_l23 (Z : mX) {t t1 : mS} {S : Int → Int} {n p c v : Int} (e : t.2 142 = S) (h7 : S 7 = n) (n60 : n ≤ 60) (p0 : 0 ≤ p) (hp : p < n) (h24 : S (104 + 6 * p) ≠ 24) (h25 : S (104 + 6 * p) ≠ 25) (hc : t.1 141 33 = c) (c0 : 0 ≤ c) (c1 : c < 300) (hz : t.2 158 4 = 0)
    (hd : ∀ f : Int → mW → mO, mm_kI (mm_run (zP Z) 354 [.inr (.inr (some 141)), .inl ((104 + 6 * p))] (mk (uF t 141 33 (c + 1)))) f = f v (mk t1)) (hv : v = 0 ∨ v = 1) :
    MB Z p t = mm_at (zP Z) 357 75 [some (.inr (.inr (some 141))), none, some (.inl p), some (.inl (104 + 6 * p))] [.inl (1 - v), .inl (t.2 158 0), .inl 0, .inr (.inr (some 158))] (mk t1) := by
  have e2 : (uF t 141 33 (c + 1)).2 142 = S := e
  have e3 : (uF t 141 33 (c + 1)).2 158 0 = t.2 158 0 := rfl
  have w1 : mm_w32 (104 + mm_w32 (6 * p)) = 104 + 6 * p := by rw [w32_eq (x := 6 * p) (by omega) (by omega), w32_eq (by omega) (by omega)]
  have w2 : mm_w32 (c + 1) = c + 1 := w32_eq (by omega) (by omega)
  have n3 : ¬ c = 300 := by omega
  rw [MB_step Z e h7 n60 p0 hp h24, B_X12_lives_23]
  simp only [w1]
  rcases hv with hv | hv
  · simp (disch := first | assumption | omega) only [↓sm, ↓reduceIte, ↓if_pos, ↓if_neg, kI, kJ, kR, kV, w32_eq, w64_eq, reduceCtorEq, Int.reduceAdd, Int.reduceMul, Int.reduceSub, o_c141, ↓o_g141_0, ↓o_g141_1, ↓o_g141_5, ↓o_g141_6, ↓o_g141_7, ↓o_g141_8, ↓o_g141_9, ↓o_g141_21, ↓o_g141_25, ↓o_g141_26, ↓o_g141_27, ↓o_g141_28, ↓o_g141_29, ↓o_g141_30, ↓o_g141_31, ↓o_g141_34, ↓o_g141_35, ↓o_g141_36, ↓r_at e, ↓r_at e2, h7, ↓a_ld158, hz, ↓o_g141_33, hc, n3, w2, ↓o_p141_33, h25, hd, hv, e3]
  · simp (disch := first | assumption | omega) only [↓sm, ↓reduceIte, ↓if_pos, ↓if_neg, kI, kJ, kR, kV, w32_eq, w64_eq, reduceCtorEq, Int.reduceAdd, Int.reduceMul, Int.reduceSub, o_c141, ↓o_g141_0, ↓o_g141_1, ↓o_g141_5, ↓o_g141_6, ↓o_g141_7, ↓o_g141_8, ↓o_g141_9, ↓o_g141_21, ↓o_g141_25, ↓o_g141_26, ↓o_g141_27, ↓o_g141_28, ↓o_g141_29, ↓o_g141_30, ↓o_g141_31, ↓o_g141_34, ↓o_g141_35, ↓o_g141_36, ↓r_at e, ↓r_at e2, h7, ↓a_ld158, hz, ↓o_g141_33, hc, n3, w2, ↓o_p141_33, h25, hd, hv, e3]
theorem r_l75 (Z : mX) {t : mS} {S : Int → Int} {p x y v : Int} (e : t.2 142 = S) (p0 : 0 ≤ p) (hp : p < 60) (h23 : S (104 + 6 * p) ≠ 23) (hlt : S (104 + 6 * p) < 2200) (hv : mm_w32 (x + y) = v) :
    mm_at (zP Z) 357 75 [some (.inr (.inr (some 141))), none, some (.inl p), some (.inl (104 + 6 * p))] [.inl y, .inl x, .inl 0, .inr (.inr (some 158))] (mk t) = MB Z (p + 1) (uA t 158 0 v) := by
  have e2 : (uA t 158 0 v).2 142 = S := by rw [uA_n _ (by decide)]; exact e
  rw [B_X12_lives_75, hv]
  simp (disch := first | assumption | omega) only [↓sm, ↓reduceIte, ↓if_pos, ↓if_neg, kI, kJ, kR, kV, w32_eq, w64_eq, reduceCtorEq, Int.reduceAdd, Int.reduceMul, Int.reduceSub, o_c141, ↓o_g141_0, ↓o_g141_1, ↓o_g141_5, ↓o_g141_6, ↓o_g141_7, ↓o_g141_8, ↓o_g141_9, ↓o_g141_21, ↓o_g141_25, ↓o_g141_26, ↓o_g141_27, ↓o_g141_28, ↓o_g141_29, ↓o_g141_30, ↓o_g141_31, ↓o_g141_34, ↓o_g141_35, ↓o_g141_36, ↓r_at e2, ↓a_st158, h23, B_X12_lives_95 Z, B_X12_lives_115 Z, B_X12_behindEnds Z]
  rfl
theorem r_l75l (Z : mX) {t : mS} {S : Int → Int} {p x y v : Int} (e : t.2 142 = S) (p0 : 0 ≤ p) (hp : p < 60) (h23 : S (104 + 6 * p) = 23) (r0 : 1 ≤ S (104 + 6 * p + 1)) (r1 : S (104 + 6 * p + 1) ≤ 99) (hv : mm_w32 (x + y) = v) :
    mm_at (zP Z) 357 75 [some (.inr (.inr (some 141))), none, some (.inl p), some (.inl (104 + 6 * p))] [.inl y, .inl x, .inl 0, .inr (.inr (some 158))] (mk t) = MB Z (p + 1) (uA (uA t 158 0 v) 157 p (S (104 + 6 * p + 1) - 1)) := by
  have e2 : (uA t 158 0 v).2 142 = S := by rw [uA_n _ (by decide)]; exact e
  have e3 : (uA (uA t 158 0 v) 157 p (S (104 + 6 * p + 1) - 1)).2 142 = S := by rw [uA_n _ (by decide)]; exact e2
  have w1 : mm_w32 (104 + 6 * p + 1) = 104 + 6 * p + 1 := w32_eq (by omega) (by omega)
  have w2 : mm_w32 (S (104 + 6 * p + 1) - 1) = S (104 + 6 * p + 1) - 1 := w32_eq (by omega) (by omega)
  rw [B_X12_lives_75, hv]
  simp only [w1]
  simp (disch := first | assumption | omega) only [↓sm, ↓reduceIte, ↓if_pos, ↓if_neg, kI, kJ, kR, kV, w32_eq, w64_eq, reduceCtorEq, Int.reduceAdd, Int.reduceMul, Int.reduceSub, o_c141, ↓o_g141_0, ↓o_g141_1, ↓o_g141_5, ↓o_g141_6, ↓o_g141_7, ↓o_g141_8, ↓o_g141_9, ↓o_g141_21, ↓o_g141_25, ↓o_g141_26, ↓o_g141_27, ↓o_g141_28, ↓o_g141_29, ↓o_g141_30, ↓o_g141_31, ↓o_g141_34, ↓o_g141_35, ↓o_g141_36, ↓r_at e2, r_at e3, ↓a_st158, w2, a_st157, h23, B_X12_lives_95 Z, B_X12_lives_115 Z, B_X12_behindEnds Z]
  rfl
theorem r_l75w (Z : mX) {t : mS} {S : Int → Int} {p x y v : Int} {b : Bool} (e : t.2 142 = S) (p0 : 0 ≤ p) (hp : p < 60) (h22 : 2200 ≤ S (104 + 6 * p)) (h23 : S (104 + 6 * p) ≠ 23) (hv : mm_w32 (x + y) = v) (r0 : 0 ≤ S (104 + 6 * p + 4)) (r1 : S (104 + 6 * p + 4) < 60)
    (hh : ∀ f : Int → mW → mO, mm_kI (mm_run (zP Z) 355 [.inr (.inr (some 141)), .inl ((104 + 6 * p))] (mk (uA t 158 0 v))) f = f (b2i b) (mk (uA t 158 0 v))) :
    mm_at (zP Z) 357 75 [some (.inr (.inr (some 141))), none, some (.inl p), some (.inl (104 + 6 * p))] [.inl y, .inl x, .inl 0, .inr (.inr (some 158))] (mk t) = MB Z (if b = true then p + 1 else S (104 + 6 * p + 4) + 1) (uA t 158 0 v) := by
  have e2 : (uA t 158 0 v).2 142 = S := by rw [uA_n _ (by decide)]; exact e
  have w1 : mm_w32 (104 + 6 * p + 4) = 104 + 6 * p + 4 := w32_eq (by omega) (by omega)
  have n22 : ¬ S (104 + 6 * p) < 2200 := by omega
  rw [B_X12_lives_75, hv]
  cases b
  · simp (disch := first | assumption | omega) only [↓sm, ↓reduceIte, ↓if_pos, ↓if_neg, kI, kJ, kR, kV, w32_eq, w64_eq, reduceCtorEq, Int.reduceAdd, Int.reduceMul, Int.reduceSub, o_c141, ↓o_g141_0, ↓o_g141_1, ↓o_g141_5, ↓o_g141_6, ↓o_g141_7, ↓o_g141_8, ↓o_g141_9, ↓o_g141_21, ↓o_g141_25, ↓o_g141_26, ↓o_g141_27, ↓o_g141_28, ↓o_g141_29, ↓o_g141_30, ↓o_g141_31, ↓o_g141_34, ↓o_g141_35, ↓o_g141_36, ↓r_at e2, ↓a_st158, h23, B_X12_lives_95 Z, n22, ↓hh, b2i_0, B_X12_behindEnds Z, w1, r_at e2, Bool.false_eq_true]
    rfl
  · simp (disch := first | assumption | omega) only [↓sm, ↓reduceIte, ↓if_pos, ↓if_neg, kI, kJ, kR, kV, w32_eq, w64_eq, reduceCtorEq, Int.reduceAdd, Int.reduceMul, Int.reduceSub, o_c141, ↓o_g141_0, ↓o_g141_1, ↓o_g141_5, ↓o_g141_6, ↓o_g141_7, ↓o_g141_8, ↓o_g141_9, ↓o_g141_21, ↓o_g141_25, ↓o_g141_26, ↓o_g141_27, ↓o_g141_28, ↓o_g141_29, ↓o_g141_30, ↓o_g141_31, ↓o_g141_34, ↓o_g141_35, ↓o_g141_36, ↓r_at e2, ↓a_st158, h23, B_X12_lives_95 Z, n22, ↓hh, b2i_0, B_X12_lives_115 Z, B_X12_behindEnds Z, Bool.true_eq_false]
    rfl
theorem r_does0 (Z : mX) {t : mS} {S : Int → Int} {p : Int} (e : t.2 142 = S) (p0 : 0 ≤ p) (hp : p < 60) (h : 22 ≤ S (104 + 6 * p)) (f : Int → mW → mO) : mm_kI (mm_run (zP Z) 354 [.inr (.inr (some 141)), .inl ((104 + 6 * p))] (mk t)) f = f 1 (mk t) := by
  rw [B_X12_does]
  simp (disch := first | assumption | omega) only [↓sm, ↓reduceIte, ↓if_pos, ↓if_neg, kI, kJ, kR, kV, w32_eq, w64_eq, reduceCtorEq, Int.reduceAdd, Int.reduceMul, Int.reduceSub, o_c141, ↓o_g141_0, ↓o_g141_1, ↓o_g141_5, ↓o_g141_6, ↓o_g141_7, ↓o_g141_8, ↓o_g141_9, ↓o_g141_21, ↓o_g141_25, ↓o_g141_26, ↓o_g141_27, ↓o_g141_28, ↓o_g141_29, ↓o_g141_30, ↓o_g141_31, ↓o_g141_34, ↓o_g141_35, ↓o_g141_36, ↓r_at e, ↓r_atw e]
/-- a world of the reference that goes with the class's -/
def tw (s : mS) (S : Int → Int) : mS := (fun _ k => if k = 33 then s.1 63 5 else if k = 24 then s.1 63 9 else s.1 63 11, fun q j => if q = 142 then S j else if j = 0 then s.1 63 6 else if j = 1 then s.1 63 7 else if j = 2 then s.1 63 8 else s.1 63 10)
theorem tw_LR {s : mS} (S : Int → Int) (x0 : 0 ≤ s.1 63 11) (x1 : s.1 63 11 < 65536) : LR s (tw s S) := ⟨rfl, rfl, rfl, rfl, rfl, rfl, rfl, x0, x1⟩
theorem LR_w {s t : mS} (h : LR s t) (x : Int) : LR (uF s 63 6 x) (uA t 158 0 x) := by
  obtain ⟨l1, l2, l3, l4, l5, l6, l7, l8, l9⟩ := h
  unfold LR
  simp only [uF_1, uA_1, uA_2]
  exact ⟨l1, rfl, l3, l4, l5, l6, l7, l8, l9⟩
theorem LR_w0 {s t : mS} (h : LR s t) (x : Int) (hx : x = s.1 63 6) : LR s (uA t 158 0 x) := by
  have := LR_w h x
  rwa [uF_id hx.symm] at this
theorem wm_ne {S : Int → Int} {n p : Int} (hP : PR S n) (p0 : 0 ≤ p) (hp : p < n) (h : S (104 + 6 * p) ≠ 24) : wmap (S (104 + 6 * p)) ≠ 25 := by
  obtain ⟨pr, -⟩ := hP p p0 hp
  unfold wmap
  rcases pr with x | x | x | x | x | x | x | x | x | x | x | x | x <;> first | (exfalso; omega) | (rw [x]; decide)
theorem ps_done (Z : mX) {s : mS} {S N : Int → Int} {n p : Int} (h : LC s S N n p) (hp : p < n) (e : S (104 + 6 * p) ≠ 24) (hc : s.1 63 5 = 300) : Pass Z s S N n p := by
  obtain ⟨n60, e33, hP, hM, hA⟩ := LC_u h
  obtain ⟨w, cs, au, h7, p0, p1, ha, m0, m1, c1, hu, x0, x1⟩ := id h
  have hu := hu hp
  have a1 : s.2 34 p = wmap (S (104 + 6 * p)) := (hA p p0 hp).1
  have hw := wm_ne hP p0 hp e
  generalize hv : wmap (S (104 + 6 * p)) = v at a1 hw
  have ag : Ag laA laF s (uF s 63 10 1) := Ag_uF (F := laF) (Ag_refl _ _ _) (by unfold laF; omega) _
  have e33' : (uF s 63 10 1).1 33 2 = n := e33
  refine ⟨n, uF s 63 10 1, S, fun f => ?_, LC_mk h (Kp_refl _) w (CS_fr cs (fun k => by rw [uF_1, if_neg (by omega)]) (fun j _ _ => rfl)) ag (by omega) (by omega) (fun o ho => (act_top hM ho).elim) m0 m1 c1 (fun x => by omega) x0 x1, Kp_refl _, ag, fun i _ => Or.inl rfl, ?_⟩
  · rw [B_X4_pass]
    simp (disch := first | assumption | omega) only [↓sm, ↓reduceIte, ↓if_pos, ↓if_neg, kI, kJ, kR, kV, w32_eq, w64_eq, reduceCtorEq, Int.reduceAdd, Int.reduceMul, Int.reduceSub, o_c63, ↓o_g63_0, ↓o_g63_1, ↓o_g63_2, ↓o_g63_3, ↓o_g63_4, ↓o_g63_5, ↓o_g63_6, ↓o_g63_7, ↓o_g63_8, ↓o_g63_9, ↓o_g63_10, ↓o_g63_11, ↓a_ln64, ↓a_ld64, ↓a_ln65, ↓a_ld65, o_c33, ↓o_g33_0, ↓o_g33_1, ↓o_g33_2, ↓o_g33_3, ↓o_g33_4, ↓o_g33_5, ↓o_g33_6, ↓o_g33_7, ↓a_ln34, ↓a_ld34, ↓a_ln35, ↓a_ld35, ↓a_ln36, ↓a_ld36, ↓a_ln37, ↓a_ld37, ↓a_ln38, ↓a_ld38, ↓g_34 Z, a1, hc, ↓o_p63_10, e33']
  · intro t ⟨et, hL, hR⟩
    have l1 := hL.1
    have l6 := hL.2.2.2.2.2.1
    have z0 : t.2 158 4 = 0 := by rw [← l6]; exact hu
    have z1 : t.1 141 33 = 300 := by rw [← l1]; exact hc
    have e2 : (uA t 158 4 1).2 142 = S := by rw [uA_n _ (by decide)]; exact et
    have z2 : (uA t 158 4 1).2 158 4 = 1 := by rw [uA_s, up_eq rfl]
    refine ⟨uA t 158 4 1, ?_, ⟨e2, ?_, fun o ho => (act_top hM ho).elim⟩, Ag_uA (Ag_refl _ _ _) (by unfold lbA; omega) _ _⟩
    · rw [MB_n Z e2 h7 (by omega), MB_step Z et h7 n60 p0 hp e, B_X12_lives_23]
      simp (disch := first | assumption | omega) only [↓sm, ↓reduceIte, ↓if_pos, ↓if_neg, kI, kJ, kR, kV, w32_eq, w64_eq, reduceCtorEq, Int.reduceAdd, Int.reduceMul, Int.reduceSub, o_c141, ↓o_g141_0, ↓o_g141_1, ↓o_g141_5, ↓o_g141_6, ↓o_g141_7, ↓o_g141_8, ↓o_g141_9, ↓o_g141_21, ↓o_g141_25, ↓o_g141_26, ↓o_g141_27, ↓o_g141_28, ↓o_g141_29, ↓o_g141_30, ↓o_g141_31, ↓o_g141_34, ↓o_g141_35, ↓o_g141_36, ↓r_at et, h7, ↓a_ld158, z0, ↓o_g141_33, z1, ↓a_st158]
      rw [B_X12_lives_23]
      simp (disch := first | assumption | omega) only [↓sm, ↓reduceIte, ↓if_pos, ↓if_neg, kI, kJ, kR, kV, w32_eq, w64_eq, reduceCtorEq, Int.reduceAdd, Int.reduceMul, Int.reduceSub, o_c141, ↓o_g141_0, ↓o_g141_1, ↓o_g141_5, ↓o_g141_6, ↓o_g141_7, ↓o_g141_8, ↓o_g141_9, ↓o_g141_21, ↓o_g141_25, ↓o_g141_26, ↓o_g141_27, ↓o_g141_28, ↓o_g141_29, ↓o_g141_30, ↓o_g141_31, ↓o_g141_34, ↓o_g141_35, ↓o_g141_36, ↓r_at e2, h7, ↓a_ld158, z2]
    · obtain ⟨l1, l2, l3, l4, l5, l6, l7, l8, l9⟩ := hL
      unfold LR
      simp only [uF_1, uA_1, uA_2]
      exact ⟨l1, l2, l3, l4, l5, rfl, l7, l8, l9⟩
theorem ps_stop (Z : mX) {s : mS} {S N : Int → Int} {n p : Int} (h : LC s S N n p) (hp : p < n) (e : S (104 + 6 * p) = 25) (hc : s.1 63 5 < 300) : Pass Z s S N n p := by
  obtain ⟨n60, e33, hP, hM, hA⟩ := LC_u h
  obtain ⟨w, cs, au, h7, p0, p1, ha, m0, m1, c1, hu, x0, x1⟩ := id h
  have hu := hu hp
  have a1 := (hA p p0 hp).1
  rw [e] at a1
  have a1 : s.2 34 p = 26 := a1
  have ag : Ag laA laF s (uF s 63 5 (s.1 63 5 + 1)) := Ag_uF (F := laF) (Ag_refl _ _ _) (by unfold laF; omega) _
  have e33' : (uF s 63 5 (s.1 63 5 + 1)).1 33 2 = n := e33
  refine ⟨n, uF s 63 5 (s.1 63 5 + 1), S, fun f => ?_, LC_mk h (Kp_refl _) w (CS_fr cs (fun k => by rw [uF_1, if_neg (by omega)]) (fun j _ _ => rfl)) ag (by omega) (by omega) (fun o ho => (act_top hM ho).elim) m0 (by rw [uF_1, uF_1, if_neg (by omega), if_pos ⟨rfl, rfl⟩]; omega) (by rw [uF_1, if_pos ⟨rfl, rfl⟩]; omega) (fun x => by omega) x0 x1, Kp_refl _, ag, fun i _ => Or.inl rfl, ?_⟩
  · have w1 : mm_w32 (s.1 63 5 + 1) = s.1 63 5 + 1 := w32_eq (by omega) (by omega)
    rw [B_X4_pass]
    simp (disch := first | assumption | omega) only [↓sm, ↓reduceIte, ↓if_pos, ↓if_neg, kI, kJ, kR, kV, w32_eq, w64_eq, reduceCtorEq, Int.reduceAdd, Int.reduceMul, Int.reduceSub, o_c63, ↓o_g63_0, ↓o_g63_1, ↓o_g63_2, ↓o_g63_3, ↓o_g63_4, ↓o_g63_5, ↓o_g63_6, ↓o_g63_7, ↓o_g63_8, ↓o_g63_9, ↓o_g63_10, ↓o_g63_11, ↓a_ln64, ↓a_ld64, ↓a_ln65, ↓a_ld65, o_c33, ↓o_g33_0, ↓o_g33_1, ↓o_g33_2, ↓o_g33_3, ↓o_g33_4, ↓o_g33_5, ↓o_g33_6, ↓o_g33_7, ↓a_ln34, ↓a_ld34, ↓a_ln35, ↓a_ld35, ↓a_ln36, ↓a_ld36, ↓a_ln37, ↓a_ld37, ↓a_ln38, ↓a_ld38, ↓g_34 Z, a1, ↓o_p63_5, w1, o_g33_2, e33']
  · intro t ⟨et, hL, hR⟩
    have l1 := hL.1
    have l6 := hL.2.2.2.2.2.1
    have z0 : t.2 158 4 = 0 := by rw [← l6]; exact hu
    have w1 : mm_w32 (s.1 63 5 + 1) = s.1 63 5 + 1 := w32_eq (by omega) (by omega)
    have n3 : ¬ s.1 63 5 = 300 := by omega
    have e2 : (uF t 141 33 (s.1 63 5 + 1)).2 142 = S := et
    refine ⟨uF t 141 33 (s.1 63 5 + 1), ?_, ⟨e2, LR_uF hL _, fun o ho => (act_top hM ho).elim⟩, Ag_uF (F := lbF) (Ag_refl _ _ _) (by unfold lbF; omega) _⟩
    rw [MB_n Z e2 h7 (by omega), MB_step Z et h7 n60 p0 hp (by omega), B_X12_lives_23]
    simp (disch := first | assumption | omega) only [↓sm, ↓reduceIte, ↓if_pos, ↓if_neg, kI, kJ, kR, kV, w32_eq, w64_eq, reduceCtorEq, Int.reduceAdd, Int.reduceMul, Int.reduceSub, o_c141, ↓o_g141_0, ↓o_g141_1, ↓o_g141_5, ↓o_g141_6, ↓o_g141_7, ↓o_g141_8, ↓o_g141_9, ↓o_g141_21, ↓o_g141_25, ↓o_g141_26, ↓o_g141_27, ↓o_g141_28, ↓o_g141_29, ↓o_g141_30, ↓o_g141_31, ↓o_g141_34, ↓o_g141_35, ↓o_g141_36, ↓r_at et, h7, ↓a_ld158, z0, ↓o_g141_33, ← l1, n3, w1, ↓o_p141_33, r_at e2, r_atw e2, e]
theorem ps_loop (Z : mX) {s : mS} {S N : Int → Int} {n p : Int} (h : LC s S N n p) (hp : p < n) (e : S (104 + 6 * p) = 23) (hc : s.1 63 5 < 300) : Pass Z s S N n p := by
  obtain ⟨n60, e33, hP, hM, hA⟩ := LC_u h
  obtain ⟨w, cs, au, h7, p0, p1, ha, m0, m1, c1, hu, x0, x1⟩ := id h
  have hu := hu hp
  obtain ⟨a1, a2, -⟩ := hA p p0 hp
  rw [e] at a1
  have a1 : s.2 34 p = 24 := a1
  have a2 : s.2 35 p = S (104 + 6 * p + 1) := a2 (by omega)
  obtain ⟨r0, r1⟩ := (hP p p0 hp).2.2.2.2.2.1 e
  have ag : Ag laA laF s (uA (uF s 63 5 (s.1 63 5 + 1)) 64 p (S (104 + 6 * p + 1))) := Ag_uA (Ag_uF (F := laF) (Ag_refl _ _ _) (by unfold laF; omega) _) (by unfold laA; omega) _ _
  have w1 : mm_w32 (s.1 63 5 + 1) = s.1 63 5 + 1 := w32_eq (by omega) (by omega)
  have a2' : (uF s 63 5 (s.1 63 5 + 1)).2 35 p = S (104 + 6 * p + 1) := a2
  refine ⟨p + 1, uA (uF s 63 5 (s.1 63 5 + 1)) 64 p (S (104 + 6 * p + 1)), S, fun f => ?_, LC_mk h (Kp_refl _) w (CS_fr cs (fun k => by rw [uA_1, uF_1, if_neg (by omega)]) (fun j _ _ => by rw [uA_n _ (by omega)]; rfl)) ag (by omega) (by omega) (fun o ho => ?_) m0 (by rw [uA_1, uF_1, uF_1, if_neg (by omega), if_pos ⟨rfl, rfl⟩]; omega) (by rw [uA_1, uF_1, if_pos ⟨rfl, rfl⟩]; omega) (fun _ => hu) x0 x1, Kp_refl _, ag, fun i hi => ?_, ?_⟩
  · rw [B_X4_pass]
    simp (disch := first | assumption | omega) only [↓sm, ↓reduceIte, ↓if_pos, ↓if_neg, kI, kJ, kR, kV, w32_eq, w64_eq, reduceCtorEq, Int.reduceAdd, Int.reduceMul, Int.reduceSub, o_c63, ↓o_g63_0, ↓o_g63_1, ↓o_g63_2, ↓o_g63_3, ↓o_g63_4, ↓o_g63_5, ↓o_g63_6, ↓o_g63_7, ↓o_g63_8, ↓o_g63_9, ↓o_g63_10, ↓o_g63_11, ↓a_ln64, ↓a_ld64, ↓a_ln65, ↓a_ld65, o_c33, ↓o_g33_0, ↓o_g33_1, ↓o_g33_2, ↓o_g33_3, ↓o_g33_4, ↓o_g33_5, ↓o_g33_6, ↓o_g33_7, ↓a_ln34, ↓a_ld34, ↓a_ln35, ↓a_ld35, ↓a_ln36, ↓a_ld36, ↓a_ln37, ↓a_ld37, ↓a_ln38, ↓a_ld38, ↓g_34 Z, a1, ↓o_p63_5, w1, g_35 Z, a2', p_64 Z, o_g33_4, o_g63_1, o_g63_2]
  · rw [uA_s]
    by_cases x : o = p
    · rw [up_eq x]; omega
    · rw [up_ne x]; exact ha o (act_next ho x)
  · unfold FB at *
    rw [uA_1, uF_1, if_pos ⟨rfl, rfl⟩]
    omega
  · intro t ⟨et, hL, hR⟩
    have l2 := hL.2.1
    have z0 : t.2 158 4 = 0 := by rw [← hL.2.2.2.2.2.1]; exact hu
    have e2 : (uF t 141 33 (s.1 63 5 + 1)).2 142 = S := et
    have wx : mm_w32 (t.2 158 0 + (1 - 1)) = s.1 63 6 := by rw [w32_eq (by omega) (by omega)]; omega
    refine ⟨uA (uA (uF t 141 33 (s.1 63 5 + 1)) 158 0 (s.1 63 6)) 157 p (S (104 + 6 * p + 1) - 1), ?_, ⟨?_, ?_, fun o ho => ?_⟩, Ag_uA (Ag_uA (Ag_uF (F := lbF) (Ag_refl _ _ _) (by unfold lbF; omega) _) (by unfold lbA; omega) _ _) (by unfold lbA; omega) _ _⟩
    · rw [r_l23 Z et h7 n60 p0 hp (by omega) (by omega) hL.1.symm (by omega) hc z0 (fun f => r_does0 Z e2 p0 (by omega) (by omega) f) (Or.inr rfl)]
      exact r_l75l Z e2 p0 (by omega) e r0 r1 wx
    · rw [uA_n _ (by decide), uA_n _ (by decide)]; exact e2
    · exact LR_kp (LR_w0 (LR_uF hL (s.1 63 5 + 1)) (s.1 63 6) rfl) (fun _ => rfl) (fun _ => rfl) (uA_n _ (by decide) _ _)
    · rw [uA_s, uA_s]
      by_cases x : o = p
      · rw [up_eq x, up_eq x]
      · rw [up_ne x, up_ne x, uA_n _ (by decide)]
        exact hR o (act_next ho x)
theorem ps_when (Z : mX) {s : mS} {S N : Int → Int} {n p : Int} (h : LC s S N n p) (hp : p < n) (e : 2200 ≤ S (104 + 6 * p)) (hc : s.1 63 5 < 300) : Pass Z s S N n p := by
  obtain ⟨n60, e33, hP, hM, hA⟩ := LC_u h
  obtain ⟨w, cs, au, h7, p0, p1, ha, m0, m1, c1, hu, x0, x1⟩ := id h
  have hu := hu hp
  obtain ⟨a1, -, -, -, a5⟩ := hA p p0 hp
  have a1 : s.2 34 p = wmap (S (104 + 6 * p)) := a1
  have a5 : s.2 38 p = S (104 + 6 * p + 4) := a5 (Or.inr ⟨Or.inr e, fun x => x⟩)
  have hw : wmap (S (104 + 6 * p)) = 3 ∨ wmap (S (104 + 6 * p)) = 9 ∨ wmap (S (104 + 6 * p)) = 11 ∨ wmap (S (104 + 6 * p)) = 23 := by
    obtain ⟨pr, -⟩ := hP p p0 hp
    rcases pr with x | x | x | x | x | x | x | x | x | x | x | x | x <;> first | (exfalso; omega) | (rw [x]; decide)
  generalize hv : wmap (S (104 + 6 * p)) = v at a1 hw
  obtain ⟨k0, k1, k2⟩ := hM.2.2.1 p p0 hp (Or.inr e) (fun x => x)
  have ag : Ag laA laF s (uF s 63 5 (s.1 63 5 + 1)) := Ag_uF (F := laF) (Ag_refl _ _ _) (by unfold laF; omega) _
  have w1 : mm_w32 (s.1 63 5 + 1) = s.1 63 5 + 1 := w32_eq (by omega) (by omega)
  have cs' : CS (uF s 63 5 (s.1 63 5 + 1)) 7 S N := CS_fr cs (fun k => by rw [uF_1, if_neg (by omega)]) (fun j _ _ => rfl)
  have a5' : (uF s 63 5 (s.1 63 5 + 1)).2 38 p = S (104 + 6 * p + 4) := a5
  have hh : ∀ f : Int → mW → mO, mm_kI (mm_run (zP Z) 35 [.inr (.inr (some 63)), .inl p] (mk (uF s 63 5 (s.1 63 5 + 1)))) f = f (b2i (hoB S p)) (mk (uF s 63 5 (s.1 63 5 + 1))) := fun f => c_holds cs' w Z hA hP n60 p p0 hp e f
  have hq : ∀ o, actv S (if hoB S p = true then p + 1 else S (104 + 6 * p + 4) + 1) o → actv S p o := by
    intro o ho
    cases hb : hoB S p
    · rw [hb] at ho
      exact act_skip hM p0 hp e ho
    · rw [hb] at ho
      have ho : actv S (p + 1) o := ho
      exact act_next ho (fun x => by have := ho.2.2.1; rw [x] at this; omega)
  have q01 : 0 ≤ (if hoB S p = true then p + 1 else S (104 + 6 * p + 4) + 1) ∧ (if hoB S p = true then p + 1 else S (104 + 6 * p + 4) + 1) ≤ n := by split <;> omega
  refine ⟨if hoB S p = true then p + 1 else S (104 + 6 * p + 4) + 1, uF s 63 5 (s.1 63 5 + 1), S, fun f => ?_, LC_mk h (Kp_refl _) w cs' ag q01.1 q01.2 (fun o ho => ha o (hq o ho)) m0 (by rw [uF_1, uF_1, if_neg (by omega), if_pos ⟨rfl, rfl⟩]; omega) (by rw [uF_1, if_pos ⟨rfl, rfl⟩]; omega) (fun _ => hu) x0 x1, Kp_refl _, ag, fun i hi => ?_, ?_⟩
  · rw [B_X4_pass]
    cases hb : hoB S p
    · rcases hw with x | x | x | x
      · simp (disch := first | assumption | omega) only [↓sm, ↓reduceIte, ↓if_pos, ↓if_neg, kI, kJ, kR, kV, w32_eq, w64_eq, reduceCtorEq, Int.reduceAdd, Int.reduceMul, Int.reduceSub, o_c63, ↓o_g63_0, ↓o_g63_1, ↓o_g63_2, ↓o_g63_3, ↓o_g63_4, ↓o_g63_5, ↓o_g63_6, ↓o_g63_7, ↓o_g63_8, ↓o_g63_9, ↓o_g63_10, ↓o_g63_11, ↓a_ln64, ↓a_ld64, ↓a_ln65, ↓a_ld65, o_c33, ↓o_g33_0, ↓o_g33_1, ↓o_g33_2, ↓o_g33_3, ↓o_g33_4, ↓o_g33_5, ↓o_g33_6, ↓o_g33_7, ↓a_ln34, ↓a_ld34, ↓a_ln35, ↓a_ld35, ↓a_ln36, ↓a_ld36, ↓a_ln37, ↓a_ld37, ↓a_ln38, ↓a_ld38, ↓g_34 Z, a1, x, ↓o_p63_5, w1, B_X4_pass_49 Z, hh, hb, b2i_0, g_38 Z, a5', o_g33_7, o_g63_1, Bool.false_eq_true]
      · simp (disch := first | assumption | omega) only [↓sm, ↓reduceIte, ↓if_pos, ↓if_neg, kI, kJ, kR, kV, w32_eq, w64_eq, reduceCtorEq, Int.reduceAdd, Int.reduceMul, Int.reduceSub, o_c63, ↓o_g63_0, ↓o_g63_1, ↓o_g63_2, ↓o_g63_3, ↓o_g63_4, ↓o_g63_5, ↓o_g63_6, ↓o_g63_7, ↓o_g63_8, ↓o_g63_9, ↓o_g63_10, ↓o_g63_11, ↓a_ln64, ↓a_ld64, ↓a_ln65, ↓a_ld65, o_c33, ↓o_g33_0, ↓o_g33_1, ↓o_g33_2, ↓o_g33_3, ↓o_g33_4, ↓o_g33_5, ↓o_g33_6, ↓o_g33_7, ↓a_ln34, ↓a_ld34, ↓a_ln35, ↓a_ld35, ↓a_ln36, ↓a_ld36, ↓a_ln37, ↓a_ld37, ↓a_ln38, ↓a_ld38, ↓g_34 Z, a1, x, ↓o_p63_5, w1, B_X4_pass_49 Z, hh, hb, b2i_0, g_38 Z, a5', o_g33_7, o_g63_1, Bool.false_eq_true]
      · simp (disch := first | assumption | omega) only [↓sm, ↓reduceIte, ↓if_pos, ↓if_neg, kI, kJ, kR, kV, w32_eq, w64_eq, reduceCtorEq, Int.reduceAdd, Int.reduceMul, Int.reduceSub, o_c63, ↓o_g63_0, ↓o_g63_1, ↓o_g63_2, ↓o_g63_3, ↓o_g63_4, ↓o_g63_5, ↓o_g63_6, ↓o_g63_7, ↓o_g63_8, ↓o_g63_9, ↓o_g63_10, ↓o_g63_11, ↓a_ln64, ↓a_ld64, ↓a_ln65, ↓a_ld65, o_c33, ↓o_g33_0, ↓o_g33_1, ↓o_g33_2, ↓o_g33_3, ↓o_g33_4, ↓o_g33_5, ↓o_g33_6, ↓o_g33_7, ↓a_ln34, ↓a_ld34, ↓a_ln35, ↓a_ld35, ↓a_ln36, ↓a_ld36, ↓a_ln37, ↓a_ld37, ↓a_ln38, ↓a_ld38, ↓g_34 Z, a1, x, ↓o_p63_5, w1, B_X4_pass_49 Z, hh, hb, b2i_0, g_38 Z, a5', o_g33_7, o_g63_1, Bool.false_eq_true]
      · simp (disch := first | assumption | omega) only [↓sm, ↓reduceIte, ↓if_pos, ↓if_neg, kI, kJ, kR, kV, w32_eq, w64_eq, reduceCtorEq, Int.reduceAdd, Int.reduceMul, Int.reduceSub, o_c63, ↓o_g63_0, ↓o_g63_1, ↓o_g63_2, ↓o_g63_3, ↓o_g63_4, ↓o_g63_5, ↓o_g63_6, ↓o_g63_7, ↓o_g63_8, ↓o_g63_9, ↓o_g63_10, ↓o_g63_11, ↓a_ln64, ↓a_ld64, ↓a_ln65, ↓a_ld65, o_c33, ↓o_g33_0, ↓o_g33_1, ↓o_g33_2, ↓o_g33_3, ↓o_g33_4, ↓o_g33_5, ↓o_g33_6, ↓o_g33_7, ↓a_ln34, ↓a_ld34, ↓a_ln35, ↓a_ld35, ↓a_ln36, ↓a_ld36, ↓a_ln37, ↓a_ld37, ↓a_ln38, ↓a_ld38, ↓g_34 Z, a1, x, ↓o_p63_5, w1, B_X4_pass_49 Z, hh, hb, b2i_0, g_38 Z, a5', o_g33_7, o_g63_1, Bool.false_eq_true]
    · rcases hw with x | x | x | x
      · simp (disch := first | assumption | omega) only [↓sm, ↓reduceIte, ↓if_pos, ↓if_neg, kI, kJ, kR, kV, w32_eq, w64_eq, reduceCtorEq, Int.reduceAdd, Int.reduceMul, Int.reduceSub, o_c63, ↓o_g63_0, ↓o_g63_1, ↓o_g63_2, ↓o_g63_3, ↓o_g63_4, ↓o_g63_5, ↓o_g63_6, ↓o_g63_7, ↓o_g63_8, ↓o_g63_9, ↓o_g63_10, ↓o_g63_11, ↓a_ln64, ↓a_ld64, ↓a_ln65, ↓a_ld65, o_c33, ↓o_g33_0, ↓o_g33_1, ↓o_g33_2, ↓o_g33_3, ↓o_g33_4, ↓o_g33_5, ↓o_g33_6, ↓o_g33_7, ↓a_ln34, ↓a_ld34, ↓a_ln35, ↓a_ld35, ↓a_ln36, ↓a_ld36, ↓a_ln37, ↓a_ld37, ↓a_ln38, ↓a_ld38, ↓g_34 Z, a1, x, ↓o_p63_5, w1, B_X4_pass_49 Z, hh, hb, b2i_0, Bool.true_eq_false]
      · simp (disch := first | assumption | omega) only [↓sm, ↓reduceIte, ↓if_pos, ↓if_neg, kI, kJ, kR, kV, w32_eq, w64_eq, reduceCtorEq, Int.reduceAdd, Int.reduceMul, Int.reduceSub, o_c63, ↓o_g63_0, ↓o_g63_1, ↓o_g63_2, ↓o_g63_3, ↓o_g63_4, ↓o_g63_5, ↓o_g63_6, ↓o_g63_7, ↓o_g63_8, ↓o_g63_9, ↓o_g63_10, ↓o_g63_11, ↓a_ln64, ↓a_ld64, ↓a_ln65, ↓a_ld65, o_c33, ↓o_g33_0, ↓o_g33_1, ↓o_g33_2, ↓o_g33_3, ↓o_g33_4, ↓o_g33_5, ↓o_g33_6, ↓o_g33_7, ↓a_ln34, ↓a_ld34, ↓a_ln35, ↓a_ld35, ↓a_ln36, ↓a_ld36, ↓a_ln37, ↓a_ld37, ↓a_ln38, ↓a_ld38, ↓g_34 Z, a1, x, ↓o_p63_5, w1, B_X4_pass_49 Z, hh, hb, b2i_0, Bool.true_eq_false]
      · simp (disch := first | assumption | omega) only [↓sm, ↓reduceIte, ↓if_pos, ↓if_neg, kI, kJ, kR, kV, w32_eq, w64_eq, reduceCtorEq, Int.reduceAdd, Int.reduceMul, Int.reduceSub, o_c63, ↓o_g63_0, ↓o_g63_1, ↓o_g63_2, ↓o_g63_3, ↓o_g63_4, ↓o_g63_5, ↓o_g63_6, ↓o_g63_7, ↓o_g63_8, ↓o_g63_9, ↓o_g63_10, ↓o_g63_11, ↓a_ln64, ↓a_ld64, ↓a_ln65, ↓a_ld65, o_c33, ↓o_g33_0, ↓o_g33_1, ↓o_g33_2, ↓o_g33_3, ↓o_g33_4, ↓o_g33_5, ↓o_g33_6, ↓o_g33_7, ↓a_ln34, ↓a_ld34, ↓a_ln35, ↓a_ld35, ↓a_ln36, ↓a_ld36, ↓a_ln37, ↓a_ld37, ↓a_ln38, ↓a_ld38, ↓g_34 Z, a1, x, ↓o_p63_5, w1, B_X4_pass_49 Z, hh, hb, b2i_0, Bool.true_eq_false]
      · simp (disch := first | assumption | omega) only [↓sm, ↓reduceIte, ↓if_pos, ↓if_neg, kI, kJ, kR, kV, w32_eq, w64_eq, reduceCtorEq, Int.reduceAdd, Int.reduceMul, Int.reduceSub, o_c63, ↓o_g63_0, ↓o_g63_1, ↓o_g63_2, ↓o_g63_3, ↓o_g63_4, ↓o_g63_5, ↓o_g63_6, ↓o_g63_7, ↓o_g63_8, ↓o_g63_9, ↓o_g63_10, ↓o_g63_11, ↓a_ln64, ↓a_ld64, ↓a_ln65, ↓a_ld65, o_c33, ↓o_g33_0, ↓o_g33_1, ↓o_g33_2, ↓o_g33_3, ↓o_g33_4, ↓o_g33_5, ↓o_g33_6, ↓o_g33_7, ↓a_ln34, ↓a_ld34, ↓a_ln35, ↓a_ld35, ↓a_ln36, ↓a_ld36, ↓a_ln37, ↓a_ld37, ↓a_ln38, ↓a_ld38, ↓g_34 Z, a1, x, ↓o_p63_5, w1, B_X4_pass_49 Z, hh, hb, b2i_0, Bool.true_eq_false]
  · unfold FB at *
    have e5 : (uF s 63 5 (s.1 63 5 + 1)).1 63 5 = s.1 63 5 + 1 := by rw [uF_1, if_pos ⟨rfl, rfl⟩]
    rw [e5]
    generalize (if hoB S p = true then p + 1 else S (104 + 6 * p + 4) + 1) = q at q01
    omega
  · intro t ⟨et, hL, hR⟩
    have l2 := hL.2.1
    have z0 : t.2 158 4 = 0 := by rw [← hL.2.2.2.2.2.1]; exact hu
    have e2 : (uF t 141 33 (s.1 63 5 + 1)).2 142 = S := et
    have e3 : (uA (uF t 141 33 (s.1 63 5 + 1)) 158 0 (s.1 63 6)).2 142 = S := by rw [uA_n _ (by decide)]; exact e2
    have wx : mm_w32 (t.2 158 0 + (1 - 1)) = s.1 63 6 := by rw [w32_eq (by omega) (by omega)]; omega
    refine ⟨uA (uF t 141 33 (s.1 63 5 + 1)) 158 0 (s.1 63 6), ?_, ⟨e3, LR_w0 (LR_uF hL (s.1 63 5 + 1)) (s.1 63 6) rfl, fun o ho => ?_⟩, Ag_uA (Ag_uF (F := lbF) (Ag_refl _ _ _) (by unfold lbF; omega) _) (by unfold lbA; omega) _ _⟩
    · rw [r_l23 Z et h7 n60 p0 hp (by omega) (by omega) hL.1.symm (by omega) hc z0 (fun f => r_does0 Z e2 p0 (by omega) (by omega) f) (Or.inr rfl)]
      exact r_l75w Z e2 p0 (by omega) e (by omega) wx (by omega) (by omega) (fun f => r_holds e3 w Z hP n60 p p0 hp e f)
    · rw [uA_n _ (by decide)]
      exact hR o (hq o ho)
theorem ps_deed (Z : mX) {s : mS} {S N : Int → Int} {n p : Int} (h : LC s S N n p) (hp : p < n) (e : 16 ≤ S (104 + 6 * p) ∧ S (104 + 6 * p) ≤ 21) (hc : s.1 63 5 < 300) : Pass Z s S N n p := by
  obtain ⟨n60, e33, hP, hM, hA⟩ := LC_u h
  obtain ⟨w, cs, au, h7, p0, p1, ha, m0, m1, c1, hu, x0, x1⟩ := id h
  have hu := hu hp
  have a1 : s.2 34 p = wmap (S (104 + 6 * p)) := (hA p p0 hp).1
  have w1 : mm_w32 (s.1 63 5 + 1) = s.1 63 5 + 1 := w32_eq (by omega) (by omega)
  have cs' : CS (uF s 63 5 (s.1 63 5 + 1)) 7 S N := CS_fr cs (fun k => by rw [uF_1, if_neg (by omega)]) (fun j _ _ => rfl)
  obtain ⟨v, S', hv, wS, kS, H⟩ := do_step Z N w (s.1 63 11) n p hP n60 p0 hp x0 x1 e
  obtain ⟨s', g1, g2, cS, ag, R⟩ := H (uF s 63 5 (s.1 63 5 + 1)) cs' hA rfl
  have hx : 0 ≤ s'.1 63 11 ∧ s'.1 63 11 < 65536 := by
    obtain ⟨_, _, _, L, _⟩ := R (tw (uF s 63 5 (s.1 63 5 + 1)) S) (by funext j; rfl) (tw_LR S x0 x1)
    exact L.2.2.2.2.2.2.2
  have f5 : s'.1 63 5 = s.1 63 5 + 1 := by rw [ag.2 63 5 (by unfold liF; omega), uF_1, if_pos ⟨rfl, rfl⟩]
  have f6 : s'.1 63 6 = s.1 63 6 := by rw [ag.2 63 6 (by unfold liF; omega), uF_1, if_neg (by omega)]
  have f10 : s'.1 63 10 = 0 := by rw [ag.2 63 10 (by unfold liF; omega), uF_1, if_neg (by omega)]; exact hu
  have f64 : s'.2 64 = s.2 64 := by rw [ag.1 64 (by unfold liA scl; omega)]; rfl
  have ag' : Ag laA laF s (uF s' 63 6 (s.1 63 6 + (1 - v))) := Ag_uF (F := laF) (Ag_trans (Ag_uF (F := laF) (Ag_refl _ _ _) (by unfold laF; omega) _) (Ag_mono (B := laA) (G := laF) ag (fun q hq => Or.inl hq) (fun q k hq => by unfold liF at hq; unfold laF; omega))) (by unfold laF; omega) _
  have w6 : mm_w32 (s.1 63 6 + 1) = s.1 63 6 + 1 := w32_eq (by omega) (by omega)
  have hq : ∀ o, actv S (p + 1) o → actv S p o := fun o ho => act_next ho (fun x => by have := ho.2.2.1; rw [x] at this; omega)
  refine ⟨p + 1, uF s' 63 6 (s.1 63 6 + (1 - v)), S', fun f => ?_, LC_mk h kS wS (CS_fr cS (fun k => by rw [uF_1, if_neg (by omega)]) (fun j _ _ => rfl)) ag' (by omega) (by omega) (fun o ho => ?_) (by rw [uF_1, if_pos ⟨rfl, rfl⟩]; omega) (by rw [uF_1, uF_1, if_pos ⟨rfl, rfl⟩, if_neg (by omega), f5]; omega) (by rw [uF_1, if_neg (by omega), f5]; omega) (fun _ => f10) hx.1 hx.2, kS, ag', fun i hi => ?_, ?_⟩
  · have fin : ∀ f : Int → mW → mO, (if v = 0 then mm_kI (mm_at (zP Z) 33 74 [some (.inr (.inr (some 63))), some (.inl p), none] [] (mk s')) f else f (p + 1) (mk s')) = f (p + 1) (mk (uF s' 63 6 (s.1 63 6 + (1 - v)))) := by
      intro f
      rcases hv with hv | hv
      · rw [hv, if_pos rfl, B_X4_pass_74]
        simp (disch := first | assumption | omega) only [↓sm, ↓reduceIte, ↓if_pos, ↓if_neg, kI, kJ, kR, kV, w32_eq, w64_eq, reduceCtorEq, Int.reduceAdd, Int.reduceMul, Int.reduceSub, o_c63, ↓o_g63_0, ↓o_g63_1, ↓o_g63_2, ↓o_g63_3, ↓o_g63_4, ↓o_g63_5, ↓o_g63_6, ↓o_g63_7, ↓o_g63_8, ↓o_g63_9, ↓o_g63_10, ↓o_g63_11, ↓a_ln64, ↓a_ld64, ↓a_ln65, ↓a_ld65, f6, w6, ↓o_p63_6, Int.sub_zero]
      · rw [hv, if_neg (by omega), uF_id (by omega)]
    rw [B_X4_pass, ← fin f]
    by_cases h21 : S (104 + 6 * p) = 21
    · rw [h21] at a1
      have a1 : s.2 34 p = 21 := a1
      rcases hv with hv | hv
      · simp (disch := first | assumption | omega) only [↓sm, ↓reduceIte, ↓if_pos, ↓if_neg, kI, kJ, kR, kV, w32_eq, w64_eq, reduceCtorEq, Int.reduceAdd, Int.reduceMul, Int.reduceSub, o_c63, ↓o_g63_0, ↓o_g63_1, ↓o_g63_2, ↓o_g63_3, ↓o_g63_4, ↓o_g63_5, ↓o_g63_6, ↓o_g63_7, ↓o_g63_8, ↓o_g63_9, ↓o_g63_10, ↓o_g63_11, ↓a_ln64, ↓a_ld64, ↓a_ln65, ↓a_ld65, o_c33, ↓o_g33_0, ↓o_g33_1, ↓o_g33_2, ↓o_g33_3, ↓o_g33_4, ↓o_g33_5, ↓o_g33_6, ↓o_g33_7, ↓a_ln34, ↓a_ld34, ↓a_ln35, ↓a_ld35, ↓a_ln36, ↓a_ld36, ↓a_ln37, ↓a_ld37, ↓a_ln38, ↓a_ld38, ↓g_34 Z, a1, ↓o_p63_5, w1, g1 h21, hv]
      · simp (disch := first | assumption | omega) only [↓sm, ↓reduceIte, ↓if_pos, ↓if_neg, kI, kJ, kR, kV, w32_eq, w64_eq, reduceCtorEq, Int.reduceAdd, Int.reduceMul, Int.reduceSub, o_c63, ↓o_g63_0, ↓o_g63_1, ↓o_g63_2, ↓o_g63_3, ↓o_g63_4, ↓o_g63_5, ↓o_g63_6, ↓o_g63_7, ↓o_g63_8, ↓o_g63_9, ↓o_g63_10, ↓o_g63_11, ↓a_ln64, ↓a_ld64, ↓a_ln65, ↓a_ld65, o_c33, ↓o_g33_0, ↓o_g33_1, ↓o_g33_2, ↓o_g33_3, ↓o_g33_4, ↓o_g33_5, ↓o_g33_6, ↓o_g33_7, ↓a_ln34, ↓a_ld34, ↓a_ln35, ↓a_ld35, ↓a_ln36, ↓a_ld36, ↓a_ln37, ↓a_ld37, ↓a_ln38, ↓a_ld38, ↓g_34 Z, a1, ↓o_p63_5, w1, g1 h21, hv]
    · have hw : wmap (S (104 + 6 * p)) = 12 ∨ (17 ≤ wmap (S (104 + 6 * p)) ∧ wmap (S (104 + 6 * p)) ≤ 20) := by
        have hcase : S (104 + 6 * p) = 16 ∨ S (104 + 6 * p) = 17 ∨ S (104 + 6 * p) = 18 ∨ S (104 + 6 * p) = 19 ∨ S (104 + 6 * p) = 20 := by omega
        rcases hcase with x | x | x | x | x <;> (rw [x]; decide)
      generalize hwv : wmap (S (104 + 6 * p)) = y at a1 hw
      rcases hv with hv | hv
      · simp (disch := first | assumption | omega) only [↓sm, ↓reduceIte, ↓if_pos, ↓if_neg, kI, kJ, kR, kV, w32_eq, w64_eq, reduceCtorEq, Int.reduceAdd, Int.reduceMul, Int.reduceSub, o_c63, ↓o_g63_0, ↓o_g63_1, ↓o_g63_2, ↓o_g63_3, ↓o_g63_4, ↓o_g63_5, ↓o_g63_6, ↓o_g63_7, ↓o_g63_8, ↓o_g63_9, ↓o_g63_10, ↓o_g63_11, ↓a_ln64, ↓a_ld64, ↓a_ln65, ↓a_ld65, o_c33, ↓o_g33_0, ↓o_g33_1, ↓o_g33_2, ↓o_g33_3, ↓o_g33_4, ↓o_g33_5, ↓o_g33_6, ↓o_g33_7, ↓a_ln34, ↓a_ld34, ↓a_ln35, ↓a_ld35, ↓a_ln36, ↓a_ld36, ↓a_ln37, ↓a_ld37, ↓a_ln38, ↓a_ld38, ↓g_34 Z, a1, ↓o_p63_5, w1, g2 h21, hv]
      · simp (disch := first | assumption | omega) only [↓sm, ↓reduceIte, ↓if_pos, ↓if_neg, kI, kJ, kR, kV, w32_eq, w64_eq, reduceCtorEq, Int.reduceAdd, Int.reduceMul, Int.reduceSub, o_c63, ↓o_g63_0, ↓o_g63_1, ↓o_g63_2, ↓o_g63_3, ↓o_g63_4, ↓o_g63_5, ↓o_g63_6, ↓o_g63_7, ↓o_g63_8, ↓o_g63_9, ↓o_g63_10, ↓o_g63_11, ↓a_ln64, ↓a_ld64, ↓a_ln65, ↓a_ld65, o_c33, ↓o_g33_0, ↓o_g33_1, ↓o_g33_2, ↓o_g33_3, ↓o_g33_4, ↓o_g33_5, ↓o_g33_6, ↓o_g33_7, ↓a_ln34, ↓a_ld34, ↓a_ln35, ↓a_ld35, ↓a_ln36, ↓a_ld36, ↓a_ln37, ↓a_ld37, ↓a_ln38, ↓a_ld38, ↓g_34 Z, a1, ↓o_p63_5, w1, g2 h21, hv]
  · rw [uF_2, f64]
    exact ha o (hq o ho)
  · unfold FB at *
    rw [uF_1, if_neg (by omega), f5]
    omega
  · intro t ⟨et, hL, hR⟩
    have l2 := hL.2.1
    have z0 : t.2 158 4 = 0 := by rw [← hL.2.2.2.2.2.1]; exact hu
    obtain ⟨t', k1, k2, k3, k4⟩ := R (uF t 141 33 (s.1 63 5 + 1)) et (LR_uF hL _)
    have wx : mm_w32 (t.2 158 0 + (1 - v)) = s.1 63 6 + (1 - v) := by rw [w32_eq (by omega) (by omega)]; omega
    have eS : S' (104 + 6 * p) = S (104 + 6 * p) := kS.1 _ (by omega)
    refine ⟨uA t' 158 0 (s.1 63 6 + (1 - v)), ?_, ⟨by rw [uA_n _ (by decide)]; exact k2, LR_w k3 _, fun o ho => ?_⟩, Ag_uA (Ag_trans (Ag_uF (F := lbF) (Ag_refl _ _ _) (by unfold lbF; omega) _) (Ag_mono (B := lbA) (G := lbF) k4 (fun q hq => by unfold lrA at hq; unfold lbA; omega) (fun q k hq => by unfold lrF at hq; unfold lbF; omega))) (by unfold lbA; omega) _ _⟩
    · rw [r_l23 Z et h7 n60 p0 hp (by omega) (by omega) hL.1.symm (by omega) hc z0 k1 hv]
      exact r_l75 Z k2 p0 (by omega) (by omega) (by omega) wx
    · rw [uA_n _ (by decide), k4.1 157 (by unfold lrA; omega), uF_2, uF_2, f64]
      exact hR o (hq o (actv_kp kS ho))
theorem ps_any (Z : mX) {s : mS} {S N : Int → Int} {n p : Int} (h : LC s S N n p) (hp : p < n) : Pass Z s S N n p := by
  obtain ⟨n60, e33, hP, hM, hA⟩ := LC_u h
  obtain ⟨w, cs, au, h7, p0, p1, ha, m0, m1, c1, hu, x0, x1⟩ := id h
  obtain ⟨pr, -⟩ := hP p p0 hp
  by_cases e : S (104 + 6 * p) = 24
  · exact ps_end Z h hp e
  · by_cases hc : s.1 63 5 < 300
    · by_cases e1 : S (104 + 6 * p) = 25
      · exact ps_stop Z h hp e1 hc
      · by_cases e2 : S (104 + 6 * p) = 23
        · exact ps_loop Z h hp e2 hc
        · by_cases e3 : 2200 ≤ S (104 + 6 * p)
          · exact ps_when Z h hp e3 hc
          · exact ps_deed Z h hp (by omega) hc
    · exact ps_done Z h hp e (by omega)
