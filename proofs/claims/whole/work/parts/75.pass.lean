/-! one pass of the autumns, on both sides -/
def actv (S : Int → Int) (p o : Int) : Prop := 0 ≤ o ∧ o < p ∧ S (104 + 6 * o) = 23 ∧ p ≤ S (104 + 6 * o + 4)
def laA (q : Nat) : Prop := scl q ∨ q = 64
def laF (q k : Nat) : Prop := q = 7 ∨ (q = 63 ∧ k ≠ 4)
def lbA (q : Nat) : Prop := q = 142 ∨ q = 157 ∨ q = 158
def lbF (q k : Nat) : Prop := q = 141 ∧ (k = 24 ∨ k = 32 ∨ k = 33)
/-- the class's side, at place p of n -/
def LC (s : mS) (S N : Int → Int) (n p : Int) : Prop := WF S ∧ CS s 7 S N ∧ AU s 33 S ∧ S 7 = n ∧ 0 ≤ p ∧ p ≤ n ∧ (∀ o, actv S p o → 1 ≤ s.2 64 o ∧ s.2 64 o ≤ 99) ∧ 0 ≤ s.1 63 6 ∧ s.1 63 6 ≤ s.1 63 5 ∧ s.1 63 5 ≤ 300 ∧ (p < n → s.1 63 10 = 0) ∧ 0 ≤ s.1 63 11 ∧ s.1 63 11 < 65536
/-- both sides -/
def LD (s t : mS) (S : Int → Int) (p : Int) : Prop := t.2 142 = S ∧ LR s t ∧ ∀ o, actv S p o → t.2 157 o = s.2 64 o - 1
/-- the reference, at place p, where it may be at an end -/
noncomputable def MB (Z : mX) (p : Int) (t : mS) : mO := mm_kI (mm_at (zP Z) 356 2 [some (.inr (.inr (some 141))), none, some (.inl p), none, none] [] (mk t)) fun x w => mm_at (zP Z) 357 23 [some (.inr (.inr (some 141))), none, some (.inl x), none] [] w
/-- i passes are enough -/
def FB (s : mS) (S : Int → Int) (n p i : Int) : Prop := p = n ∨ (i ≤ 62 * s.1 63 5 + 61 ∧ (S (104 + 6 * p) = 24 → i ≤ 62 * s.1 63 5 + p))
def Pass (Z : mX) (s : mS) (S N : Int → Int) (n p : Int) : Prop := ∃ q s' S', (∀ f : Int → mW → mO, mm_kI (mm_run (zP Z) 33 [.inr (.inr (some 63)), .inl p] (mk s)) f = f q (mk s')) ∧ LC s' S' N n q ∧ Kp S S' ∧ Ag laA laF s s' ∧ (∀ i, FB s S n p i → FB s' S' n q (i + 1)) ∧
  ∀ t, LD s t S p → ∃ t', MB Z p t = MB Z q t' ∧ LD s' t' S' q ∧ Ag lbA lbF t t'
theorem LC_u {s : mS} {S N : Int → Int} {n p : Int} (h : LC s S N n p) : n ≤ 60 ∧ s.1 33 2 = n ∧ PR S n ∧ PM S n (fun _ => False) ∧ AC s 33 S n (fun _ => False) := by
  obtain ⟨w, cs, au, h7, p0, p1, h⟩ := h
  obtain ⟨a, b, c, d⟩ := au
  rw [h7] at a b c d
  refine ⟨by omega, by omega, b, c, d⟩
theorem actv_kp {S S' : Int → Int} (hk : Kp S S') {p o : Int} (h : actv S' p o) : actv S p o := by
  obtain ⟨a, b, c, d⟩ := h
  rw [hk.1 _ (by omega)] at c d
  exact ⟨a, b, c, d⟩
theorem act_next {S : Int → Int} {p o : Int} (h : actv S (p + 1) o) (hn : o ≠ p) : actv S p o := ⟨h.1, by have := h.2.1; omega, h.2.2.1, by have := h.2.2.2; omega⟩
theorem act_end {S : Int → Int} {n p m o : Int} (hM : PM S n (fun _ => False)) (p0 : 0 ≤ p) (hp : p < n) (e : S (104 + 6 * p) = 24) (hm : S (104 + 6 * p + 4) = m) (h : actv S (p + 1) o) : actv S p o ∧ o ≠ m := by
  obtain ⟨b0, b1, b2, b3, b4⟩ := hM.2.1 p p0 hp e
  rw [hm] at b0 b1 b2 b3 b4
  obtain ⟨a1, a2, a3, a4⟩ := h
  have n1 : o ≠ p := by
    intro x
    rw [x, e] at a3
    omega
  have n2 : o ≠ m := by
    intro x
    rw [x, b3] at a4
    omega
  exact ⟨⟨a1, by omega, a3, by omega⟩, n2⟩
theorem act_skip {S : Int → Int} {n p o : Int} (hM : PM S n (fun _ => False)) (p0 : 0 ≤ p) (hp : p < n) (e : 2200 ≤ S (104 + 6 * p)) (h : actv S (S (104 + 6 * p + 4) + 1) o) : actv S p o := by
  obtain ⟨b0, b1, b2⟩ := hM.2.2.1 p p0 hp (Or.inr e) (fun x => x)
  obtain ⟨a1, a2, a3, a4⟩ := h
  have n1 : o ≠ p := by
    intro x
    rw [x] at a3
    omega
  have n2 : o ≠ S (104 + 6 * p + 4) := by
    intro x
    rw [x, b2] at a3
    omega
  by_cases hlt : o < p
  · exact ⟨a1, hlt, a3, by omega⟩
  · have := hM.2.2.2 p o p0 (by omega) (by omega) (Or.inr e) (fun x => x) (Or.inl a3) (fun x => x) (by omega)
    omega
theorem act_again {S : Int → Int} {n p m o : Int} (hM : PM S n (fun _ => False)) (p0 : 0 ≤ p) (hp : p < n) (e : S (104 + 6 * p) = 24) (hm : S (104 + 6 * p + 4) = m) (h : actv S (m + 1) o) : o = m ∨ (o ≠ m ∧ actv S p o) := by
  obtain ⟨b0, b1, b2, b3, b4⟩ := hM.2.1 p p0 hp e
  rw [hm] at b0 b1 b2 b3 b4
  obtain ⟨a1, a2, a3, a4⟩ := h
  by_cases x : o = m
  · exact Or.inl x
  · have := hM.2.2.2 o m a1 (by omega) (by omega) (Or.inl a3) (fun x => x) b2 (fun x => x) (by omega)
    exact Or.inr ⟨x, a1, by omega, a3, by omega⟩
theorem act_own {S : Int → Int} {n p m : Int} (hM : PM S n (fun _ => False)) (p0 : 0 ≤ p) (hp : p < n) (e : S (104 + 6 * p) = 24) (hm : S (104 + 6 * p + 4) = m) (hl : S (104 + 6 * m) = 23) : actv S p m := by
  obtain ⟨b0, b1, b2, b3, b4⟩ := hM.2.1 p p0 hp e
  rw [hm] at b0 b1 b2 b3 b4
  exact ⟨b0, b1, hl, by omega⟩
theorem act_top {S : Int → Int} {n o : Int} (hM : PM S n (fun _ => False)) (h : actv S n o) : False := by
  obtain ⟨a1, a2, a3, a4⟩ := h
  have := hM.2.2.1 o a1 a2 (Or.inl a3) (fun x => x)
  omega
/-- what holds of the class's side afterwards -/
theorem LC_mk {s s' : mS} {S S' N : Int → Int} {n p q : Int} (h : LC s S N n p) (hk : Kp S S') (w : WF S') (c : CS s' 7 S' N) (ag : Ag laA laF s s') (q0 : 0 ≤ q) (q1 : q ≤ n) (ha : ∀ o, actv S q o → 1 ≤ s'.2 64 o ∧ s'.2 64 o ≤ 99)
    (m0 : 0 ≤ s'.1 63 6) (m1 : s'.1 63 6 ≤ s'.1 63 5) (c1 : s'.1 63 5 ≤ 300) (hu : q < n → s'.1 63 10 = 0) (x0 : 0 ≤ s'.1 63 11) (x1 : s'.1 63 11 < 65536) : LC s' S' N n q := by
  have f : ∀ k, s'.1 33 k = s.1 33 k := fun k => ag.2 33 k (by unfold laF; omega)
  have g : ∀ j, 1 ≤ j → j ≤ 5 → s'.2 (33 + j) = s.2 (33 + j) := fun j _ _ => ag.1 (33 + j) (by unfold laA scl; omega)
  exact ⟨w, c, AU_S (AU_fr h.2.2.1 f g) (fun j j0 _ => hk.1 j j0) hk.2.1 (Kp_ncl hk) hk.2.2.2.2, hk.2.1.trans h.2.2.2.1, q0, q1, fun o ho => ha o (actv_kp hk ho), m0, m1, c1, hu, x0, x1⟩
theorem MB_n (Z : mX) {t : mS} {S : Int → Int} {n : Int} (e : t.2 142 = S) (h7 : S 7 = n) (n0 : 0 ≤ n) : MB Z n t = mm_at (zP Z) 357 121 [some (.inr (.inr (some 141))), none, none, none] [] (mk t) := by
  unfold MB
  rw [B_X12_behindEnds_2]
  simp (disch := first | assumption | omega) only [↓sm, ↓reduceIte, ↓if_pos, ↓if_neg, kI, kJ, kR, kV, w32_eq, w64_eq, reduceCtorEq, Int.reduceAdd, Int.reduceMul, Int.reduceSub, o_c141, ↓o_g141_0, ↓o_g141_1, ↓o_g141_5, ↓o_g141_6, ↓o_g141_7, ↓o_g141_8, ↓o_g141_9, ↓o_g141_21, ↓o_g141_25, ↓o_g141_26, ↓o_g141_27, ↓o_g141_28, ↓o_g141_29, ↓o_g141_30, ↓o_g141_31, ↓o_g141_34, ↓o_g141_35, ↓o_g141_36, ↓r_at e, h7]
  rw [B_X12_lives_23]
  simp (disch := first | assumption | omega) only [↓sm, ↓reduceIte, ↓if_pos, ↓if_neg, kI, kJ, kR, kV, w32_eq, w64_eq, reduceCtorEq, Int.reduceAdd, Int.reduceMul, Int.reduceSub, o_c141, ↓o_g141_0, ↓o_g141_1, ↓o_g141_5, ↓o_g141_6, ↓o_g141_7, ↓o_g141_8, ↓o_g141_9, ↓o_g141_21, ↓o_g141_25, ↓o_g141_26, ↓o_g141_27, ↓o_g141_28, ↓o_g141_29, ↓o_g141_30, ↓o_g141_31, ↓o_g141_34, ↓o_g141_35, ↓o_g141_36, ↓r_at e, h7]
theorem MB_step (Z : mX) {t : mS} {S : Int → Int} {n p : Int} (e : t.2 142 = S) (h7 : S 7 = n) (n60 : n ≤ 60) (p0 : 0 ≤ p) (hp : p < n) (h24 : S (104 + 6 * p) ≠ 24) : MB Z p t = mm_at (zP Z) 357 23 [some (.inr (.inr (some 141))), none, some (.inl p), none] [] (mk t) := by
  unfold MB
  rw [B_X12_behindEnds_2]
  simp (disch := first | assumption | omega) only [↓sm, ↓reduceIte, ↓if_pos, ↓if_neg, kI, kJ, kR, kV, w32_eq, w64_eq, reduceCtorEq, Int.reduceAdd, Int.reduceMul, Int.reduceSub, o_c141, ↓o_g141_0, ↓o_g141_1, ↓o_g141_5, ↓o_g141_6, ↓o_g141_7, ↓o_g141_8, ↓o_g141_9, ↓o_g141_21, ↓o_g141_25, ↓o_g141_26, ↓o_g141_27, ↓o_g141_28, ↓o_g141_29, ↓o_g141_30, ↓o_g141_31, ↓o_g141_34, ↓o_g141_35, ↓o_g141_36, ↓r_at e, ↓r_atw e, h7, h24]
theorem LR_uF {s t : mS} (h : LR s t) (c : Int) : LR (uF s 63 5 c) (uF t 141 33 c) := by
  obtain ⟨l1, l2, l3, l4, l5, l6, l7, l8, l9⟩ := h
  unfold LR
  simp only [uF_1, uF_2]
  exact ⟨rfl, l2, l3, l4, l5, l6, l7, l8, l9⟩
/-- an end that is come to -/
theorem c_passE (Z : mX) {s : mS} {S N : Int → Int} {n p q : Int} {s' : mS} (h : LC s S N n p) (hp : p < n) (e : S (104 + 6 * p) = 24) (c : ∀ f : Int → mW → mO, mm_kI (mm_run (zP Z) 34 [.inr (.inr (some 63)), .inl p] (mk s)) f = f q (mk s')) (f : Int → mW → mO) : mm_kI (mm_run (zP Z) 33 [.inr (.inr (some 63)), .inl p] (mk s)) f = f q (mk s') := by
  obtain ⟨n60, e33, hP, hM, hA⟩ := LC_u h
  have p0 := h.2.2.2.2.1
  have a1 := (hA p p0 hp).1
  rw [e] at a1
  have a1 : s.2 34 p = 25 := a1
  rw [B_X4_pass]
  simp (disch := first | assumption | omega) only [↓sm, ↓reduceIte, ↓if_pos, ↓if_neg, kI, kJ, kR, kV, w32_eq, w64_eq, reduceCtorEq, Int.reduceAdd, Int.reduceMul, Int.reduceSub, o_c63, ↓o_g63_0, ↓o_g63_1, ↓o_g63_2, ↓o_g63_3, ↓o_g63_4, ↓o_g63_5, ↓o_g63_6, ↓o_g63_7, ↓o_g63_8, ↓o_g63_9, ↓o_g63_10, ↓o_g63_11, ↓a_ln64, ↓a_ld64, ↓a_ln65, ↓a_ld65, o_c33, ↓o_g33_0, ↓o_g33_1, ↓o_g33_2, ↓o_g33_3, ↓o_g33_4, ↓o_g33_5, ↓o_g33_6, ↓o_g33_7, ↓a_ln34, ↓a_ld34, ↓a_ln35, ↓a_ld35, ↓a_ln36, ↓a_ld36, ↓a_ln37, ↓a_ld37, ↓a_ln38, ↓a_ld38, ↓g_34 Z, a1, ↓c]
theorem r_empty (Z : mX) {S : Int → Int} {n p m : Int} (h7 : S 7 = n) (n60 : n ≤ 60) (hp : p < n) (m0 : 0 ≤ m) (hpm : p = m + 1) (e : S (104 + 6 * p) = 24) (hm : S (104 + 6 * p + 4) = m) (hl : S (104 + 6 * m) = 23) : ∀ k : Nat, ∀ t : mS, t.2 142 = S → k ≤ 200 → t.2 157 m = k → MB Z p t = MB Z (p + 1) (uA t 157 m 0)
  | 0, t, et, _, hk => by
    conv => lhs; unfold MB
    rw [B_X12_behindEnds_2]
    simp (disch := first | assumption | omega) only [↓sm, ↓reduceIte, ↓if_pos, ↓if_neg, kI, kJ, kR, kV, w32_eq, w64_eq, reduceCtorEq, Int.reduceAdd, Int.reduceMul, Int.reduceSub, o_c141, ↓o_g141_0, ↓o_g141_1, ↓o_g141_5, ↓o_g141_6, ↓o_g141_7, ↓o_g141_8, ↓o_g141_9, ↓o_g141_21, ↓o_g141_25, ↓o_g141_26, ↓o_g141_27, ↓o_g141_28, ↓o_g141_29, ↓o_g141_30, ↓o_g141_31, ↓o_g141_34, ↓o_g141_35, ↓o_g141_36, ↓r_at et, ↓r_atw et, h7, e, hm, hl, ↓a_ld157, hk, B_X12_behindEnds_46 Z, B_X12_behindEnds_47 Z, B_X12_behindEnds_58 Z, ↓a_st157]
    rfl
  | k + 1, t, et, h, hk => by
    have hk' : t.2 157 m = (k : Int) + 1 := by rw [hk]; omega
    have ih := r_empty Z h7 n60 hp m0 hpm e hm hl k (uA t 157 m k) (by rw [uA_n _ (by decide)]; exact et) (by omega) (by rw [uA_s, up_eq rfl])
    rw [uA_uA] at ih
    rw [← ih]
    conv => lhs; unfold MB
    rw [B_X12_behindEnds_2]
    simp (disch := first | assumption | omega) only [↓sm, ↓reduceIte, ↓if_pos, ↓if_neg, kI, kJ, kR, kV, w32_eq, w64_eq, reduceCtorEq, Int.reduceAdd, Int.reduceMul, Int.reduceSub, o_c141, ↓o_g141_0, ↓o_g141_1, ↓o_g141_5, ↓o_g141_6, ↓o_g141_7, ↓o_g141_8, ↓o_g141_9, ↓o_g141_21, ↓o_g141_25, ↓o_g141_26, ↓o_g141_27, ↓o_g141_28, ↓o_g141_29, ↓o_g141_30, ↓o_g141_31, ↓o_g141_34, ↓o_g141_35, ↓o_g141_36, ↓r_at et, ↓r_atw et, h7, e, hm, hl, ↓a_ld157, hk', B_X12_behindEnds_46 Z, B_X12_behindEnds_47 Z, B_X12_behindEnds_58 Z, ↓a_st157, Int.add_sub_cancel]
    rw [hpm]
    rfl
theorem ps_end (Z : mX) {s : mS} {S N : Int → Int} {n p : Int} (h : LC s S N n p) (hp : p < n) (e : S (104 + 6 * p) = 24) : Pass Z s S N n p := by
  obtain ⟨n60, e33, hP, hM, hA⟩ := LC_u h
  obtain ⟨w, cs, au, h7, p0, p1, ha, m0, m1, c1, hu, x0, x1⟩ := id h
  obtain ⟨m, hm⟩ : ∃ m, S (104 + 6 * p + 4) = m := ⟨_, rfl⟩
  obtain ⟨b0, b1, b2, b3, b4⟩ := hM.2.1 p p0 hp e
  rw [hm] at b0 b1 b2 b3 b4
  have a5 : s.2 38 p = m := ((hA p p0 hp).2.2.2.2 (Or.inl e)).trans hm
  have d1 : s.2 34 m = wmap (S (104 + 6 * m)) := (hA m b0 (by omega)).1
  have hu := hu hp
  by_cases hl : S (104 + 6 * m) = 23
  · have d1 : s.2 34 m = 24 := by rw [d1, hl]; rfl
    have own := act_own hM p0 hp e hm hl
    obtain ⟨r0, r1⟩ := ha m own
    by_cases hpm : p = m + 1
    · refine ⟨p + 1, s, S, c_passE Z h hp e (fun f => ?_), LC_mk h (Kp_refl _) w cs (Ag_refl _ _ _) (by omega) (by omega) (fun o ho => ha o (act_end hM p0 hp e hm ho).1) m0 m1 c1 (fun _ => hu) x0 x1, Kp_refl _, Ag_refl _ _ _, ?_, ?_⟩
      · rw [B_X4_passEnd]
        simp (disch := first | assumption | omega) only [↓sm, ↓reduceIte, ↓if_pos, ↓if_neg, kI, kJ, kR, kV, w32_eq, w64_eq, reduceCtorEq, Int.reduceAdd, Int.reduceMul, Int.reduceSub, o_c63, ↓o_g63_0, ↓o_g63_1, ↓o_g63_2, ↓o_g63_3, ↓o_g63_4, ↓o_g63_5, ↓o_g63_6, ↓o_g63_7, ↓o_g63_8, ↓o_g63_9, ↓o_g63_10, ↓o_g63_11, ↓a_ln64, ↓a_ld64, ↓a_ln65, ↓a_ld65, o_c33, ↓o_g33_0, ↓o_g33_1, ↓o_g33_2, ↓o_g33_3, ↓o_g33_4, ↓o_g33_5, ↓o_g33_6, ↓o_g33_7, ↓a_ln34, ↓a_ld34, ↓a_ln35, ↓a_ld35, ↓a_ln36, ↓a_ld36, ↓a_ln37, ↓a_ld37, ↓a_ln38, ↓a_ld38, ↓g_38 Z, ↓g_34 Z, a5, d1]
      · intro i hi
        unfold FB at *
        omega
      · intro t ⟨et, hL, hR⟩
        have hk : t.2 157 m = ((s.2 64 m - 1).toNat : Int) := by rw [hR m own]; omega
        refine ⟨uA t 157 m 0, r_empty Z h7 n60 hp b0 hpm e hm hl _ t et (by omega) hk, ⟨by rw [uA_n _ (by decide)]; exact et, ?_, fun o ho => ?_⟩, Ag_uA (Ag_refl _ _ _) (by unfold lbA; omega) _ _⟩
        · exact LR_kp hL (fun _ => rfl) (fun _ => rfl) (uA_n _ (by decide) _ _)
        · obtain ⟨k1, k2⟩ := act_end hM p0 hp e hm ho
          rw [uA_s, up_ne k2]
          exact hR o k1
    · have hs : mm_w32 (s.2 64 m - 1) = s.2 64 m - 1 := w32_eq (by omega) (by omega)
      have cs' : CS (uA s 64 m (s.2 64 m - 1)) 7 S N := CS_fr cs (fun k => rfl) (fun j _ _ => uA_n _ (by omega) _ _)
      have ag' : Ag laA laF s (uA s 64 m (s.2 64 m - 1)) := Ag_uA (Ag_refl _ _ _) (by unfold laA; omega) _ _
      by_cases hr : 0 < s.2 64 m - 1
      · refine ⟨m + 1, uA s 64 m (s.2 64 m - 1), S, c_passE Z h hp e (fun f => ?_), LC_mk h (Kp_refl _) w cs' ag' (by omega) (by omega) (fun o ho => ?_) m0 m1 c1 (fun _ => hu) x0 x1, Kp_refl _, ag', ?_, ?_⟩
        · rw [B_X4_passEnd]
          simp (disch := first | assumption | omega) only [↓sm, ↓reduceIte, ↓if_pos, ↓if_neg, kI, kJ, kR, kV, w32_eq, w64_eq, reduceCtorEq, Int.reduceAdd, Int.reduceMul, Int.reduceSub, o_c63, ↓o_g63_0, ↓o_g63_1, ↓o_g63_2, ↓o_g63_3, ↓o_g63_4, ↓o_g63_5, ↓o_g63_6, ↓o_g63_7, ↓o_g63_8, ↓o_g63_9, ↓o_g63_10, ↓o_g63_11, ↓a_ln64, ↓a_ld64, ↓a_ln65, ↓a_ld65, o_c33, ↓o_g33_0, ↓o_g33_1, ↓o_g33_2, ↓o_g33_3, ↓o_g33_4, ↓o_g33_5, ↓o_g33_6, ↓o_g33_7, ↓a_ln34, ↓a_ld34, ↓a_ln35, ↓a_ld35, ↓a_ln36, ↓a_ld36, ↓a_ln37, ↓a_ld37, ↓a_ln38, ↓a_ld38, ↓g_38 Z, ↓g_34 Z, a5, d1, ↓g_64 Z, ↓p_64 Z]
        · rw [uA_s]
          rcases act_again hM p0 hp e hm ho with x | ⟨x, y⟩
          · rw [up_eq x]; omega
          · rw [up_ne x]; exact ha o y
        · intro i hi
          have b5 : S (104 + 6 * (m + 1)) ≠ 24 := fun x => hpm (b4 x)
          unfold FB at *
          rw [uA_1]
          exact Or.inr ⟨by omega, fun x => absurd x b5⟩
        · intro t ⟨et, hL, hR⟩
          have hk : t.2 157 m = s.2 64 m - 1 := hR m own
          have hk2 : mm_w32 (t.2 157 m - 1) = t.2 157 m - 1 := w32_eq (by omega) (by omega)
          refine ⟨uA t 157 m (t.2 157 m - 1), ?_, ⟨by rw [uA_n _ (by decide)]; exact et, ?_, fun o ho => ?_⟩, Ag_uA (Ag_refl _ _ _) (by unfold lbA; omega) _ _⟩
          · conv => lhs; unfold MB
            rw [B_X12_behindEnds_2]
            simp (disch := first | assumption | omega) only [↓sm, ↓reduceIte, ↓if_pos, ↓if_neg, kI, kJ, kR, kV, w32_eq, w64_eq, reduceCtorEq, Int.reduceAdd, Int.reduceMul, Int.reduceSub, o_c141, ↓o_g141_0, ↓o_g141_1, ↓o_g141_5, ↓o_g141_6, ↓o_g141_7, ↓o_g141_8, ↓o_g141_9, ↓o_g141_21, ↓o_g141_25, ↓o_g141_26, ↓o_g141_27, ↓o_g141_28, ↓o_g141_29, ↓o_g141_30, ↓o_g141_31, ↓o_g141_34, ↓o_g141_35, ↓o_g141_36, ↓r_at et, ↓r_atw et, h7, e, hm, hl, ↓a_ld157, B_X12_behindEnds_46 Z, B_X12_behindEnds_47 Z, B_X12_behindEnds_58 Z, ↓a_st157]
            rfl
          · exact LR_kp hL (fun _ => rfl) (fun _ => rfl) (uA_n _ (by decide) _ _)
          · rw [uA_s, uA_s]
            rcases act_again hM p0 hp e hm ho with x | ⟨x, y⟩
            · rw [up_eq x, up_eq x]; omega
            · rw [up_ne x, up_ne x]; exact hR o y
      · refine ⟨p + 1, uA s 64 m (s.2 64 m - 1), S, c_passE Z h hp e (fun f => ?_), LC_mk h (Kp_refl _) w cs' ag' (by omega) (by omega) (fun o ho => ?_) m0 m1 c1 (fun _ => hu) x0 x1, Kp_refl _, ag', ?_, ?_⟩
        · rw [B_X4_passEnd]
          simp (disch := first | assumption | omega) only [↓sm, ↓reduceIte, ↓if_pos, ↓if_neg, kI, kJ, kR, kV, w32_eq, w64_eq, reduceCtorEq, Int.reduceAdd, Int.reduceMul, Int.reduceSub, o_c63, ↓o_g63_0, ↓o_g63_1, ↓o_g63_2, ↓o_g63_3, ↓o_g63_4, ↓o_g63_5, ↓o_g63_6, ↓o_g63_7, ↓o_g63_8, ↓o_g63_9, ↓o_g63_10, ↓o_g63_11, ↓a_ln64, ↓a_ld64, ↓a_ln65, ↓a_ld65, o_c33, ↓o_g33_0, ↓o_g33_1, ↓o_g33_2, ↓o_g33_3, ↓o_g33_4, ↓o_g33_5, ↓o_g33_6, ↓o_g33_7, ↓a_ln34, ↓a_ld34, ↓a_ln35, ↓a_ld35, ↓a_ln36, ↓a_ld36, ↓a_ln37, ↓a_ld37, ↓a_ln38, ↓a_ld38, ↓g_38 Z, ↓g_34 Z, a5, d1, ↓g_64 Z, ↓p_64 Z]
        · obtain ⟨k1, k2⟩ := act_end hM p0 hp e hm ho
          rw [uA_s, up_ne k2]
          exact ha o k1
        · intro i hi
          unfold FB at *
          rw [uA_1]
          omega
        · intro t ⟨et, hL, hR⟩
          have hk : t.2 157 m = s.2 64 m - 1 := hR m own
          refine ⟨uA t 157 m (t.2 157 m - 0), ?_, ⟨by rw [uA_n _ (by decide)]; exact et, ?_, fun o ho => ?_⟩, Ag_uA (Ag_refl _ _ _) (by unfold lbA; omega) _ _⟩
          · conv => lhs; unfold MB
            rw [B_X12_behindEnds_2]
            simp (disch := first | assumption | omega) only [↓sm, ↓reduceIte, ↓if_pos, ↓if_neg, kI, kJ, kR, kV, w32_eq, w64_eq, reduceCtorEq, Int.reduceAdd, Int.reduceMul, Int.reduceSub, o_c141, ↓o_g141_0, ↓o_g141_1, ↓o_g141_5, ↓o_g141_6, ↓o_g141_7, ↓o_g141_8, ↓o_g141_9, ↓o_g141_21, ↓o_g141_25, ↓o_g141_26, ↓o_g141_27, ↓o_g141_28, ↓o_g141_29, ↓o_g141_30, ↓o_g141_31, ↓o_g141_34, ↓o_g141_35, ↓o_g141_36, ↓r_at et, ↓r_atw et, h7, e, hm, hl, ↓a_ld157, B_X12_behindEnds_46 Z, B_X12_behindEnds_47 Z, B_X12_behindEnds_58 Z, ↓a_st157]
            rfl
          · exact LR_kp hL (fun _ => rfl) (fun _ => rfl) (uA_n _ (by decide) _ _)
          · obtain ⟨k1, k2⟩ := act_end hM p0 hp e hm ho
            rw [uA_s, uA_s, up_ne k2, up_ne k2]
            exact hR o k1
  · have hw : wmap (S (104 + 6 * m)) ≠ 24 := by
      unfold opn at b2
      obtain ⟨pr, -⟩ := hP m b0 (by omega)
      unfold wmap
      rcases pr with x | x | x | x | x | x | x | x | x | x | x | x | x <;> first | (exfalso; omega) | (rw [x]; decide)
    generalize hv : wmap (S (104 + 6 * m)) = v at d1 hw
    refine ⟨p + 1, s, S, c_passE Z h hp e (fun f => ?_), LC_mk h (Kp_refl _) w cs (Ag_refl _ _ _) (by omega) (by omega) (fun o ho => ha o (act_end hM p0 hp e hm ho).1) m0 m1 c1 (fun _ => hu) x0 x1, Kp_refl _, Ag_refl _ _ _, ?_, ?_⟩
    · rw [B_X4_passEnd]
      simp (disch := first | assumption | omega) only [↓sm, ↓reduceIte, ↓if_pos, ↓if_neg, kI, kJ, kR, kV, w32_eq, w64_eq, reduceCtorEq, Int.reduceAdd, Int.reduceMul, Int.reduceSub, o_c63, ↓o_g63_0, ↓o_g63_1, ↓o_g63_2, ↓o_g63_3, ↓o_g63_4, ↓o_g63_5, ↓o_g63_6, ↓o_g63_7, ↓o_g63_8, ↓o_g63_9, ↓o_g63_10, ↓o_g63_11, ↓a_ln64, ↓a_ld64, ↓a_ln65, ↓a_ld65, o_c33, ↓o_g33_0, ↓o_g33_1, ↓o_g33_2, ↓o_g33_3, ↓o_g33_4, ↓o_g33_5, ↓o_g33_6, ↓o_g33_7, ↓a_ln34, ↓a_ld34, ↓a_ln35, ↓a_ld35, ↓a_ln36, ↓a_ld36, ↓a_ln37, ↓a_ld37, ↓a_ln38, ↓a_ld38, ↓g_38 Z, ↓g_34 Z, a5, d1]
    · intro i hi
      unfold FB at *
      omega
    · intro t ⟨et, hL, hR⟩
      refine ⟨uA t 157 m (mm_w32 (t.2 157 m - 0)), ?_, ⟨by rw [uA_n _ (by decide)]; exact et, ?_, fun o ho => ?_⟩, Ag_uA (Ag_refl _ _ _) (by unfold lbA; omega) _ _⟩
      · conv => lhs; unfold MB
        rw [B_X12_behindEnds_2]
        simp (disch := first | assumption | omega) only [↓sm, ↓reduceIte, ↓if_pos, ↓if_neg, kI, kJ, kR, kV, w32_eq, w64_eq, reduceCtorEq, Int.reduceAdd, Int.reduceMul, Int.reduceSub, o_c141, ↓o_g141_0, ↓o_g141_1, ↓o_g141_5, ↓o_g141_6, ↓o_g141_7, ↓o_g141_8, ↓o_g141_9, ↓o_g141_21, ↓o_g141_25, ↓o_g141_26, ↓o_g141_27, ↓o_g141_28, ↓o_g141_29, ↓o_g141_30, ↓o_g141_31, ↓o_g141_34, ↓o_g141_35, ↓o_g141_36, ↓r_at et, ↓r_atw et, h7, e, hm, hl, ↓a_ld157, B_X12_behindEnds_46 Z, B_X12_behindEnds_47 Z, B_X12_behindEnds_58 Z, ↓a_st157]
        rfl
      · exact LR_kp hL (fun _ => rfl) (fun _ => rfl) (uA_n _ (by decide) _ _)
      · obtain ⟨k1, k2⟩ := act_end hM p0 hp e hm ho
        rw [uA_s, up_ne k2]
        exact hR o k1
