/-! the same in the reference; game, moveOf -/
theorem r_mayGo {s : mS} {S : Int → Int} (e : s.2 142 = S) (hw : WF S) (Z : mX) (p c k : Int) (p0 : 0 ≤ p) (p1 : p < S 3) (c0 : 0 ≤ c) (c1 : c < ncl S) (k0 : 0 ≤ k) (k1 : k ≤ 4) (f : Int → mW → mO) : mm_kI (mm_run (zP Z) 339 [.inr (.inr (some 141)), .inl p, .inl c, .inl k] (mk s)) f = f (mg S p c k) (mk s) := by
  have nn := wf_n hw
  rw [B_X12_mayGo]
  unfold mg
  by_cases h4 : k = 4
  · simp (disch := first | assumption | omega) only [↓sm, ↓reduceIte, ↓if_pos, ↓if_neg, kI, kJ, kR, kV, w32_eq, w64_eq, reduceCtorEq, Int.reduceAdd, Int.reduceMul, Int.reduceSub, h4]
  · by_cases hs : sd S c k = -1
    · simp (disch := first | assumption | omega) only [↓sm, ↓reduceIte, ↓if_pos, ↓if_neg, kI, kJ, kR, kV, w32_eq, w64_eq, reduceCtorEq, Int.reduceAdd, Int.reduceMul, Int.reduceSub, o_c141, h4, ↓r_sideOf e hw Z, hs]
    · have r := sd_r hw c0 c1 k0 (by omega) hs
      cases hK : Kc S p (sd S c k)
      · simp (disch := first | assumption | omega) only [↓sm, ↓reduceIte, ↓if_pos, ↓if_neg, kI, kJ, kR, kV, w32_eq, w64_eq, reduceCtorEq, Int.reduceAdd, Int.reduceMul, Int.reduceSub, o_c141, h4, ↓r_sideOf e hw Z, hs, ↓r_isClear_f e hw Z p (sd S c k) p0 p1 r.1 (by omega) hK, Bool.false_eq_true]
      · simp (disch := first | assumption | omega) only [↓sm, ↓reduceIte, ↓if_pos, ↓if_neg, kI, kJ, kR, kV, w32_eq, w64_eq, reduceCtorEq, Int.reduceAdd, Int.reduceMul, Int.reduceSub, o_c141, h4, ↓r_sideOf e hw Z, hs, ↓r_isClear_t e hw Z p (sd S c k) p0 p1 r.1 (by omega) hK]
def RK (s : mS) (S : Int → Int) (K : Int → Int → Prop) (n : Int) : Prop := ∀ h t : Int, 0 ≤ h → h < ncl S → 0 ≤ t → t < ncl S → (s.2 155 (625 * n + 25 * h + t) ≠ 0 ↔ K h t)
theorem lp_isSafe {s : mS} {S : Int → Int} (e : s.2 142 = S) (hw : WF S) (Z : mX) (K : Int → Int → Prop) (o h t n : Int) (o0 : 0 ≤ o) (o1 : o < S 3) (h0 : 0 ≤ h) (h1 : h < ncl S) (t0 : 0 ≤ t) (t1 : t < ncl S) (n0 : 0 ≤ n) (n1 : n ≤ 4) (hK : RK s S K n) : ∀ i : Int, i ≤ 5 → ∀ b : Int, 0 ≤ i → (b = 0 ∨ b = 1) →
    ∃ v, (v = 0 ∨ v = 1) ∧ (v ≠ 0 ↔ b ≠ 0 ∧ ∀ k, i ≤ k → k ≤ 4 → mg S o t k ≠ -1 → K h (mg S o t k)) ∧ mm_at (zP Z) 340 9 [some (.inr (.inr (some 141))), some (.inl o), some (.inl h), some (.inl t), some (.inl n), some (.inl b), some (.inl i), none] [] (mk s) = some (some (.inl v), mk s) := by
  have nn := wf_n hw
  refine up ?_ ?_
  · intro b i0 hb
    refine ⟨b, hb, ⟨fun x => ⟨x, fun k k0 k1 => absurd k1 (by omega)⟩, fun x => x.1⟩, ?_⟩
    rw [B_X12_isSafe_9]
    simp (disch := first | assumption | omega) only [↓sm, ↓reduceIte, ↓if_pos, ↓if_neg, kI, kJ, kR, kV, w32_eq, w64_eq, reduceCtorEq, Int.reduceAdd, Int.reduceMul, Int.reduceSub, hb]
  · intro i hi ih b i0 hb
    by_cases hm : mg S o t i = -1
    · obtain ⟨v, g1, g2, g3⟩ := ih b (by omega) hb
      refine ⟨v, g1, ?_, ?_⟩
      · rw [g2]
        refine ⟨fun x => ⟨x.1, fun k k0 k1 hk => ?_⟩, fun x => ⟨x.1, fun k k0 k1 hk => x.2 k (by omega) k1 hk⟩⟩
        by_cases ek : k = i
        · rw [ek] at hk; exact absurd hm hk
        · exact x.2 k (by omega) k1 hk
      · rw [B_X12_isSafe_9]
        simp (disch := first | assumption | omega) only [↓sm, ↓reduceIte, ↓if_pos, ↓if_neg, kI, kJ, kR, kV, w32_eq, w64_eq, reduceCtorEq, Int.reduceAdd, Int.reduceMul, Int.reduceSub, o_c141, ↓r_mayGo e hw Z, hm, g3]
    · have r := mg_r hw t0 t1 i0 (by omega) hm
      have q := hK h (mg S o t i) h0 h1 r.1 r.2
      by_cases hz : s.2 155 (625 * n + 25 * h + mg S o t i) = 0
      · obtain ⟨v, g1, g2, g3⟩ := ih 0 (by omega) (Or.inl rfl)
        refine ⟨v, g1, ?_, ?_⟩
        · rw [g2]
          refine ⟨fun x => absurd rfl x.1, fun x => ?_⟩
          exact absurd hz (q.mpr (x.2 i (Int.le_refl i) (by omega) hm))
        · rw [B_X12_isSafe_9]
          simp (disch := first | assumption | omega) only [↓sm, ↓reduceIte, ↓if_pos, ↓if_neg, kI, kJ, kR, kV, w32_eq, w64_eq, reduceCtorEq, Int.reduceAdd, Int.reduceMul, Int.reduceSub, o_c141, ↓o_g141_0, ↓o_g141_1, ↓o_g141_5, ↓o_g141_6, ↓o_g141_7, ↓o_g141_8, ↓o_g141_9, ↓o_g141_21, ↓o_g141_25, ↓o_g141_26, ↓o_g141_27, ↓o_g141_28, ↓o_g141_29, ↓o_g141_30, ↓o_g141_31, ↓o_g141_34, ↓o_g141_35, ↓o_g141_36, ↓r_mayGo e hw Z, hm, ↓a_ld155, a_ld155, hz, g3]
      · obtain ⟨v, g1, g2, g3⟩ := ih b (by omega) hb
        refine ⟨v, g1, ?_, ?_⟩
        · rw [g2]
          refine ⟨fun x => ⟨x.1, fun k k0 k1 hk => ?_⟩, fun x => ⟨x.1, fun k k0 k1 hk => x.2 k (by omega) k1 hk⟩⟩
          by_cases ek : k = i
          · rw [ek]; exact q.mp hz
          · exact x.2 k (by omega) k1 hk
        · rw [B_X12_isSafe_9]
          simp (disch := first | assumption | omega) only [↓sm, ↓reduceIte, ↓if_pos, ↓if_neg, kI, kJ, kR, kV, w32_eq, w64_eq, reduceCtorEq, Int.reduceAdd, Int.reduceMul, Int.reduceSub, o_c141, ↓o_g141_0, ↓o_g141_1, ↓o_g141_5, ↓o_g141_6, ↓o_g141_7, ↓o_g141_8, ↓o_g141_9, ↓o_g141_21, ↓o_g141_25, ↓o_g141_26, ↓o_g141_27, ↓o_g141_28, ↓o_g141_29, ↓o_g141_30, ↓o_g141_31, ↓o_g141_34, ↓o_g141_35, ↓o_g141_36, ↓r_mayGo e hw Z, hm, ↓a_ld155, a_ld155, hz, g3]
theorem r_isSafe {s : mS} {S : Int → Int} (e : s.2 142 = S) (hw : WF S) (Z : mX) (K : Int → Int → Prop) (o h t n : Int) (o0 : 0 ≤ o) (o1 : o < S 3) (h0 : 0 ≤ h) (h1 : h < ncl S) (t0 : 0 ≤ t) (t1 : t < ncl S) (n0 : 0 ≤ n) (n1 : n ≤ 4) (hK : RK s S K n) :
    ∃ v, (v ≠ 0 ↔ safeP S K o h t) ∧ ∀ f : Int → mW → mO, mm_kI (mm_run (zP Z) 340 [.inr (.inr (some 141)), .inl o, .inl h, .inl t, .inl n] (mk s)) f = f v (mk s) := by
  by_cases ht : h = t
  · refine ⟨0, ⟨fun x => absurd rfl x, fun x => absurd ht x.1⟩, fun f => ?_⟩
    rw [B_X12_isSafe]
    simp (disch := first | assumption | omega) only [↓sm, ↓reduceIte, ↓if_pos, ↓if_neg, kI, kJ, kR, kV, w32_eq, w64_eq, reduceCtorEq, Int.reduceAdd, Int.reduceMul, Int.reduceSub, ht]
  · obtain ⟨v, g1, g2, g3⟩ := lp_isSafe e hw Z K o h t n o0 o1 h0 h1 t0 t1 n0 n1 hK 0 (by omega) 1 (by omega) (Or.inr rfl)
    refine ⟨v, ?_, fun f => ?_⟩
    · rw [g2]
      exact ⟨fun x => ⟨ht, x.2⟩, fun x => ⟨by omega, x.2⟩⟩
    · rw [B_X12_isSafe]
      simp (disch := first | assumption | omega) only [↓sm, ↓reduceIte, ↓if_pos, ↓if_neg, kI, kJ, kR, kV, w32_eq, w64_eq, reduceCtorEq, Int.reduceAdd, Int.reduceMul, Int.reduceSub, ht, g3]
def fst5 (Q : Int → Prop) (v : Int) : Prop := (v = -1 ∧ ∀ k, 0 ≤ k → k ≤ 4 → ¬ Q k) ∨ (0 ≤ v ∧ v ≤ 4 ∧ Q v ∧ ∀ k, 0 ≤ k → k < v → ¬ Q k)
theorem fst5_u {Q : Int → Prop} {v v' : Int} (h : fst5 Q v) (h' : fst5 Q v') : v = v' := by
  rcases h with ⟨e, n⟩ | ⟨a, b, c, d⟩
  · rcases h' with ⟨e', n'⟩ | ⟨a', b', c', d'⟩
    · omega
    · exact absurd c' (n _ a' b')
  · rcases h' with ⟨e', n'⟩ | ⟨a', b', c', d'⟩
    · exact absurd c (n' _ a b)
    · by_cases h1 : v < v'
      · exact absurd c (d' _ a h1)
      · by_cases h2 : v' < v
        · exact absurd c' (d _ a' h2)
        · omega
theorem lp_keepsBy {s : mS} {S : Int → Int} (e : s.2 142 = S) (hw : WF S) (Z : mX) (K : Int → Int → Prop) (p o h t n : Int) (p0 : 0 ≤ p) (p1 : p < S 3) (o0 : 0 ≤ o) (o1 : o < S 3) (h0 : 0 ≤ h) (h1 : h < ncl S) (t0 : 0 ≤ t) (t1 : t < ncl S) (n0 : 0 ≤ n) (n1 : n ≤ 3) (hK : RK s S K n) : ∀ i : Int, i ≤ 5 → 0 ≤ i → (∀ k, 0 ≤ k → k < i → ¬ (mg S p h k ≠ -1 ∧ safeP S K o (mg S p h k) t)) →
    ∃ v, fst5 (fun k => mg S p h k ≠ -1 ∧ safeP S K o (mg S p h k) t) v ∧ mm_at (zP Z) 341 2 [some (.inr (.inr (some 141))), some (.inl p), some (.inl o), some (.inl h), some (.inl t), some (.inl ((n + 1))), some (.inl i), none] [] (mk s) = some (some (.inl v), mk s) := by
  have nn := wf_n hw
  refine up ?_ ?_
  · intro i0 hb
    refine ⟨-1, Or.inl ⟨rfl, fun k k0 k1 => hb k k0 (by omega)⟩, ?_⟩
    rw [B_X12_keepsBy_2]
    simp (disch := first | assumption | omega) only [↓sm, ↓reduceIte, ↓if_pos, ↓if_neg, kI, kJ, kR, kV, w32_eq, w64_eq, reduceCtorEq, Int.reduceAdd, Int.reduceMul, Int.reduceSub]
  · intro i hi ih i0 hb
    by_cases hm : mg S p h i = -1
    · obtain ⟨v, g1, g2⟩ := ih (by omega) (fun k k0 k1 => by
        by_cases ek : k = i
        · rw [ek]; exact fun x => x.1 hm
        · exact hb k k0 (by omega))
      refine ⟨v, g1, ?_⟩
      rw [B_X12_keepsBy_2]
      simp (disch := first | assumption | omega) only [↓sm, ↓reduceIte, ↓if_pos, ↓if_neg, kI, kJ, kR, kV, w32_eq, w64_eq, reduceCtorEq, Int.reduceAdd, Int.reduceMul, Int.reduceSub, o_c141, ↓r_mayGo e hw Z, hm, g2]
    · have r := mg_r hw h0 h1 i0 (by omega) hm
      obtain ⟨u, u1, u2⟩ := r_isSafe e hw Z K o (mg S p h i) t n o0 o1 r.1 r.2 t0 t1 n0 (by omega) hK
      have en : n + 1 - 1 = n := by omega
      by_cases hu : u = 0
      · obtain ⟨v, g1, g2⟩ := ih (by omega) (fun k k0 k1 => by
          by_cases ek : k = i
          · rw [ek]; exact fun x => u1.mpr x.2 hu
          · exact hb k k0 (by omega))
        refine ⟨v, g1, ?_⟩
        rw [B_X12_keepsBy_2]
        simp (disch := first | assumption | omega) only [↓sm, ↓reduceIte, ↓if_pos, ↓if_neg, kI, kJ, kR, kV, w32_eq, w64_eq, reduceCtorEq, Int.reduceAdd, Int.reduceMul, Int.reduceSub, o_c141, ↓r_mayGo e hw Z, hm, en, ↓u2, hu, g2]
      · refine ⟨i, Or.inr ⟨i0, by omega, ⟨hm, u1.mp hu⟩, hb⟩, ?_⟩
        rw [B_X12_keepsBy_2]
        simp (disch := first | assumption | omega) only [↓sm, ↓reduceIte, ↓if_pos, ↓if_neg, kI, kJ, kR, kV, w32_eq, w64_eq, reduceCtorEq, Int.reduceAdd, Int.reduceMul, Int.reduceSub, o_c141, ↓r_mayGo e hw Z, hm, en, ↓u2, hu]
theorem r_keepsBy {s : mS} {S : Int → Int} (e : s.2 142 = S) (hw : WF S) (Z : mX) (K : Int → Int → Prop) (p o h t n : Int) (p0 : 0 ≤ p) (p1 : p < S 3) (o0 : 0 ≤ o) (o1 : o < S 3) (h0 : 0 ≤ h) (h1 : h < ncl S) (t0 : 0 ≤ t) (t1 : t < ncl S) (n0 : 0 ≤ n) (n1 : n ≤ 3) (hK : RK s S K n) :
    ∃ v, fst5 (fun k => mg S p h k ≠ -1 ∧ safeP S K o (mg S p h k) t) v ∧ ∀ f : Int → mW → mO, mm_kI (mm_run (zP Z) 341 [.inr (.inr (some 141)), .inl p, .inl o, .inl h, .inl t, .inl ((n + 1))] (mk s)) f = f v (mk s) := by
  obtain ⟨v, g1, g2⟩ := lp_keepsBy e hw Z K p o h t n p0 p1 o0 o1 h0 h1 t0 t1 n0 n1 hK 0 (by omega) (by omega) (fun k k0 k1 => absurd k1 (by omega))
  refine ⟨v, g1, fun f => ?_⟩
  rw [B_X12_keepsBy, g2, kI]
def a155 (q : Nat) : Prop := q = 155
theorem Ag155_142 {s t : mS} (h : Ag a155 noF s t) : t.2 142 = s.2 142 := h.1 142 (by unfold a155; omega)
theorem grid {c h t H T : Int} (t0 : 0 ≤ t) (t1 : t < c) (T0 : 0 ≤ T) (T1 : T < c) (e : c * h + t = c * H + T) : h = H ∧ t = T := by
  have c0 : 0 ≤ c := by omega
  have key : ∀ a b : Int, a < b → c * a + c ≤ c * b := fun a b hab => by
    have := Int.mul_le_mul_of_nonneg_left (show a + 1 ≤ b by omega) c0
    rw [Int.mul_add, Int.mul_one] at this
    exact this
  by_cases h1 : h < H
  · have := key h H h1; omega
  · by_cases h2 : H < h
    · have := key H h h2; omega
    · have : h = H := by omega
      subst this
      exact ⟨rfl, by omega⟩
theorem grid_lt {c h t : Int} (h0 : 0 ≤ h) (h1 : h < c) (t0 : 0 ≤ t) (t1 : t < c) : c * h + t < c * c := by
  have := Int.mul_le_mul_of_nonneg_left (show h + 1 ≤ c by omega) (show 0 ≤ c by omega)
  rw [Int.mul_add, Int.mul_one] at this
  omega
theorem RK_ext {s t : mS} {S : Int → Int} {K : Int → Int → Prop} {n : Int} (h : RK s S K n) (hn : ncl S ≤ 25) (e : ∀ j, 625 * n ≤ j → j < 625 * n + 625 → t.2 155 j = s.2 155 j) : RK t S K n := by
  intro a b a0 a1 b0 b1
  rw [e _ (by omega) (by omega)]
  exact h a b a0 a1 b0 b1
theorem lp_keeps11 {S : Int → Int} (hw : WF S) (Z : mX) (p o n l : Int) (p0 : 0 ≤ p) (p1 : p < S 3) (o0 : 0 ≤ o) (o1 : o < S 3) (l0 : 0 ≤ l) (l1 : l ≤ 4) : ∀ i : Int, i ≤ ncl S * ncl S → ∀ s : mS, s.2 142 = S → 0 ≤ i → (1 ≤ l → RK s S (kpP S p o (l - 1).toNat) (l - 1)) →
    (∀ h t : Int, 0 ≤ h → h < ncl S → 0 ≤ t → t < ncl S → ncl S * h + t < i → (s.2 155 (625 * l + 25 * h + t) ≠ 0 ↔ kpP S p o l.toNat h t)) →
    ∃ s', mm_at (zP Z) 342 11 [some (.inr (.inr (some 141))), some (.inl p), some (.inl o), some (.inl n), some (.inl ((ncl S))), some (.inl l), some (.inl i), none, none] [] (mk s) = mm_at (zP Z) 342 6 [some (.inr (.inr (some 141))), some (.inl p), some (.inl o), some (.inl n), some (.inl ((ncl S))), some (.inl ((l + 1))), none, none, none] [] (mk s') ∧ Ag a155 noF s s' ∧ RK s' S (kpP S p o l.toNat) l ∧ ∀ j, j < 625 * l → s'.2 155 j = s.2 155 j := by
  have nn := wf_n hw
  have n2 : ncl S * ncl S ≤ 625 := by
    have h1 := Int.mul_le_mul_of_nonneg_left (show ncl S ≤ 25 by omega) (show 0 ≤ ncl S by omega)
    omega
  have n3 : 0 ≤ ncl S * ncl S := Int.mul_nonneg (by omega) (by omega)
  refine up ?_ ?_
  · intro s e i0 hR hr
    refine ⟨s, ?_, Ag_refl _ _ _, fun h t h0 h1 t0 t1 => hr h t h0 h1 t0 t1 (grid_lt h0 h1 t0 t1), fun j hj => rfl⟩
    conv => lhs; rw [B_X12_laysKeeps_11]
    simp (disch := first | assumption | omega) only [↓sm, ↓reduceIte, ↓if_pos, ↓if_neg, kI, kJ, kR, kV, w32_eq, w64_eq, reduceCtorEq, Int.reduceAdd, Int.reduceMul, Int.reduceSub]
  · intro i hi ih s e i0 hR hr
    have H0 := Int.ediv_nonneg i0 (show 0 ≤ ncl S by omega)
    have H1 : i / ncl S < ncl S := Int.ediv_lt_of_lt_mul (by omega) hi
    have T0 := Int.emod_nonneg i (show ncl S ≠ 0 by omega)
    have T1 := Int.emod_lt_of_pos i (show 0 < ncl S by omega)
    have ei := Int.mul_ediv_add_emod i (ncl S)
    generalize hH : i / ncl S = H at H0 H1 ei
    generalize hT : i % ncl S = T at T0 T1 ei
    have e1 : mm_idiv i (ncl S) = H := by rw [idiv_eq i0 (by omega) (by omega)]; exact hH
    have e2 : mm_irem i (ncl S) = T := by rw [irem_eq i0 (by omega) (by omega)]; exact hT
    have nz : ncl S ≠ 0 := by omega
    -- what is laid
    have step : ∀ v : Int, (v ≠ 0 ↔ kpP S p o l.toNat H T) → ∃ s', mm_at (zP Z) 342 11 [some (.inr (.inr (some 141))), some (.inl p), some (.inl o), some (.inl n), some (.inl ((ncl S))), some (.inl l), some (.inl ((i + 1))), none, none] [] (mk (uA s 155 (625 * l + 25 * H + T) v)) = mm_at (zP Z) 342 6 [some (.inr (.inr (some 141))), some (.inl p), some (.inl o), some (.inl n), some (.inl ((ncl S))), some (.inl ((l + 1))), none, none, none] [] (mk s') ∧ Ag a155 noF s s' ∧ RK s' S (kpP S p o l.toNat) l ∧ ∀ j, j < 625 * l → s'.2 155 j = s.2 155 j := by
      intro v hv
      obtain ⟨s', g1, g2, g3, g4⟩ := ih (uA s 155 (625 * l + 25 * H + T) v) (by rw [uA_n s (by decide)]; exact e) (by omega) (fun h1 => RK_ext (hR h1) (by omega) (fun j j0 j1 => by rw [uA_s, up_ne (by omega)])) (by
        intro h t h0 h1 t0 t1 hlt
        rw [uA_s]
        by_cases hht : h = H ∧ t = T
        · rw [hht.1, hht.2, up_eq rfl]
          exact hv
        · rw [up_ne (by omega)]
          refine hr h t h0 h1 t0 t1 ?_
          by_cases hx : ncl S * h + t = i
          · exact absurd (grid t0 t1 T0 T1 (hx.trans ei.symm)) hht
          · omega)
      refine ⟨s', g1, Ag_trans (Ag_uA (Ag_refl _ _ _) (by unfold a155; omega) _ _) g2, g3, fun j hj => ?_⟩
      rw [g4 j hj, uA_s, up_ne (by omega)]
    by_cases hHT : H = T
    · obtain ⟨s', g1, g2⟩ := step 0 ⟨fun x => absurd rfl x, fun x => absurd hHT (kpP_ne x)⟩
      refine ⟨s', ?_, g2⟩
      rw [← g1]
      conv => lhs; rw [B_X12_laysKeeps_11]
      rw [e1, e2]
      simp (disch := first | assumption | omega) only [↓sm, ↓reduceIte, ↓if_pos, ↓if_neg, kI, kJ, kR, kV, w32_eq, w64_eq, reduceCtorEq, Int.reduceAdd, Int.reduceMul, Int.reduceSub, o_c141, ↓o_g141_0, ↓o_g141_1, ↓o_g141_5, ↓o_g141_6, ↓o_g141_7, ↓o_g141_8, ↓o_g141_9, ↓o_g141_21, ↓o_g141_25, ↓o_g141_26, ↓o_g141_27, ↓o_g141_28, ↓o_g141_29, ↓o_g141_30, ↓o_g141_31, ↓o_g141_34, ↓o_g141_35, ↓o_g141_36, nz, hHT, ↓a_st155, a_st155]
    · by_cases hl : l = 0
      · obtain ⟨s', g1, g2⟩ := step 1 ⟨fun _ => by rw [hl]; exact hHT, fun _ => by omega⟩
        refine ⟨s', ?_, g2⟩
        rw [← g1]
        conv => lhs; rw [B_X12_laysKeeps_11]
        rw [e1, e2]
        simp (disch := first | assumption | omega) only [↓sm, ↓reduceIte, ↓if_pos, ↓if_neg, kI, kJ, kR, kV, w32_eq, w64_eq, reduceCtorEq, Int.reduceAdd, Int.reduceMul, Int.reduceSub, o_c141, ↓o_g141_0, ↓o_g141_1, ↓o_g141_5, ↓o_g141_6, ↓o_g141_7, ↓o_g141_8, ↓o_g141_9, ↓o_g141_21, ↓o_g141_25, ↓o_g141_26, ↓o_g141_27, ↓o_g141_28, ↓o_g141_29, ↓o_g141_30, ↓o_g141_31, ↓o_g141_34, ↓o_g141_35, ↓o_g141_36, nz, hHT, hl, ↓a_st155, a_st155]
      · obtain ⟨u, u1, u2⟩ := r_keepsBy e hw Z (kpP S p o (l - 1).toNat) p o H T (l - 1) p0 p1 o0 o1 H0 H1 T0 T1 (by omega) (by omega) (hR (by omega))
        rw [show l - 1 + 1 = l by omega] at u2
        have ek : kpP S p o l.toNat H T ↔ H ≠ T ∧ ∃ k, 0 ≤ k ∧ k ≤ 4 ∧ mg S p H k ≠ -1 ∧ safeP S (kpP S p o (l - 1).toNat) o (mg S p H k) T := by
          rw [show l.toNat = (l - 1).toNat + 1 by omega]
          exact Iff.rfl
        by_cases hu : u = -1
        · obtain ⟨s', g1, g2⟩ := step 0 ⟨fun x => absurd rfl x, fun x => by
            obtain ⟨_, k, k0, k1, q⟩ := ek.mp x
            rcases u1 with ⟨_, y⟩ | ⟨y, _⟩
            · exact absurd q (y k k0 k1)
            · omega⟩
          refine ⟨s', ?_, g2⟩
          rw [← g1]
          conv => lhs; rw [B_X12_laysKeeps_11]
          rw [e1, e2]
          simp (disch := first | assumption | omega) only [↓sm, ↓reduceIte, ↓if_pos, ↓if_neg, kI, kJ, kR, kV, w32_eq, w64_eq, reduceCtorEq, Int.reduceAdd, Int.reduceMul, Int.reduceSub, o_c141, ↓o_g141_0, ↓o_g141_1, ↓o_g141_5, ↓o_g141_6, ↓o_g141_7, ↓o_g141_8, ↓o_g141_9, ↓o_g141_21, ↓o_g141_25, ↓o_g141_26, ↓o_g141_27, ↓o_g141_28, ↓o_g141_29, ↓o_g141_30, ↓o_g141_31, ↓o_g141_34, ↓o_g141_35, ↓o_g141_36, nz, hHT, hl, ↓u2, hu, ↓a_st155, a_st155]
        · obtain ⟨s', g1, g2⟩ := step 1 ⟨fun _ => by
            rcases u1 with ⟨y, _⟩ | ⟨y0, y1, y2, _⟩
            · exact absurd y hu
            · exact ek.mpr ⟨hHT, u, y0, y1, y2⟩, fun _ => by omega⟩
          refine ⟨s', ?_, g2⟩
          rw [← g1]
          conv => lhs; rw [B_X12_laysKeeps_11]
          rw [e1, e2]
          simp (disch := first | assumption | omega) only [↓sm, ↓reduceIte, ↓if_pos, ↓if_neg, kI, kJ, kR, kV, w32_eq, w64_eq, reduceCtorEq, Int.reduceAdd, Int.reduceMul, Int.reduceSub, o_c141, ↓o_g141_0, ↓o_g141_1, ↓o_g141_5, ↓o_g141_6, ↓o_g141_7, ↓o_g141_8, ↓o_g141_9, ↓o_g141_21, ↓o_g141_25, ↓o_g141_26, ↓o_g141_27, ↓o_g141_28, ↓o_g141_29, ↓o_g141_30, ↓o_g141_31, ↓o_g141_34, ↓o_g141_35, ↓o_g141_36, nz, hHT, hl, ↓u2, hu, ↓a_st155, a_st155]
theorem lp_keeps6 {S : Int → Int} (hw : WF S) (Z : mX) (p o n : Int) (p0 : 0 ≤ p) (p1 : p < S 3) (o0 : 0 ≤ o) (o1 : o < S 3) (n1 : n ≤ 4) : ∀ l : Int, l ≤ n + 1 → ∀ s : mS, s.2 142 = S → 0 ≤ l → (∀ m, 0 ≤ m → m < l → RK s S (kpP S p o m.toNat) m) →
    ∃ s', mm_at (zP Z) 342 6 [some (.inr (.inr (some 141))), some (.inl p), some (.inl o), some (.inl n), some (.inl ((ncl S))), some (.inl l), none, none, none] [] (mk s) = some (none, mk s') ∧ Ag a155 noF s s' ∧ ∀ m, 0 ≤ m → m ≤ n → RK s' S (kpP S p o m.toNat) m := by
  have nn := wf_n hw
  refine up ?_ ?_
  · intro s e l0 hR
    refine ⟨s, ?_, Ag_refl _ _ _, fun m m0 m1 => hR m m0 (by omega)⟩
    rw [B_X12_laysKeeps_6]
    simp (disch := first | assumption | omega) only [↓sm, ↓reduceIte, ↓if_pos, ↓if_neg, kI, kJ, kR, kV, w32_eq, w64_eq, reduceCtorEq, Int.reduceAdd, Int.reduceMul, Int.reduceSub]
  · intro l hl ih s e l0 hR
    have n3 : 0 ≤ ncl S * ncl S := Int.mul_nonneg (by omega) (by omega)
    obtain ⟨s1, a1, a2, a3, a4⟩ := lp_keeps11 hw Z p o n l p0 p1 o0 o1 l0 (by omega) 0 n3 s e (by omega) (fun h1 => hR (l - 1) (by omega) (by omega)) (fun h t h0 h1 t0 t1 hlt => absurd hlt (by
      have := Int.mul_nonneg (show 0 ≤ ncl S by omega) h0
      omega))
    obtain ⟨s', g1, g2, g3⟩ := ih s1 ((Ag155_142 a2).trans e) (by omega) (fun m m0 m1 => by
      by_cases em : m = l
      · rw [em]; exact a3
      · exact RK_ext (hR m m0 (by omega)) (by omega) (fun j j0 j1 => a4 j (by omega)))
    refine ⟨s', ?_, Ag_trans a2 g2, g3⟩
    rw [B_X12_laysKeeps_6]
    simp (disch := first | assumption | omega) only [↓sm, ↓reduceIte, ↓if_pos, ↓if_neg, kI, kJ, kR, kV, w32_eq, w64_eq, reduceCtorEq, Int.reduceAdd, Int.reduceMul, Int.reduceSub, a1, g1]
theorem r_laysKeeps {S : Int → Int} (hw : WF S) (Z : mX) (p o n : Int) (p0 : 0 ≤ p) (p1 : p < S 3) (o0 : 0 ≤ o) (o1 : o < S 3) (n0 : 0 ≤ n) (n1 : n ≤ 4) (s : mS) (e : s.2 142 = S) :
    ∃ s', (∀ f : mW → mO, mm_kV (mm_run (zP Z) 342 [.inr (.inr (some 141)), .inl p, .inl o, .inl n] (mk s)) f = f (mk s')) ∧ Ag a155 noF s s' ∧ ∀ m, 0 ≤ m → m ≤ n → RK s' S (kpP S p o m.toNat) m := by
  obtain ⟨s', g1, g2, g3⟩ := lp_keeps6 hw Z p o n p0 p1 o0 o1 n1 0 (by omega) s e (by omega) (fun m m0 m1 => absurd m1 (by omega))
  refine ⟨s', fun f => ?_, g2, g3⟩
  rw [B_X12_laysKeeps]
  simp (disch := first | assumption | omega) only [↓sm, ↓reduceIte, ↓if_pos, ↓if_neg, kI, kJ, kR, kV, w32_eq, w64_eq, reduceCtorEq, Int.reduceAdd, Int.reduceMul, Int.reduceSub, o_c141, ↓o_g141_0, ↓o_g141_1, ↓o_g141_5, ↓o_g141_6, ↓o_g141_7, ↓o_g141_8, ↓o_g141_9, ↓o_g141_21, ↓o_g141_25, ↓o_g141_26, ↓o_g141_27, ↓o_g141_28, ↓o_g141_29, ↓o_g141_30, ↓o_g141_31, ↓o_g141_34, ↓o_g141_35, ↓o_g141_36, ↓r_cellsOf e hw Z, g1]
theorem lp_firstMove {s : mS} {S N : Int → Int} (h : CS s 7 S N) (hw : WF S) (Z : mX) (K : Int → Int → Prop) (p o c t G : Int) (p0 : 0 ≤ p) (p1 : p < S 3) (c0 : 0 ≤ c) (c1 : c < ncl S) (hG : ∀ h : Int, 0 ≤ h → h < ncl S → (tb G h.toNat = true ↔ safeP S K o h t)) : ∀ i : Int, i ≤ 4 → 0 ≤ i → (∀ k, 0 ≤ k → k < i → ¬ (mg S p c k ≠ -1 ∧ safeP S K o (mg S p c k) t)) →
    ∃ v, fst5 (fun k => mg S p c k ≠ -1 ∧ safeP S K o (mg S p c k) t) v ∧ mm_at (zP Z) 20 37 [some (.inr (.inr (some 71))), none, none, none, some (.inl c), none, some (.inl G), some (.inl ((clr S p (S (74 + 6 * p + 1))))), some (.inl i), none] [] (mk s) = some (some (.inl v), mk s) := by
  have nn := wf_n hw
  refine up ?_ ?_
  · intro i0 hb
    have g := hG c c0 c1
    cases ht : tb G c.toNat
    · refine ⟨-1, Or.inl ⟨rfl, fun k k0 k1 => ?_⟩, ?_⟩
      · by_cases ek : k = 4
        · rw [ek]
          show ¬ (mg S p c 4 ≠ -1 ∧ safeP S K o (mg S p c 4) t)
          rw [mg_4]
          rintro ⟨_, q⟩
          rw [g.mpr q] at ht
          cases ht
        · exact hb k k0 (by omega)
      · rw [B_X2_firstMove_37]
        simp (disch := first | assumption | omega) only [↓sm, ↓reduceIte, ↓if_pos, ↓if_neg, kI, kJ, kR, kV, w32_eq, w64_eq, reduceCtorEq, Int.reduceAdd, Int.reduceMul, Int.reduceSub, ↓k_has Z, ht, b2i_0, Bool.false_eq_true]
    · refine ⟨4, Or.inr ⟨by omega, by omega, ?_, hb⟩, ?_⟩
      · show mg S p c 4 ≠ -1 ∧ safeP S K o (mg S p c 4) t
        rw [mg_4]
        exact ⟨by omega, g.mp ht⟩
      · rw [B_X2_firstMove_37]
        simp (disch := first | assumption | omega) only [↓sm, ↓reduceIte, ↓if_pos, ↓if_neg, kI, kJ, kR, kV, w32_eq, w64_eq, reduceCtorEq, Int.reduceAdd, Int.reduceMul, Int.reduceSub, ↓k_has Z, ht, b2i_0]
  · intro i hi ih i0 hb
    by_cases hs : sd S c i = -1
    · obtain ⟨v, g1, g2⟩ := ih (by omega) (fun k k0 k1 => by
        by_cases ek : k = i
        · rw [ek]
          rintro ⟨q, _⟩
          refine q ?_
          unfold mg
          rw [if_neg (by omega), if_pos hs]
        · exact hb k k0 (by omega))
      refine ⟨v, g1, ?_⟩
      rw [B_X2_firstMove_37]
      simp (disch := first | assumption | omega) only [↓sm, ↓reduceIte, ↓if_pos, ↓if_neg, kI, kJ, kR, kV, w32_eq, w64_eq, reduceCtorEq, Int.reduceAdd, Int.reduceMul, Int.reduceSub, o_c71, ↓o_g71_0, ↓o_g71_1, ↓o_g71_2, o_c7, ↓c_beside h hw Z, hs, g2]
    · have r := sd_r hw c0 c1 i0 (by omega) hs
      have g := hG _ r.1 r.2
      have ec : tb (clr S p (S (74 + 6 * p + 1))) (sd S c i).toNat = Kc S p (sd S c i) := by rw [tb_clr hw, Int.toNat_of_nonneg r.1, decide_eq_true r.2, Bool.true_and]
      cases ht : tb (mm_iand G (clr S p (S (74 + 6 * p + 1)))) (sd S c i).toNat
      · obtain ⟨v, g1, g2⟩ := ih (by omega) (fun k k0 k1 => by
          by_cases ek : k = i
          · rw [ek]
            rintro ⟨q1, q2⟩
            unfold mg at q1 q2
            rw [if_neg (by omega), if_neg hs] at q1 q2
            by_cases hK : Kc S p (sd S c i) = true
            · rw [if_pos hK] at q2
              rw [tb_and, ec, hK, g.mpr q2] at ht
              cases ht
            · rw [if_neg hK] at q1
              exact q1 rfl
          · exact hb k k0 (by omega))
        refine ⟨v, g1, ?_⟩
        rw [B_X2_firstMove_37]
        simp (disch := first | assumption | omega) only [↓sm, ↓reduceIte, ↓if_pos, ↓if_neg, kI, kJ, kR, kV, w32_eq, w64_eq, reduceCtorEq, Int.reduceAdd, Int.reduceMul, Int.reduceSub, o_c71, ↓o_g71_0, ↓o_g71_1, ↓o_g71_2, o_c7, ↓c_beside h hw Z, hs, ↓k_has Z, ht, b2i_0, g2, Bool.false_eq_true]
      · rw [tb_and, ec, Bool.and_eq_true] at ht
        refine ⟨i, Or.inr ⟨i0, by omega, ?_, hb⟩, ?_⟩
        · have em : mg S p c i = sd S c i := by
            unfold mg
            rw [if_neg (by omega), if_neg hs, if_pos ht.2]
          show mg S p c i ≠ -1 ∧ safeP S K o (mg S p c i) t
          rw [em]
          exact ⟨hs, g.mp ht.1⟩
        · have ht2 : tb (mm_iand G (clr S p (S (74 + 6 * p + 1)))) (sd S c i).toNat = true := by rw [tb_and, ec, ht.1, ht.2]; rfl
          rw [B_X2_firstMove_37]
          simp (disch := first | assumption | omega) only [↓sm, ↓reduceIte, ↓if_pos, ↓if_neg, kI, kJ, kR, kV, w32_eq, w64_eq, reduceCtorEq, Int.reduceAdd, Int.reduceMul, Int.reduceSub, o_c71, ↓o_g71_0, ↓o_g71_1, ↓o_g71_2, o_c7, ↓c_beside h hw Z, hs, ↓k_has Z, ht2, b2i_0]
theorem a72_csc {s t : mS} (h : Ag a72 noF s t) : csc s t := Ag_mono h (fun q hq => by unfold a72 at hq; unfold scA; omega) (fun q k hq => hq.elim)
theorem a155_rsc {s t : mS} (h : Ag a155 noF s t) : rsc s t := Ag_mono h (fun q hq => by unfold a155 at hq; unfold srA; omega) (fun q k hq => hq.elim)
theorem r_areTwo_t {s : mS} {S : Int → Int} (e : s.2 142 = S) (hw : WF S) (Z : mX) (p o : Int) (p0 : 0 ≤ p) (p1 : p < S 3) (o0 : 0 ≤ o) (o1 : o < S 3) (hn : p ≠ o) (f : Int → mW → mO) : mm_kI (mm_run (zP Z) 343 [.inr (.inr (some 141)), .inl p, .inl o] (mk s)) f = f 1 (mk s) := by
  rw [B_X12_areTwo]
  simp (disch := first | assumption | omega) only [↓sm, ↓reduceIte, ↓if_pos, ↓if_neg, kI, kJ, kR, kV, w32_eq, w64_eq, reduceCtorEq, Int.reduceAdd, Int.reduceMul, Int.reduceSub, o_c141, ↓o_g141_0, ↓o_g141_1, ↓o_g141_5, ↓o_g141_6, ↓o_g141_7, ↓o_g141_8, ↓o_g141_9, ↓o_g141_21, ↓o_g141_25, ↓o_g141_26, ↓o_g141_27, ↓o_g141_28, ↓o_g141_29, ↓o_g141_30, ↓o_g141_31, ↓o_g141_34, ↓o_g141_35, ↓o_g141_36, ↓r_pupilAt e hw Z, ↓r_at e, ↓r_atw e, ↓r_cellsOf e hw Z, ↓r_isCell_t e hw Z, ↓r_isCell_f e hw Z, ↓r_isLesson_t e hw Z, ↓r_isLesson_f e hw Z, ↓r_isPupil_t e hw Z, ↓r_isPupil_f e hw Z, ↓r_pupilOf e hw Z, ↓r_needsOf e hw Z, ↓r_catchBy e hw Z, ↓r_catchOf e hw Z, ↓r_isCaught_t e hw Z, ↓r_isCaught_f e hw Z, ↓r_allCaught e hw Z, ↓r_whoIs0 e hw Z, ↓r_whoIs1 e hw Z, ↓r_sideOf e hw Z, ↓r_isNear e hw Z, ↓r_nextLesson e hw Z, ↓r_canFree e hw Z, ↓r_nearTo e hw Z, ↓r_isIn Z, ↓r_pupilRow Z, ↓r_lessonRow Z, ↓k_bits Z, hn]
theorem r_areTwo_f {s : mS} {S : Int → Int} (e : s.2 142 = S) (hw : WF S) (Z : mX) (p o : Int) (hn : ¬ (0 ≤ p ∧ p < S 3 ∧ 0 ≤ o ∧ o < S 3 ∧ p ≠ o)) (f : Int → mW → mO) : mm_kI (mm_run (zP Z) 343 [.inr (.inr (some 141)), .inl p, .inl o] (mk s)) f = f 0 (mk s) := by
  rw [B_X12_areTwo]
  by_cases hp : 0 ≤ p ∧ p < S 3
  · by_cases ho : 0 ≤ o ∧ o < S 3
    · have : p = o := by omega
      simp (disch := first | assumption | omega) only [↓sm, ↓reduceIte, ↓if_pos, ↓if_neg, kI, kJ, kR, kV, w32_eq, w64_eq, reduceCtorEq, Int.reduceAdd, Int.reduceMul, Int.reduceSub, o_c141, ↓o_g141_0, ↓o_g141_1, ↓o_g141_5, ↓o_g141_6, ↓o_g141_7, ↓o_g141_8, ↓o_g141_9, ↓o_g141_21, ↓o_g141_25, ↓o_g141_26, ↓o_g141_27, ↓o_g141_28, ↓o_g141_29, ↓o_g141_30, ↓o_g141_31, ↓o_g141_34, ↓o_g141_35, ↓o_g141_36, ↓r_pupilAt e hw Z, ↓r_at e, ↓r_atw e, ↓r_cellsOf e hw Z, ↓r_isCell_t e hw Z, ↓r_isCell_f e hw Z, ↓r_isLesson_t e hw Z, ↓r_isLesson_f e hw Z, ↓r_isPupil_t e hw Z, ↓r_isPupil_f e hw Z, ↓r_pupilOf e hw Z, ↓r_needsOf e hw Z, ↓r_catchBy e hw Z, ↓r_catchOf e hw Z, ↓r_isCaught_t e hw Z, ↓r_isCaught_f e hw Z, ↓r_allCaught e hw Z, ↓r_whoIs0 e hw Z, ↓r_whoIs1 e hw Z, ↓r_sideOf e hw Z, ↓r_isNear e hw Z, ↓r_nextLesson e hw Z, ↓r_canFree e hw Z, ↓r_nearTo e hw Z, ↓r_isIn Z, ↓r_pupilRow Z, ↓r_lessonRow Z, ↓k_bits Z, this]
    · simp (disch := first | assumption | omega) only [↓sm, ↓reduceIte, ↓if_pos, ↓if_neg, kI, kJ, kR, kV, w32_eq, w64_eq, reduceCtorEq, Int.reduceAdd, Int.reduceMul, Int.reduceSub, o_c141, ↓o_g141_0, ↓o_g141_1, ↓o_g141_5, ↓o_g141_6, ↓o_g141_7, ↓o_g141_8, ↓o_g141_9, ↓o_g141_21, ↓o_g141_25, ↓o_g141_26, ↓o_g141_27, ↓o_g141_28, ↓o_g141_29, ↓o_g141_30, ↓o_g141_31, ↓o_g141_34, ↓o_g141_35, ↓o_g141_36, ↓r_pupilAt e hw Z, ↓r_at e, ↓r_atw e, ↓r_cellsOf e hw Z, ↓r_isCell_t e hw Z, ↓r_isCell_f e hw Z, ↓r_isLesson_t e hw Z, ↓r_isLesson_f e hw Z, ↓r_isPupil_t e hw Z, ↓r_isPupil_f e hw Z, ↓r_pupilOf e hw Z, ↓r_needsOf e hw Z, ↓r_catchBy e hw Z, ↓r_catchOf e hw Z, ↓r_isCaught_t e hw Z, ↓r_isCaught_f e hw Z, ↓r_allCaught e hw Z, ↓r_whoIs0 e hw Z, ↓r_whoIs1 e hw Z, ↓r_sideOf e hw Z, ↓r_isNear e hw Z, ↓r_nextLesson e hw Z, ↓r_canFree e hw Z, ↓r_nearTo e hw Z, ↓r_isIn Z, ↓r_pupilRow Z, ↓r_lessonRow Z, ↓k_bits Z]
  · simp (disch := first | assumption | omega) only [↓sm, ↓reduceIte, ↓if_pos, ↓if_neg, kI, kJ, kR, kV, w32_eq, w64_eq, reduceCtorEq, Int.reduceAdd, Int.reduceMul, Int.reduceSub, o_c141, ↓o_g141_0, ↓o_g141_1, ↓o_g141_5, ↓o_g141_6, ↓o_g141_7, ↓o_g141_8, ↓o_g141_9, ↓o_g141_21, ↓o_g141_25, ↓o_g141_26, ↓o_g141_27, ↓o_g141_28, ↓o_g141_29, ↓o_g141_30, ↓o_g141_31, ↓o_g141_34, ↓o_g141_35, ↓o_g141_36, ↓r_pupilAt e hw Z, ↓r_at e, ↓r_atw e, ↓r_cellsOf e hw Z, ↓r_isCell_t e hw Z, ↓r_isCell_f e hw Z, ↓r_isLesson_t e hw Z, ↓r_isLesson_f e hw Z, ↓r_isPupil_t e hw Z, ↓r_isPupil_f e hw Z, ↓r_pupilOf e hw Z, ↓r_needsOf e hw Z, ↓r_catchBy e hw Z, ↓r_catchOf e hw Z, ↓r_isCaught_t e hw Z, ↓r_isCaught_f e hw Z, ↓r_allCaught e hw Z, ↓r_whoIs0 e hw Z, ↓r_whoIs1 e hw Z, ↓r_sideOf e hw Z, ↓r_isNear e hw Z, ↓r_nextLesson e hw Z, ↓r_canFree e hw Z, ↓r_nearTo e hw Z, ↓r_isIn Z, ↓r_pupilRow Z, ↓r_lessonRow Z, ↓k_bits Z]
theorem op_game (Z : mX) (s : mS) (hI : Inv s) (p o n : Int) : OpI Z s 180 344 [.inl p, .inl o, .inl n] := by
  have h := hI.2.2.1.2
  have hw := hI.2.2.1.1
  have nn := wf_n hw
  have w := wf0 hw
  by_cases hp : 0 ≤ p ∧ p < s.2 142 3 ∧ 0 ≤ o ∧ o < s.2 142 3 ∧ p ≠ o
  case neg =>
    refine op_rd hI (-1) 1 (fun f => ?_) (fun t e f => ?_)
    · rw [B_X11_game]
      simp (disch := first | assumption | omega) only [↓sm, ↓reduceIte, ↓if_pos, ↓if_neg, kI, kJ, kR, kV, w32_eq, w64_eq, reduceCtorEq, Int.reduceAdd, Int.reduceMul, Int.reduceSub, o_c3, ↓o_g3_0, ↓o_g3_1, ↓o_g3_2, ↓o_g3_3, ↓o_g3_4, ↓o_g3_5, ↓o_g3_6, ↓o_g3_7, ↓o_g3_8, ↓o_g3_9, ↓o_g3_10, ↓o_g3_11, ↓o_g3_12, ↓o_g3_13, ↓o_g3_14, ↓o_g3_15, ↓o_g3_16, ↓o_g3_17, ↓a_ln4, ↓a_ld4, ↓a_ln61, ↓a_ld61, ↓a_ln62, ↓a_ld62, ↓d_none Z, ↓d_done Z, ↓d_refused Z, ↓d_granted Z, ↓c_areTwo_f h hw Z]
    · rw [B_X12_game]
      simp (disch := first | assumption | omega) only [↓sm, ↓reduceIte, ↓if_pos, ↓if_neg, kI, kJ, kR, kV, w32_eq, w64_eq, reduceCtorEq, Int.reduceAdd, Int.reduceMul, Int.reduceSub, o_c141, ↓d_refuse Z, ↓d_gives Z, ↓d_is0 Z, ↓d_is1 Z, ↓d_isFrom_t Z, ↓d_isFrom_f Z, ↓d_orNone_t Z, ↓d_orNone_f Z, ↓r_areTwo_f e hw Z]
  case pos =>
    obtain ⟨p0, p1, o0, o1, hn⟩ := hp
    by_cases hk : 0 ≤ n ∧ n ≤ 4
    case neg =>
      refine op_rd hI (-1) 1 (fun f => ?_) (fun t e f => ?_)
      · rw [B_X11_game]
        simp (disch := first | assumption | omega) only [↓sm, ↓reduceIte, ↓if_pos, ↓if_neg, kI, kJ, kR, kV, w32_eq, w64_eq, reduceCtorEq, Int.reduceAdd, Int.reduceMul, Int.reduceSub, o_c3, ↓o_g3_0, ↓o_g3_1, ↓o_g3_2, ↓o_g3_3, ↓o_g3_4, ↓o_g3_5, ↓o_g3_6, ↓o_g3_7, ↓o_g3_8, ↓o_g3_9, ↓o_g3_10, ↓o_g3_11, ↓o_g3_12, ↓o_g3_13, ↓o_g3_14, ↓o_g3_15, ↓o_g3_16, ↓o_g3_17, ↓a_ln4, ↓a_ld4, ↓a_ln61, ↓a_ld61, ↓a_ln62, ↓a_ld62, ↓d_none Z, ↓d_done Z, ↓d_refused Z, ↓d_granted Z, ↓c_areTwo_t h hw Z, ↓k_isIn_f Z]
      · rw [B_X12_game]
        simp (disch := first | assumption | omega) only [↓sm, ↓reduceIte, ↓if_pos, ↓if_neg, kI, kJ, kR, kV, w32_eq, w64_eq, reduceCtorEq, Int.reduceAdd, Int.reduceMul, Int.reduceSub, o_c141, ↓d_refuse Z, ↓d_gives Z, ↓d_is0 Z, ↓d_is1 Z, ↓d_isFrom_t Z, ↓d_isFrom_f Z, ↓d_orNone_t Z, ↓d_orNone_f Z, ↓r_areTwo_t e hw Z]
    case pos =>
      have wp := wf_p hw p0 p1
      have wo := wf_p hw o0 o1
      obtain ⟨s', c1, c2, c3⟩ := c_look Z hw p o n p0 p1 o0 o1 hk.1 hk.2 s h
      have h' := CS_72 h c2
      have q := c3 (s.2 142 (74 + 6 * o)) (s.2 142 (74 + 6 * p)) wo.1 wo.2.1 wp.1 wp.2.1
      have kc : ∀ b : Bool, tb (s'.2 72 (s.2 142 (74 + 6 * o))) (s.2 142 (74 + 6 * p)).toNat = b → ∀ f : Int → mW → mO, mm_kI (mm_run (zP Z) 17 [.inr (.inr (some 71)), .inl p, .inl o, .inl n] (mk s)) f = f (b2i b) (mk s') := by
        intro b hb f
        rw [B_X2_isKeptFrom]
        cases b
        · simp (disch := first | assumption | omega) only [↓sm, ↓reduceIte, ↓if_pos, ↓if_neg, kI, kJ, kR, kV, w32_eq, w64_eq, reduceCtorEq, Int.reduceAdd, Int.reduceMul, Int.reduceSub, o_c71, ↓o_g71_0, ↓o_g71_1, ↓o_g71_2, o_c7, ↓o_g7_4, ↓o_g7_5, ↓o_g7_7, ↓o_g7_8, ↓o_g7_9, ↓o_g7_11, ↓o_g7_12, ↓o_g7_13, ↓o_g7_14, ↓o_g7_15, ↓o_g7_16, ↓o_g7_17, ↓c1, ↓q_at h' hw Z, q_at h' hw Z, ↓g_72 Z, ↓k_has Z, hb, b2i, true_or, or_true]
        · simp (disch := first | assumption | omega) only [↓sm, ↓reduceIte, ↓if_pos, ↓if_neg, kI, kJ, kR, kV, w32_eq, w64_eq, reduceCtorEq, Int.reduceAdd, Int.reduceMul, Int.reduceSub, o_c71, ↓o_g71_0, ↓o_g71_1, ↓o_g71_2, o_c7, ↓o_g7_4, ↓o_g7_5, ↓o_g7_7, ↓o_g7_8, ↓o_g7_9, ↓o_g7_11, ↓o_g7_12, ↓o_g7_13, ↓o_g7_14, ↓o_g7_15, ↓o_g7_16, ↓o_g7_17, ↓c1, ↓q_at h' hw Z, q_at h' hw Z, ↓g_72 Z, ↓k_has Z, hb, b2i, true_or, or_true]
      have kr : ∀ t : mS, t.2 142 = s.2 142 → ∃ t', (∀ f : mW → mO, mm_kV (mm_run (zP Z) 342 [.inr (.inr (some 141)), .inl p, .inl o, .inl n] (mk t)) f = f (mk t')) ∧ Ag a155 noF t t' ∧ (t'.2 155 (625 * n + 25 * s.2 142 (74 + 6 * p) + s.2 142 (74 + 6 * o)) ≠ 0 ↔ kpP (s.2 142) p o n.toNat (s.2 142 (74 + 6 * p)) (s.2 142 (74 + 6 * o))) := by
        intro t e
        obtain ⟨t', k1, k2, k3⟩ := r_laysKeeps hw Z p o n p0 p1 o0 o1 hk.1 hk.2 t e
        exact ⟨t', k1, k2, k3 n hk.1 (Int.le_refl n) _ _ wp.1 wp.2.1 wo.1 wo.2.1⟩
      cases hb : tb (s'.2 72 (s.2 142 (74 + 6 * o))) (s.2 142 (74 + 6 * p)).toNat
      · have kc := kc false hb
        refine op_rds hI 0 0 s' (fun f => ?_) (a72_csc c2) (fun t e => ?_)
        · rw [B_X11_game]
          simp (disch := first | assumption | omega) only [↓sm, ↓reduceIte, ↓if_pos, ↓if_neg, kI, kJ, kR, kV, w32_eq, w64_eq, reduceCtorEq, Int.reduceAdd, Int.reduceMul, Int.reduceSub, o_c3, ↓o_g3_0, ↓o_g3_1, ↓o_g3_2, ↓o_g3_3, ↓o_g3_4, ↓o_g3_5, ↓o_g3_6, ↓o_g3_7, ↓o_g3_8, ↓o_g3_9, ↓o_g3_10, ↓o_g3_11, ↓o_g3_12, ↓o_g3_13, ↓o_g3_14, ↓o_g3_15, ↓o_g3_16, ↓o_g3_17, ↓a_ln4, ↓a_ld4, ↓a_ln61, ↓a_ld61, ↓a_ln62, ↓a_ld62, ↓d_none Z, ↓d_done Z, ↓d_refused Z, ↓d_granted Z, ↓c_areTwo_t h hw Z, ↓k_isIn_t Z, o_c71, ↓kc, b2i_0]
        · obtain ⟨t', k1, k2, k3⟩ := kr t e
          have e' : t'.2 142 = s.2 142 := (Ag155_142 k2).trans e
          have hz : t'.2 155 (625 * n + 25 * s.2 142 (74 + 6 * p) + s.2 142 (74 + 6 * o)) = 0 := by
            by_cases hz : t'.2 155 (625 * n + 25 * s.2 142 (74 + 6 * p) + s.2 142 (74 + 6 * o)) = 0
            · exact hz
            · have := q.mpr (k3.mp hz)
              rw [hb] at this
              cases this
          refine ⟨t', fun f => ?_, a155_rsc k2⟩
          rw [B_X12_game]
          simp (disch := first | assumption | omega) only [↓sm, ↓reduceIte, ↓if_pos, ↓if_neg, kI, kJ, kR, kV, w32_eq, w64_eq, reduceCtorEq, Int.reduceAdd, Int.reduceMul, Int.reduceSub, o_c141, ↓o_g141_0, ↓o_g141_1, ↓o_g141_5, ↓o_g141_6, ↓o_g141_7, ↓o_g141_8, ↓o_g141_9, ↓o_g141_21, ↓o_g141_25, ↓o_g141_26, ↓o_g141_27, ↓o_g141_28, ↓o_g141_29, ↓o_g141_30, ↓o_g141_31, ↓o_g141_34, ↓o_g141_35, ↓o_g141_36, ↓d_refuse Z, ↓d_gives Z, ↓d_is0 Z, ↓d_is1 Z, ↓d_isFrom_t Z, ↓d_isFrom_f Z, ↓d_orNone_t Z, ↓d_orNone_f Z, ↓r_areTwo_t e hw Z, ↓k1, ↓r_pupilAt e' hw Z, ↓a_ld155, a_ld155, hz]
      · have kc := kc true hb
        refine op_rds hI 1 0 s' (fun f => ?_) (a72_csc c2) (fun t e => ?_)
        · rw [B_X11_game]
          simp (disch := first | assumption | omega) only [↓sm, ↓reduceIte, ↓if_pos, ↓if_neg, kI, kJ, kR, kV, w32_eq, w64_eq, reduceCtorEq, Int.reduceAdd, Int.reduceMul, Int.reduceSub, o_c3, ↓o_g3_0, ↓o_g3_1, ↓o_g3_2, ↓o_g3_3, ↓o_g3_4, ↓o_g3_5, ↓o_g3_6, ↓o_g3_7, ↓o_g3_8, ↓o_g3_9, ↓o_g3_10, ↓o_g3_11, ↓o_g3_12, ↓o_g3_13, ↓o_g3_14, ↓o_g3_15, ↓o_g3_16, ↓o_g3_17, ↓a_ln4, ↓a_ld4, ↓a_ln61, ↓a_ld61, ↓a_ln62, ↓a_ld62, ↓d_none Z, ↓d_done Z, ↓d_refused Z, ↓d_granted Z, ↓c_areTwo_t h hw Z, ↓k_isIn_t Z, o_c71, ↓kc, b2i_0]
        · obtain ⟨t', k1, k2, k3⟩ := kr t e
          have e' : t'.2 142 = s.2 142 := (Ag155_142 k2).trans e
          have hz := k3.mpr (q.mp hb)
          refine ⟨t', fun f => ?_, a155_rsc k2⟩
          rw [B_X12_game]
          simp (disch := first | assumption | omega) only [↓sm, ↓reduceIte, ↓if_pos, ↓if_neg, kI, kJ, kR, kV, w32_eq, w64_eq, reduceCtorEq, Int.reduceAdd, Int.reduceMul, Int.reduceSub, o_c141, ↓o_g141_0, ↓o_g141_1, ↓o_g141_5, ↓o_g141_6, ↓o_g141_7, ↓o_g141_8, ↓o_g141_9, ↓o_g141_21, ↓o_g141_25, ↓o_g141_26, ↓o_g141_27, ↓o_g141_28, ↓o_g141_29, ↓o_g141_30, ↓o_g141_31, ↓o_g141_34, ↓o_g141_35, ↓o_g141_36, ↓d_refuse Z, ↓d_gives Z, ↓d_is0 Z, ↓d_is1 Z, ↓d_isFrom_t Z, ↓d_isFrom_f Z, ↓d_orNone_t Z, ↓d_orNone_f Z, ↓r_areTwo_t e hw Z, ↓k1, ↓r_pupilAt e' hw Z, ↓a_ld155, a_ld155, hz]
theorem op_moveOf (Z : mX) (s : mS) (hI : Inv s) (p o n : Int) : OpI Z s 181 345 [.inl p, .inl o, .inl n] := by
  have h := hI.2.2.1.2
  have hw := hI.2.2.1.1
  have nn := wf_n hw
  have w := wf0 hw
  by_cases hp : 0 ≤ p ∧ p < s.2 142 3 ∧ 0 ≤ o ∧ o < s.2 142 3 ∧ p ≠ o
  case neg =>
    refine op_rd hI (-1) 1 (fun f => ?_) (fun t e f => ?_)
    · rw [B_X11_moveOf]
      simp (disch := first | assumption | omega) only [↓sm, ↓reduceIte, ↓if_pos, ↓if_neg, kI, kJ, kR, kV, w32_eq, w64_eq, reduceCtorEq, Int.reduceAdd, Int.reduceMul, Int.reduceSub, o_c3, ↓o_g3_0, ↓o_g3_1, ↓o_g3_2, ↓o_g3_3, ↓o_g3_4, ↓o_g3_5, ↓o_g3_6, ↓o_g3_7, ↓o_g3_8, ↓o_g3_9, ↓o_g3_10, ↓o_g3_11, ↓o_g3_12, ↓o_g3_13, ↓o_g3_14, ↓o_g3_15, ↓o_g3_16, ↓o_g3_17, ↓a_ln4, ↓a_ld4, ↓a_ln61, ↓a_ld61, ↓a_ln62, ↓a_ld62, ↓d_none Z, ↓d_done Z, ↓d_refused Z, ↓d_granted Z, ↓c_areTwo_f h hw Z]
    · rw [B_X12_moveOf]
      simp (disch := first | assumption | omega) only [↓sm, ↓reduceIte, ↓if_pos, ↓if_neg, kI, kJ, kR, kV, w32_eq, w64_eq, reduceCtorEq, Int.reduceAdd, Int.reduceMul, Int.reduceSub, o_c141, ↓d_refuse Z, ↓d_gives Z, ↓d_is0 Z, ↓d_is1 Z, ↓d_isFrom_t Z, ↓d_isFrom_f Z, ↓d_orNone_t Z, ↓d_orNone_f Z, ↓r_areTwo_f e hw Z]
  case pos =>
    obtain ⟨p0, p1, o0, o1, hn⟩ := hp
    by_cases hk : 1 ≤ n ∧ n ≤ 4
    case neg =>
      refine op_rd hI (-1) 1 (fun f => ?_) (fun t e f => ?_)
      · rw [B_X11_moveOf]
        simp (disch := first | assumption | omega) only [↓sm, ↓reduceIte, ↓if_pos, ↓if_neg, kI, kJ, kR, kV, w32_eq, w64_eq, reduceCtorEq, Int.reduceAdd, Int.reduceMul, Int.reduceSub, o_c3, ↓o_g3_0, ↓o_g3_1, ↓o_g3_2, ↓o_g3_3, ↓o_g3_4, ↓o_g3_5, ↓o_g3_6, ↓o_g3_7, ↓o_g3_8, ↓o_g3_9, ↓o_g3_10, ↓o_g3_11, ↓o_g3_12, ↓o_g3_13, ↓o_g3_14, ↓o_g3_15, ↓o_g3_16, ↓o_g3_17, ↓a_ln4, ↓a_ld4, ↓a_ln61, ↓a_ld61, ↓a_ln62, ↓a_ld62, ↓d_none Z, ↓d_done Z, ↓d_refused Z, ↓d_granted Z, ↓c_areTwo_t h hw Z, ↓k_isIn_f Z]
      · rw [B_X12_moveOf]
        simp (disch := first | assumption | omega) only [↓sm, ↓reduceIte, ↓if_pos, ↓if_neg, kI, kJ, kR, kV, w32_eq, w64_eq, reduceCtorEq, Int.reduceAdd, Int.reduceMul, Int.reduceSub, o_c141, ↓d_refuse Z, ↓d_gives Z, ↓d_is0 Z, ↓d_is1 Z, ↓d_isFrom_t Z, ↓d_isFrom_f Z, ↓d_orNone_t Z, ↓d_orNone_f Z, ↓r_areTwo_t e hw Z]
    case pos =>
      have wp := wf_p hw p0 p1
      have wo := wf_p hw o0 o1
      have ek : kpP (s.2 142) p o n.toNat (s.2 142 (74 + 6 * p)) (s.2 142 (74 + 6 * o)) ↔ s.2 142 (74 + 6 * p) ≠ s.2 142 (74 + 6 * o) ∧ ∃ k, 0 ≤ k ∧ k ≤ 4 ∧ mg (s.2 142) p (s.2 142 (74 + 6 * p)) k ≠ -1 ∧ safeP (s.2 142) (kpP (s.2 142) p o (n - 1).toNat) o (mg (s.2 142) p (s.2 142 (74 + 6 * p)) k) (s.2 142 (74 + 6 * o)) := by
        rw [show n.toNat = (n - 1).toNat + 1 by omega]
        exact Iff.rfl
      have kr : ∀ t : mS, t.2 142 = s.2 142 → ∃ t', (∀ f : mW → mO, mm_kV (mm_run (zP Z) 342 [.inr (.inr (some 141)), .inl p, .inl o, .inl n] (mk t)) f = f (mk t')) ∧ Ag a155 noF t t' ∧ (t'.2 155 (625 * n + 25 * s.2 142 (74 + 6 * p) + s.2 142 (74 + 6 * o)) ≠ 0 ↔ kpP (s.2 142) p o n.toNat (s.2 142 (74 + 6 * p)) (s.2 142 (74 + 6 * o))) ∧ RK t' (s.2 142) (kpP (s.2 142) p o (n - 1).toNat) (n - 1) := by
        intro t e
        obtain ⟨t', k1, k2, k3⟩ := r_laysKeeps hw Z p o n p0 p1 o0 o1 (by omega) hk.2 t e
        exact ⟨t', k1, k2, k3 n (by omega) (Int.le_refl n) _ _ wp.1 wp.2.1 wo.1 wo.2.1, k3 (n - 1) (by omega) (by omega)⟩
      -- the class's answer
      have kc : ∃ s' v, (∀ f : Int → mW → mO, mm_kI (mm_run (zP Z) 20 [.inr (.inr (some 71)), .inl p, .inl o, .inl n] (mk s)) f = f v (mk s')) ∧ Ag a72 noF s s' ∧ ((v = -1 ∧ ¬ kpP (s.2 142) p o n.toNat (s.2 142 (74 + 6 * p)) (s.2 142 (74 + 6 * o))) ∨ (0 ≤ v ∧ kpP (s.2 142) p o n.toNat (s.2 142 (74 + 6 * p)) (s.2 142 (74 + 6 * o)) ∧ fst5 (fun k => mg (s.2 142) p (s.2 142 (74 + 6 * p)) k ≠ -1 ∧ safeP (s.2 142) (kpP (s.2 142) p o (n - 1).toNat) o (mg (s.2 142) p (s.2 142 (74 + 6 * p)) k) (s.2 142 (74 + 6 * o))) v)) := by
        by_cases hat : s.2 142 (74 + 6 * p) = s.2 142 (74 + 6 * o)
        · refine ⟨s, -1, fun f => ?_, Ag_refl _ _ _, Or.inl ⟨rfl, fun x => kpP_ne x hat⟩⟩
          rw [B_X2_firstMove]
          simp (disch := first | assumption | omega) only [↓sm, ↓reduceIte, ↓if_pos, ↓if_neg, kI, kJ, kR, kV, w32_eq, w64_eq, reduceCtorEq, Int.reduceAdd, Int.reduceMul, Int.reduceSub, o_c71, ↓o_g71_0, ↓o_g71_1, ↓o_g71_2, o_c7, ↓o_g7_4, ↓o_g7_5, ↓o_g7_7, ↓o_g7_8, ↓o_g7_9, ↓o_g7_11, ↓o_g7_12, ↓o_g7_13, ↓o_g7_14, ↓o_g7_15, ↓o_g7_16, ↓o_g7_17, ↓q_at h hw Z, q_at h hw Z, hat]
        · obtain ⟨s', c1, c2, c3⟩ := c_look Z hw p o (n - 1) p0 p1 o0 o1 (by omega) (by omega) s h
          have h' := CS_72 h c2
          obtain ⟨G, g1, g2⟩ := c_good h' hw Z o (s.2 142 (74 + 6 * o)) _ (fun _ _ => kpP_ne) c3 wo.1 wo.2.1
          obtain ⟨v, v1, v2⟩ := lp_firstMove h' hw Z (kpP (s.2 142) p o (n - 1).toNat) p o (s.2 142 (74 + 6 * p)) (s.2 142 (74 + 6 * o)) G p0 p1 wp.1 wp.2.1 g2 0 (by omega) (by omega) (fun k k0 k1 => absurd k1 (by omega))
          refine ⟨s', v, fun f => ?_, c2, ?_⟩
          · rw [B_X2_firstMove]
            simp (disch := first | assumption | omega) only [↓sm, ↓reduceIte, ↓if_pos, ↓if_neg, kI, kJ, kR, kV, w32_eq, w64_eq, reduceCtorEq, Int.reduceAdd, Int.reduceMul, Int.reduceSub, o_c71, ↓o_g71_0, ↓o_g71_1, ↓o_g71_2, o_c7, ↓o_g7_4, ↓o_g7_5, ↓o_g7_7, ↓o_g7_8, ↓o_g7_9, ↓o_g7_11, ↓o_g7_12, ↓o_g7_13, ↓o_g7_14, ↓o_g7_15, ↓o_g7_16, ↓o_g7_17, o_c71, ↓q_at h hw Z, q_at h hw Z, hat, ↓c1, ↓c_chClear h' hw Z, ↓g1, v2]
          · rcases v1 with ⟨y, z⟩ | ⟨y0, y1, y2, y3⟩
            · refine Or.inl ⟨y, fun x => ?_⟩
              obtain ⟨_, k, k0, k1, q⟩ := ek.mp x
              exact z k k0 k1 q
            · exact Or.inr ⟨y0, ek.mpr ⟨hat, v, y0, y1, y2⟩, Or.inr ⟨y0, y1, y2, y3⟩⟩
      obtain ⟨s', v, c1, c2, c3⟩ := kc
      rcases c3 with ⟨hv, hno⟩ | ⟨hv, hyes, hf⟩
      · refine op_rds hI (-1) 6 s' (fun f => ?_) (a72_csc c2) (fun t e => ?_)
        · rw [B_X11_moveOf]
          simp (disch := first | assumption | omega) only [↓sm, ↓reduceIte, ↓if_pos, ↓if_neg, kI, kJ, kR, kV, w32_eq, w64_eq, reduceCtorEq, Int.reduceAdd, Int.reduceMul, Int.reduceSub, o_c3, ↓o_g3_0, ↓o_g3_1, ↓o_g3_2, ↓o_g3_3, ↓o_g3_4, ↓o_g3_5, ↓o_g3_6, ↓o_g3_7, ↓o_g3_8, ↓o_g3_9, ↓o_g3_10, ↓o_g3_11, ↓o_g3_12, ↓o_g3_13, ↓o_g3_14, ↓o_g3_15, ↓o_g3_16, ↓o_g3_17, ↓a_ln4, ↓a_ld4, ↓a_ln61, ↓a_ld61, ↓a_ln62, ↓a_ld62, ↓d_none Z, ↓d_done Z, ↓d_refused Z, ↓d_granted Z, ↓c_areTwo_t h hw Z, ↓k_isIn_t Z, o_c71, ↓c1, hv]
        · obtain ⟨t', k1, k2, k3, k4⟩ := kr t e
          have e' : t'.2 142 = s.2 142 := (Ag155_142 k2).trans e
          have hz : t'.2 155 (625 * n + 25 * s.2 142 (74 + 6 * p) + s.2 142 (74 + 6 * o)) = 0 := by
            by_cases hz : t'.2 155 (625 * n + 25 * s.2 142 (74 + 6 * p) + s.2 142 (74 + 6 * o)) = 0
            · exact hz
            · exact absurd (k3.mp hz) hno
          refine ⟨t', fun f => ?_, a155_rsc k2⟩
          rw [B_X12_moveOf]
          simp (disch := first | assumption | omega) only [↓sm, ↓reduceIte, ↓if_pos, ↓if_neg, kI, kJ, kR, kV, w32_eq, w64_eq, reduceCtorEq, Int.reduceAdd, Int.reduceMul, Int.reduceSub, o_c141, ↓o_g141_0, ↓o_g141_1, ↓o_g141_5, ↓o_g141_6, ↓o_g141_7, ↓o_g141_8, ↓o_g141_9, ↓o_g141_21, ↓o_g141_25, ↓o_g141_26, ↓o_g141_27, ↓o_g141_28, ↓o_g141_29, ↓o_g141_30, ↓o_g141_31, ↓o_g141_34, ↓o_g141_35, ↓o_g141_36, ↓d_refuse Z, ↓d_gives Z, ↓d_is0 Z, ↓d_is1 Z, ↓d_isFrom_t Z, ↓d_isFrom_f Z, ↓d_orNone_t Z, ↓d_orNone_f Z, ↓r_areTwo_t e hw Z, ↓k1, ↓r_pupilAt e' hw Z, ↓a_ld155, a_ld155, hz]
      · refine op_rds hI v 0 s' (fun f => ?_) (a72_csc c2) (fun t e => ?_)
        · rw [B_X11_moveOf]
          simp (disch := first | assumption | omega) only [↓sm, ↓reduceIte, ↓if_pos, ↓if_neg, kI, kJ, kR, kV, w32_eq, w64_eq, reduceCtorEq, Int.reduceAdd, Int.reduceMul, Int.reduceSub, o_c3, ↓o_g3_0, ↓o_g3_1, ↓o_g3_2, ↓o_g3_3, ↓o_g3_4, ↓o_g3_5, ↓o_g3_6, ↓o_g3_7, ↓o_g3_8, ↓o_g3_9, ↓o_g3_10, ↓o_g3_11, ↓o_g3_12, ↓o_g3_13, ↓o_g3_14, ↓o_g3_15, ↓o_g3_16, ↓o_g3_17, ↓a_ln4, ↓a_ld4, ↓a_ln61, ↓a_ld61, ↓a_ln62, ↓a_ld62, ↓d_none Z, ↓d_done Z, ↓d_refused Z, ↓d_granted Z, ↓c_areTwo_t h hw Z, ↓k_isIn_t Z, o_c71, ↓c1]
        · obtain ⟨t', k1, k2, k3, k4⟩ := kr t e
          have e' : t'.2 142 = s.2 142 := (Ag155_142 k2).trans e
          have hz := k3.mpr hyes
          obtain ⟨u, u1, u2⟩ := r_keepsBy e' hw Z (kpP (s.2 142) p o (n - 1).toNat) p o (s.2 142 (74 + 6 * p)) (s.2 142 (74 + 6 * o)) (n - 1) p0 p1 o0 o1 wp.1 wp.2.1 wo.1 wo.2.1 (by omega) (by omega) k4
          have eu : u = v := fst5_u u1 hf
          rw [show n - 1 + 1 = n by omega, eu] at u2
          refine ⟨t', fun f => ?_, a155_rsc k2⟩
          rw [B_X12_moveOf]
          simp (disch := first | assumption | omega) only [↓sm, ↓reduceIte, ↓if_pos, ↓if_neg, kI, kJ, kR, kV, w32_eq, w64_eq, reduceCtorEq, Int.reduceAdd, Int.reduceMul, Int.reduceSub, o_c141, ↓o_g141_0, ↓o_g141_1, ↓o_g141_5, ↓o_g141_6, ↓o_g141_7, ↓o_g141_8, ↓o_g141_9, ↓o_g141_21, ↓o_g141_25, ↓o_g141_26, ↓o_g141_27, ↓o_g141_28, ↓o_g141_29, ↓o_g141_30, ↓o_g141_31, ↓o_g141_34, ↓o_g141_35, ↓o_g141_36, ↓d_refuse Z, ↓d_gives Z, ↓d_is0 Z, ↓d_is1 Z, ↓d_isFrom_t Z, ↓d_isFrom_f Z, ↓d_orNone_t Z, ↓d_orNone_f Z, ↓r_areTwo_t e hw Z, ↓k1, ↓r_pupilAt e' hw Z, ↓a_ld155, a_ld155, hz, ↓u2]
