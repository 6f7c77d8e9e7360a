/-! the same in the reference; game, moveOf -/
theorem r_mayGo {s : mS} {S : Int → Int} (e : s.2 142 = S) (hw : WF S) (Z : mX) (p c k : Int) (p0 : 0 ≤ p) (p1 : p < S 3) (c0 : 0 ≤ c) (c1 : c < ncl S) (k0 : 0 ≤ k) (k1 : k ≤ 4) (f : Int → mW → mO) : mm_kI (mm_run (zP Z) 339 [.inr (.inr (some 141)), .inl p, .inl c, .inl k] (mk s)) f = f (mg S p c k) (mk s) := by
  have nn := wf_n hw
  rw [B_X12_mayGo]
  unfold mg
  by_cases h4 : k = 4
  · simp (disch := first | assumption | omega) only [↓sm, ↓reduceIte, ↓if_pos, ↓if_neg, kI, kJ, kR, kV, w32_eq, w64_eq, reduceCtorEq, Int.reduceAdd, Int.reduceMul, Int.reduceSub, h4]
  · by_cases hs : sd S c k = -1
    · simp (disch := first | assumption | omega) only [↓sm, ↓reduceIte, ↓if_pos, ↓if_neg, kI, kJ, kR, kV, w32_eq, w64_eq, reduceCtorEq, Int.reduceAdd, Int.reduceMul, Int.reduceSub, o_c141, h4, ↓r_sideOf e hw Z, hs]
    · have r := sd_r hw c0 c1 k0 (by omega) hs
      cases hK : Kc S p (sd S c k)
      · simp (disch := first | assumption | omega) only [↓sm, ↓reduceIte, ↓if_pos, ↓if_neg, kI, kJ, kR, kV, w32_eq, w64_eq, reduceCtorEq, Int.reduceAdd, Int.reduceMul, Int.reduceSub, o_c141, h4, ↓r_sideOf e hw Z, hs, ↓r_isClear_f e hw Z p (sd S c k) p0 p1 r.1 (by omega) hK, Bool.false_eq_true]
      · simp (disch := first | assumption | omega) only [↓sm, ↓reduceIte, ↓if_pos, ↓if_neg, kI, kJ, kR, kV, w32_eq, w64_eq, reduceCtorEq, Int.reduceAdd, Int.reduceMul, Int.reduceSub, o_c141, h4, ↓r_sideOf e hw Z, hs, ↓r_isClear_t e hw Z p (sd S c k) p0 p1 r.1 (by omega) hK]
def RK (s : mS) (S : Int → Int) (K : Int → Int → Prop) (n : Int) : Prop := ∀ h t : Int, 0 ≤ h → h < ncl S → 0 ≤ t → t < ncl S → (s.2 155 (625 * n + 25 * h + t) ≠ 0 ↔ K h t)
theorem lp_isSafe {s : mS} {S : Int → Int} (e : s.2 142 = S) (hw : WF S) (Z : mX) (K : Int → Int → Prop) (o h t n : Int) (o0 : 0 ≤ o) (o1 : o < S 3) (h0 : 0 ≤ h) (h1 : h < ncl S) (t0 : 0 ≤ t) (t1 : t < ncl S) (n0 : 0 ≤ n) (n1 : n ≤ 4) (hK : RK s S K n) : ∀ i : Int, i ≤ 5 → ∀ b : Int, 0 ≤ i → (b = 0 ∨ b = 1) →
    ∃ v, (v = 0 ∨ v = 1) ∧ (v ≠ 0 ↔ b ≠ 0 ∧ ∀ k, i ≤ k → k ≤ 4 → mg S o t k ≠ -1 → K h (mg S o t k)) ∧ mm_at (zP Z) 340 9 [some (.inr (.inr (some 141))), some (.inl o), some (.inl h), some (.inl t), some (.inl n), some (.inl b), some (.inl i), none] [] (mk s) = some (some (.inl v), mk s) := by
  have nn := wf_n hw
  refine up ?_ ?_
  · intro b i0 hb
    refine ⟨b, hb, ⟨fun x => ⟨x, fun k k0 k1 => absurd k1 (by omega)⟩, fun x => x.1⟩, ?_⟩
    rw [B_X12_isSafe_9]
    simp (disch := first | assumption | omega) only [↓sm, ↓reduceIte, ↓if_pos, ↓if_neg, kI, kJ, kR, kV, w32_eq, w64_eq, reduceCtorEq, Int.reduceAdd, Int.reduceMul, Int.reduceSub, hb]
  · intro i hi ih b i0 hb
    by_cases hm : mg S o t i = -1
    · obtain ⟨v, g1, g2, g3⟩ := ih b (by omega) hb
      refine ⟨v, g1, ?_, ?_⟩
      · rw [g2]
        refine ⟨fun x => ⟨x.1, fun k k0 k1 hk => ?_⟩, fun x => ⟨x.1, fun k k0 k1 hk => x.2 k (by omega) k1 hk⟩⟩
        by_cases ek : k = i
        · rw [ek] at hk; exact absurd hm hk
        · exact x.2 k (by omega) k1 hk
      · rw [B_X12_isSafe_9]
        simp (disch := first | assumption | omega) only [↓sm, ↓reduceIte, ↓if_pos, ↓if_neg, kI, kJ, kR, kV, w32_eq, w64_eq, reduceCtorEq, Int.reduceAdd, Int.reduceMul, Int.reduceSub, o_c141, ↓r_mayGo e hw Z, hm, g3]
    · have r := mg_r hw t0 t1 i0 (by omega) hm
      have q := hK h (mg S o t i) h0 h1 r.1 r.2
      by_cases hz : s.2 155 (625 * n + 25 * h + mg S o t i) = 0
      · obtain ⟨v, g1, g2, g3⟩ := ih 0 (by omega) (Or.inl rfl)
        refine ⟨v, g1, ?_, ?_⟩
        · rw [g2]
          refine ⟨fun x => absurd rfl x.1, fun x => ?_⟩
          exact absurd hz (q.mpr (x.2 i (Int.le_refl i) (by omega) hm))
        · rw [B_X12_isSafe_9]
          simp (disch := first | assumption | omega) only [↓sm, ↓reduceIte, ↓if_pos, ↓if_neg, kI, kJ, kR, kV, w32_eq, w64_eq, reduceCtorEq, Int.reduceAdd, Int.reduceMul, Int.reduceSub, o_c141, ↓o_g141_0, ↓o_g141_1, ↓o_g141_5, ↓o_g141_6, ↓o_g141_7, ↓o_g141_8, ↓o_g141_9, ↓o_g141_21, ↓o_g141_25, ↓o_g141_26, ↓o_g141_27, ↓o_g141_28, ↓o_g141_29, ↓o_g141_30, ↓o_g141_31, ↓o_g141_34, ↓o_g141_35, ↓o_g141_36, ↓r_mayGo e hw Z, hm, ↓a_ld155, a_ld155, hz, g3]
      · obtain ⟨v, g1, g2, g3⟩ := ih b (by omega) hb
        refine ⟨v, g1, ?_, ?_⟩
        · rw [g2]
          refine ⟨fun x => ⟨x.1, fun k k0 k1 hk => ?_⟩, fun x => ⟨x.1, fun k k0 k1 hk => x.2 k (by omega) k1 hk⟩⟩
          by_cases ek : k = i
          · rw [ek]; exact q.mp hz
          · exact x.2 k (by omega) k1 hk
        · rw [B_X12_isSafe_9]
          simp (disch := first | assumption | omega) only [↓sm, ↓reduceIte, ↓if_pos, ↓if_neg, kI, kJ, kR, kV, w32_eq, w64_eq, reduceCtorEq, Int.reduceAdd, Int.reduceMul, Int.reduceSub, o_c141, ↓o_g141_0, ↓o_g141_1, ↓o_g141_5, ↓o_g141_6, ↓o_g141_7, ↓o_g141_8, ↓o_g141_9, ↓o_g141_21, ↓o_g141_25, ↓o_g141_26, ↓o_g141_27, ↓o_g141_28, ↓o_g141_29, ↓o_g141_30, ↓o_g141_31, ↓o_g141_34, ↓o_g141_35, ↓o_g141_36, ↓r_mayGo e hw Z, hm, ↓a_ld155, a_ld155, hz, g3]
theorem r_isSafe {s : mS} {S : Int → Int} (e : s.2 142 = S) (hw : WF S) (Z : mX) (K : Int → Int → Prop) (o h t n : Int) (o0 : 0 ≤ o) (o1 : o < S 3) (h0 : 0 ≤ h) (h1 : h < ncl S) (t0 : 0 ≤ t) (t1 : t < ncl S) (n0 : 0 ≤ n) (n1 : n ≤ 4) (hK : RK s S K n) :
    ∃ v, (v ≠ 0 ↔ safeP S K o h t) ∧ ∀ f : Int → mW → mO, mm_kI (mm_run (zP Z) 340 [.inr (.inr (some 141)), .inl o, .inl h, .inl t, .inl n] (mk s)) f = f v (mk s) := by
  by_cases ht : h = t
  · refine ⟨0, ⟨fun x => absurd rfl x, fun x => absurd ht x.1⟩, fun f => ?_⟩
    rw [B_X12_isSafe]
    simp (disch := first | assumption | omega) only [↓sm, ↓reduceIte, ↓if_pos, ↓if_neg, kI, kJ, kR, kV, w32_eq, w64_eq, reduceCtorEq, Int.reduceAdd, Int.reduceMul, Int.reduceSub, ht]
  · obtain ⟨v, g1, g2, g3⟩ := lp_isSafe e hw Z K o h t n o0 o1 h0 h1 t0 t1 n0 n1 hK 0 (by omega) 1 (by omega) (Or.inr rfl)
    refine ⟨v, ?_, fun f => ?_⟩
    · rw [g2]
      exact ⟨fun x => ⟨ht, x.2⟩, fun x => ⟨by omega, x.2⟩⟩
    · rw [B_X12_isSafe]
      simp (disch := first | assumption | omega) only [↓sm, ↓reduceIte, ↓if_pos, ↓if_neg, kI, kJ, kR, kV, w32_eq, w64_eq, reduceCtorEq, Int.reduceAdd, Int.reduceMul, Int.reduceSub, ht, g3]
def fst5 (Q : Int → Prop) (v : Int) : Prop := (v = -1 ∧ ∀ k, 0 ≤ k → k ≤ 4 → ¬ Q k) ∨ (0 ≤ v ∧ v ≤ 4 ∧ Q v ∧ ∀ k, 0 ≤ k → k < v → ¬ Q k)
theorem fst5_u {Q : Int → Prop} {v v' : Int} (h : fst5 Q v) (h' : fst5 Q v') : v = v' := by
  rcases h with ⟨e, n⟩ | ⟨a, b, c, d⟩
  · rcases h' with ⟨e', n'⟩ | ⟨a', b', c', d'⟩
    · omega
    · exact absurd c' (n _ a' b')
  · rcases h' with ⟨e', n'⟩ | ⟨a', b', c', d'⟩
    · exact absurd c (n' _ a b)
    · by_cases h1 : v < v'
      · exact absurd c (d' _ a h1)
      · by_cases h2 : v' < v
        · exact absurd c' (d _ a' h2)
        · omega
theorem lp_keepsBy {s : mS} {S : Int → Int} (e : s.2 142 = S) (hw : WF S) (Z : mX) (K : Int → Int → Prop) (p o h t n : Int) (p0 : 0 ≤ p) (p1 : p < S 3) (o0 : 0 ≤ o) (o1 : o < S 3) (h0 : 0 ≤ h) (h1 : h < ncl S) (t0 : 0 ≤ t) (t1 : t < ncl S) (n0 : 0 ≤ n) (n1 : n ≤ 3) (hK : RK s S K n) : ∀ i : Int, i ≤ 5 → 0 ≤ i → (∀ k, 0 ≤ k → k < i → ¬ (mg S p h k ≠ -1 ∧ safeP S K o (mg S p h k) t)) →
    ∃ v, fst5 (fun k => mg S p h k ≠ -1 ∧ safeP S K o (mg S p h k) t) v ∧ mm_at (zP Z) 341 2 [some (.inr (.inr (some 141))), some (.inl p), some (.inl o), some (.inl h), some (.inl t), some (.inl ((n + 1))), some (.inl i), none] [] (mk s) = some (some (.inl v), mk s) := by
  have nn := wf_n hw
  refine up ?_ ?_
  · intro i0 hb
    refine ⟨-1, Or.inl ⟨rfl, fun k k0 k1 => hb k k0 (by omega)⟩, ?_⟩
    rw [B_X12_keepsBy_2]
    simp (disch := first | assumption | omega) only [↓sm, ↓reduceIte, ↓if_pos, ↓if_neg, kI, kJ, kR, kV, w32_eq, w64_eq, reduceCtorEq, Int.reduceAdd, Int.reduceMul, Int.reduceSub]
  · intro i hi ih i0 hb
    by_cases hm : mg S p h i = -1
    · obtain ⟨v, g1, g2⟩ := ih (by omega) (fun k k0 k1 => by
        by_cases ek : k = i
        · rw [ek]; exact fun x => x.1 hm
        · exact hb k k0 (by omega))
      refine ⟨v, g1, ?_⟩
      rw [B_X12_keepsBy_2]
      simp (disch := first | assumption | omega) only [↓sm, ↓reduceIte, ↓if_pos, ↓if_neg, kI, kJ, kR, kV, w32_eq, w64_eq, reduceCtorEq, Int.reduceAdd, Int.reduceMul, Int.reduceSub, o_c141, ↓r_mayGo e hw Z, hm, g2]
    · have r := mg_r hw h0 h1 i0 (by omega) hm
      obtain ⟨u, u1, u2⟩ := r_isSafe e hw Z K o (mg S p h i) t n o0 o1 r.1 r.2 t0 t1 n0 (by omega) hK
      have en : n + 1 - 1 = n := by omega
      by_cases hu : u = 0
      · obtain ⟨v, g1, g2⟩ := ih (by omega) (fun k k0 k1 => by
          by_cases ek : k = i
          · rw [ek]; exact fun x => u1.mpr x.2 hu
          · exact hb k k0 (by omega))
        refine ⟨v, g1, ?_⟩
        rw [B_X12_keepsBy_2]
        simp (disch := first | assumption | omega) only [↓sm, ↓reduceIte, ↓if_pos, ↓if_neg, kI, kJ, kR, kV, w32_eq, w64_eq, reduceCtorEq, Int.reduceAdd, Int.reduceMul, Int.reduceSub, o_c141, ↓r_mayGo e hw Z, hm, en, ↓u2, hu, g2]
      · refine ⟨i, Or.inr ⟨i0, by omega, ⟨hm, u1.mp hu⟩, hb⟩, ?_⟩
        rw [B_X12_keepsBy_2]
        simp (disch := first | assumption | omega) only [↓sm, ↓reduceIte, ↓if_pos, ↓if_neg, kI, kJ, kR, kV, w32_eq, w64_eq, reduceCtorEq, Int.reduceAdd, Int.reduceMul, Int.reduceSub, o_c141, ↓r_mayGo e hw Z, hm, en, ↓u2, hu]
theorem r_keepsBy {s : mS} {S : Int → Int} (e : s.2 142 = S) (hw : WF S) (Z : mX) (K : Int → Int → Prop) (p o h t n : Int) (p0 : 0 ≤ p) (p1 : p < S 3) (o0 : 0 ≤ o) (o1 : o < S 3) (h0 : 0 ≤ h) (h1 : h < ncl S) (t0 : 0 ≤ t) (t1 : t < ncl S) (n0 : 0 ≤ n) (n1 : n ≤ 3) (hK : RK s S K n) :
    ∃ v, fst5 (fun k => mg S p h k ≠ -1 ∧ safeP S K o (mg S p h k) t) v ∧ ∀ f : Int → mW → mO, mm_kI (mm_run (zP Z) 341 [.inr (.inr (some 141)), .inl p, .inl o, .inl h, .inl t, .inl ((n + 1))] (mk s)) f = f v (mk s) := by
  obtain ⟨v, g1, g2⟩ := lp_keepsBy e hw Z K p o h t n p0 p1 o0 o1 h0 h1 t0 t1 n0 n1 hK 0 (by omega) (by omega) (fun k k0 k1 => absurd k1 (by omega))
  refine ⟨v, g1, fun f => ?_⟩
  rw [B_X12_keepsBy, g2, kI]
