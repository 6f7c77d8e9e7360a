theorem cu_cmp {Z : mX} {s0 s : mS} {b : Int → Int} {n : Int} {T T' : mT} {S O : Int → Int} {op : Int → Prop} {m cnt dep : Int} (hN : NC Z b n T T') (h : CU s0 b n T S O op m cnt dep s) (hq : tK T = 6 ∧ 60 ≤ tV T ∧ tV T ≤ 62) : ∃ s', (∀ f : Int → mW → mO, mm_kI (mm_run (zP Z) 14 [.inr (.inr (some 53))] (mk s)) f = f 1 (mk s')) ∧ CU s0 b n T' S O op m cnt dep s' ∧ s'.1 53 5 = tV T := by
  obtain ⟨ek, e6, e7, -⟩ := cu_k h
  have e6 := e6 (Or.inr (Or.inr hq.1))
  rw [hq.1] at ek
  obtain ⟨s', a, c, g⟩ := cu_adv hN (cu_53 h (tV T))
  have e5 : (uF s 53 5 (tV T)).1 53 5 = tV T := by rw [uF_1, if_pos ⟨rfl, rfl⟩]
  refine ⟨s', fun f => ?_, c, by rw [g.2 53 5 (by unfold tyF; omega)]; exact e5⟩
  rw [B_X1_takesCompare]
  have hh : tV T = 60 ∨ tV T = 61 ∨ tV T = 62 := by omega
  rcases hh with hh | hh | hh
  · rw [hh] at e6 a
    simp (disch := first | with_reducible assumption | omega) only [↓sm, ↓reduceIte, ↓if_pos, ↓if_neg, kI, kJ, kR, kV, w32_eq, w64_eq, reduceCtorEq, Int.reduceAdd, Int.reduceMul, Int.reduceSub, o_c53, ↓o_g53_0, o_c5, ↓rI5_5 ek, ↓rI5_6 e6, ↓B_X7_isCompare Z, ↓o_p53_5, ↓a]
  · rw [hh] at e6 a
    simp (disch := first | with_reducible assumption | omega) only [↓sm, ↓reduceIte, ↓if_pos, ↓if_neg, kI, kJ, kR, kV, w32_eq, w64_eq, reduceCtorEq, Int.reduceAdd, Int.reduceMul, Int.reduceSub, o_c53, ↓o_g53_0, o_c5, ↓rI5_5 ek, ↓rI5_6 e6, ↓B_X7_isCompare Z, ↓o_p53_5, ↓a]
  · rw [hh] at e6 a
    simp (disch := first | with_reducible assumption | omega) only [↓sm, ↓reduceIte, ↓if_pos, ↓if_neg, kI, kJ, kR, kV, w32_eq, w64_eq, reduceCtorEq, Int.reduceAdd, Int.reduceMul, Int.reduceSub, o_c53, ↓o_g53_0, o_c5, ↓rI5_5 ek, ↓rI5_6 e6, ↓B_X7_isCompare Z, ↓o_p53_5, ↓a]
theorem cu_cmp_f (Z : mX) {s0 s : mS} {b : Int → Int} {n : Int} {T : mT} {S O : Int → Int} {op : Int → Prop} {m cnt dep : Int} (h : CU s0 b n T S O op m cnt dep s) (hq : ¬ (tK T = 6 ∧ 60 ≤ tV T ∧ tV T ≤ 62)) : ∃ s', (∀ f : Int → mW → mO, mm_kI (mm_run (zP Z) 14 [.inr (.inr (some 53))] (mk s)) f = f 0 (mk s')) ∧ CFl s0 (fkd T) (tF T) s' := by
  obtain ⟨ek, e6, -⟩ := cu_k h
  obtain ⟨s', a, c⟩ := cu_strays Z h
  refine ⟨s', fun f => ?_, c⟩
  rw [B_X1_takesCompare]
  by_cases h2 : tK T = 6
  · have e6 := e6 (Or.inr (Or.inr h2))
    rw [h2] at ek
    have h4 : ¬ (60 ≤ tV T ∧ tV T ≤ 62) := fun x => hq ⟨h2, x⟩
    have n0 : ¬ tV T = 60 := by omega
    have n1 : ¬ tV T = 61 := by omega
    have n2 : ¬ tV T = 62 := by omega
    simp (disch := first | with_reducible assumption | omega) only [↓sm, ↓reduceIte, ↓if_pos, ↓if_neg, kI, kJ, kR, kV, w32_eq, w64_eq, reduceCtorEq, Int.reduceAdd, Int.reduceMul, Int.reduceSub, ↓o_g53_0, o_c5, ↓rI5_5 ek, ↓rI5_6 e6, ↓B_X7_isCompare Z, ↓a]
  · simp (disch := first | with_reducible assumption | omega) only [↓sm, ↓reduceIte, ↓if_pos, ↓if_neg, kI, kJ, kR, kV, w32_eq, w64_eq, reduceCtorEq, Int.reduceAdd, Int.reduceMul, Int.reduceSub, ↓o_g53_0, o_c5, ↓rI5_5 ek, ↓a]
/-! a step added, an end added -/
def adU (s : mS) (m v1 v2 v3 v4 : Int) : mS := uF (uF (uA (uA (uA (uA s 55 m v1) 56 m v2) 57 m v3) 58 m v4) 54 1 (s.1 54 1 + 1)) 54 2 (m + 1)
theorem adU_55 (s : mS) (m v1 v2 v3 v4 : Int) : (adU s m v1 v2 v3 v4).2 55 = mm_upd (s.2 55) m v1 := by
  unfold adU
  rw [uF_2, uF_2, uA_n _ (by decide), uA_n _ (by decide), uA_n _ (by decide), uA_s]
theorem adU_56 (s : mS) (m v1 v2 v3 v4 : Int) : (adU s m v1 v2 v3 v4).2 56 = mm_upd (s.2 56) m v2 := by
  unfold adU
  rw [uF_2, uF_2, uA_n _ (by decide), uA_n _ (by decide), uA_s, uA_n _ (by decide)]
theorem adU_57 (s : mS) (m v1 v2 v3 v4 : Int) : (adU s m v1 v2 v3 v4).2 57 = mm_upd (s.2 57) m v3 := by
  unfold adU
  rw [uF_2, uF_2, uA_n _ (by decide), uA_s, uA_n _ (by decide), uA_n _ (by decide)]
theorem adU_58 (s : mS) (m v1 v2 v3 v4 : Int) : (adU s m v1 v2 v3 v4).2 58 = mm_upd (s.2 58) m v4 := by
  unfold adU
  rw [uF_2, uF_2, uA_s, uA_n _ (by decide), uA_n _ (by decide), uA_n _ (by decide)]
theorem adU_n (s : mS) (m v1 v2 v3 v4 : Int) {q : Nat} (h : q < 55 ∨ 58 < q) : (adU s m v1 v2 v3 v4).2 q = s.2 q := by
  unfold adU
  rw [uF_2, uF_2, uA_n _ (by omega), uA_n _ (by omega), uA_n _ (by omega), uA_n _ (by omega)]
theorem adU_f (s : mS) (m v1 v2 v3 v4 : Int) {q k : Nat} (h : q ≠ 54 ∨ k = 0) : (adU s m v1 v2 v3 v4).1 q k = s.1 q k := by
  unfold adU
  rw [uF_1, if_neg (by omega), uF_1, if_neg (by omega)]
  rfl
theorem c_addStep (Z : mX) (s : mS) {m : Int} (hm : s.1 54 2 = m) (m0 : 0 ≤ m) (m1 : m < 60) (c0 : 0 ≤ s.1 54 1) (c1 : s.1 54 1 ≤ 30) (v1 v2 v3 v4 : Int) (f : mW → mO) : mm_kV (mm_run (zP Z) 3 [.inr (.inr (some 54)), .inl v1, .inl v2, .inl v3, .inl v4] (mk s)) f = f (mk (adU s m v1 v2 v3 v4)) := by
  have w1 : mm_w32 (s.1 54 1 + 1) = s.1 54 1 + 1 := w32_eq (by omega) (by omega)
  have w2 : mm_w32 (m + 1) = m + 1 := w32_eq (by omega) (by omega)
  have r0 : ∀ u : mS, u.1 54 2 = m → ∀ f : Int → mO, (mm_gI (mk u) 54 0 2).bind f = f m := fun u h f => rI54_2 h f
  have p1 : ∀ f : mW → mO, mm_kV (mm_run (zP Z) 200 [.inr (.inr (some 55)), .inl m, .inl v1] (mk s)) f = f (mk (uA s 55 m v1)) := fun f => k_put Z _ (q := 55) (n := 60) rfl m v1 m0 m1 f
  have p2 : ∀ f : mW → mO, mm_kV (mm_run (zP Z) 200 [.inr (.inr (some 56)), .inl m, .inl v2] (mk (uA s 55 m v1))) f = f (mk (uA (uA s 55 m v1) 56 m v2)) := fun f => k_put Z _ (q := 56) (n := 60) rfl m v2 m0 m1 f
  have p3 : ∀ f : mW → mO, mm_kV (mm_run (zP Z) 200 [.inr (.inr (some 57)), .inl m, .inl v3] (mk (uA (uA s 55 m v1) 56 m v2))) f = f (mk (uA (uA (uA s 55 m v1) 56 m v2) 57 m v3)) := fun f => k_put Z _ (q := 57) (n := 60) rfl m v3 m0 m1 f
  have p4 : ∀ f : mW → mO, mm_kV (mm_run (zP Z) 200 [.inr (.inr (some 58)), .inl m, .inl v4] (mk (uA (uA (uA s 55 m v1) 56 m v2) 57 m v3))) f = f (mk (uA (uA (uA (uA s 55 m v1) 56 m v2) 57 m v3) 58 m v4)) := fun f => k_put Z _ (q := 58) (n := 60) rfl m v4 m0 m1 f
  have e1 : (uA (uA (uA (uA s 55 m v1) 56 m v2) 57 m v3) 58 m v4).1 54 1 = s.1 54 1 := rfl
  have e2 : (uF (uA (uA (uA (uA s 55 m v1) 56 m v2) 57 m v3) 58 m v4) 54 1 (s.1 54 1 + 1)).1 54 2 = m := by rw [uF_1, if_neg (by omega)]; exact hm
  rw [B_X0_addStep]
  simp (disch := first | with_reducible assumption | omega) only [↓sm, ↓reduceIte, ↓if_pos, ↓if_neg, kI, kJ, kR, kV, w32_eq, w64_eq, reduceCtorEq, Int.reduceAdd, Int.reduceMul, Int.reduceSub, o_c54, ↓o_g54_3, ↓o_g54_4, ↓o_g54_5, ↓o_g54_6, ↓rI54_2 hm, ↓p1, ↓r0 (uA s 55 m v1) hm, ↓p2, ↓r0 (uA (uA s 55 m v1) 56 m v2) hm, ↓p3, ↓r0 (uA (uA (uA s 55 m v1) 56 m v2) 57 m v3) hm, ↓p4, ↓rI54_1 e1, w1, ↓o_p54_1, ↓rI54_2 e2, w2, ↓o_p54_2]
  rfl
theorem AC_add {s s' : mS} {S S' : Int → Int} {m : Int} {op op' : Int → Prop} (h : AC s 54 S m op) (e : ∀ j, j < 104 + 6 * m → S' j = S j) (ho : ∀ i, op i → op' i) {v1 v2 v3 v4 : Int} (h55 : s'.2 55 = mm_upd (s.2 55) m v1) (h56 : s'.2 56 = mm_upd (s.2 56) m v2) (h57 : s'.2 57 = mm_upd (s.2 57) m v3) (h58 : s'.2 58 = mm_upd (s.2 58) m v4) (h59 : s'.2 59 = s.2 59)
    (g1 : v1 = wmap (S' (104 + 6 * m))) (g2 : v2 = S' (104 + 6 * m + 1)) (g3 : S' (104 + 6 * m) = 16 ∨ S' (104 + 6 * m) = 17 → v3 = S' (104 + 6 * m + 2)) (g4 : 2200 ≤ S' (104 + 6 * m) → v3 = S' (104 + 6 * m + 5) ∧ v4 = S' (104 + 6 * m + 2)) (g5 : S' (104 + 6 * m) ≠ 24) (g6 : op' m) : AC s' 54 S' (m + 1) op' := by
  intro i i0 i1
  rw [show (54 : Nat) + 1 = 55 from rfl, show (54 : Nat) + 2 = 56 from rfl, show (54 : Nat) + 3 = 57 from rfl, show (54 : Nat) + 4 = 58 from rfl, show (54 : Nat) + 5 = 59 from rfl, h55, h56, h57, h58, h59]
  by_cases hi : i = m
  · subst hi
    rw [up_eq rfl, up_eq rfl, up_eq rfl, up_eq rfl]
    exact ⟨g1, fun _ => g2, g3, g4, fun x => x.elim (fun y => absurd y g5) (fun y => absurd g6 y.2)⟩
  · obtain ⟨a, b, c, d, f⟩ := h i i0 (by omega)
    rw [up_ne hi, up_ne hi, up_ne hi, up_ne hi, e _ (by omega), e _ (by omega), e _ (by omega), e _ (by omega), e _ (by omega)]
    exact ⟨a, b, c, d, fun x => f (x.elim Or.inl (fun y => Or.inr ⟨y.1, fun z => y.2 (ho i z)⟩))⟩
theorem cu_add {s0 s : mS} {b : Int → Int} {n : Int} {T : mT} {S S' O : Int → Int} {op op' : Int → Prop} {m cnt dep : Int} (h : CU s0 b n T S O op m cnt dep s) (m0 : 0 ≤ m) (m1 : m < 60) (c0 : 0 ≤ cnt) (c1 : cnt ≤ 30) (e : ∀ j, j < 104 + 6 * m → S' j = S j) (ho : ∀ i, op i → op' i) {v1 v2 v3 v4 : Int}
    (g1 : v1 = wmap (S' (104 + 6 * m))) (g2 : v2 = S' (104 + 6 * m + 1)) (g3 : S' (104 + 6 * m) = 16 ∨ S' (104 + 6 * m) = 17 → v3 = S' (104 + 6 * m + 2)) (g4 : 2200 ≤ S' (104 + 6 * m) → v3 = S' (104 + 6 * m + 5) ∧ v4 = S' (104 + 6 * m + 2)) (g5 : S' (104 + 6 * m) ≠ 24) (g6 : op' m) (Z : mX) :
    ∃ s', (∀ f : mW → mO, mm_kV (mm_run (zP Z) 3 [.inr (.inr (some 54)), .inl v1, .inl v2, .inl v3, .inl v4] (mk s)) f = f (mk s')) ∧ CU s0 b n T S' O op' (m + 1) (cnt + 1) dep s' := by
  obtain ⟨h1, h2, h3, h4, h5, h6, h7, h8⟩ := h
  refine ⟨adU s m v1 v2 v3 v4, fun f => c_addStep Z s h4 m0 m1 (by omega) (by omega) v1 v2 v3 v4 f, CT_fr h1 (fun k _ => adU_f _ _ _ _ _ _ (Or.inl (by omega))) (adU_n _ _ _ _ _ _ (by omega)), (adU_f _ _ _ _ _ _ (Or.inr rfl)).trans h2, ?_, ?_, (adU_f _ _ _ _ _ _ (Or.inl (by omega))).trans h5, ?_, fun k k0 k1 => ?_, ?_⟩
  · unfold adU
    rw [uF_1, if_neg (by omega), uF_1, if_pos ⟨rfl, rfl⟩, h3]
  · unfold adU
    rw [uF_1, if_pos ⟨rfl, rfl⟩]
  · exact AC_add h6 e ho (adU_55 s m v1 v2 v3 v4) (adU_56 s m v1 v2 v3 v4) (adU_57 s m v1 v2 v3 v4) (adU_58 s m v1 v2 v3 v4) (adU_n _ _ _ _ _ _ (by omega)) g1 g2 g3 g4 g5 g6
  · rw [adU_n _ _ _ _ _ _ (by omega)]; exact h7 k k0 k1
  · unfold adU
    exact Ag_uF (F := pcG) (Ag_uF (F := pcG) (Ag_uA (Ag_uA (Ag_uA (Ag_uA h8 (by unfold pcA; omega) _ _) (by unfold pcA; omega) _ _) (by unfold pcA; omega) _ _) (by unfold pcA; omega) _ _) (by unfold pcG; omega) _) (by unfold pcG; omega) _
