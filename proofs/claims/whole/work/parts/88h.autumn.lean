/-! where the reading of autumns stands: the class, the reference -/
def mixS (G0 G : Int → Int) : Int → Int := fun j => if j < 104 then G0 j else G (1888 + j)
theorem mixS_hi {G0 G : Int → Int} {j : Int} (h : 104 ≤ j) : mixS G0 G j = G (1888 + j) := if_neg (by omega)
theorem mixS_lo {G0 G : Int → Int} {j : Int} (h : j < 104) : mixS G0 G j = G0 j := if_pos h
theorem mixS_r {G0 G : Int → Int} {m k : Int} (m0 : 0 ≤ m) (k0 : 0 ≤ k) : mixS G0 G (104 + 6 * m + k) = G (1992 + 6 * m + k) := by
  rw [mixS_hi (by omega)]
  exact congrArg G (by omega)
theorem mixS_r0 {G0 G : Int → Int} {m : Int} (m0 : 0 ≤ m) : mixS G0 G (104 + 6 * m) = G (1992 + 6 * m) := by
  rw [mixS_hi (by omega)]
  exact congrArg G (by omega)
theorem mixS_e {G0 G G' : Int → Int} {k : Int} (h : ∀ j, 1992 ≤ j → j < 1888 + k → G' j = G j) : ∀ j, j < k → mixS G0 G' j = mixS G0 G j := fun j hj => by
  by_cases h1 : j < 104
  · rw [mixS_lo h1, mixS_lo h1]
  · rw [mixS_hi (by omega), mixS_hi (by omega)]
    exact h _ (by omega) (by omega)
def CU (s0 : mS) (b : Int → Int) (n : Int) (T : mT) (S O : Int → Int) (op : Int → Prop) (m cnt dep : Int) (s : mS) : Prop :=
  CT b n T s ∧ s.1 54 0 = 1 ∧ s.1 54 1 = cnt ∧ s.1 54 2 = m ∧ s.1 53 4 = dep ∧ AC s 54 S m op ∧ (∀ k, 0 ≤ k → k < dep → s.2 60 k = O k) ∧ Ag pcA pcG s0 s
def RU (t0 : mS) (b : Int → Int) (n : Int) (T : mT) (G H O : Int → Int) (m cnt dep : Int) (t : mS) : Prop :=
  RT1 b n T t ∧ t.2 142 = G ∧ t.2 143 = H ∧ t.1 141 18 = 0 ∧ t.1 141 22 = dep ∧ t.1 141 23 = cnt ∧ G 1895 = m ∧ (∀ k, 0 ≤ k → k < dep → t.2 149 k = O k) ∧ Ag prA prG t0 t
theorem AC_S {s s' : mS} {S S' : Int → Int} {m : Int} {op op' : Int → Prop} (h : AC s 54 S m op) (e : ∀ j, j < 104 + 6 * m → S' j = S j) (ho : ∀ i, 0 ≤ i → i < m → opn (S' (104 + 6 * i)) → op i → op' i) (h1 : ∀ q, 55 ≤ q → q ≤ 59 → s'.2 q = s.2 q) : AC s' 54 S' m op' := by
  intro i i0 i1
  obtain ⟨a, b, c, d, f⟩ := h i i0 i1
  rw [e _ (by omega), e _ (by omega), e _ (by omega), e _ (by omega), e _ (by omega), h1 _ (by omega) (by omega), h1 _ (by omega) (by omega), h1 _ (by omega) (by omega), h1 _ (by omega) (by omega), h1 _ (by omega) (by omega)]
  refine ⟨a, b, c, d, fun x => f ?_⟩
  rcases x with x | ⟨x1, x2⟩
  · exact Or.inl x
  · exact Or.inr ⟨x1, fun y => x2 (ho i i0 i1 (by rw [e _ (by omega)]; exact x1) y)⟩
theorem cu_S {s0 s : mS} {b : Int → Int} {n : Int} {T : mT} {S S' O : Int → Int} {op op' : Int → Prop} {m cnt dep : Int} (h : CU s0 b n T S O op m cnt dep s) (e : ∀ j, j < 104 + 6 * m → S' j = S j) (ho : ∀ i, 0 ≤ i → i < m → opn (S' (104 + 6 * i)) → op i → op' i) : CU s0 b n T S' O op' m cnt dep s := by
  obtain ⟨h1, h2, h3, h4, h5, h6, h7, h8⟩ := h
  exact ⟨h1, h2, h3, h4, h5, AC_S h6 e ho (fun _ _ _ => rfl), h7, h8⟩
theorem cu_fr {s0 s s' : mS} {b : Int → Int} {n : Int} {T T' : mT} {S O : Int → Int} {op : Int → Prop} {m cnt dep : Int} (h : CU s0 b n T S O op m cnt dep s) (x : CT b n T' s') (g : Ag txA tyF s s') : CU s0 b n T' S O op m cnt dep s' := by
  obtain ⟨h1, h2, h3, h4, h5, h6, h7, h8⟩ := h
  refine ⟨x, ?_, ?_, ?_, ?_, AC_S h6 (fun _ _ => rfl) (fun _ _ _ _ x => x) (fun q _ _ => g.1 q (fun x => x)), fun k k0 k1 => ?_, Ag_trans h8 (ty_pc g)⟩
  · rw [g.2 54 0 (by unfold tyF; omega)]; exact h2
  · rw [g.2 54 1 (by unfold tyF; omega)]; exact h3
  · rw [g.2 54 2 (by unfold tyF; omega)]; exact h4
  · rw [g.2 53 4 (by unfold tyF; omega)]; exact h5
  · rw [g.1 60 (fun x => x)]; exact h7 k k0 k1
theorem cu_53 {s0 s : mS} {b : Int → Int} {n : Int} {T : mT} {S O : Int → Int} {op : Int → Prop} {m cnt dep : Int} (h : CU s0 b n T S O op m cnt dep s) (v : Int) : CU s0 b n T S O op m cnt dep (uF s 53 5 v) := by
  obtain ⟨h1, h2, h3, h4, h5, h6, h7, h8⟩ := h
  refine ⟨CT_fr h1 (fun k _ => by rw [uF_1, if_neg (by omega)]) rfl, ?_, ?_, ?_, ?_, AC_S h6 (fun _ _ => rfl) (fun _ _ _ _ x => x) (fun q _ _ => rfl), h7, Ag_uF (F := pcG) h8 (by unfold pcG; omega) _⟩
  all_goals
    rw [uF_1, if_neg (by omega)]
    assumption
theorem cu_k {s0 s : mS} {b : Int → Int} {n : Int} {T : mT} {S O : Int → Int} {op : Int → Prop} {m cnt dep : Int} (h : CU s0 b n T S O op m cnt dep s) : s.1 5 5 = tK T ∧ (tK T = 2 ∨ tK T = 5 ∨ tK T = 6 → s.1 5 6 = tV T) ∧ (tK T = 3 → s.1 5 7 = tW T) ∧ s.1 54 1 = cnt ∧ s.1 54 2 = m ∧ s.1 53 4 = dep :=
  ⟨h.1.2.2.2.2.1, h.1.2.2.2.2.2.1, h.1.2.2.2.2.2.2, h.2.2.1, h.2.2.2.1, h.2.2.2.2.1⟩
theorem cu_adv {Z : mX} {s0 s : mS} {b : Int → Int} {n : Int} {T T' : mT} {S O : Int → Int} {op : Int → Prop} {m cnt dep : Int} (hN : NC Z b n T T') (h : CU s0 b n T S O op m cnt dep s) : ∃ s', (∀ f : mW → mO, mm_kV (mm_run (zP Z) 94 [.inr (.inr (some 5))] (mk s)) f = f (mk s')) ∧ CU s0 b n T' S O op m cnt dep s' ∧ Ag txA tyF s s' := by
  obtain ⟨s', a, x, g⟩ := hN s h.1
  exact ⟨s', a, cu_fr h x (tx_ty g), tx_ty g⟩
theorem cu_semi {Z : mX} {s0 s : mS} {b : Int → Int} {n : Int} {T T' : mT} {S O : Int → Int} {op : Int → Prop} {m cnt dep : Int} (hN : NC Z b n T T') (h : CU s0 b n T S O op m cnt dep s) (hq : tK T = 6 ∧ tV T = 59) : ∃ s', (∀ f : Int → mW → mO, mm_kI (mm_run (zP Z) 106 [.inr (.inr (some 5))] (mk s)) f = f 1 (mk s')) ∧ CU s0 b n T' S O op m cnt dep s' := by
  obtain ⟨s', a, x, g⟩ := c_semi_t Z hN h.1 hq.1 hq.2
  exact ⟨s', a, cu_fr h x (tx_ty g)⟩
theorem cu_num {Z : mX} {s0 s : mS} {b : Int → Int} {n : Int} {T T' : mT} {S O : Int → Int} {op : Int → Prop} {m cnt dep : Int} (hN : NC Z b n T T') (h : CU s0 b n T S O op m cnt dep s) {l u : Int} (hq : tK T = 5 ∧ l ≤ tV T ∧ tV T ≤ u) : ∃ s', (∀ f : Int → mW → mO, mm_kI (mm_run (zP Z) 107 [.inr (.inr (some 5)), .inl l, .inl u] (mk s)) f = f 1 (mk s')) ∧ CU s0 b n T' S O op m cnt dep s' ∧ s'.1 5 8 = tV T := by
  obtain ⟨s', a, x, y, g⟩ := c_num_t Z hN h.1 hq.1 hq.2.1 hq.2.2
  exact ⟨s', a, cu_fr h x g, y⟩
theorem cu_fails (Z : mX) {s0 s : mS} {b : Int → Int} {n : Int} {T : mT} {S O : Int → Int} {op : Int → Prop} {m cnt dep : Int} (h : CU s0 b n T S O op m cnt dep s) (k : Int) : ∃ s', (∀ f : Int → mW → mO, mm_kI (mm_run (zP Z) 103 [.inr (.inr (some 5)), .inl k] (mk s)) f = f 0 (mk s')) ∧ CFl s0 k (tF T) s' := ⟨_, fun f => c_fails Z h.1 k f, CFl_mk h.2.2.2.2.2.2.2 _ _⟩
theorem cu_strays (Z : mX) {s0 s : mS} {b : Int → Int} {n : Int} {T : mT} {S O : Int → Int} {op : Int → Prop} {m cnt dep : Int} (h : CU s0 b n T S O op m cnt dep s) : ∃ s', (∀ f : Int → mW → mO, mm_kI (mm_run (zP Z) 104 [.inr (.inr (some 5))] (mk s)) f = f 0 (mk s')) ∧ CFl s0 (fkd T) (tF T) s' := ⟨_, fun f => c_strays Z h.1 f, CFl_mk h.2.2.2.2.2.2.2 _ _⟩
theorem cu_semif (Z : mX) {s0 s : mS} {b : Int → Int} {n : Int} {T : mT} {S O : Int → Int} {op : Int → Prop} {m cnt dep : Int} (h : CU s0 b n T S O op m cnt dep s) (hq : ¬ (tK T = 6 ∧ tV T = 59)) : ∃ s', (∀ f : Int → mW → mO, mm_kI (mm_run (zP Z) 106 [.inr (.inr (some 5))] (mk s)) f = f 0 (mk s')) ∧ CFl s0 (fkd T) (tF T) s' := ⟨_, fun f => c_semi_f Z h.1 hq f, CFl_mk h.2.2.2.2.2.2.2 _ _⟩
theorem cu_numf (Z : mX) {s0 s : mS} {b : Int → Int} {n : Int} {T : mT} {S O : Int → Int} {op : Int → Prop} {m cnt dep : Int} (h : CU s0 b n T S O op m cnt dep s) {l u : Int} (hq : ¬ (tK T = 5 ∧ l ≤ tV T ∧ tV T ≤ u)) : ∃ s', (∀ f : Int → mW → mO, mm_kI (mm_run (zP Z) 107 [.inr (.inr (some 5)), .inl l, .inl u] (mk s)) f = f 0 (mk s')) ∧ CFl s0 (nkd T) (tF T) s' := ⟨_, fun f => c_num_f Z h.1 hq f, CFl_mk h.2.2.2.2.2.2.2 _ _⟩
/-! a pupil, a side, a comparison: the class -/
def nmP (H : Int → Int) (q : Int) (T : mT) : Int := fd (fun k => H (7 + k)) (tW T) q q.toNat
theorem cu_q {s0 s : mS} {b : Int → Int} {n : Int} {T : mT} {S O G0 H : Int → Int} {op : Int → Prop} {m cnt dep : Int} (hC : CS s0 7 G0 H) (h : CU s0 b n T S O op m cnt dep s) (hW : WF G0) (Z : mX) (f : Int → mW → mO) : mm_kI (mm_run (zP Z) 54 [.inr (.inr (some 7)), .inr (.inl ((tW T)))] (mk s)) f = f (nmP H (G0 3) T) (mk s) := by
  have w := wf0 hW
  have g := h.2.2.2.2.2.2.2
  have e : s.1 7 10 = G0 3 := (g.2 7 10 (by unfold pcG; omega)).trans hC.1.2.2.2.2.2
  have e2 : fd (s.2 19) (tW T) (G0 3) (G0 3).toNat = nmP H (G0 3) T := fd_ext _ (by omega) (fun k k0 k1 => by
    rw [g.1 19 (by unfold pcA; omega)]
    exact (hC.2.2.2.1 k k0 k1).2.2.2.2.2.2)
  rw [c_pup7 Z e (by omega) (by omega), e2]
theorem nmP_r {G0 H : Int → Int} (hW : WF G0) (T : mT) (h : nmP H (G0 3) T ≠ -1) : 0 ≤ nmP H (G0 3) T ∧ nmP H (G0 3) T < G0 3 := by
  have w := wf0 hW
  exact (fd_r (g := fun k => H (7 + k)) (W := tW T) (m := G0 3) _ (by omega)).elim (fun x => absurd x h) id
theorem cu_pup {Z : mX} {s0 s : mS} {b : Int → Int} {n : Int} {T T' : mT} {S O G0 H : Int → Int} {op : Int → Prop} {m cnt dep : Int} (hC : CS s0 7 G0 H) (hW : WF G0) (hN : NC Z b n T T') (h : CU s0 b n T S O op m cnt dep s) (h3 : tK T = 3) (hp : nmP H (G0 3) T ≠ -1) : ∃ s', (∀ f : Int → mW → mO, mm_kI (mm_run (zP Z) 12 [.inr (.inr (some 53))] (mk s)) f = f 1 (mk s')) ∧ CU s0 b n T' S O op m cnt dep s' ∧ s'.1 53 5 = nmP H (G0 3) T := by
  obtain ⟨ek, e6, e7, -⟩ := cu_k h
  have e7 := e7 h3
  rw [h3] at ek
  have q := fun f => cu_q hC h hW Z f
  obtain ⟨s', a, c, g⟩ := cu_adv hN (cu_53 h (nmP H (G0 3) T))
  have e5 : (uF s 53 5 (nmP H (G0 3) T)).1 53 5 = nmP H (G0 3) T := by rw [uF_1, if_pos ⟨rfl, rfl⟩]
  refine ⟨s', fun f => ?_, c, by rw [g.2 53 5 (by unfold tyF; omega)]; exact e5⟩
  rw [B_X1_takesPupil]
  simp (disch := first | with_reducible assumption | omega) only [↓sm, ↓reduceIte, ↓if_pos, ↓if_neg, kI, kJ, kR, kV, w32_eq, w64_eq, reduceCtorEq, Int.reduceAdd, Int.reduceMul, Int.reduceSub, o_c53, ↓o_g53_0, ↓o_g53_1, o_c5, o_c7, ↓rI5_5 ek, ↓rJ5_7 e7, ↓q, ↓o_p53_5, ↓rI53_5 e5, ↓a]
theorem cu_pup_2 (Z : mX) {s0 s : mS} {b : Int → Int} {n : Int} {T : mT} {S O : Int → Int} {op : Int → Prop} {m cnt dep : Int} (h : CU s0 b n T S O op m cnt dep s) (h3 : tK T ≠ 3) : ∃ s', (∀ f : Int → mW → mO, mm_kI (mm_run (zP Z) 12 [.inr (.inr (some 53))] (mk s)) f = f 0 (mk s')) ∧ CFl s0 (fkd T) (tF T) s' := by
  obtain ⟨ek, -⟩ := cu_k h
  obtain ⟨s', a, c⟩ := cu_strays Z h
  refine ⟨s', fun f => ?_, c⟩
  rw [B_X1_takesPupil]
  simp (disch := first | with_reducible assumption | omega) only [↓sm, ↓reduceIte, ↓if_pos, ↓if_neg, kI, kJ, kR, kV, w32_eq, w64_eq, reduceCtorEq, Int.reduceAdd, Int.reduceMul, Int.reduceSub, ↓o_g53_0, o_c5, ↓rI5_5 ek, ↓a]
theorem cu_pup_3 {Z : mX} {s0 s : mS} {b : Int → Int} {n : Int} {T : mT} {S O G0 H : Int → Int} {op : Int → Prop} {m cnt dep : Int} (hC : CS s0 7 G0 H) (hW : WF G0) (h : CU s0 b n T S O op m cnt dep s) (h3 : tK T = 3) (hp : nmP H (G0 3) T = -1) : ∃ s', (∀ f : Int → mW → mO, mm_kI (mm_run (zP Z) 12 [.inr (.inr (some 53))] (mk s)) f = f 0 (mk s')) ∧ CFl s0 3 (tF T) s' := by
  obtain ⟨ek, e6, e7, -⟩ := cu_k h
  have e7 := e7 h3
  rw [h3] at ek
  have q := fun f => cu_q hC h hW Z f
  rw [hp] at q
  obtain ⟨s', a, c⟩ := cu_fails Z (cu_53 h (-1)) 3
  have e5 : (uF s 53 5 (-1)).1 53 5 = -1 := by rw [uF_1, if_pos ⟨rfl, rfl⟩]
  refine ⟨s', fun f => ?_, c⟩
  rw [B_X1_takesPupil]
  simp (disch := first | with_reducible assumption | omega) only [↓sm, ↓reduceIte, ↓if_pos, ↓if_neg, kI, kJ, kR, kV, w32_eq, w64_eq, reduceCtorEq, Int.reduceAdd, Int.reduceMul, Int.reduceSub, o_c53, ↓o_g53_0, ↓o_g53_1, o_c5, o_c7, ↓rI5_5 ek, ↓rJ5_7 e7, ↓q, ↓o_p53_5, ↓rI53_5 e5, ↓a]
theorem cu_side {Z : mX} {s0 s : mS} {b : Int → Int} {n : Int} {T T' : mT} {S O : Int → Int} {op : Int → Prop} {m cnt dep : Int} (hN : NC Z b n T T') (h : CU s0 b n T S O op m cnt dep s) (hq : tK T = 2 ∧ 13 ≤ tV T ∧ tV T ≤ 16) : ∃ s', (∀ f : Int → mW → mO, mm_kI (mm_run (zP Z) 13 [.inr (.inr (some 53))] (mk s)) f = f 1 (mk s')) ∧ CU s0 b n T' S O op m cnt dep s' ∧ s'.1 53 5 = tV T - 13 := by
  obtain ⟨ek, e6, e7, -⟩ := cu_k h
  have e6 := e6 (Or.inl hq.1)
  rw [hq.1] at ek
  obtain ⟨s', a, c, g⟩ := cu_adv hN (cu_53 h (tV T - 13))
  have e5 : (uF s 53 5 (tV T - 13)).1 53 5 = tV T - 13 := by rw [uF_1, if_pos ⟨rfl, rfl⟩]
  refine ⟨s', fun f => ?_, c, by rw [g.2 53 5 (by unfold tyF; omega)]; exact e5⟩
  rw [B_X1_takesSide]
  simp (disch := first | with_reducible assumption | omega) only [↓sm, ↓reduceIte, ↓if_pos, ↓if_neg, kI, kJ, kR, kV, w32_eq, w64_eq, reduceCtorEq, Int.reduceAdd, Int.reduceMul, Int.reduceSub, o_c53, ↓o_g53_0, o_c5, ↓rI5_5 ek, ↓rI5_6 e6, ↓k_isIn_t Z, ↓o_p53_5, ↓a]
theorem cu_side_f (Z : mX) {s0 s : mS} {b : Int → Int} {n : Int} {T : mT} {S O : Int → Int} {op : Int → Prop} {m cnt dep : Int} (h : CU s0 b n T S O op m cnt dep s) (hq : ¬ (tK T = 2 ∧ 13 ≤ tV T ∧ tV T ≤ 16)) : ∃ s', (∀ f : Int → mW → mO, mm_kI (mm_run (zP Z) 13 [.inr (.inr (some 53))] (mk s)) f = f 0 (mk s')) ∧ CFl s0 (fkd T) (tF T) s' := by
  obtain ⟨ek, e6, -⟩ := cu_k h
  obtain ⟨s', a, c⟩ := cu_strays Z h
  refine ⟨s', fun f => ?_, c⟩
  rw [B_X1_takesSide]
  by_cases h2 : tK T = 2
  · have e6 := e6 (Or.inl h2)
    rw [h2] at ek
    have h4 : ¬ (13 ≤ tV T ∧ tV T ≤ 16) := fun x => hq ⟨h2, x⟩
    simp (disch := first | with_reducible assumption | omega) only [↓sm, ↓reduceIte, ↓if_pos, ↓if_neg, kI, kJ, kR, kV, w32_eq, w64_eq, reduceCtorEq, Int.reduceAdd, Int.reduceMul, Int.reduceSub, ↓o_g53_0, o_c5, ↓rI5_5 ek, ↓rI5_6 e6, ↓k_isIn_f Z, ↓a]
  · simp (disch := first | with_reducible assumption | omega) only [↓sm, ↓reduceIte, ↓if_pos, ↓if_neg, kI, kJ, kR, kV, w32_eq, w64_eq, reduceCtorEq, Int.reduceAdd, Int.reduceMul, Int.reduceSub, ↓o_g53_0, o_c5, ↓rI5_5 ek, ↓a]
