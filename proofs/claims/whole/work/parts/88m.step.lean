/-! a step of autumns: both sides (printed by gen/parts4.py) -/
def AStp (Z : mX) (s0 : mS) (b : Int → Int) (n : Int) (G0 H : Int → Int) (T : mT) (G O : Int → Int) (m cnt dep : Int) : Prop :=
  (∃ kd pl, 1 ≤ kd ∧ (∀ s, CU s0 b n T (mixS G0 G) O (opS O dep) m cnt dep s → ∃ s', (∀ f : Int → mW → mO, mm_kI (mm_run (zP Z) 7 [.inr (.inr (some 53))] (mk s)) f = f 0 (mk s')) ∧ CFl s0 kd pl s') ∧
    (∀ t0 t, RU t0 b n T G H O m cnt dep t → ∃ t', (∀ f : Int → mW → mO, mm_kI (mm_run (zP Z) 268 [.inr (.inr (some 141))] (mk t)) f = f 0 (mk t')) ∧ RFl t0 G0 H kd pl t')) ∨
  (∃ T' G' O' m' cnt' dep', tE T ≤ tF T' ∧ TT b n T' ∧ UI (mixS G0 G') O' m' cnt' dep' ∧ (∀ j, j < 1888 → G' j = G0 j) ∧
    (∀ s, CU s0 b n T (mixS G0 G) O (opS O dep) m cnt dep s → ∃ s', (∀ f : Int → mW → mO, mm_kI (mm_run (zP Z) 7 [.inr (.inr (some 53))] (mk s)) f = f 1 (mk s')) ∧ CU s0 b n T' (mixS G0 G') O' (opS O' dep') m' cnt' dep' s') ∧
    (∀ t0 t, RU t0 b n T G H O m cnt dep t → ∃ t', (∀ f : Int → mW → mO, mm_kI (mm_run (zP Z) 268 [.inr (.inr (some 141))] (mk t)) f = f 1 (mk t')) ∧ RU t0 b n T' G' H O' m' cnt' dep' t'))
def stp (w : Int) : Prop := w = 12 ∨ w = 26 ∨ w = 24 ∨ (17 ≤ w ∧ w ≤ 22)
theorem c_begins_t (Z : mX) (t : mS) {w : Int} (h : stp w) (f : Int → mW → mO) : mm_kI (mm_run (zP Z) 8 [.inl w] (mk t)) f = f 1 (mk t) := by
  unfold stp at h
  rw [B_X1_beginsStep]
  by_cases h1 : w = 12
  · simp (disch := first | with_reducible assumption | omega) only [↓sm, ↓reduceIte, ↓if_pos, ↓if_neg, kI, kJ, kR, kV, w32_eq, w64_eq, reduceCtorEq, Int.reduceAdd, Int.reduceMul, Int.reduceSub]
  · by_cases h2 : w = 26
    · simp (disch := first | with_reducible assumption | omega) only [↓sm, ↓reduceIte, ↓if_pos, ↓if_neg, kI, kJ, kR, kV, w32_eq, w64_eq, reduceCtorEq, Int.reduceAdd, Int.reduceMul, Int.reduceSub]
    · by_cases h3 : w = 24
      · simp (disch := first | with_reducible assumption | omega) only [↓sm, ↓reduceIte, ↓if_pos, ↓if_neg, kI, kJ, kR, kV, w32_eq, w64_eq, reduceCtorEq, Int.reduceAdd, Int.reduceMul, Int.reduceSub]
      · have h4 : 17 ≤ w ∧ w ≤ 22 := by omega
        obtain ⟨h5, h6⟩ := h4
        simp (disch := first | with_reducible assumption | omega) only [↓sm, ↓reduceIte, ↓if_pos, ↓if_neg, kI, kJ, kR, kV, w32_eq, w64_eq, reduceCtorEq, Int.reduceAdd, Int.reduceMul, Int.reduceSub, ↓k_isIn_t Z]
theorem c_begins_f (Z : mX) (t : mS) {w : Int} (h : ¬ stp w) (f : Int → mW → mO) : mm_kI (mm_run (zP Z) 8 [.inl w] (mk t)) f = f 0 (mk t) := by
  unfold stp at h
  rw [B_X1_beginsStep]
  have h1 : ¬ w = 12 := by omega
  have h2 : ¬ w = 26 := by omega
  have h3 : ¬ w = 24 := by omega
  have h4 : ¬ (17 ≤ w ∧ w ≤ 22) := by omega
  simp (disch := first | with_reducible assumption | omega) only [↓sm, ↓reduceIte, ↓if_pos, ↓if_neg, kI, kJ, kR, kV, w32_eq, w64_eq, reduceCtorEq, Int.reduceAdd, Int.reduceMul, Int.reduceSub, ↓k_isIn_f Z]
/-! the row of a step, begun -/
def zr (G : Int → Int) (r : Int) : Int → Int := mm_upd (mm_upd (mm_upd (mm_upd (mm_upd G (r + 1) 0) (r + 2) 0) (r + 3) 0) (r + 4) 0) (r + 5) 0
def hG (G : Int → Int) (m k : Int) : Int → Int := mm_upd (zr (mm_upd G (1992 + 6 * m) k) (1992 + 6 * m)) 1895 (m + 1)
theorem hG_lo {G : Int → Int} {m k j : Int} (m0 : 0 ≤ m) (h : j < 1992 + 6 * m) (h2 : j ≠ 1895) : hG G m k j = G j := by
  unfold hG zr
  rw [up_ne h2, up_ne (by omega), up_ne (by omega), up_ne (by omega), up_ne (by omega), up_ne (by omega), up_ne (by omega)]
theorem hG_0 {G : Int → Int} {m k : Int} (m0 : 0 ≤ m) : hG G m k (1992 + 6 * m) = k := by
  unfold hG zr
  rw [up_ne (by omega), up_ne (by omega), up_ne (by omega), up_ne (by omega), up_ne (by omega), up_ne (by omega), up_eq rfl]
theorem hG_z {G : Int → Int} {m k i : Int} (m0 : 0 ≤ m) (i0 : 1 ≤ i) (i1 : i ≤ 5) : hG G m k (1992 + 6 * m + i) = 0 := by
  have hh : i = 1 ∨ i = 2 ∨ i = 3 ∨ i = 4 ∨ i = 5 := by omega
  unfold hG zr mm_upd
  rcases hh with rfl | rfl | rfl | rfl | rfl <;> (repeat first | rw [if_pos (by omega)] | rw [if_neg (by omega)])
def zt (t : mS) (r : Int) : mS := uA (uA (uA (uA (uA t 142 (r + 1) 0) 142 (r + 2) 0) 142 (r + 3) 0) 142 (r + 4) 0) 142 (r + 5) 0
theorem r_rowz (Z : mX) (t : mS) {r : Int} (r0 : 1992 ≤ r) (r1 : r + 5 < 2464) (l1 l2 l4 : Int) : mm_at (zP Z) 268 80 [some (.inr (.inr (some 141))), some (.inl l1), some (.inl l2), some (.inl r), some (.inl l4), some (.inl 1)] [] (mk t) = mm_at (zP Z) 268 80 [some (.inr (.inr (some 141))), some (.inl l1), some (.inl l2), some (.inl r), some (.inl l4), some (.inl 6)] [] (mk (zt t r)) := by
  unfold zt
  iterate 5
    conv => lhs; rw [B_X12_autumnStep_80]
    conv => lhs; simp (disch := first | with_reducible assumption | omega) only [↓sm, ↓reduceIte, ↓if_pos, ↓if_neg, kI, kJ, kR, kV, w32_eq, w64_eq, reduceCtorEq, Int.reduceAdd, Int.reduceMul, Int.reduceSub, o_c141, ↓o_g141_0, ↓o_g141_1, ↓o_g141_5, ↓o_g141_6, ↓o_g141_7, ↓o_g141_8, ↓o_g141_9, ↓o_g141_21, ↓o_g141_25, ↓o_g141_26, ↓o_g141_27, ↓o_g141_28, ↓o_g141_29, ↓o_g141_30, ↓o_g141_31, ↓o_g141_34, ↓o_g141_35, ↓o_g141_36, ↓a_st142]
theorem ru_cnt {t0 t : mS} {b : Int → Int} {n : Int} {T : mT} {G H O : Int → Int} {m cnt dep : Int} (h : RU t0 b n T G H O m cnt dep t) (v : Int) : RU t0 b n T G H O m v dep (uF t 141 23 v) := by
  obtain ⟨h1, h2, h3, h4, h5, h6, h7, h8, h9⟩ := h
  exact ⟨RT_fr1 h1 (fun k _ _ => by rw [uF_1, if_neg (by omega)]) rfl, h2, h3, by rw [uF_1, if_neg (by omega)]; exact h4, by rw [uF_1, if_neg (by omega)]; exact h5, by rw [uF_1, if_pos ⟨rfl, rfl⟩], h7, h8, Ag_uF (F := prG) h9 (by unfold prG; omega) _⟩
theorem ru_1895 {t0 t : mS} {b : Int → Int} {n : Int} {T : mT} {G H O : Int → Int} {m cnt dep : Int} (h : RU t0 b n T G H O m cnt dep t) (v : Int) : RU t0 b n T (mm_upd G 1895 v) H O v cnt dep (uA t 142 1895 v) := by
  obtain ⟨h1, h2, h3, h4, h5, h6, h7, h8, h9⟩ := h
  exact ⟨RT_fr1 h1 (fun _ _ _ => rfl) (uA_n _ (by decide) _ _), by rw [uA_s, h2], by rw [uA_n _ (by decide)]; exact h3, h4, h5, h6, up_eq rfl, fun k k0 k1 => by rw [uA_n _ (by decide)]; exact h8 k k0 k1, Ag_uA h9 (by unfold prA; omega) _ _⟩
/-- the state where the row is begun -/
def hT1 (t : mS) (m cnt k : Int) : mS := uA (zt (uA (uF t 141 23 cnt) 142 (1992 + 6 * m) k) (1992 + 6 * m)) 142 1895 (m + 1)
theorem ru_head {t0 t : mS} {b : Int → Int} {n : Int} {T : mT} {G H O : Int → Int} {m cnt dep : Int} (h : RU t0 b n T G H O m cnt dep t) (m0 : 0 ≤ m) (c k : Int) : RU t0 b n T (hG G m k) H O (m + 1) c dep (hT1 t m c k) := by
  unfold hT1 zt
  exact ru_1895 (ru_142 (ru_142 (ru_142 (ru_142 (ru_142 (ru_142 (ru_cnt h c) (by omega) k) (by omega) 0) (by omega) 0) (by omega) 0) (by omega) 0) (by omega) 0) (m + 1)
theorem cu_push {s0 s : mS} {b : Int → Int} {n : Int} {T : mT} {S O : Int → Int} {m k cnt dep : Int} (h : CU s0 b n T S O (fun i => i = k ∨ opS O dep i) m cnt dep s) (d0 : 0 ≤ dep) : CU s0 b n T S (mm_upd O dep k) (opS (mm_upd O dep k) (dep + 1)) m cnt (dep + 1) (uF (uA s 60 dep k) 53 4 (dep + 1)) := by
  obtain ⟨h1, h2, h3, h4, h5, h6, h7, h8⟩ := h
  refine ⟨CT_fr h1 (fun k _ => by rw [uF_1, if_neg (by omega)]; rfl) (by rw [uF_2, uA_n _ (by decide)]), ?_, ?_, ?_, by rw [uF_1, if_pos ⟨rfl, rfl⟩], AC_S h6 (fun _ _ => rfl) (fun i _ _ _ hi => (opS_push d0).mpr hi) (fun q q0 q1 => by rw [uF_2, uA_n _ (by omega)]), fun i i0 i1 => ?_, Ag_uF (F := pcG) (Ag_uA h8 (by unfold pcA; omega) _ _) (by unfold pcG; omega) _⟩
  · rw [uF_1, if_neg (by omega)]; exact h2
  · rw [uF_1, if_neg (by omega)]; exact h3
  · rw [uF_1, if_neg (by omega)]; exact h4
  · rw [uF_2, uA_s]
    by_cases hi : i = dep
    · rw [up_eq hi, up_eq hi]
    · rw [up_ne hi, up_ne hi]; exact h7 i i0 (by omega)
theorem ru_push {t0 t : mS} {b : Int → Int} {n : Int} {T : mT} {G H O : Int → Int} {m cnt dep : Int} (h : RU t0 b n T G H O m cnt dep t) (k : Int) : RU t0 b n T G H (mm_upd O dep k) m cnt (dep + 1) (uF (uA t 149 dep k) 141 22 (dep + 1)) := by
  obtain ⟨h1, h2, h3, h4, h5, h6, h7, h8, h9⟩ := h
  refine ⟨RT_fr1 h1 (fun k _ _ => by rw [uF_1, if_neg (by omega)]; rfl) (by rw [uF_2, uA_n _ (by decide)]), by rw [uF_2, uA_n _ (by decide)]; exact h2, by rw [uF_2, uA_n _ (by decide)]; exact h3, by rw [uF_1, if_neg (by omega)]; exact h4, by rw [uF_1, if_pos ⟨rfl, rfl⟩], by rw [uF_1, if_neg (by omega)]; exact h6, h7, fun i i0 i1 => ?_, Ag_uF (F := prG) (Ag_uA h9 (by unfold prA; omega) _ _) (by unfold prG; omega) _⟩
  rw [uF_2, uA_s]
  by_cases hi : i = dep
  · rw [up_eq hi, up_eq hi]
  · rw [up_ne hi, up_ne hi]; exact h8 i i0 (by omega)
