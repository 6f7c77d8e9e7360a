/-! the reference's tokens in autumns -/
theorem ru_fr {t0 t t' : mS} {b : Int → Int} {n : Int} {T T' : mT} {G H O : Int → Int} {m cnt dep : Int} (h : RU t0 b n T G H O m cnt dep t) (x : RT1 b n T' t') (g : Ag ryA ryF t t') : RU t0 b n T' G H O m cnt dep t' := by
  obtain ⟨h1, h2, h3, h4, h5, h6, h7, h8, h9⟩ := h
  exact ⟨x, (g.1 142 (fun x => x)).trans h2, (g.1 143 (fun x => x)).trans h3, (g.2 141 18 (by unfold ryF; omega)).trans h4, (g.2 141 22 (by unfold ryF; omega)).trans h5, (g.2 141 23 (by unfold ryF; omega)).trans h6, h7, fun k k0 k1 => by rw [g.1 149 (fun x => x)]; exact h8 k k0 k1, Ag_trans h9 (ry_pr g)⟩
theorem ru_142 {t0 t : mS} {b : Int → Int} {n : Int} {T : mT} {G H O : Int → Int} {m cnt dep : Int} (h : RU t0 b n T G H O m cnt dep t) {j : Int} (hj : 1992 ≤ j) (v : Int) : RU t0 b n T (mm_upd G j v) H O m cnt dep (uA t 142 j v) := by
  obtain ⟨h1, h2, h3, h4, h5, h6, h7, h8, h9⟩ := h
  exact ⟨RT_fr1 h1 (fun _ _ _ => rfl) (uA_n _ (by decide) _ _), by rw [uA_s, h2], by rw [uA_n _ (by decide)]; exact h3, h4, h5, h6, by rw [up_ne (by omega)]; exact h7, fun k k0 k1 => by rw [uA_n _ (by decide)]; exact h8 k k0 k1, Ag_uA h9 (by unfold prA; omega) _ _⟩
theorem ru_adv {Z : mX} {t0 t : mS} {b : Int → Int} {n : Int} {T T' : mT} {G H O : Int → Int} {m cnt dep : Int} (hN : NR Z b n T T') (h : RU t0 b n T G H O m cnt dep t) : ∃ t', (∀ f : mW → mO, mm_kV (mm_run (zP Z) 233 [.inr (.inr (some 141))] (mk t)) f = f (mk t')) ∧ RU t0 b n T' G H O m cnt dep t' := by
  obtain ⟨t', a, x, g⟩ := hN t h.1
  exact ⟨t', a, ru_fr h x g⟩
theorem ru_semi {Z : mX} {t0 t : mS} {b : Int → Int} {n : Int} {T T' : mT} (hk : TT b n T) {G H O : Int → Int} {m cnt dep : Int} (hN : NR Z b n T T') (h : RU t0 b n T G H O m cnt dep t) (hq : tK T = 6 ∧ tV T = 59) : ∃ t', (∀ f : Int → mW → mO, mm_kI (mm_run (zP Z) 238 [.inr (.inr (some 141)), .inl 59] (mk t)) f = f 1 (mk t')) ∧ RU t0 b n T' G H O m cnt dep t' := by
  obtain ⟨t', a, x, g⟩ := r_semi_t Z hk hN h.1 hq.1 hq.2
  exact ⟨t', a, ru_fr h x g⟩
theorem ru_num {Z : mX} {t0 t : mS} {b : Int → Int} {n : Int} {T T' : mT} (hk : TT b n T) {G H O : Int → Int} {m cnt dep : Int} (hN : NR Z b n T T') (h : RU t0 b n T G H O m cnt dep t) {to l u : Int} (q0 : 1992 ≤ to) (q1 : to < 2464) (hq : tK T = 5 ∧ l ≤ tV T ∧ tV T ≤ u) : ∃ t', (∀ f : Int → mW → mO, mm_kI (mm_run (zP Z) 240 [.inr (.inr (some 141)), .inl to, .inl l, .inl u] (mk t)) f = f 1 (mk t')) ∧ RU t0 b n T' (mm_upd G to (tV T)) H O m cnt dep t' := by
  obtain ⟨k0, k1, -⟩ := tk_k hk
  obtain ⟨e1, e2, e3⟩ := hq
  have e12 : t.1 141 12 = 3 := h.1.2.2.2.1.trans ((tkr_3 k0 k1).mpr e1)
  have e6 : t.1 141 15 = tV T := h.1.2.2.2.2 (Or.inl e1)
  obtain ⟨t', a, c⟩ := ru_adv hN (ru_142 h q0 (tV T))
  refine ⟨t', fun f => ?_, c⟩
  rw [B_X12_number]
  simp (disch := first | assumption | omega) only [↓sm, ↓reduceIte, ↓if_pos, ↓if_neg, kI, kJ, kR, kV, w32_eq, w64_eq, reduceCtorEq, Int.reduceAdd, Int.reduceMul, Int.reduceSub, o_c141, ↓o_g141_0, ↓o_g141_1, ↓o_g141_5, ↓o_g141_6, ↓o_g141_7, ↓o_g141_8, ↓o_g141_9, ↓o_g141_21, ↓o_g141_25, ↓o_g141_26, ↓o_g141_27, ↓o_g141_28, ↓o_g141_29, ↓o_g141_30, ↓o_g141_31, ↓o_g141_34, ↓o_g141_35, ↓o_g141_36, ↓rI141_12 e12, ↓rI141_15 e6, ↓a_st142, ↓a]
theorem lo1 {G G0 : Int → Int} (hL : ∀ j, j < 1888 → G j = G0 j) {to : Int} (q0 : 1888 ≤ to) (v : Int) : ∀ j, j < 1888 → mm_upd G to v j = G0 j := fun j hj => by
  rw [up_ne (by omega)]
  exact hL j hj
theorem rfl2 {t0 t : mS} {b : Int → Int} {n : Int} {T : mT} {G0 G H O : Int → Int} {m cnt dep : Int} (h : RU t0 b n T G H O m cnt dep t) (hL : ∀ j, j < 1888 → G j = G0 j) (k p : Int) : RFl t0 G0 H k p (uF (uF t 141 18 k) 141 17 p) := by
  obtain ⟨h1, h2, h3, h4, h5, h6, h7, h8, h9⟩ := h
  refine ⟨by rw [uF_1, if_neg (by omega), uF_1, if_pos ⟨rfl, rfl⟩], by rw [uF_1, if_pos ⟨rfl, rfl⟩], Ag_uF (F := prF) (Ag_uF (F := prF) (prg_f h9) (by unfold prF; omega) _) (by unfold prF; omega) _, fun j hj => ?_, fun j hj => ?_⟩
  · rw [uF_2, uF_2, h2]; exact hL j hj
  · rw [uF_2, uF_2, h3]
theorem ru_fails (Z : mX) {t0 t : mS} {b : Int → Int} {n : Int} {T : mT} (hk : TT b n T) {G0 G H O : Int → Int} {m cnt dep : Int} (h : RU t0 b n T G H O m cnt dep t) (hL : ∀ j, j < 1888 → G j = G0 j) {k : Int} (h1 : tK T ≠ 1) : ∃ t', (∀ f : Int → mW → mO, mm_kI (mm_run (zP Z) 236 [.inr (.inr (some 141)), .inl k] (mk t)) f = f 0 (mk t')) ∧ RFl t0 G0 H k (tF T) t' := ⟨_, fun f => by rw [r_fails Z hk h.1 h.2.2.2.1, rk_5 h1], rfl2 h hL _ _⟩
theorem ru_fail2 (Z : mX) {t0 t : mS} {b : Int → Int} {n : Int} {T : mT} (hk : TT b n T) {G0 G H O : Int → Int} {m cnt dep : Int} (h : RU t0 b n T G H O m cnt dep t) (hL : ∀ j, j < 1888 → G j = G0 j) : ∃ t', (∀ f : Int → mW → mO, mm_kI (mm_run (zP Z) 236 [.inr (.inr (some 141)), .inl 2] (mk t)) f = f 0 (mk t')) ∧ RFl t0 G0 H (fkd T) (tF T) t' := ⟨_, fun f => by rw [r_fails Z hk h.1 h.2.2.2.1, rk_2], rfl2 h hL _ _⟩
theorem ru_semif (Z : mX) {t0 t : mS} {b : Int → Int} {n : Int} {T : mT} (hk : TT b n T) {G0 G H O : Int → Int} {m cnt dep : Int} (h : RU t0 b n T G H O m cnt dep t) (hL : ∀ j, j < 1888 → G j = G0 j) (hq : ¬ (tK T = 6 ∧ tV T = 59)) : ∃ t', (∀ f : Int → mW → mO, mm_kI (mm_run (zP Z) 238 [.inr (.inr (some 141)), .inl 59] (mk t)) f = f 0 (mk t')) ∧ RFl t0 G0 H (fkd T) (tF T) t' := ⟨_, fun f => r_semi_f Z hk h.1 h.2.2.2.1 hq f, rfl2 h hL _ _⟩
theorem ru_numf (Z : mX) {t0 t : mS} {b : Int → Int} {n : Int} {T : mT} (hk : TT b n T) {G0 G H O : Int → Int} {m cnt dep : Int} (h : RU t0 b n T G H O m cnt dep t) (hL : ∀ j, j < 1888 → G j = G0 j) {to l u : Int} (hq : ¬ (tK T = 5 ∧ l ≤ tV T ∧ tV T ≤ u)) : ∃ t', (∀ f : Int → mW → mO, mm_kI (mm_run (zP Z) 240 [.inr (.inr (some 141)), .inl to, .inl l, .inl u] (mk t)) f = f 0 (mk t')) ∧ RFl t0 G0 H (nkd T) (tF T) t' := ⟨_, fun f => r_num_f Z hk h.1 h.2.2.2.1 hq f, rfl2 h hL _ _⟩
/-! a pupil, a side -/
theorem ru_name (Z : mX) {t0 t : mS} {b : Int → Int} {n : Int} (hT : TB0 b n) {T : mT} (hk : TT b n T) {G H O : Int → Int} {m cnt dep : Int} (h : RU t0 b n T G H O m cnt dep t) (f : Int → mW → mO) : mm_kI (mm_run (zP Z) 241 [.inr (.inr (some 141)), .inr (.inr (some 1))] (mk t)) f = f (if tK T = 3 then 1 else 0) (mk t) := r_isName Z hT hk h.1 f
theorem ru_find (Z : mX) {t0 t : mS} {b : Int → Int} {n : Int} (hT : TB0 b n) {T : mT} (hk : TT b n T) (h3 : tK T = 3) {G H O : Int → Int} {m cnt dep : Int} (h : RU t0 b n T G H O m cnt dep t) {q : Int} (q0 : 0 ≤ q) (q5 : q ≤ 5) (f : Int → mW → mO) : mm_kI (mm_run (zP Z) 243 [.inr (.inr (some 141)), .inl 7, .inl q] (mk t)) f = f (nmP H q T) (mk t) := by
  rw [r_find Z hT (tt_3 hk h3) (rt_3 h.1 h3) 7 q (by omega) q0 (by omega) f, h.2.2.1]
  rfl
theorem ru_pup {Z : mX} {t0 t : mS} {b : Int → Int} {n : Int} (hT : TB0 b n) {T T' : mT} (hk : TT b n T) {G0 G H O : Int → Int} {m cnt dep : Int} (hW : WF G0) (hN : NR Z b n T T') (h : RU t0 b n T G H O m cnt dep t) (hL : ∀ j, j < 1888 → G j = G0 j) {to : Int} (q0 : 1992 ≤ to) (q1 : to < 2464) (h3 : tK T = 3) (hp : nmP H (G0 3) T ≠ -1) : ∃ t', (∀ f : Int → mW → mO, mm_kI (mm_run (zP Z) 263 [.inr (.inr (some 141)), .inl to] (mk t)) f = f 1 (mk t')) ∧ RU t0 b n T' (mm_upd G to (nmP H (G0 3) T)) H O m cnt dep t' := by
  have w := wf0 hW
  have cn := fun f => ru_name Z hT hk h f
  rw [if_pos h3] at cn
  have cf := fun f => ru_find Z hT hk h3 h (q := G0 3) (by omega) (by omega) f
  have e3 : ∀ f : Int → mO, (mm_ld 0 (mk t) 142 3).bind f = f (G0 3) := fun f => by rw [r_at h.2.1 f 3 (by omega) (by omega), hL 3 (by omega)]
  have h' := ru_142 h q0 (nmP H (G0 3) T)
  have ep : ∀ f : Int → mO, (mm_ld 0 (mk (uA t 142 to (nmP H (G0 3) T))) 142 to).bind f = f (nmP H (G0 3) T) := fun f => by rw [r_at h'.2.1 f to (by omega) (by omega), up_eq rfl]
  obtain ⟨t', a, c⟩ := ru_adv hN h'
  refine ⟨t', fun f => ?_, c⟩
  rw [B_X12_pupilTo]
  simp (disch := first | with_reducible assumption | omega) only [↓sm, ↓reduceIte, ↓if_pos, ↓if_neg, kI, kJ, kR, kV, w32_eq, w64_eq, reduceCtorEq, Int.reduceAdd, Int.reduceMul, Int.reduceSub, o_c141, ↓o_g141_0, ↓o_g141_1, ↓o_g141_5, ↓o_g141_6, ↓o_g141_7, ↓o_g141_8, ↓o_g141_9, ↓o_g141_21, ↓o_g141_25, ↓o_g141_26, ↓o_g141_27, ↓o_g141_28, ↓o_g141_29, ↓o_g141_30, ↓o_g141_31, ↓o_g141_34, ↓o_g141_35, ↓o_g141_36, ↓cn, ↓e3, ↓cf, ↓a_st142, ↓ep, ↓a]
theorem ru_pup_2 (Z : mX) {t0 t : mS} {b : Int → Int} {n : Int} (hT : TB0 b n) {T : mT} (hk : TT b n T) {G0 G H O : Int → Int} {m cnt dep : Int} (h : RU t0 b n T G H O m cnt dep t) (hL : ∀ j, j < 1888 → G j = G0 j) {to : Int} (h3 : tK T ≠ 3) : ∃ t', (∀ f : Int → mW → mO, mm_kI (mm_run (zP Z) 263 [.inr (.inr (some 141)), .inl to] (mk t)) f = f 0 (mk t')) ∧ RFl t0 G0 H (fkd T) (tF T) t' := by
  have cn := fun f => ru_name Z hT hk h f
  rw [if_neg h3] at cn
  obtain ⟨t', a, c⟩ := ru_fail2 Z hk h hL
  refine ⟨t', fun f => ?_, c⟩
  rw [B_X12_pupilTo]
  simp (disch := first | with_reducible assumption | omega) only [↓sm, ↓reduceIte, ↓if_pos, ↓if_neg, kI, kJ, kR, kV, w32_eq, w64_eq, reduceCtorEq, Int.reduceAdd, Int.reduceMul, Int.reduceSub, o_c141, ↓o_g141_0, ↓o_g141_1, ↓o_g141_5, ↓o_g141_6, ↓o_g141_7, ↓o_g141_8, ↓o_g141_9, ↓o_g141_21, ↓o_g141_25, ↓o_g141_26, ↓o_g141_27, ↓o_g141_28, ↓o_g141_29, ↓o_g141_30, ↓o_g141_31, ↓o_g141_34, ↓o_g141_35, ↓o_g141_36, ↓cn, ↓a]
theorem ru_pup_3 (Z : mX) {t0 t : mS} {b : Int → Int} {n : Int} (hT : TB0 b n) {T : mT} (hk : TT b n T) {G0 G H O : Int → Int} {m cnt dep : Int} (hW : WF G0) (h : RU t0 b n T G H O m cnt dep t) (hL : ∀ j, j < 1888 → G j = G0 j) {to : Int} (q0 : 1992 ≤ to) (q1 : to < 2464) (h3 : tK T = 3) (hp : nmP H (G0 3) T = -1) : ∃ t', (∀ f : Int → mW → mO, mm_kI (mm_run (zP Z) 263 [.inr (.inr (some 141)), .inl to] (mk t)) f = f 0 (mk t')) ∧ RFl t0 G0 H 3 (tF T) t' := by
  have w := wf0 hW
  have cn := fun f => ru_name Z hT hk h f
  rw [if_pos h3] at cn
  have cf := fun f => ru_find Z hT hk h3 h (q := G0 3) (by omega) (by omega) f
  rw [hp] at cf
  have e3 : ∀ f : Int → mO, (mm_ld 0 (mk t) 142 3).bind f = f (G0 3) := fun f => by rw [r_at h.2.1 f 3 (by omega) (by omega), hL 3 (by omega)]
  have h' := ru_142 h q0 (-1)
  have ep : ∀ f : Int → mO, (mm_ld 0 (mk (uA t 142 to (-1))) 142 to).bind f = f (-1) := fun f => by rw [r_at h'.2.1 f to (by omega) (by omega), up_eq rfl]
  obtain ⟨t', a, c⟩ := ru_fails Z hk h' (lo1 hL (by omega) _) (k := 3) (by omega)
  refine ⟨t', fun f => ?_, c⟩
  rw [B_X12_pupilTo]
  simp (disch := first | with_reducible assumption | omega) only [↓sm, ↓reduceIte, ↓if_pos, ↓if_neg, kI, kJ, kR, kV, w32_eq, w64_eq, reduceCtorEq, Int.reduceAdd, Int.reduceMul, Int.reduceSub, o_c141, ↓o_g141_0, ↓o_g141_1, ↓o_g141_5, ↓o_g141_6, ↓o_g141_7, ↓o_g141_8, ↓o_g141_9, ↓o_g141_21, ↓o_g141_25, ↓o_g141_26, ↓o_g141_27, ↓o_g141_28, ↓o_g141_29, ↓o_g141_30, ↓o_g141_31, ↓o_g141_34, ↓o_g141_35, ↓o_g141_36, ↓cn, ↓e3, ↓cf, ↓a_st142, ↓ep, ↓a]
theorem km_side : ∀ v : Nat, v < 27 → (13 ≤ v ∧ v ≤ 16 → km (v : Int) = (v : Int) - 1) ∧ (¬ (13 ≤ v ∧ v ≤ 16) → km (v : Int) < 12 ∨ 15 < km (v : Int)) := by decide +kernel
theorem ru_side {Z : mX} {t0 t : mS} {b : Int → Int} {n : Int} (hT : TB0 b n) {T T' : mT} (hk : TT b n T) {G H O : Int → Int} {m cnt dep : Int} (hN : NR Z b n T T') (h : RU t0 b n T G H O m cnt dep t) {to : Int} (q0 : 1992 ≤ to) (q1 : to < 2464) (hq : tK T = 2 ∧ 13 ≤ tV T ∧ tV T ≤ 16) : ∃ t', (∀ f : Int → mW → mO, mm_kI (mm_run (zP Z) 265 [.inr (.inr (some 141)), .inl to] (mk t)) f = f 1 (mk t')) ∧ RU t0 b n T' (mm_upd G to (tV T - 13)) H O m cnt dep t' := by
  have hb := (km_side (tV T).toNat (by omega)).1 (by omega)
  rw [Int.toNat_of_nonneg (by omega)] at hb
  have ew : wn (tK T) (tV T) = tV T - 1 := (if_pos hq.1).trans hb
  have c0 : ∀ f : Int → mW → mO, mm_kI (mm_run (zP Z) 235 [.inr (.inr (some 141)), .inr (.inr (some 1))] (mk t)) f = f (tV T - 1) (mk t) := fun f => by rw [r_inW Z hT hk h.1, ew]
  obtain ⟨t', a, c⟩ := ru_adv hN (ru_142 h q0 (tV T - 13))
  have wv : tV T - 1 - 12 = tV T - 13 := by omega
  refine ⟨t', fun f => ?_, c⟩
  rw [B_X12_sideTo]
  simp (disch := first | with_reducible assumption | omega) only [↓sm, ↓reduceIte, ↓if_pos, ↓if_neg, kI, kJ, kR, kV, w32_eq, w64_eq, reduceCtorEq, Int.reduceAdd, Int.reduceMul, Int.reduceSub, o_c141, ↓o_g141_0, ↓o_g141_1, ↓o_g141_5, ↓o_g141_6, ↓o_g141_7, ↓o_g141_8, ↓o_g141_9, ↓o_g141_21, ↓o_g141_25, ↓o_g141_26, ↓o_g141_27, ↓o_g141_28, ↓o_g141_29, ↓o_g141_30, ↓o_g141_31, ↓o_g141_34, ↓o_g141_35, ↓o_g141_36, ↓c0, wv, ↓a_st142, ↓a]
theorem ru_side_f (Z : mX) {t0 t : mS} {b : Int → Int} {n : Int} (hT : TB0 b n) {T : mT} (hk : TT b n T) {G0 G H O : Int → Int} {m cnt dep : Int} (h : RU t0 b n T G H O m cnt dep t) (hL : ∀ j, j < 1888 → G j = G0 j) {to : Int} (hq : ¬ (tK T = 2 ∧ 13 ≤ tV T ∧ tV T ≤ 16)) : ∃ t', (∀ f : Int → mW → mO, mm_kI (mm_run (zP Z) 265 [.inr (.inr (some 141)), .inl to] (mk t)) f = f 0 (mk t')) ∧ RFl t0 G0 H (fkd T) (tF T) t' := by
  obtain ⟨-, -, k2, -⟩ := tk_k hk
  have hw : wn (tK T) (tV T) < 12 ∨ 15 < wn (tK T) (tV T) := by
    unfold wn
    by_cases h2 : tK T = 2
    · have v := k2 h2
      have hb := (km_side (tV T).toNat (by omega)).2 (by omega)
      rw [Int.toNat_of_nonneg (by omega)] at hb
      rw [if_pos h2]
      exact hb
    · rw [if_neg h2]
      omega
  have c0 := fun f => r_inW Z hT hk h.1 f
  generalize wn (tK T) (tV T) = x at *
  obtain ⟨t', a, c⟩ := ru_fail2 Z hk h hL
  refine ⟨t', fun f => ?_, c⟩
  rw [B_X12_sideTo]
  by_cases h1 : x < 12
  · simp (disch := first | with_reducible assumption | omega) only [↓sm, ↓reduceIte, ↓if_pos, ↓if_neg, kI, kJ, kR, kV, w32_eq, w64_eq, reduceCtorEq, Int.reduceAdd, Int.reduceMul, Int.reduceSub, o_c141, ↓o_g141_0, ↓o_g141_1, ↓o_g141_5, ↓o_g141_6, ↓o_g141_7, ↓o_g141_8, ↓o_g141_9, ↓o_g141_21, ↓o_g141_25, ↓o_g141_26, ↓o_g141_27, ↓o_g141_28, ↓o_g141_29, ↓o_g141_30, ↓o_g141_31, ↓o_g141_34, ↓o_g141_35, ↓o_g141_36, ↓c0, ↓a]
  · have h2 : 15 < x := by omega
    simp (disch := first | with_reducible assumption | omega) only [↓sm, ↓reduceIte, ↓if_pos, ↓if_neg, kI, kJ, kR, kV, w32_eq, w64_eq, reduceCtorEq, Int.reduceAdd, Int.reduceMul, Int.reduceSub, o_c141, ↓o_g141_0, ↓o_g141_1, ↓o_g141_5, ↓o_g141_6, ↓o_g141_7, ↓o_g141_8, ↓o_g141_9, ↓o_g141_21, ↓o_g141_25, ↓o_g141_26, ↓o_g141_27, ↓o_g141_28, ↓o_g141_29, ↓o_g141_30, ↓o_g141_31, ↓o_g141_34, ↓o_g141_35, ↓o_g141_36, ↓c0, ↓a]
/-! a cell -/
theorem ncl_e {S S' : Int → Int} (e : ∀ j, j < 2 → S' j = S j) : ncl S' = ncl S := by
  unfold ncl
  rw [e 0 (by omega), e 1 (by omega)]
theorem ru_cells {t0 t : mS} {b : Int → Int} {n : Int} {T : mT} {G0 G H O : Int → Int} {m cnt dep : Int} (hW : WF G0) (h : RU t0 b n T G H O m cnt dep t) (hL : ∀ j, j < 1888 → G j = G0 j) (Z : mX) (f : Int → mW → mO) : mm_kI (mm_run (zP Z) 248 [.inr (.inr (some 141)), .inl 0] (mk t)) f = f (ncl G0) (mk t) := by
  have n := w_ncl hW
  have e0 : G 0 = G0 0 := hL 0 (by omega)
  have e1 : G 1 = G0 1 := hL 1 (by omega)
  rw [B_X12_cellsOf]
  simp (disch := first | assumption | omega) only [↓sm, ↓reduceIte, ↓if_pos, ↓if_neg, kI, kJ, kR, kV, w32_eq, w64_eq, reduceCtorEq, Int.reduceAdd, Int.reduceMul, Int.reduceSub, o_c141, ↓o_g141_0, ↓o_g141_1, ↓o_g141_5, ↓o_g141_6, ↓o_g141_7, ↓o_g141_8, ↓o_g141_9, ↓o_g141_21, ↓o_g141_25, ↓o_g141_26, ↓o_g141_27, ↓o_g141_28, ↓o_g141_29, ↓o_g141_30, ↓o_g141_31, ↓o_g141_34, ↓o_g141_35, ↓o_g141_36, ↓r_atw h.2.1, ↓r_at h.2.1, e0, e1, n]
theorem ru_cell {Z : mX} {t0 t : mS} {b : Int → Int} {n : Int} {T T' : mT} (hk : TT b n T) {G0 G H O : Int → Int} {m cnt dep : Int} (hW : WF G0) (hN : NR Z b n T T') (h : RU t0 b n T G H O m cnt dep t) (hL : ∀ j, j < 1888 → G j = G0 j) {to : Int} (q0 : 1992 ≤ to) (q1 : to < 2464) (hq : tK T = 5 ∧ 0 ≤ tV T ∧ tV T ≤ ncl G0 - 1) : ∃ t', (∀ f : Int → mW → mO, mm_kI (mm_run (zP Z) 264 [.inr (.inr (some 141)), .inl to] (mk t)) f = f 1 (mk t')) ∧ RU t0 b n T' (mm_upd G to (tV T)) H O m cnt dep t' := by
  have nn := wf_n hW
  obtain ⟨t', a, c⟩ := ru_num hk hN h q0 q1 (l := 0) (u := ncl G0 - 1) hq
  have wn : mm_w32 (ncl G0 - 1) = ncl G0 - 1 := w32_eq (by omega) (by omega)
  rw [← wn] at a
  refine ⟨t', fun f => ?_, c⟩
  have rc := fun f => ru_cells hW h hL Z f
  rw [B_X12_cellTo]
  simp (disch := first | with_reducible assumption | omega) only [↓sm, ↓reduceIte, ↓if_pos, ↓if_neg, kI, kJ, kR, kV, w32_eq, w64_eq, reduceCtorEq, Int.reduceAdd, Int.reduceMul, Int.reduceSub, o_c141, ↓rc, ↓a]
theorem ru_cellf (Z : mX) {t0 t : mS} {b : Int → Int} {n : Int} {T : mT} (hk : TT b n T) {G0 G H O : Int → Int} {m cnt dep : Int} (hW : WF G0) (h : RU t0 b n T G H O m cnt dep t) (hL : ∀ j, j < 1888 → G j = G0 j) {to : Int} (hq : ¬ (tK T = 5 ∧ 0 ≤ tV T ∧ tV T ≤ ncl G0 - 1)) : ∃ t', (∀ f : Int → mW → mO, mm_kI (mm_run (zP Z) 264 [.inr (.inr (some 141)), .inl to] (mk t)) f = f 0 (mk t')) ∧ RFl t0 G0 H (nkd T) (tF T) t' := by
  have nn := wf_n hW
  obtain ⟨t', a, c⟩ := ru_numf Z hk h hL (to := to) (l := 0) (u := ncl G0 - 1) hq
  have wn : mm_w32 (ncl G0 - 1) = ncl G0 - 1 := w32_eq (by omega) (by omega)
  rw [← wn] at a
  refine ⟨t', fun f => ?_, c⟩
  have rc := fun f => ru_cells hW h hL Z f
  rw [B_X12_cellTo]
  simp (disch := first | with_reducible assumption | omega) only [↓sm, ↓reduceIte, ↓if_pos, ↓if_neg, kI, kJ, kR, kV, w32_eq, w64_eq, reduceCtorEq, Int.reduceAdd, Int.reduceMul, Int.reduceSub, o_c141, ↓rc, ↓a]
/-! a comparison and what is compared with -/
theorem ru_tail (Z : mX) {t0 t : mS} {b : Int → Int} {n : Int} {T T1 T2 : mT} (hk : TT b n T) (hk1 : TT b n T1) {G H O : Int → Int} {m cnt dep : Int} (M0 : NR Z b n T T1) (M1 : NR Z b n T1 T2) (h : RU t0 b n T G H O m cnt dep t) {to : Int} (q0 : 1992 ≤ to) (q1 : to + 5 < 2464) (hq : tK T = 6 ∧ 60 ≤ tV T ∧ tV T ≤ 62) (hr : tK T1 = 5 ∧ 0 ≤ tV T1 ∧ tV T1 ≤ 9) :
    ∃ t', mm_at (zP Z) 266 71 [some (.inr (.inr (some 141))), some (.inl to), none, none] [.inl 1] (mk t) = some (some (.inl 1), mk t') ∧ RU t0 b n T2 (mm_upd (mm_upd G (to + 5) (tV T)) (to + 2) (tV T1)) H O m cnt dep t' := by
  have e15 : t.1 141 15 = tV T := h.1.2.2.2.2 (Or.inr hq.1)
  obtain ⟨t1, a1, c1⟩ := ru_adv M0 (ru_142 h (j := to + 5) (by omega) (tV T))
  obtain ⟨t2, a2, c2⟩ := ru_num hk1 M1 c1 (to := to + 2) (by omega) (by omega) (l := 0) (u := 9) hr
  refine ⟨t2, ?_, c2⟩
  have s60 := fun f => r_isSign Z hk h.1 60 f
  have s62 := fun f => r_isSign Z hk h.1 62 f
  have s61 := fun f => r_isSign Z hk h.1 61 f
  have hh : tV T = 60 ∨ tV T = 61 ∨ tV T = 62 := by omega
  rw [B_X12_test_71]
  rcases hh with hh | hh | hh
  · rw [if_pos ⟨hq.1, hh⟩] at s60
    simp (disch := first | with_reducible assumption | omega) only [↓sm, ↓reduceIte, ↓if_pos, ↓if_neg, kI, kJ, kR, kV, w32_eq, w64_eq, reduceCtorEq, Int.reduceAdd, Int.reduceMul, Int.reduceSub, o_c141, ↓o_g141_0, ↓o_g141_1, ↓o_g141_5, ↓o_g141_6, ↓o_g141_7, ↓o_g141_8, ↓o_g141_9, ↓o_g141_21, ↓o_g141_25, ↓o_g141_26, ↓o_g141_27, ↓o_g141_28, ↓o_g141_29, ↓o_g141_30, ↓o_g141_31, ↓o_g141_34, ↓o_g141_35, ↓o_g141_36, ↓s60, ↓B_X12_test_92 Z, ↓rI141_15 e15, ↓a_st142, ↓a1, ↓a2]
  · rw [if_neg (by omega)] at s60 s62
    rw [if_pos ⟨hq.1, hh⟩] at s61
    simp (disch := first | with_reducible assumption | omega) only [↓sm, ↓reduceIte, ↓if_pos, ↓if_neg, kI, kJ, kR, kV, w32_eq, w64_eq, reduceCtorEq, Int.reduceAdd, Int.reduceMul, Int.reduceSub, o_c141, ↓o_g141_0, ↓o_g141_1, ↓o_g141_5, ↓o_g141_6, ↓o_g141_7, ↓o_g141_8, ↓o_g141_9, ↓o_g141_21, ↓o_g141_25, ↓o_g141_26, ↓o_g141_27, ↓o_g141_28, ↓o_g141_29, ↓o_g141_30, ↓o_g141_31, ↓o_g141_34, ↓o_g141_35, ↓o_g141_36, ↓s60, ↓s62, ↓s61, ↓B_X12_test_92 Z, ↓rI141_15 e15, ↓a_st142, ↓a1, ↓a2]
  · rw [if_neg (by omega)] at s60
    rw [if_pos ⟨hq.1, hh⟩] at s62
    simp (disch := first | with_reducible assumption | omega) only [↓sm, ↓reduceIte, ↓if_pos, ↓if_neg, kI, kJ, kR, kV, w32_eq, w64_eq, reduceCtorEq, Int.reduceAdd, Int.reduceMul, Int.reduceSub, o_c141, ↓o_g141_0, ↓o_g141_1, ↓o_g141_5, ↓o_g141_6, ↓o_g141_7, ↓o_g141_8, ↓o_g141_9, ↓o_g141_21, ↓o_g141_25, ↓o_g141_26, ↓o_g141_27, ↓o_g141_28, ↓o_g141_29, ↓o_g141_30, ↓o_g141_31, ↓o_g141_34, ↓o_g141_35, ↓o_g141_36, ↓s60, ↓s62, ↓B_X12_test_92 Z, ↓rI141_15 e15, ↓a_st142, ↓a1, ↓a2]
theorem ru_tail_1 (Z : mX) {t0 t : mS} {b : Int → Int} {n : Int} {T : mT} (hk : TT b n T) {G0 G H O : Int → Int} {m cnt dep : Int} (h : RU t0 b n T G H O m cnt dep t) (hL : ∀ j, j < 1888 → G j = G0 j) {to : Int} (hq : ¬ (tK T = 6 ∧ 60 ≤ tV T ∧ tV T ≤ 62)) :
    ∃ t', mm_at (zP Z) 266 71 [some (.inr (.inr (some 141))), some (.inl to), none, none] [.inl 1] (mk t) = some (some (.inl 0), mk t') ∧ RFl t0 G0 H (fkd T) (tF T) t' := by
  obtain ⟨t', a, c⟩ := ru_fail2 Z hk h hL
  refine ⟨t', ?_, c⟩
  have s60 := fun f => r_isSign Z hk h.1 60 f
  have s62 := fun f => r_isSign Z hk h.1 62 f
  have s61 := fun f => r_isSign Z hk h.1 61 f
  rw [if_neg (by omega)] at s60 s62 s61
  rw [B_X12_test_71]
  simp (disch := first | with_reducible assumption | omega) only [↓sm, ↓reduceIte, ↓if_pos, ↓if_neg, kI, kJ, kR, kV, w32_eq, w64_eq, reduceCtorEq, Int.reduceAdd, Int.reduceMul, Int.reduceSub, o_c141, ↓o_g141_0, ↓o_g141_1, ↓o_g141_5, ↓o_g141_6, ↓o_g141_7, ↓o_g141_8, ↓o_g141_9, ↓o_g141_21, ↓o_g141_25, ↓o_g141_26, ↓o_g141_27, ↓o_g141_28, ↓o_g141_29, ↓o_g141_30, ↓o_g141_31, ↓o_g141_34, ↓o_g141_35, ↓o_g141_36, ↓s60, ↓s62, ↓s61, ↓a]
theorem ru_tail_2 (Z : mX) {t0 t : mS} {b : Int → Int} {n : Int} {T T1 : mT} (hk : TT b n T) (hk1 : TT b n T1) {G0 G H O : Int → Int} {m cnt dep : Int} (M0 : NR Z b n T T1) (h : RU t0 b n T G H O m cnt dep t) (hL : ∀ j, j < 1888 → G j = G0 j) {to : Int} (q0 : 1992 ≤ to) (q1 : to + 5 < 2464) (hq : tK T = 6 ∧ 60 ≤ tV T ∧ tV T ≤ 62) (hr : ¬ (tK T1 = 5 ∧ 0 ≤ tV T1 ∧ tV T1 ≤ 9)) :
    ∃ t', mm_at (zP Z) 266 71 [some (.inr (.inr (some 141))), some (.inl to), none, none] [.inl 1] (mk t) = some (some (.inl 0), mk t') ∧ RFl t0 G0 H (nkd T1) (tF T1) t' := by
  have e15 : t.1 141 15 = tV T := h.1.2.2.2.2 (Or.inr hq.1)
  obtain ⟨t1, a1, c1⟩ := ru_adv M0 (ru_142 h (j := to + 5) (by omega) (tV T))
  obtain ⟨t2, a2, c2⟩ := ru_numf Z hk1 c1 (lo1 hL (by omega) _) (to := to + 2) (l := 0) (u := 9) hr
  refine ⟨t2, ?_, c2⟩
  have s60 := fun f => r_isSign Z hk h.1 60 f
  have s62 := fun f => r_isSign Z hk h.1 62 f
  have s61 := fun f => r_isSign Z hk h.1 61 f
  have hh : tV T = 60 ∨ tV T = 61 ∨ tV T = 62 := by omega
  rw [B_X12_test_71]
  rcases hh with hh | hh | hh
  · rw [if_pos ⟨hq.1, hh⟩] at s60
    simp (disch := first | with_reducible assumption | omega) only [↓sm, ↓reduceIte, ↓if_pos, ↓if_neg, kI, kJ, kR, kV, w32_eq, w64_eq, reduceCtorEq, Int.reduceAdd, Int.reduceMul, Int.reduceSub, o_c141, ↓o_g141_0, ↓o_g141_1, ↓o_g141_5, ↓o_g141_6, ↓o_g141_7, ↓o_g141_8, ↓o_g141_9, ↓o_g141_21, ↓o_g141_25, ↓o_g141_26, ↓o_g141_27, ↓o_g141_28, ↓o_g141_29, ↓o_g141_30, ↓o_g141_31, ↓o_g141_34, ↓o_g141_35, ↓o_g141_36, ↓s60, ↓B_X12_test_92 Z, ↓rI141_15 e15, ↓a_st142, ↓a1, ↓a2]
  · rw [if_neg (by omega)] at s60 s62
    rw [if_pos ⟨hq.1, hh⟩] at s61
    simp (disch := first | with_reducible assumption | omega) only [↓sm, ↓reduceIte, ↓if_pos, ↓if_neg, kI, kJ, kR, kV, w32_eq, w64_eq, reduceCtorEq, Int.reduceAdd, Int.reduceMul, Int.reduceSub, o_c141, ↓o_g141_0, ↓o_g141_1, ↓o_g141_5, ↓o_g141_6, ↓o_g141_7, ↓o_g141_8, ↓o_g141_9, ↓o_g141_21, ↓o_g141_25, ↓o_g141_26, ↓o_g141_27, ↓o_g141_28, ↓o_g141_29, ↓o_g141_30, ↓o_g141_31, ↓o_g141_34, ↓o_g141_35, ↓o_g141_36, ↓s60, ↓s62, ↓s61, ↓B_X12_test_92 Z, ↓rI141_15 e15, ↓a_st142, ↓a1, ↓a2]
  · rw [if_neg (by omega)] at s60
    rw [if_pos ⟨hq.1, hh⟩] at s62
    simp (disch := first | with_reducible assumption | omega) only [↓sm, ↓reduceIte, ↓if_pos, ↓if_neg, kI, kJ, kR, kV, w32_eq, w64_eq, reduceCtorEq, Int.reduceAdd, Int.reduceMul, Int.reduceSub, o_c141, ↓o_g141_0, ↓o_g141_1, ↓o_g141_5, ↓o_g141_6, ↓o_g141_7, ↓o_g141_8, ↓o_g141_9, ↓o_g141_21, ↓o_g141_25, ↓o_g141_26, ↓o_g141_27, ↓o_g141_28, ↓o_g141_29, ↓o_g141_30, ↓o_g141_31, ↓o_g141_34, ↓o_g141_35, ↓o_g141_36, ↓s60, ↓s62, ↓B_X12_test_92 Z, ↓rI141_15 e15, ↓a_st142, ↓a1, ↓a2]
