/-! one keeps away from the other -/
def mg (S : Int → Int) (p c k : Int) : Int := if k = 4 then c else if sd S c k = -1 then -1 else if Kc S p (sd S c k) = true then sd S c k else -1
def safeP (S : Int → Int) (K : Int → Int → Prop) (o h t : Int) : Prop := h ≠ t ∧ ∀ k, 0 ≤ k → k ≤ 4 → mg S o t k ≠ -1 → K h (mg S o t k)
def kpP (S : Int → Int) (p o : Int) : Nat → Int → Int → Prop
  | 0, h, t => h ≠ t
  | n + 1, h, t => h ≠ t ∧ ∃ k, 0 ≤ k ∧ k ≤ 4 ∧ mg S p h k ≠ -1 ∧ safeP S (kpP S p o n) o (mg S p h k) t
theorem kpP_ne {S : Int → Int} {p o : Int} : ∀ {n : Nat} {h t : Int}, kpP S p o n h t → h ≠ t
  | 0, _, _, g => g
  | _ + 1, _, _, g => g.1
theorem mg_4 (S : Int → Int) (p c : Int) : mg S p c 4 = c := if_pos rfl
theorem mg_r {S : Int → Int} (hw : WF S) {p c k : Int} (c0 : 0 ≤ c) (c1 : c < ncl S) (k0 : 0 ≤ k) (k1 : k ≤ 4) (h : mg S p c k ≠ -1) : 0 ≤ mg S p c k ∧ mg S p c k < ncl S := by
  unfold mg at *
  by_cases h4 : k = 4
  · rw [if_pos h4]; exact ⟨c0, c1⟩
  · rw [if_neg h4] at h ⊢
    by_cases hs : sd S c k = -1
    · rw [if_pos hs] at h; exact absurd rfl h
    · rw [if_neg hs] at h ⊢
      by_cases hK : Kc S p (sd S c k) = true
      · rw [if_pos hK]
        exact sd_r hw c0 c1 k0 (by omega) hs
      · rw [if_neg hK] at h; exact absurd rfl h
/-- going, in other words -/
theorem mg_iff {S : Int → Int} {p c : Int} {Q : Int → Prop} : (∃ k, 0 ≤ k ∧ k ≤ 4 ∧ mg S p c k ≠ -1 ∧ Q (mg S p c k)) ↔ (c ≠ -1 ∧ Q c) ∨ ∃ d, Bs S c d ∧ Kc S p d = true ∧ Q d := by
  constructor
  · rintro ⟨k, k0, k1, h, q⟩
    by_cases h4 : k = 4
    · rw [h4, mg_4] at h q
      exact Or.inl ⟨h, q⟩
    · unfold mg at h q
      rw [if_neg h4] at h q
      by_cases hs : sd S c k = -1
      · rw [if_pos hs] at h; exact absurd rfl h
      · rw [if_neg hs] at h q
        by_cases hK : Kc S p (sd S c k) = true
        · rw [if_pos hK] at q
          exact Or.inr ⟨_, ⟨k, k0, by omega, rfl, hs⟩, hK, q⟩
        · rw [if_neg hK] at h; exact absurd rfl h
  · rintro (⟨h, q⟩ | ⟨d, ⟨k, k0, k1, e, hn⟩, hK, q⟩)
    · exact ⟨4, by omega, by omega, by rw [mg_4]; exact h, by rw [mg_4]; exact q⟩
    · have em : mg S p c k = d := by
        unfold mg
        rw [if_neg (by omega), if_neg (by rw [e]; exact hn), e, if_pos hK]
      exact ⟨k, k0, by omega, by rw [em]; exact hn, by rw [em]; exact q⟩
theorem safeP_iff {S : Int → Int} {K : Int → Int → Prop} {o h t : Int} (t0 : 0 ≤ t) : safeP S K o h t ↔ h ≠ t ∧ K h t ∧ ∀ d, Bs S t d → Kc S o d = true → K h d := by
  unfold safeP
  constructor
  · rintro ⟨h1, h2⟩
    refine ⟨h1, ?_, fun d hb hk => ?_⟩
    · have := h2 4 (by omega) (by omega) (by rw [mg_4]; omega)
      rwa [mg_4] at this
    · obtain ⟨k, k0, k1, e, hn⟩ := hb
      have em : mg S o t k = d := by
        unfold mg
        rw [if_neg (by omega), if_neg (by rw [e]; exact hn), e, if_pos hk]
      have := h2 k k0 (by omega) (by rw [em]; exact hn)
      rwa [em] at this
  · rintro ⟨h1, h2, h3⟩
    refine ⟨h1, fun k k0 k1 h => ?_⟩
    have := (mg_iff (S := S) (p := o) (c := t) (Q := fun d => d = mg S o t k)).mp ⟨k, k0, k1, h, rfl⟩
    rcases this with ⟨_, e⟩ | ⟨d, hb, hk, e⟩
    · rw [← e]; exact h2
    · rw [← e]; exact h3 d hb hk
def a72 (q : Nat) : Prop := q = 72 ∨ q = 73
theorem CS_72 {s t : mS} {S N : Int → Int} (h : CS s 7 S N) (g : Ag a72 noF s t) : CS t 7 S N := CS_fr h (fun k => g.2 7 k (fun x => x)) (fun j j0 j1 => g.1 _ (by unfold a72; omega))
def RS (s : mS) (S : Int → Int) (K : Int → Int → Prop) : Prop := ∀ t h : Int, 0 ≤ t → t < ncl S → 0 ≤ h → h < ncl S → (tb (s.2 72 t) h.toNat = true ↔ K h t)
theorem lp_good {s : mS} {S N : Int → Int} (h : CS s 7 S N) (hw : WF S) (Z : mX) (L : Int) : ∀ i : Int, i ≤ ncl S → ∀ G : Int, 0 ≤ i → ∃ x, mm_at (zP Z) 19 20 [some (.inr (.inr (some 71))), none, none, some (.inl G), some (.inl L), some (.inl i)] [] (mk s) = some (some (.inl x), mk s) ∧
    ∀ k : Nat, k < 32 → (tb x k = true ↔ tb G k = true ∧ ∀ j : Int, i ≤ j → j < ncl S → tb L j.toNat = true → tb (s.2 72 j) k = true ∧ (k : Int) ≠ j) := by
  have nn := wf_n hw
  refine up ?_ ?_
  · intro G i0
    refine ⟨G, ?_, fun k hk => ⟨fun g => ⟨g, fun j j0 j1 => absurd j1 (by omega)⟩, fun g => g.1⟩⟩
    rw [B_X2_goodToStepTo_20]
    simp (disch := first | assumption | omega) only [↓sm, ↓reduceIte, ↓if_pos, ↓if_neg, kI, kJ, kR, kV, w32_eq, w64_eq, reduceCtorEq, Int.reduceAdd, Int.reduceMul, Int.reduceSub, o_c71, ↓o_g71_0, ↓o_g71_1, ↓o_g71_2, o_c7, ↓c_cells h hw Z]
  · intro i hi ih G i0
    cases hl : tb L i.toNat
    · obtain ⟨x, g1, g2⟩ := ih G (by omega)
      refine ⟨x, ?_, fun k hk => ?_⟩
      · rw [B_X2_goodToStepTo_20]
        simp (disch := first | assumption | omega) only [↓sm, ↓reduceIte, ↓if_pos, ↓if_neg, kI, kJ, kR, kV, w32_eq, w64_eq, reduceCtorEq, Int.reduceAdd, Int.reduceMul, Int.reduceSub, o_c71, ↓o_g71_0, ↓o_g71_1, ↓o_g71_2, o_c7, ↓c_cells h hw Z, ↓k_has Z, hl, b2i_0, g1, Bool.false_eq_true]
      · rw [g2 k hk]
        refine ⟨fun g => ⟨g.1, fun j j0 j1 hj => ?_⟩, fun g => ⟨g.1, fun j j0 j1 hj => g.2 j (by omega) j1 hj⟩⟩
        by_cases e : j = i
        · rw [e, hl] at hj; cases hj
        · exact g.2 j (by omega) j1 hj
    · obtain ⟨x, g1, g2⟩ := ih (mm_iand G (mm_iand (s.2 72 i) (mm_ixor (mm_ishl 1 i) (-1)))) (by omega)
      refine ⟨x, ?_, fun k hk => ?_⟩
      · rw [B_X2_goodToStepTo_20]
        simp (disch := first | assumption | omega) only [↓sm, ↓reduceIte, ↓if_pos, ↓if_neg, kI, kJ, kR, kV, w32_eq, w64_eq, reduceCtorEq, Int.reduceAdd, Int.reduceMul, Int.reduceSub, o_c71, ↓o_g71_0, ↓o_g71_1, ↓o_g71_2, o_c7, ↓c_cells h hw Z, ↓k_has Z, hl, b2i_0, ↓g_72 Z, ↓k_bit Z, g1]
      · rw [g2 k hk, tb_and, tb_and, tb_not, tb_shl1 i0 (by omega)]
        have e1 : (k = i.toNat) ↔ ((k : Int) = i) := by omega
        simp only [Bool.and_eq_true, decide_eq_true_eq, hk, true_and, Bool.not_eq_true', decide_eq_false_iff_not, e1]
        constructor
        · rintro ⟨⟨h1, h2, h3⟩, h4⟩
          refine ⟨h1, fun j j0 j1 hj => ?_⟩
          by_cases e : j = i
          · rw [e]; exact ⟨h2, h3⟩
          · exact h4 j (by omega) j1 hj
        · rintro ⟨h1, h4⟩
          have := h4 i (by omega) hi hl
          exact ⟨⟨h1, this.1, this.2⟩, fun j j0 j1 hj => h4 j (by omega) j1 hj⟩
theorem tb_clr {S : Int → Int} (hw : WF S) (p : Int) (i : Nat) : tb (clr S p (S (74 + 6 * p + 1))) i = (decide ((i : Int) < ncl S) && Kc S p i) := by
  have n := wf_n hw
  rw [clr_Kc, tb_bz _ (by omega)]
theorem tb_near {S : Int → Int} (hw : WF S) {t j : Int} (t0 : 0 ≤ t) (t1 : t < ncl S) (j0 : 0 ≤ j) (j1 : j < ncl S) : tb (ar S (mm_ishl 1 t)) j.toNat = true ↔ Bs S t j := by
  have n := wf_n hw
  rw [tb_ar hw, Int.toNat_of_nonneg j0, decide_eq_true j1, Bool.true_and, arB_iff]
  constructor
  · rintro ⟨c, hb, hc⟩
    unfold tbz at hc
    rw [Bool.and_eq_true, decide_eq_true_eq, tb_shl1 t0 (by omega), decide_eq_true_eq] at hc
    have : c = t := by omega
    rw [this] at hb
    exact Bs_sym hw j0 j1 hb
  · intro hb
    refine ⟨t, Bs_sym hw t0 t1 hb, ?_⟩
    unfold tbz
    rw [tb_shl1 t0 (by omega), decide_eq_true t0]
    simp
theorem c_good {s : mS} {S N : Int → Int} (h : CS s 7 S N) (hw : WF S) (Z : mX) (o t : Int) (K : Int → Int → Prop) (hK : ∀ h t, K h t → h ≠ t) (hR : RS s S K) (t0 : 0 ≤ t) (t1 : t < ncl S) : ∃ x, (∀ f : Int → mW → mO, mm_kI (mm_run (zP Z) 19 [.inr (.inr (some 71)), .inl t, .inl ((clr S o (S (74 + 6 * o + 1))))] (mk s)) f = f x (mk s)) ∧ ∀ h : Int, 0 ≤ h → h < ncl S → (tb x h.toNat = true ↔ safeP S K o h t) := by
  have nn := wf_n hw
  obtain ⟨x, g1, g2⟩ := lp_good h hw Z (mm_iand (ar S (mm_ishl 1 t)) (clr S o (S (74 + 6 * o + 1)))) 0 (by omega) (mm_iand (s.2 72 t) (mm_ixor (mm_ishl 1 t) (-1))) (by omega)
  refine ⟨x, fun f => ?_, fun c c0 c1 => ?_⟩
  · rw [B_X2_goodToStepTo]
    simp (disch := first | assumption | omega) only [↓sm, ↓reduceIte, ↓if_pos, ↓if_neg, kI, kJ, kR, kV, w32_eq, w64_eq, reduceCtorEq, Int.reduceAdd, Int.reduceMul, Int.reduceSub, o_c71, ↓o_g71_0, ↓o_g71_1, ↓o_g71_2, o_c7, ↓g_72 Z, ↓k_bit Z, ↓c_around h hw Z _ (sub_bit hw t0 t1), g1]
  · rw [g2 c.toNat (by omega), safeP_iff t0, tb_and, tb_not, tb_shl1 t0 (by omega)]
    have e1 : (c.toNat = t.toNat) ↔ (c = t) := by omega
    simp only [Bool.and_eq_true, decide_eq_true_eq, Bool.not_eq_true', decide_eq_false_iff_not, e1, hR t c t0 t1 c0 c1]
    constructor
    · rintro ⟨⟨h1, _, h2⟩, h3⟩
      refine ⟨h2, h1, fun d hb hk => ?_⟩
      have r := Bs_r hw t0 t1 hb
      have q := h3 d r.1 r.2 (by
        rw [tb_and, tb_clr hw, Int.toNat_of_nonneg r.1, hk, decide_eq_true r.2, (tb_near hw t0 t1 r.1 r.2).mpr hb]
        rfl)
      exact (hR d c r.1 r.2 c0 c1).mp q.1
    · rintro ⟨h2, h1, h3⟩
      refine ⟨⟨h1, by omega, h2⟩, fun j j0 j1 hj => ?_⟩
      rw [tb_and, tb_clr hw, Int.toNat_of_nonneg j0, Bool.and_eq_true, Bool.and_eq_true, tb_near hw t0 t1 j0 j1] at hj
      have q := h3 j hj.1 hj.2.2
      have := hK _ _ q
      exact ⟨(hR j c j0 j1 c0 c1).mpr q, by omega⟩
theorem sub_and2 {S : Int → Int} {x y : Int} (hy : sub S y) : sub S (mm_iand x y) := by
  refine ⟨zr_32 _, fun i h => ?_⟩
  rw [tb_and] at h
  simp at h
  exact hy.2 i h.2
theorem sub_clr {S : Int → Int} (hw : WF S) (p : Int) : sub S (clr S p (S (74 + 6 * p + 1))) := sub_bz hw _
theorem lp_look10 (Z : mX) (S : Int → Int) (hw : WF S) (n A B : Int) : ∀ i : Int, i ≤ 25 → ∀ s : mS, 0 ≤ i → (∀ t, 0 ≤ t → t < i → s.2 72 t = mm_ixor (mm_ishl 1 t) (-1)) →
    ∃ s', mm_at (zP Z) 18 10 [some (.inr (.inr (some 71))), none, none, some (.inl n), some (.inl A), some (.inl B), some (.inl i), none, none] [] (mk s) = mm_at (zP Z) 18 25 [some (.inr (.inr (some 71))), none, none, some (.inl n), some (.inl A), some (.inl B), some (.inl 0), none, none] [] (mk s') ∧ Ag a72 noF s s' ∧ ∀ t, 0 ≤ t → t < 25 → s'.2 72 t = mm_ixor (mm_ishl 1 t) (-1) := by
  refine up ?_ ?_
  · intro s i0 hr
    refine ⟨s, ?_, Ag_refl _ _ _, hr⟩
    conv => lhs; rw [B_X2_look_10]
    simp (disch := first | assumption | omega) only [↓sm, ↓reduceIte, ↓if_pos, ↓if_neg, kI, kJ, kR, kV, w32_eq, w64_eq, reduceCtorEq, Int.reduceAdd, Int.reduceMul, Int.reduceSub]
  · intro i hi ih s i0 hr
    obtain ⟨s', g1, g2, g3⟩ := ih (uA s 72 i (mm_ixor (mm_ishl 1 i) (-1))) (by omega) (fun t t0 t1 => by
      rw [uA_s]
      by_cases e : t = i
      · rw [up_eq e, e]
      · rw [up_ne e]; exact hr t t0 (by omega))
    refine ⟨s', ?_, Ag_trans (Ag_uA (Ag_refl _ _ _) (by unfold a72; omega) _ _) g2, g3⟩
    rw [← g1]
    conv => lhs; rw [B_X2_look_10]
    simp (disch := first | assumption | omega) only [↓sm, ↓reduceIte, ↓if_pos, ↓if_neg, kI, kJ, kR, kV, w32_eq, w64_eq, reduceCtorEq, Int.reduceAdd, Int.reduceMul, Int.reduceSub, o_c71, ↓o_g71_0, ↓o_g71_1, ↓o_g71_2, ↓k_bit Z, ↓p_72 Z]
theorem lp_look30 (Z : mX) {S N : Int → Int} (hw : WF S) (p o n l : Int) (m : Nat) (p0 : 0 ≤ p) (p1 : p < S 3) (l0 : 0 ≤ l) (l1 : l < 100) : ∀ i : Int, i ≤ ncl S → ∀ s : mS, CS s 7 S N → 0 ≤ i → RS s S (kpP S p o m) → (∀ t h : Int, 0 ≤ t → t < i → 0 ≤ h → h < ncl S → (tb (s.2 73 t) h.toNat = true ↔ kpP S p o (m + 1) h t)) →
    ∃ s', mm_at (zP Z) 18 30 [some (.inr (.inr (some 71))), none, none, some (.inl n), some (.inl ((clr S p (S (74 + 6 * p + 1))))), some (.inl ((clr S o (S (74 + 6 * o + 1))))), some (.inl l), some (.inl i), none] [] (mk s) = mm_at (zP Z) 18 25 [some (.inr (.inr (some 71))), none, none, some (.inl n), some (.inl ((clr S p (S (74 + 6 * p + 1))))), some (.inl ((clr S o (S (74 + 6 * o + 1))))), some (.inl ((l + 1))), none, none] [] (mk s') ∧ Ag a72 noF s s' ∧ RS s' S (kpP S p o (m + 1)) := by
  have nn := wf_n hw
  refine up ?_ ?_
  · intro s h i0 hR hr
    refine ⟨cA s 73 72 25, ?_, Ag_cA (Ag_refl _ _ _) (by unfold a72; omega) _ _, fun t c t0 t1 c0 c1 => ?_⟩
    · have k := fun f => k_copy Z s (a := 73) (b := 72) (n := 25) rfl rfl (by decide) f
      rw [show ((25 : Nat) : Int) = 25 from rfl] at k
      conv => lhs; rw [B_X2_look_30]
      simp (disch := first | assumption | omega) only [↓sm, ↓reduceIte, ↓if_pos, ↓if_neg, kI, kJ, kR, kV, w32_eq, w64_eq, reduceCtorEq, Int.reduceAdd, Int.reduceMul, Int.reduceSub, o_c71, ↓o_g71_0, ↓o_g71_1, ↓o_g71_2, o_c7, ↓c_cells h hw Z, ↓k]
    · rw [cA_hit _ _ _ _ _ t0 (by omega)]
      exact hr t c t0 t1 c0 c1
  · intro i hi ih s h i0 hR hr
    obtain ⟨G, g1, g2⟩ := c_good h hw Z o i (kpP S p o m) (fun _ _ => kpP_ne) hR i0 hi
    have gA : Ag a72 noF s (uA s 73 i (mm_iand (mm_ior G (ar S (mm_iand G (clr S p (S (74 + 6 * p + 1)))))) (mm_ixor (mm_ishl 1 i) (-1)))) := Ag_uA (Ag_refl _ _ _) (by unfold a72; omega) _ _
    obtain ⟨s', k1, k2, k3⟩ := ih (uA s 73 i (mm_iand (mm_ior G (ar S (mm_iand G (clr S p (S (74 + 6 * p + 1)))))) (mm_ixor (mm_ishl 1 i) (-1)))) (CS_72 h gA) (by omega) (by
      intro t c t0 t1 c0 c1
      rw [uA_n s (by decide)]
      exact hR t c t0 t1 c0 c1) (by
      intro t c t0 t1 c0 c1
      rw [uA_s]
      by_cases e : t = i
      · rw [up_eq e, e, tb_and, tb_or, tb_not, tb_shl1 i0 (by omega), tb_ar hw, Int.toNat_of_nonneg c0, decide_eq_true c1, Bool.true_and]
        have e1 : (c.toNat = i.toNat) ↔ (c = i) := by omega
        have e2 : c.toNat < 32 := by omega
        simp only [Bool.and_eq_true, Bool.or_eq_true, decide_eq_true_eq, Bool.not_eq_true', decide_eq_false_iff_not, e1, e2, true_and, g2 c c0 c1, arB_iff]
        show _ ↔ c ≠ i ∧ ∃ k, 0 ≤ k ∧ k ≤ 4 ∧ mg S p c k ≠ -1 ∧ safeP S (kpP S p o m) o (mg S p c k) i
        rw [mg_iff (Q := fun d => safeP S (kpP S p o m) o d i)]
        constructor
        · rintro ⟨h1 | ⟨d, hb, hd⟩, h2⟩
          · exact ⟨h2, Or.inl ⟨by omega, h1⟩⟩
          · have r := Bs_r hw c0 c1 hb
            unfold tbz at hd
            rw [decide_eq_true r.1, Bool.true_and, tb_and, tb_clr hw, Int.toNat_of_nonneg r.1, Bool.and_eq_true, Bool.and_eq_true] at hd
            exact ⟨h2, Or.inr ⟨d, hb, hd.2.2, (g2 d r.1 r.2).mp hd.1⟩⟩
        · rintro ⟨h2, ⟨_, h1⟩ | ⟨d, hb, hk, hd⟩⟩
          · exact ⟨Or.inl h1, h2⟩
          · have r := Bs_r hw c0 c1 hb
            refine ⟨Or.inr ⟨d, hb, ?_⟩, h2⟩
            unfold tbz
            rw [decide_eq_true r.1, Bool.true_and, tb_and, tb_clr hw, Int.toNat_of_nonneg r.1, (g2 d r.1 r.2).mpr hd, hk, decide_eq_true r.2]
            rfl
      · rw [up_ne e]
        exact hr t c t0 (by omega) c0 c1)
    refine ⟨s', ?_, Ag_trans gA k2, k3⟩
    rw [← k1]
    conv => lhs; rw [B_X2_look_30]
    simp (disch := first | assumption | omega) only [↓sm, ↓reduceIte, ↓if_pos, ↓if_neg, kI, kJ, kR, kV, w32_eq, w64_eq, reduceCtorEq, Int.reduceAdd, Int.reduceMul, Int.reduceSub, o_c71, ↓o_g71_0, ↓o_g71_1, ↓o_g71_2, o_c7, o_c71, ↓c_cells h hw Z, ↓g1, ↓c_around h hw Z _ (sub_and2 (sub_clr hw p)), ↓k_bit Z, ↓p_73 Z]
theorem lp_look25 (Z : mX) {S N : Int → Int} (hw : WF S) (p o n : Int) (p0 : 0 ≤ p) (p1 : p < S 3) (n1 : n ≤ 4) : ∀ i : Int, i ≤ n → ∀ s : mS, CS s 7 S N → 0 ≤ i → RS s S (kpP S p o i.toNat) →
    ∃ s', mm_at (zP Z) 18 25 [some (.inr (.inr (some 71))), none, none, some (.inl n), some (.inl ((clr S p (S (74 + 6 * p + 1))))), some (.inl ((clr S o (S (74 + 6 * o + 1))))), some (.inl i), none, none] [] (mk s) = some (none, mk s') ∧ Ag a72 noF s s' ∧ RS s' S (kpP S p o n.toNat) := by
  have nn := wf_n hw
  refine up ?_ ?_
  · intro s h i0 hR
    refine ⟨s, ?_, Ag_refl _ _ _, hR⟩
    rw [B_X2_look_25]
    simp (disch := first | assumption | omega) only [↓sm, ↓reduceIte, ↓if_pos, ↓if_neg, kI, kJ, kR, kV, w32_eq, w64_eq, reduceCtorEq, Int.reduceAdd, Int.reduceMul, Int.reduceSub]
  · intro i hi ih s h i0 hR
    obtain ⟨s1, k1, k2, k3⟩ := lp_look30 Z hw p o n i i.toNat p0 p1 i0 (by omega) 0 (by omega) s h (by omega) hR (fun t c t0 t1 => absurd t1 (by omega))
    obtain ⟨s', g1, g2, g3⟩ := ih s1 (CS_72 h k2) (by omega) (by rw [show (i + 1).toNat = i.toNat + 1 by omega]; exact k3)
    refine ⟨s', ?_, Ag_trans k2 g2, g3⟩
    rw [B_X2_look_25]
    simp (disch := first | assumption | omega) only [↓sm, ↓reduceIte, ↓if_pos, ↓if_neg, kI, kJ, kR, kV, w32_eq, w64_eq, reduceCtorEq, Int.reduceAdd, Int.reduceMul, Int.reduceSub, k1, g1]
theorem c_chClear {s : mS} {S N : Int → Int} (h : CS s 7 S N) (hw : WF S) (Z : mX) (p : Int) (p0 : 0 ≤ p) (p1 : p < S 3) (f : Int → mW → mO) : mm_kI (mm_run (zP Z) 16 [.inr (.inr (some 71)), .inl p] (mk s)) f = f (clr S p (S (74 + 6 * p + 1))) (mk s) := by
  have wp := wf_p hw p0 p1
  rw [B_X2_clearSet]
  simp (disch := first | assumption | omega) only [↓sm, ↓reduceIte, ↓if_pos, ↓if_neg, kI, kJ, kR, kV, w32_eq, w64_eq, reduceCtorEq, Int.reduceAdd, Int.reduceMul, Int.reduceSub, o_c71, ↓o_g71_0, ↓o_g71_1, ↓o_g71_2, o_c7, ↓o_g7_4, ↓o_g7_5, ↓o_g7_7, ↓o_g7_8, ↓o_g7_9, ↓o_g7_11, ↓o_g7_12, ↓o_g7_13, ↓o_g7_14, ↓o_g7_15, ↓o_g7_16, ↓o_g7_17, ↓q_wide h, ↓q_high h, ↓q_odds h, ↓q_year h, ↓q_less h, ↓q_pups h, ↓q_thorns h Z, ↓q_berries h Z, ↓q_hours h hw Z, ↓q_needs h hw Z, ↓q_at h hw Z, ↓q_want h hw Z, ↓q_knows h hw Z, ↓q_caught h hw Z, ↓q_marks h hw Z, ↓q_torn h hw Z, o_c7, ↓c_clearSet h hw Z]
theorem c_look (Z : mX) {S N : Int → Int} (hw : WF S) (p o n : Int) (p0 : 0 ≤ p) (p1 : p < S 3) (o0 : 0 ≤ o) (o1 : o < S 3) (n0 : 0 ≤ n) (n1 : n ≤ 4) (s : mS) (h : CS s 7 S N) :
    ∃ s', (∀ f : mW → mO, mm_kV (mm_run (zP Z) 18 [.inr (.inr (some 71)), .inl p, .inl o, .inl n] (mk s)) f = f (mk s')) ∧ Ag a72 noF s s' ∧ RS s' S (kpP S p o n.toNat) := by
  have nn := wf_n hw
  obtain ⟨s1, a1, a2, a3⟩ := lp_look10 Z S hw n (clr S p (S (74 + 6 * p + 1))) (clr S o (S (74 + 6 * o + 1))) 0 (by omega) s (by omega) (fun t t0 t1 => absurd t1 (by omega))
  obtain ⟨s', g1, g2, g3⟩ := lp_look25 Z hw p o n p0 p1 n1 0 n0 s1 (CS_72 h a2) (by omega) (by
    intro t c t0 t1 c0 c1
    rw [a3 t t0 (by omega), tb_not, tb_shl1 t0 (by omega)]
    have e1 : (c.toNat = t.toNat) ↔ (c = t) := by omega
    have e2 : c.toNat < 32 := by omega
    simp only [Bool.and_eq_true, decide_eq_true_eq, Bool.not_eq_true', decide_eq_false_iff_not, e1, e2, true_and]
    exact Iff.rfl)
  refine ⟨s', fun f => ?_, Ag_trans a2 g2, g3⟩
  rw [B_X2_look]
  simp (disch := first | assumption | omega) only [↓sm, ↓reduceIte, ↓if_pos, ↓if_neg, kI, kJ, kR, kV, w32_eq, w64_eq, reduceCtorEq, Int.reduceAdd, Int.reduceMul, Int.reduceSub, o_c71, ↓c_chClear h hw Z, a1, g1]
