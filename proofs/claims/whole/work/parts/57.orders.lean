/-! orders, orderAt -/
theorem iand0 (a b : Int) : mm_iand a b = 0 ↔ ∀ i : Nat, i < 32 → tb a i = true → tb b i = false := by
  constructor
  · intro h i hi ha
    have : tb (mm_iand a b) i = false := by rw [h, tb_0]
    rw [tb_and, ha, Bool.true_and] at this
    exact this
  · intro h
    refine tb_ext (zr_32 _) (by unfold zR32; omega) (fun i hi => ?_)
    rw [tb_and, tb_0]
    cases ha : tb a i
    · rfl
    · rw [h i hi ha]; rfl
def oth (x m : Int) : Int := mm_iand x (mm_ixor (mm_ishl 1 m) (-1))
theorem oth_r {x m : Int} (x0 : 0 ≤ x) (x1 : x < 128) (m0 : 0 ≤ m) (m1 : m < 7) (ht : tb x m.toNat = true) : 0 ≤ oth x m ∧ oth x m < x := by
  have key : ∀ x : Nat, x < 128 → ∀ m : Nat, m < 7 → tb (x : Int) m = true → 0 ≤ oth (x : Int) (m : Int) ∧ oth (x : Int) (m : Int) < (x : Int) := by decide +kernel
  have := key x.toNat (by omega) m.toNat (by omega)
  rw [Int.toNat_of_nonneg x0, Int.toNat_of_nonneg m0] at this
  exact this ht
theorem oth_nd {x nd m : Int} (m0 : 0 ≤ m) (m1 : m < 31) (hn : tb nd m.toNat = false) : (mm_iand nd (mm_ixor (oth x m) (-1)) = 0) = (mm_iand nd (mm_ixor x (-1)) = 0) := by
  apply propext
  rw [iand0, iand0]
  unfold oth
  constructor
  · intro h i hi ha
    have := h i hi ha
    rw [tb_not, tb_and, tb_not, tb_shl1 m0 m1] at this
    rw [tb_not]
    cases hx : tb x i
    · rw [hx] at this
      simp [hi] at this
    · simp
  · intro h i hi ha
    have := h i hi ha
    rw [tb_not] at this
    rw [tb_not, tb_and, tb_not, tb_shl1 m0 m1]
    have hm : i ≠ m.toNat := fun e => by rw [e, hn] at ha; cases ha
    cases hx : tb x i
    · rw [hx] at this
      simp [hi] at this
    · simp [hi, hm]
/-- in how many orders a set's lessons can be learnt, from those of smaller sets -/
def osF (S A : Int → Int) (x : Int) : Nat → Int
  | 0 => 0
  | m + 1 => if tb x m && decide (mm_iand (S (60 + 2 * (m : Int) + 1)) (mm_ixor (oth x m) (-1)) = 0) then mm_w32 (osF S A x m + A (oth x m)) else osF S A x m
theorem osF_s (S A : Int → Int) (x : Int) (m : Nat) : osF S A x (m + 1) = if tb x m && decide (mm_iand (S (60 + 2 * (m : Int) + 1)) (mm_ixor (oth x m) (-1)) = 0) then mm_w32 (osF S A x m + A (oth x m)) else osF S A x m := rfl
theorem osF_cg (S A B : Int → Int) {x : Int} (x0 : 0 ≤ x) (x1 : x < 128) (h : ∀ j, 0 ≤ j → j < x → A j = B j) : ∀ m : Nat, m ≤ 7 → osF S A x m = osF S B x m
  | 0, _ => rfl
  | m + 1, hm => by
    unfold osF
    rw [osF_cg S A B x0 x1 h m (by omega)]
    by_cases ht : tb x m = true
    · have r := oth_r x0 x1 (m := m) (by omega) (by omega) (by simpa using ht)
      rw [h _ r.1 r.2]
    · have ht' : tb x m = false := by simpa using ht
      simp [ht']
def orA (S : Int → Int) : Nat → Int → Int
  | 0 => fun j => if j = 0 then 1 else 0
  | n + 1 => mm_upd (orA S n) ((n : Int) + 1) (osF S (orA S n) ((n : Int) + 1) (S 2).toNat)
theorem orA_s (S : Int → Int) (n : Nat) : orA S (n + 1) = mm_upd (orA S n) ((n : Int) + 1) (osF S (orA S n) ((n : Int) + 1) (S 2).toNat) := rfl
def al (S : Int → Int) : Int := mm_w32 (mm_ishl 1 (S 2) - 1)
theorem al_r {S : Int → Int} (hw : WF S) : 0 ≤ al S ∧ al S < 128 := by
  have w := wf0 hw
  have key : ∀ l : Nat, l < 8 → 0 ≤ mm_w32 (mm_ishl 1 (l : Int) - 1) ∧ mm_w32 (mm_ishl 1 (l : Int) - 1) < 128 := by decide +kernel
  have := key (S 2).toNat (by omega)
  rw [Int.toNat_of_nonneg (by omega)] at this
  exact this
theorem lp_ordersOf {s : mS} {S N : Int → Int} (h : CS s 7 S N) (hw : WF S) (Z : mX) (x : Int) (x0 : 0 ≤ x) (x1 : x < 128) : ∀ i : Int, i ≤ S 2 → 0 ≤ i → mm_at (zP Z) 27 4 [some (.inr (.inr (some 68))), some (.inl x), some (.inl ((osF S (s.2 70) x i.toNat))), some (.inl i), none] [] (mk s) = some (some (.inl (osF S (s.2 70) x (S 2).toNat)), mk s) := by
  have w := wf0 hw
  refine up ?_ ?_
  · intro i0
    rw [B_X3_ordersOf_4]
    simp (disch := first | assumption | omega) only [↓sm, ↓reduceIte, ↓if_pos, ↓if_neg, kI, kJ, kR, kV, w32_eq, w64_eq, reduceCtorEq, Int.reduceAdd, Int.reduceMul, Int.reduceSub, o_c68, ↓o_g68_0, ↓o_g68_1, ↓o_g68_2, o_c7, ↓o_g7_4, ↓o_g7_5, ↓o_g7_7, ↓o_g7_8, ↓o_g7_9, ↓o_g7_11, ↓o_g7_12, ↓o_g7_13, ↓o_g7_14, ↓o_g7_15, ↓o_g7_16, ↓o_g7_17, ↓q_wide h, ↓q_high h, ↓q_odds h, ↓q_year h, ↓q_less h, ↓q_pups h, ↓q_thorns h Z, ↓q_berries h Z, ↓q_hours h hw Z, ↓q_needs h hw Z, ↓q_at h hw Z, ↓q_want h hw Z, ↓q_knows h hw Z, ↓q_caught h hw Z, ↓q_marks h hw Z, ↓q_torn h hw Z]
  · intro i hi ih i0
    have g := ih (by omega)
    rw [show (i + 1).toNat = i.toNat + 1 by omega, osF_s, Int.toNat_of_nonneg i0] at g
    rw [B_X3_ordersOf_4]
    cases ht : tb x i.toNat
    · rw [ht] at g
      simp only [Bool.false_and, Bool.false_eq_true, if_false] at g
      simp (disch := first | assumption | omega) only [↓sm, ↓reduceIte, ↓if_pos, ↓if_neg, kI, kJ, kR, kV, w32_eq, w64_eq, reduceCtorEq, Int.reduceAdd, Int.reduceMul, Int.reduceSub, o_c68, ↓o_g68_0, ↓o_g68_1, ↓o_g68_2, o_c7, ↓o_g7_4, ↓o_g7_5, ↓o_g7_7, ↓o_g7_8, ↓o_g7_9, ↓o_g7_11, ↓o_g7_12, ↓o_g7_13, ↓o_g7_14, ↓o_g7_15, ↓o_g7_16, ↓o_g7_17, ↓q_wide h, ↓q_high h, ↓q_odds h, ↓q_year h, ↓q_less h, ↓q_pups h, ↓q_thorns h Z, ↓q_berries h Z, ↓q_hours h hw Z, ↓q_needs h hw Z, ↓q_at h hw Z, ↓q_want h hw Z, ↓q_knows h hw Z, ↓q_caught h hw Z, ↓q_marks h hw Z, ↓q_torn h hw Z, ↓k_bit Z, ↓k_has Z, b2i_0, ht]
      exact g
    · have r := oth_r x0 x1 i0 (by omega) ht
      have r1 : 0 ≤ mm_iand x (mm_ixor (mm_ishl 1 i) (-1)) := r.1
      have r2 : mm_iand x (mm_ixor (mm_ishl 1 i) (-1)) < x := r.2
      rw [ht] at g
      by_cases hy : mm_iand (S (60 + 2 * i + 1)) (mm_ixor (mm_iand x (mm_ixor (mm_ishl 1 i) (-1))) (-1)) = 0
      · have hy' : mm_iand (S (60 + 2 * i + 1)) (mm_ixor (oth x i) (-1)) = 0 := hy
        simp only [hy', decide_true, Bool.and_self, if_true] at g
        simp (disch := first | assumption | omega) only [↓sm, ↓reduceIte, ↓if_pos, ↓if_neg, kI, kJ, kR, kV, w32_eq, w64_eq, reduceCtorEq, Int.reduceAdd, Int.reduceMul, Int.reduceSub, o_c68, ↓o_g68_0, ↓o_g68_1, ↓o_g68_2, o_c7, ↓o_g7_4, ↓o_g7_5, ↓o_g7_7, ↓o_g7_8, ↓o_g7_9, ↓o_g7_11, ↓o_g7_12, ↓o_g7_13, ↓o_g7_14, ↓o_g7_15, ↓o_g7_16, ↓o_g7_17, ↓q_wide h, ↓q_high h, ↓q_odds h, ↓q_year h, ↓q_less h, ↓q_pups h, ↓q_thorns h Z, ↓q_berries h Z, ↓q_hours h hw Z, ↓q_needs h hw Z, ↓q_at h hw Z, ↓q_want h hw Z, ↓q_knows h hw Z, ↓q_caught h hw Z, ↓q_marks h hw Z, ↓q_torn h hw Z, ↓k_bit Z, ↓k_has Z, b2i_0, ht, hy, ↓g_70]
        exact g
      · have hy' : ¬ mm_iand (S (60 + 2 * i + 1)) (mm_ixor (oth x i) (-1)) = 0 := hy
        simp only [hy', decide_false, Bool.and_false, Bool.false_eq_true, if_false] at g
        simp (disch := first | assumption | omega) only [↓sm, ↓reduceIte, ↓if_pos, ↓if_neg, kI, kJ, kR, kV, w32_eq, w64_eq, reduceCtorEq, Int.reduceAdd, Int.reduceMul, Int.reduceSub, o_c68, ↓o_g68_0, ↓o_g68_1, ↓o_g68_2, o_c7, ↓o_g7_4, ↓o_g7_5, ↓o_g7_7, ↓o_g7_8, ↓o_g7_9, ↓o_g7_11, ↓o_g7_12, ↓o_g7_13, ↓o_g7_14, ↓o_g7_15, ↓o_g7_16, ↓o_g7_17, ↓q_wide h, ↓q_high h, ↓q_odds h, ↓q_year h, ↓q_less h, ↓q_pups h, ↓q_thorns h Z, ↓q_berries h Z, ↓q_hours h hw Z, ↓q_needs h hw Z, ↓q_at h hw Z, ↓q_want h hw Z, ↓q_knows h hw Z, ↓q_caught h hw Z, ↓q_marks h hw Z, ↓q_torn h hw Z, ↓k_bit Z, ↓k_has Z, b2i_0, ht, hy]
        exact g
theorem c_ordersOf {s : mS} {S N : Int → Int} (h : CS s 7 S N) (hw : WF S) (Z : mX) (x : Int) (x0 : 0 ≤ x) (x1 : x < 128) (f : Int → mW → mO) : mm_kI (mm_run (zP Z) 27 [.inr (.inr (some 68)), .inl x] (mk s)) f = f (osF S (s.2 70) x (S 2).toNat) (mk s) := by
  have w := wf0 hw
  have g := lp_ordersOf h hw Z x x0 x1 0 (by omega) (by omega)
  rw [show osF S (s.2 70) x (Int.toNat 0) = 0 from rfl] at g
  rw [B_X3_ordersOf, g, kI]
def a70 (q : Nat) : Prop := q = 70
theorem a70_ : a70 70 := rfl
theorem lp_countOrders {S N : Int → Int} (hw : WF S) (Z : mX) : ∀ i : Int, i ≤ al S + 1 → ∀ s : mS, CS s 7 S N → 1 ≤ i → (∀ j, 0 ≤ j → j < i → s.2 70 j = orA S (i.toNat - 1) j) →
    ∃ s', mm_at (zP Z) 26 14 [some (.inr (.inr (some 68))), some (.inl ((al S))), some (.inl i)] [] (mk s) = some (some (.inl (orA S (al S).toNat (al S))), mk s') ∧ Ag a70 noF s s' := by
  have w := wf0 hw
  have ar := al_r hw
  refine up ?_ ?_
  · intro s h i0 hA
    refine ⟨s, ?_, Ag_refl _ _ _⟩
    have e := hA (al S) (by omega) (by omega)
    rw [show (al S + 1).toNat - 1 = (al S).toNat by omega] at e
    rw [B_X3_countOrders_14]
    simp (disch := first | assumption | omega) only [↓sm, ↓reduceIte, ↓if_pos, ↓if_neg, kI, kJ, kR, kV, w32_eq, w64_eq, reduceCtorEq, Int.reduceAdd, Int.reduceMul, Int.reduceSub, o_c68, ↓o_g68_0, ↓o_g68_1, ↓o_g68_2, ↓g_70, e]
  · intro i hi ih s h i0 hA
    have e1 : osF S (s.2 70) i (S 2).toNat = osF S (orA S (i.toNat - 1)) i (S 2).toNat := osF_cg S _ _ (by omega) (by omega) (fun j j0 j1 => hA j j0 j1) _ (by omega)
    have ag : Ag a70 noF s (uA s 70 i (osF S (orA S (i.toNat - 1)) i (S 2).toNat)) := Ag_uA (Ag_refl _ _ _) a70_ _ _
    obtain ⟨s', g1, g2⟩ := ih (uA s 70 i (osF S (orA S (i.toNat - 1)) i (S 2).toNat)) (CS_fr h (fun k => ag.2 7 k (fun x => x)) (fun j j0 j1 => ag.1 _ (by unfold a70; omega))) (by omega) (fun j j0 j1 => by
      rw [show (i + 1).toNat - 1 = (i.toNat - 1) + 1 by omega, uA_s, orA_s, show ((i.toNat - 1 : Nat) : Int) + 1 = i by omega]
      by_cases ej : j = i
      · rw [up_eq ej, up_eq ej]
      · rw [up_ne ej, up_ne ej]
        exact hA j j0 (by omega))
    refine ⟨s', ?_, Ag_trans ag g2⟩
    rw [B_X3_countOrders_14]
    simp (disch := first | assumption | omega) only [↓sm, ↓reduceIte, ↓if_pos, ↓if_neg, kI, kJ, kR, kV, w32_eq, w64_eq, reduceCtorEq, Int.reduceAdd, Int.reduceMul, Int.reduceSub, o_c68, ↓o_g68_0, ↓o_g68_1, ↓o_g68_2, ↓a_ln70, ↓c_ordersOf h hw Z, e1, ↓p_70, p_70, g1]
def a153 (q : Nat) : Prop := q = 153
theorem a153_ : a153 153 := rfl
theorem lp_or26 {S : Int → Int} (hw : WF S) (Z : mX) (A : Int → Int) (x : Int) (x0 : 0 ≤ x) (x1 : x < 128) : ∀ k : Int, k ≤ S 2 → ∀ s : mS, s.2 142 = S → 0 ≤ k → (∀ j, 0 ≤ j → j < x → s.2 153 j = A j) → s.2 153 x = osF S A x k.toNat →
    ∃ s', mm_at (zP Z) 329 26 [some (.inr (.inr (some 141))), some (.inl ((al S))), some (.inl x), some (.inl k), none] [] (mk s) = mm_at (zP Z) 329 16 [some (.inr (.inr (some 141))), some (.inl ((al S))), some (.inl ((mm_w32 (x + 1)))), none, none] [] (mk s') ∧ (∀ j, 0 ≤ j → j < x → s'.2 153 j = A j) ∧ s'.2 153 x = osF S A x (S 2).toNat ∧ Ag a153 noF s s' := by
  have w := wf0 hw
  refine up ?_ ?_
  · intro s e k0 hA hx
    refine ⟨s, ?_, hA, hx, Ag_refl _ _ _⟩
    rw [B_X12_orders_26]
    simp (disch := first | assumption | omega) only [↓sm, ↓reduceIte, ↓if_pos, ↓if_neg, kI, kJ, kR, kV, w32_eq, w64_eq, reduceCtorEq, Int.reduceAdd, Int.reduceMul, Int.reduceSub, o_c141, ↓o_g141_0, ↓o_g141_1, ↓o_g141_5, ↓o_g141_6, ↓o_g141_7, ↓o_g141_8, ↓o_g141_9, ↓o_g141_21, ↓o_g141_25, ↓o_g141_26, ↓o_g141_27, ↓o_g141_28, ↓o_g141_29, ↓o_g141_30, ↓o_g141_31, ↓o_g141_34, ↓o_g141_35, ↓o_g141_36, ↓r_at e]
  · intro k hk ih s e k0 hA hx
    have st : osF S A x (k + 1).toNat = if tb x k.toNat && decide (mm_iand (S (60 + 2 * k + 1)) (mm_ixor (oth x k) (-1)) = 0) then mm_w32 (osF S A x k.toNat + A (oth x k)) else osF S A x k.toNat := by
      rw [show (k + 1).toNat = k.toNat + 1 by omega]
      show (if _ then _ else _) = _
      rw [Int.toNat_of_nonneg k0]
    have wb := (hw.2.2.1 k k0 hk).2.2.2.2 k.toNat (by omega)
    have od := oth_nd (x := x) (nd := S (60 + 2 * k + 1)) k0 (by omega) wb
    rw [B_X12_orders_26]
    cases ht : tb x k.toNat
    · rw [ht] at st
      simp only [Bool.false_and, Bool.false_eq_true, if_false] at st
      obtain ⟨s', g1, g2⟩ := ih s e (by omega) hA (by rw [st]; exact hx)
      refine ⟨s', ?_, g2⟩
      simp (disch := first | assumption | omega) only [↓sm, ↓reduceIte, ↓if_pos, ↓if_neg, kI, kJ, kR, kV, w32_eq, w64_eq, reduceCtorEq, Int.reduceAdd, Int.reduceMul, Int.reduceSub, o_c141, ↓o_g141_0, ↓o_g141_1, ↓o_g141_5, ↓o_g141_6, ↓o_g141_7, ↓o_g141_8, ↓o_g141_9, ↓o_g141_21, ↓o_g141_25, ↓o_g141_26, ↓o_g141_27, ↓o_g141_28, ↓o_g141_29, ↓o_g141_30, ↓o_g141_31, ↓o_g141_34, ↓o_g141_35, ↓o_g141_36, ↓r_at e, ↓r_isIn Z, b2i_0, ht, B_X12_orders_47, B_X12_orders_48, g1]
    · rw [ht, Bool.true_and] at st
      have r := oth_r x0 x1 k0 (by omega) ht
      by_cases hy : mm_iand (S (60 + 2 * k + 1)) (mm_ixor x (-1)) = 0
      · have hy' : mm_iand (S (60 + 2 * k + 1)) (mm_ixor (oth x k) (-1)) = 0 := by rw [od]; exact hy
        simp only [hy', decide_true, if_true] at st
        have e2 := uA_s s 153 x (mm_w32 (s.2 153 x + s.2 153 (oth x k)))
        obtain ⟨s', g1, g2, g3, g4⟩ := ih (uA s 153 x (mm_w32 (s.2 153 x + s.2 153 (oth x k)))) ((uA_n s (by decide) _ _).trans e) (by omega) (fun j j0 j1 => by
          rw [e2, up_ne (by omega)]; exact hA j j0 j1) (by rw [e2, up_eq rfl, st, hx, hA _ r.1 r.2])
        have r1 : 0 ≤ mm_iand x (mm_ixor (mm_ishl 1 k) (-1)) := r.1
        have r2 : mm_iand x (mm_ixor (mm_ishl 1 k) (-1)) < x := r.2
        refine ⟨s', ?_, g2, g3, Ag_trans (Ag_uA (Ag_refl _ _ _) a153_ _ _) g4⟩
        unfold oth at g1
        simp (disch := first | assumption | omega) only [↓sm, ↓reduceIte, ↓if_pos, ↓if_neg, kI, kJ, kR, kV, w32_eq, w64_eq, reduceCtorEq, Int.reduceAdd, Int.reduceMul, Int.reduceSub, o_c141, ↓o_g141_0, ↓o_g141_1, ↓o_g141_5, ↓o_g141_6, ↓o_g141_7, ↓o_g141_8, ↓o_g141_9, ↓o_g141_21, ↓o_g141_25, ↓o_g141_26, ↓o_g141_27, ↓o_g141_28, ↓o_g141_29, ↓o_g141_30, ↓o_g141_31, ↓o_g141_34, ↓o_g141_35, ↓o_g141_36, ↓r_at e, ↓r_isIn Z, ↓r_needsOf e hw Z, b2i_0, ht, hy, B_X12_orders_48, ↓a_ld153, ↓a_st153, g1]
      · have hy' : ¬ mm_iand (S (60 + 2 * k + 1)) (mm_ixor (oth x k) (-1)) = 0 := by rw [od]; exact hy
        simp only [hy', decide_false, Bool.false_eq_true, if_false] at st
        obtain ⟨s', g1, g2⟩ := ih s e (by omega) hA (by rw [st]; exact hx)
        refine ⟨s', ?_, g2⟩
        simp (disch := first | assumption | omega) only [↓sm, ↓reduceIte, ↓if_pos, ↓if_neg, kI, kJ, kR, kV, w32_eq, w64_eq, reduceCtorEq, Int.reduceAdd, Int.reduceMul, Int.reduceSub, o_c141, ↓o_g141_0, ↓o_g141_1, ↓o_g141_5, ↓o_g141_6, ↓o_g141_7, ↓o_g141_8, ↓o_g141_9, ↓o_g141_21, ↓o_g141_25, ↓o_g141_26, ↓o_g141_27, ↓o_g141_28, ↓o_g141_29, ↓o_g141_30, ↓o_g141_31, ↓o_g141_34, ↓o_g141_35, ↓o_g141_36, ↓r_at e, ↓r_isIn Z, ↓r_needsOf e hw Z, b2i_0, ht, hy, B_X12_orders_47, B_X12_orders_48, g1]
theorem lp_orders {S : Int → Int} (hw : WF S) (Z : mX) : ∀ i : Int, i ≤ al S + 1 → ∀ s : mS, s.2 142 = S → 1 ≤ i → (∀ j, 0 ≤ j → j < i → s.2 153 j = orA S (i.toNat - 1) j) →
    ∃ s', mm_at (zP Z) 329 16 [some (.inr (.inr (some 141))), some (.inl ((al S))), some (.inl i), none, none] [] (mk s) = some (some (.inl (orA S (al S).toNat (al S))), mk (uF s' 141 2 0)) ∧ Ag a153 noF s s' := by
  have w := wf0 hw
  have ar := al_r hw
  refine up ?_ ?_
  · intro s e i0 hA
    refine ⟨s, ?_, Ag_refl _ _ _⟩
    have e2 := hA (al S) (by omega) (by omega)
    rw [show (al S + 1).toNat - 1 = (al S).toNat by omega] at e2
    rw [B_X12_orders_16]
    simp (disch := first | assumption | omega) only [↓sm, ↓reduceIte, ↓if_pos, ↓if_neg, kI, kJ, kR, kV, w32_eq, w64_eq, reduceCtorEq, Int.reduceAdd, Int.reduceMul, Int.reduceSub, o_c141, ↓o_g141_0, ↓o_g141_1, ↓o_g141_5, ↓o_g141_6, ↓o_g141_7, ↓o_g141_8, ↓o_g141_9, ↓o_g141_21, ↓o_g141_25, ↓o_g141_26, ↓o_g141_27, ↓o_g141_28, ↓o_g141_29, ↓o_g141_30, ↓o_g141_31, ↓o_g141_34, ↓o_g141_35, ↓o_g141_36, ↓a_ld153, e2, ↓d_refuse Z, ↓d_gives Z, ↓d_is0 Z, ↓d_is1 Z, ↓d_isFrom_t Z, ↓d_isFrom_f Z, ↓d_orNone_t Z, ↓d_orNone_f Z]
  · intro i hi ih s e i0 hA
    have e3 := uA_s s 153 i 0
    obtain ⟨s1, a1, a2, a3, a4⟩ := lp_or26 hw Z (orA S (i.toNat - 1)) i (by omega) (by omega) 0 (by omega) (uA s 153 i 0) ((uA_n s (by decide) _ _).trans e) (by omega) (fun j j0 j1 => by rw [e3, up_ne (by omega)]; exact hA j j0 j1) (by rw [e3, up_eq rfl]; rfl)
    have e1 : s1.2 142 = S := (a4.1 142 (by unfold a153; omega)).trans ((uA_n s (by decide) _ _).trans e)
    obtain ⟨s', g1, g2⟩ := ih s1 e1 (by omega) (fun j j0 j1 => by
      rw [show (i + 1).toNat - 1 = (i.toNat - 1) + 1 by omega, orA_s, show ((i.toNat - 1 : Nat) : Int) + 1 = i by omega]
      by_cases ej : j = i
      · rw [up_eq ej, ej, a3]
      · rw [up_ne ej]
        exact a2 j j0 (by omega))
    refine ⟨s', ?_, Ag_trans (Ag_trans (Ag_uA (Ag_refl _ _ _) a153_ _ _) a4) g2⟩
    rw [w32_eq (by omega) (by omega)] at a1
    rw [B_X12_orders_16]
    simp (disch := first | assumption | omega) only [↓sm, ↓reduceIte, ↓if_pos, ↓if_neg, kI, kJ, kR, kV, w32_eq, w64_eq, reduceCtorEq, Int.reduceAdd, Int.reduceMul, Int.reduceSub, o_c141, ↓o_g141_0, ↓o_g141_1, ↓o_g141_5, ↓o_g141_6, ↓o_g141_7, ↓o_g141_8, ↓o_g141_9, ↓o_g141_21, ↓o_g141_25, ↓o_g141_26, ↓o_g141_27, ↓o_g141_28, ↓o_g141_29, ↓o_g141_30, ↓o_g141_31, ↓o_g141_34, ↓o_g141_35, ↓o_g141_36, ↓a_st153, a1, g1]
theorem op_orders (Z : mX) (s : mS) (hI : Inv s) : OpI Z s 173 329 [] := by
  have h := hI.2.2.1.2
  have hw := hI.2.2.1.1
  have w := wf0 hw
  have ar := al_r hw
  have ag : Ag a70 noF s (uA s 70 0 1) := Ag_uA (Ag_refl _ _ _) a70_ _ _
  obtain ⟨s', g1, g2⟩ := lp_countOrders hw Z 1 (by omega) (uA s 70 0 1) (CS_fr h (fun k => ag.2 7 k (fun x => x)) (fun j j0 j1 => ag.1 _ (by unfold a70; omega))) (by omega) (fun j j0 j1 => by
    have : j = 0 := by omega
    subst this
    rw [uA_s, up_eq rfl]
    rfl)
  refine op_rds hI (orA (s.2 142) (al (s.2 142)).toNat (al (s.2 142))) 0 s' (fun f => ?_) (Ag_mono (Ag_trans ag g2) (fun q hq => by unfold a70 at hq; unfold scA; omega) (fun _ _ h => h.elim)) (fun t e => ?_)
  · unfold al at g1
    rw [B_X11_orders]
    simp (disch := first | assumption | omega) only [↓sm, ↓reduceIte, ↓if_pos, ↓if_neg, kI, kJ, kR, kV, w32_eq, w64_eq, reduceCtorEq, Int.reduceAdd, Int.reduceMul, Int.reduceSub, o_c3, ↓o_g3_0, ↓o_g3_1, ↓o_g3_2, ↓o_g3_3, ↓o_g3_4, ↓o_g3_5, ↓o_g3_6, ↓o_g3_7, ↓o_g3_8, ↓o_g3_9, ↓o_g3_10, ↓o_g3_11, ↓o_g3_12, ↓o_g3_13, ↓o_g3_14, ↓o_g3_15, ↓o_g3_16, ↓o_g3_17, ↓a_ln4, ↓a_ld4, ↓a_ln61, ↓a_ld61, ↓a_ln62, ↓a_ld62, o_c7, ↓o_g7_4, ↓o_g7_5, ↓o_g7_7, ↓o_g7_8, ↓o_g7_9, ↓o_g7_11, ↓o_g7_12, ↓o_g7_13, ↓o_g7_14, ↓o_g7_15, ↓o_g7_16, ↓o_g7_17, ↓q_wide h, ↓q_high h, ↓q_odds h, ↓q_year h, ↓q_less h, ↓q_pups h, ↓q_thorns h Z, ↓q_berries h Z, ↓q_hours h hw Z, ↓q_needs h hw Z, ↓q_at h hw Z, ↓q_want h hw Z, ↓q_knows h hw Z, ↓q_caught h hw Z, ↓q_marks h hw Z, ↓q_torn h hw Z, ↓d_none Z, ↓d_done Z, ↓d_refused Z, ↓d_granted Z, o_c68, ↓o_g68_0, ↓o_g68_1, ↓o_g68_2, B_X3_countOrders, ↓k_bit Z, ↓p_70]
    rw [g1]
    simp (disch := first | assumption | omega) only [↓sm, ↓reduceIte, ↓if_pos, ↓if_neg, kI, kJ, kR, kV, w32_eq, w64_eq, reduceCtorEq, Int.reduceAdd, Int.reduceMul, Int.reduceSub, ↓d_none Z, ↓d_done Z, ↓d_refused Z, ↓d_granted Z]
    rfl
  · obtain ⟨t', k1, k2⟩ := lp_orders hw Z 1 (by omega) (uA t 153 0 1) ((uA_n t (by decide) _ _).trans e) (by omega) (fun j j0 j1 => by
      have : j = 0 := by omega
      subst this
      rw [uA_s, up_eq rfl]
      rfl)
    refine ⟨t', fun f => ?_, Ag_mono (Ag_trans (Ag_uA (Ag_refl _ _ _) a153_ _ _) k2) (fun q hq => by unfold a153 at hq; unfold srA; omega) (fun _ _ h => h.elim)⟩
    unfold al at k1
    rw [B_X12_orders]
    simp (disch := first | assumption | omega) only [↓sm, ↓reduceIte, ↓if_pos, ↓if_neg, kI, kJ, kR, kV, w32_eq, w64_eq, reduceCtorEq, Int.reduceAdd, Int.reduceMul, Int.reduceSub, o_c141, ↓o_g141_0, ↓o_g141_1, ↓o_g141_5, ↓o_g141_6, ↓o_g141_7, ↓o_g141_8, ↓o_g141_9, ↓o_g141_21, ↓o_g141_25, ↓o_g141_26, ↓o_g141_27, ↓o_g141_28, ↓o_g141_29, ↓o_g141_30, ↓o_g141_31, ↓o_g141_34, ↓o_g141_35, ↓o_g141_36, ↓r_at e, ↓a_st153]
    rw [k1, kI]
    rfl
/-! the last order -/
def lcF (S : Int → Int) (x : Int) : Nat → Int
  | 0 => 0
  | n + 1 => if !tb x n && decide (mm_iand (S (60 + 2 * (n : Int) + 1)) (mm_ixor x (-1)) = 0) then (n : Int) else lcF S x n
theorem lcF_r (S : Int → Int) (x : Int) : ∀ n : Nat, 0 ≤ lcF S x n ∧ (lcF S x n < n ∨ lcF S x n = 0)
  | 0 => ⟨Int.le_refl _, Or.inr rfl⟩
  | n + 1 => by
    have ih := lcF_r S x n
    unfold lcF
    split <;> omega
theorem lp_lastThatCan {s : mS} {S N : Int → Int} (h : CS s 7 S N) (hw : WF S) (Z : mX) (x : Int) : ∀ n : Nat, (n : Int) ≤ S 2 → mm_at (zP Z) 29 6 [some (.inr (.inr (some 68))), some (.inl x), some (.inl (((n : Int) - 1)))] [] (mk s) = some (some (.inl (lcF S x n)), mk s) := by
  have w := wf0 hw
  intro n
  induction n with
  | zero =>
    intro _
    rw [B_X3_lastThatCan_6]
    simp (disch := first | assumption | omega) only [↓sm, ↓reduceIte, ↓if_pos, ↓if_neg, kI, kJ, kR, kV, w32_eq, w64_eq, reduceCtorEq, Int.reduceAdd, Int.reduceMul, Int.reduceSub]
    rfl
  | succ n ih =>
    intro hn
    have g := ih (by omega)
    rw [show (n : Int) - 1 = (n : Int) + -1 by omega] at g
    rw [show ((n + 1 : Nat) : Int) - 1 = (n : Int) by omega, B_X3_lastThatCan_6]
    unfold lcF
    cases ht : tb x n
    · by_cases hy : mm_iand (S (60 + 2 * (n : Int) + 1)) (mm_ixor x (-1)) = 0
      · simp (disch := first | assumption | omega) only [↓sm, ↓reduceIte, ↓if_pos, ↓if_neg, kI, kJ, kR, kV, w32_eq, w64_eq, reduceCtorEq, Int.reduceAdd, Int.reduceMul, Int.reduceSub, o_c68, ↓o_g68_0, ↓o_g68_1, ↓o_g68_2, o_c7, ↓o_g7_4, ↓o_g7_5, ↓o_g7_7, ↓o_g7_8, ↓o_g7_9, ↓o_g7_11, ↓o_g7_12, ↓o_g7_13, ↓o_g7_14, ↓o_g7_15, ↓o_g7_16, ↓o_g7_17, ↓q_wide h, ↓q_high h, ↓q_odds h, ↓q_year h, ↓q_less h, ↓q_pups h, ↓q_thorns h Z, ↓q_berries h Z, ↓q_hours h hw Z, ↓q_needs h hw Z, ↓q_at h hw Z, ↓q_want h hw Z, ↓q_knows h hw Z, ↓q_caught h hw Z, ↓q_marks h hw Z, ↓q_torn h hw Z, ↓k_has Z, b2i_0, Int.toNat_natCast, ht, hy, Bool.not_false, decide_true, Bool.and_self]
      · simp (disch := first | assumption | omega) only [↓sm, ↓reduceIte, ↓if_pos, ↓if_neg, kI, kJ, kR, kV, w32_eq, w64_eq, reduceCtorEq, Int.reduceAdd, Int.reduceMul, Int.reduceSub, o_c68, ↓o_g68_0, ↓o_g68_1, ↓o_g68_2, o_c7, ↓o_g7_4, ↓o_g7_5, ↓o_g7_7, ↓o_g7_8, ↓o_g7_9, ↓o_g7_11, ↓o_g7_12, ↓o_g7_13, ↓o_g7_14, ↓o_g7_15, ↓o_g7_16, ↓o_g7_17, ↓q_wide h, ↓q_high h, ↓q_odds h, ↓q_year h, ↓q_less h, ↓q_pups h, ↓q_thorns h Z, ↓q_berries h Z, ↓q_hours h hw Z, ↓q_needs h hw Z, ↓q_at h hw Z, ↓q_want h hw Z, ↓q_knows h hw Z, ↓q_caught h hw Z, ↓q_marks h hw Z, ↓q_torn h hw Z, ↓k_has Z, b2i_0, Int.toNat_natCast, ht, hy, Bool.not_false, decide_false, Bool.and_false, Bool.false_eq_true, g]
    · simp (disch := first | assumption | omega) only [↓sm, ↓reduceIte, ↓if_pos, ↓if_neg, kI, kJ, kR, kV, w32_eq, w64_eq, reduceCtorEq, Int.reduceAdd, Int.reduceMul, Int.reduceSub, o_c68, ↓o_g68_0, ↓o_g68_1, ↓o_g68_2, o_c7, ↓o_g7_4, ↓o_g7_5, ↓o_g7_7, ↓o_g7_8, ↓o_g7_9, ↓o_g7_11, ↓o_g7_12, ↓o_g7_13, ↓o_g7_14, ↓o_g7_15, ↓o_g7_16, ↓o_g7_17, ↓q_wide h, ↓q_high h, ↓q_odds h, ↓q_year h, ↓q_less h, ↓q_pups h, ↓q_thorns h Z, ↓q_berries h Z, ↓q_hours h hw Z, ↓q_needs h hw Z, ↓q_at h hw Z, ↓q_want h hw Z, ↓q_knows h hw Z, ↓q_caught h hw Z, ↓q_marks h hw Z, ↓q_torn h hw Z, ↓k_has Z, b2i_0, Int.toNat_natCast, ht, Bool.not_true, Bool.false_and, Bool.false_eq_true, g]
theorem c_lastThatCan {s : mS} {S N : Int → Int} (h : CS s 7 S N) (hw : WF S) (Z : mX) (x : Int) (f : Int → mW → mO) : mm_kI (mm_run (zP Z) 29 [.inr (.inr (some 68)), .inl x] (mk s)) f = f (lcF S x (S 2).toNat) (mk s) := by
  have w := wf0 hw
  have g := lp_lastThatCan h hw Z x (S 2).toNat (by omega)
  rw [Int.toNat_of_nonneg (by omega)] at g
  rw [B_X3_lastThatCan]
  simp (disch := first | assumption | omega) only [↓sm, ↓reduceIte, ↓if_pos, ↓if_neg, kI, kJ, kR, kV, w32_eq, w64_eq, reduceCtorEq, Int.reduceAdd, Int.reduceMul, Int.reduceSub, o_c68, ↓o_g68_0, ↓o_g68_1, ↓o_g68_2, o_c7, ↓o_g7_4, ↓o_g7_5, ↓o_g7_7, ↓o_g7_8, ↓o_g7_9, ↓o_g7_11, ↓o_g7_12, ↓o_g7_13, ↓o_g7_14, ↓o_g7_15, ↓o_g7_16, ↓o_g7_17, ↓q_wide h, ↓q_high h, ↓q_odds h, ↓q_year h, ↓q_less h, ↓q_pups h, ↓q_thorns h Z, ↓q_berries h Z, ↓q_hours h hw Z, ↓q_needs h hw Z, ↓q_at h hw Z, ↓q_want h hw Z, ↓q_knows h hw Z, ↓q_caught h hw Z, ↓q_marks h hw Z, ↓q_torn h hw Z, g]
def loX (S : Int → Int) : Nat → Int
  | 0 => 0
  | n + 1 => mm_ior (loX S n) (mm_ishl 1 (lcF S (loX S n) (S 2).toNat))
/-- the lesson learnt last, n having been learnt -/
def loL (S : Int → Int) (d : Int) : Nat → Int
  | 0 => d
  | n + 1 => lcF S (loX S n) (S 2).toNat
theorem lp_inLast {s : mS} {S N : Int → Int} (h : CS s 7 S N) (hw : WF S) (Z : mX) (k : Int) (k0 : 0 ≤ k) (k1 : k < S 2) : ∀ i : Int, i ≤ k + 1 → 0 ≤ i → mm_at (zP Z) 28 6 [some (.inr (.inr (some 68))), some (.inl k), some (.inl ((loX S i.toNat))), some (.inl ((loL S 0 i.toNat))), some (.inl i)] [] (mk s) = some (some (.inl (loL S 0 (k.toNat + 1))), mk s) := by
  have w := wf0 hw
  refine up ?_ ?_
  · intro i0
    rw [B_X3_inLastOrder_6, show (k + 1).toNat = k.toNat + 1 by omega]
    simp (disch := first | assumption | omega) only [↓sm, ↓reduceIte, ↓if_pos, ↓if_neg, kI, kJ, kR, kV, w32_eq, w64_eq, reduceCtorEq, Int.reduceAdd, Int.reduceMul, Int.reduceSub]
  · intro i hi ih i0
    have g := ih (by omega)
    rw [show (i + 1).toNat = i.toNat + 1 by omega] at g
    unfold loX at g
    rw [show loL S 0 (i.toNat + 1) = lcF S (loX S i.toNat) (S 2).toNat from rfl] at g
    rw [B_X3_inLastOrder_6]
    simp (disch := first | assumption | omega) only [↓sm, ↓reduceIte, ↓if_pos, ↓if_neg, kI, kJ, kR, kV, w32_eq, w64_eq, reduceCtorEq, Int.reduceAdd, Int.reduceMul, Int.reduceSub, o_c68, ↓o_g68_0, ↓o_g68_1, ↓o_g68_2, ↓c_lastThatCan h hw Z, ↓k_bit Z]
    exact g
theorem cd_or0 (x : Int) {l : Int} (l0 : 0 ≤ l) (l1 : l < 31) : ∀ n : Nat, n ≤ l.toNat → cd (mm_ior x (mm_ishl 1 l)) n = cd x n
  | 0, _ => rfl
  | n + 1, h => by
    have ih := cd_or0 x l0 l1 n (by omega)
    have e : tb (mm_ior x (mm_ishl 1 l)) n = tb x n := by
      rw [tb_or, tb_shl1 l0 l1]
      have : ¬ n = l.toNat := by omega
      simp [this]
    unfold cd
    rw [ih, e]
theorem cd_or1 (x : Int) {l : Int} (l0 : 0 ≤ l) (l1 : l < 31) : ∀ n : Nat, cd (mm_ior x (mm_ishl 1 l)) n ≤ cd x n + 1
  | 0 => by simp [cd]
  | n + 1 => by
    by_cases h : n = l.toNat
    · have e := cd_or0 x l0 l1 n (by omega)
      unfold cd
      rw [e]
      split <;> split <;> omega
    · have ih := cd_or1 x l0 l1 n
      have e : tb (mm_ior x (mm_ishl 1 l)) n = tb x n := by
        rw [tb_or, tb_shl1 l0 l1]
        simp [h]
      unfold cd
      rw [e]
      omega
theorem loX_cd {S : Int → Int} (hw : WF S) : ∀ n : Nat, cd (loX S n) (S 2).toNat ≤ n
  | 0 => by
    have : ∀ m, cd (loX S 0) m = 0 := by
      intro m
      induction m with
      | zero => rfl
      | succ m ih =>
        unfold cd
        rw [ih, show loX S 0 = 0 from rfl, tb_0]
        simp
    rw [this]
    exact Nat.le_refl _
  | n + 1 => by
    have w := wf0 hw
    have ih := loX_cd hw n
    have r := lcF_r S (loX S n) (S 2).toNat
    have := cd_or1 (loX S n) (l := lcF S (loX S n) (S 2).toNat) r.1 (by omega) (S 2).toNat
    unfold loX
    omega
/-- the least one not in a set -/
theorem least_out (x : Int) : ∀ n : Nat, cd x n < n → ∃ j, j < n ∧ tb x j = false ∧ ∀ i, i < j → tb x i = true
  | 0, h => by omega
  | n + 1, h => by
    by_cases hl : cd x n < n
    · obtain ⟨j, h1, h2, h3⟩ := least_out x n hl
      exact ⟨j, by omega, h2, h3⟩
    · have hc := cd_le x n
      have hf := cd_full n (by omega : cd x n = n)
      refine ⟨n, by omega, ?_, hf⟩
      unfold cd at h
      cases ht : tb x n
      · rfl
      · rw [ht] at h
        simp at h
        omega
theorem can_one {S : Int → Int} (hw : WF S) {n : Nat} (hn : (n : Int) < S 2) : ∃ j : Nat, (j : Int) < S 2 ∧ tb (loX S n) j = false ∧ mm_iand (S (60 + 2 * (j : Int) + 1)) (mm_ixor (loX S n) (-1)) = 0 := by
  have w := wf0 hw
  obtain ⟨j, h1, h2, h3⟩ := least_out (loX S n) (S 2).toNat (by have := loX_cd hw n; omega)
  refine ⟨j, by omega, h2, ?_⟩
  rw [iand0]
  intro i hi ha
  have wb := (hw.2.2.1 j (by omega) (by omega)).2.2.2.2
  rw [tb_not]
  by_cases hj : i < j
  · rw [h3 i hj]; simp
  · rw [wb i (by omega)] at ha; cases ha
theorem lp_or28 {s : mS} {S : Int → Int} (e : s.2 142 = S) (hw : WF S) (Z : mX) (k n : Int) (x : Int) : ∀ m : Nat, (m : Int) ≤ S 2 → (∃ j : Nat, j < m ∧ tb x j = false ∧ mm_iand (S (60 + 2 * (j : Int) + 1)) (mm_ixor x (-1)) = 0) →
    mm_at (zP Z) 330 28 [some (.inr (.inr (some 141))), some (.inl k), some (.inl x), some (.inl (((m : Int) - 1))), some (.inl n)] [] (mk s) = mm_at (zP Z) 330 12 [some (.inr (.inr (some 141))), some (.inl k), some (.inl ((mm_ior x (mm_ishl 1 (lcF S x m))))), some (.inl ((lcF S x m))), some (.inl ((mm_w32 (n + 1))))] [] (mk s) := by
  have w := wf0 hw
  intro m
  induction m with
  | zero =>
    rintro _ ⟨j, hj, _⟩
    omega
  | succ m ih =>
    rintro hm ⟨j, hj, h1, h2⟩
    rw [show ((m + 1 : Nat) : Int) - 1 = (m : Int) by omega, B_X12_orderAt_28]
    unfold lcF
    cases ht : tb x m
    · by_cases hy : mm_iand (S (60 + 2 * (m : Int) + 1)) (mm_ixor x (-1)) = 0
      · simp (disch := first | assumption | omega) only [↓sm, ↓reduceIte, ↓if_pos, ↓if_neg, kI, kJ, kR, kV, w32_eq, w64_eq, reduceCtorEq, Int.reduceAdd, Int.reduceMul, Int.reduceSub, o_c141, ↓o_g141_0, ↓o_g141_1, ↓o_g141_5, ↓o_g141_6, ↓o_g141_7, ↓o_g141_8, ↓o_g141_9, ↓o_g141_21, ↓o_g141_25, ↓o_g141_26, ↓o_g141_27, ↓o_g141_28, ↓o_g141_29, ↓o_g141_30, ↓o_g141_31, ↓o_g141_34, ↓o_g141_35, ↓o_g141_36, ↓r_isIn Z, ↓r_needsOf e hw Z, b2i_0, Int.toNat_natCast, ht, hy, Bool.not_false, decide_true, Bool.and_self]
      · have hj2 : j < m := by
          by_cases e : j = m
          · subst e; exact absurd h2 hy
          · omega
        have g := ih (by omega) ⟨j, hj2, h1, h2⟩
        rw [show (m : Int) - 1 = (m : Int) + -1 by omega] at g
        simp (disch := first | assumption | omega) only [↓sm, ↓reduceIte, ↓if_pos, ↓if_neg, kI, kJ, kR, kV, w32_eq, w64_eq, reduceCtorEq, Int.reduceAdd, Int.reduceMul, Int.reduceSub, o_c141, ↓o_g141_0, ↓o_g141_1, ↓o_g141_5, ↓o_g141_6, ↓o_g141_7, ↓o_g141_8, ↓o_g141_9, ↓o_g141_21, ↓o_g141_25, ↓o_g141_26, ↓o_g141_27, ↓o_g141_28, ↓o_g141_29, ↓o_g141_30, ↓o_g141_31, ↓o_g141_34, ↓o_g141_35, ↓o_g141_36, ↓r_isIn Z, ↓r_needsOf e hw Z, b2i_0, Int.toNat_natCast, ht, hy, Bool.not_false, decide_false, Bool.and_false, Bool.false_eq_true, g]
    · have hj2 : j < m := by
        by_cases e : j = m
        · subst e; rw [ht] at h1; cases h1
        · omega
      have g := ih (by omega) ⟨j, hj2, h1, h2⟩
      rw [show (m : Int) - 1 = (m : Int) + -1 by omega] at g
      simp (disch := first | assumption | omega) only [↓sm, ↓reduceIte, ↓if_pos, ↓if_neg, kI, kJ, kR, kV, w32_eq, w64_eq, reduceCtorEq, Int.reduceAdd, Int.reduceMul, Int.reduceSub, o_c141, ↓o_g141_0, ↓o_g141_1, ↓o_g141_5, ↓o_g141_6, ↓o_g141_7, ↓o_g141_8, ↓o_g141_9, ↓o_g141_21, ↓o_g141_25, ↓o_g141_26, ↓o_g141_27, ↓o_g141_28, ↓o_g141_29, ↓o_g141_30, ↓o_g141_31, ↓o_g141_34, ↓o_g141_35, ↓o_g141_36, ↓r_isIn Z, ↓r_needsOf e hw Z, b2i_0, Int.toNat_natCast, ht, Bool.not_true, Bool.false_and, Bool.false_eq_true, g]
theorem lp_or12 {s : mS} {S : Int → Int} (e : s.2 142 = S) (hw : WF S) (Z : mX) (k : Int) (k0 : 0 ≤ k) (M : Int) (hM : M = if k + 1 < S 2 then k + 1 else S 2) : ∀ i : Int, i ≤ M → 0 ≤ i → mm_at (zP Z) 330 12 [some (.inr (.inr (some 141))), some (.inl k), some (.inl ((loX S i.toNat))), some (.inl ((loL S (-1) i.toNat))), some (.inl i)] [] (mk s) = mm_at (zP Z) 330 51 [some (.inr (.inr (some 141))), some (.inl k), none, some (.inl ((loL S (-1) M.toNat))), none] [] (mk s) := by
  have w := wf0 hw
  have hM2 : M ≤ S 2 ∧ M ≤ k + 1 ∧ (M = k + 1 ∨ M = S 2) := by rw [hM]; split <;> omega
  refine up ?_ ?_
  · intro i0
    rw [B_X12_orderAt_12]
    by_cases hk : k < M
    · simp (disch := first | assumption | omega) only [↓sm, ↓reduceIte, ↓if_pos, ↓if_neg, kI, kJ, kR, kV, w32_eq, w64_eq, reduceCtorEq, Int.reduceAdd, Int.reduceMul, Int.reduceSub]
    · have : M = S 2 := by omega
      simp (disch := first | assumption | omega) only [↓sm, ↓reduceIte, ↓if_pos, ↓if_neg, kI, kJ, kR, kV, w32_eq, w64_eq, reduceCtorEq, Int.reduceAdd, Int.reduceMul, Int.reduceSub, o_c141, ↓o_g141_0, ↓o_g141_1, ↓o_g141_5, ↓o_g141_6, ↓o_g141_7, ↓o_g141_8, ↓o_g141_9, ↓o_g141_21, ↓o_g141_25, ↓o_g141_26, ↓o_g141_27, ↓o_g141_28, ↓o_g141_29, ↓o_g141_30, ↓o_g141_31, ↓o_g141_34, ↓o_g141_35, ↓o_g141_36, ↓r_at e]
  · intro i hi ih i0
    have g := ih (by omega)
    rw [show (i + 1).toNat = i.toNat + 1 by omega] at g
    unfold loX at g
    rw [show loL S (-1) (i.toNat + 1) = lcF S (loX S i.toNat) (S 2).toNat from rfl] at g
    obtain ⟨j, j1, j2, j3⟩ := can_one hw (n := i.toNat) (by omega)
    have g2 := lp_or28 e hw Z k i (loX S i.toNat) (S 2).toNat (by omega) ⟨j, by omega, j2, j3⟩
    rw [Int.toNat_of_nonneg (show 0 ≤ S 2 by omega)] at g2
    rw [w32_eq (x := i + 1) (by omega) (by omega)] at g2
    rw [B_X12_orderAt_12]
    simp (disch := first | assumption | omega) only [↓sm, ↓reduceIte, ↓if_pos, ↓if_neg, kI, kJ, kR, kV, w32_eq, w64_eq, reduceCtorEq, Int.reduceAdd, Int.reduceMul, Int.reduceSub, o_c141, ↓o_g141_0, ↓o_g141_1, ↓o_g141_5, ↓o_g141_6, ↓o_g141_7, ↓o_g141_8, ↓o_g141_9, ↓o_g141_21, ↓o_g141_25, ↓o_g141_26, ↓o_g141_27, ↓o_g141_28, ↓o_g141_29, ↓o_g141_30, ↓o_g141_31, ↓o_g141_34, ↓o_g141_35, ↓o_g141_36, ↓r_at e, g2]
    exact g
theorem op_orderAt (Z : mX) (s : mS) (hI : Inv s) (k : Int) : OpI Z s 174 330 [.inl k] := by
  have h := hI.2.2.1.2
  have hw := hI.2.2.1.1
  have w := wf0 hw
  by_cases hk : 0 ≤ k
  · by_cases hk2 : k < s.2 142 2
    · refine op_rd hI (loL (s.2 142) 0 (k.toNat + 1)) 0 (fun f => ?_) (fun t e f => ?_)
      · have g := lp_inLast h hw Z k hk hk2 0 (by omega) (by omega)
        rw [show loX (s.2 142) (Int.toNat 0) = 0 from rfl, show loL (s.2 142) 0 (Int.toNat 0) = 0 from rfl] at g
        rw [B_X11_orderAt]
        simp (disch := first | assumption | omega) only [↓sm, ↓reduceIte, ↓if_pos, ↓if_neg, kI, kJ, kR, kV, w32_eq, w64_eq, reduceCtorEq, Int.reduceAdd, Int.reduceMul, Int.reduceSub, o_c3, ↓o_g3_0, ↓o_g3_1, ↓o_g3_2, ↓o_g3_3, ↓o_g3_4, ↓o_g3_5, ↓o_g3_6, ↓o_g3_7, ↓o_g3_8, ↓o_g3_9, ↓o_g3_10, ↓o_g3_11, ↓o_g3_12, ↓o_g3_13, ↓o_g3_14, ↓o_g3_15, ↓o_g3_16, ↓o_g3_17, ↓a_ln4, ↓a_ld4, ↓a_ln61, ↓a_ld61, ↓a_ln62, ↓a_ld62, o_c7, ↓o_g7_4, ↓o_g7_5, ↓o_g7_7, ↓o_g7_8, ↓o_g7_9, ↓o_g7_11, ↓o_g7_12, ↓o_g7_13, ↓o_g7_14, ↓o_g7_15, ↓o_g7_16, ↓o_g7_17, ↓q_wide h, ↓q_high h, ↓q_odds h, ↓q_year h, ↓q_less h, ↓q_pups h, ↓q_thorns h Z, ↓q_berries h Z, ↓q_hours h hw Z, ↓q_needs h hw Z, ↓q_at h hw Z, ↓q_want h hw Z, ↓q_knows h hw Z, ↓q_caught h hw Z, ↓q_marks h hw Z, ↓q_torn h hw Z, ↓d_none Z, ↓d_done Z, ↓d_refused Z, ↓d_granted Z, o_c68, B_X3_inLastOrder, g]
      · have g := lp_or12 e hw Z k hk (k + 1) (by split <;> omega) 0 (by omega) (by omega)
        rw [show loX (s.2 142) (Int.toNat 0) = 0 from rfl, show loL (s.2 142) (-1) (Int.toNat 0) = -1 from rfl, show (k + 1).toNat = k.toNat + 1 by omega] at g
        rw [B_X12_orderAt]
        simp (disch := first | assumption | omega) only [↓sm, ↓reduceIte, ↓if_pos, ↓if_neg, kI, kJ, kR, kV, w32_eq, w64_eq, reduceCtorEq, Int.reduceAdd, Int.reduceMul, Int.reduceSub, o_c141, ↓o_g141_0, ↓o_g141_1, ↓o_g141_5, ↓o_g141_6, ↓o_g141_7, ↓o_g141_8, ↓o_g141_9, ↓o_g141_21, ↓o_g141_25, ↓o_g141_26, ↓o_g141_27, ↓o_g141_28, ↓o_g141_29, ↓o_g141_30, ↓o_g141_31, ↓o_g141_34, ↓o_g141_35, ↓o_g141_36, g, B_X12_orderAt_51, ↓r_at e, ↓d_refuse Z, ↓d_gives Z, ↓d_is0 Z, ↓d_is1 Z, ↓d_isFrom_t Z, ↓d_isFrom_f Z, ↓d_orNone_t Z, ↓d_orNone_f Z]
        rfl
    · refine op_rd hI (-1) 6 (fun f => ?_) (fun t e f => ?_)
      · rw [B_X11_orderAt]
        simp (disch := first | assumption | omega) only [↓sm, ↓reduceIte, ↓if_pos, ↓if_neg, kI, kJ, kR, kV, w32_eq, w64_eq, reduceCtorEq, Int.reduceAdd, Int.reduceMul, Int.reduceSub, o_c3, ↓o_g3_0, ↓o_g3_1, ↓o_g3_2, ↓o_g3_3, ↓o_g3_4, ↓o_g3_5, ↓o_g3_6, ↓o_g3_7, ↓o_g3_8, ↓o_g3_9, ↓o_g3_10, ↓o_g3_11, ↓o_g3_12, ↓o_g3_13, ↓o_g3_14, ↓o_g3_15, ↓o_g3_16, ↓o_g3_17, ↓a_ln4, ↓a_ld4, ↓a_ln61, ↓a_ld61, ↓a_ln62, ↓a_ld62, o_c7, ↓o_g7_4, ↓o_g7_5, ↓o_g7_7, ↓o_g7_8, ↓o_g7_9, ↓o_g7_11, ↓o_g7_12, ↓o_g7_13, ↓o_g7_14, ↓o_g7_15, ↓o_g7_16, ↓o_g7_17, ↓q_wide h, ↓q_high h, ↓q_odds h, ↓q_year h, ↓q_less h, ↓q_pups h, ↓q_thorns h Z, ↓q_berries h Z, ↓q_hours h hw Z, ↓q_needs h hw Z, ↓q_at h hw Z, ↓q_want h hw Z, ↓q_knows h hw Z, ↓q_caught h hw Z, ↓q_marks h hw Z, ↓q_torn h hw Z, ↓d_none Z, ↓d_done Z, ↓d_refused Z, ↓d_granted Z]
      · have g := lp_or12 e hw Z k hk (s.2 142 2) (by split <;> omega) 0 (by omega) (by omega)
        rw [show loX (s.2 142) (Int.toNat 0) = 0 from rfl, show loL (s.2 142) (-1) (Int.toNat 0) = -1 from rfl] at g
        rw [B_X12_orderAt]
        simp (disch := first | assumption | omega) only [↓sm, ↓reduceIte, ↓if_pos, ↓if_neg, kI, kJ, kR, kV, w32_eq, w64_eq, reduceCtorEq, Int.reduceAdd, Int.reduceMul, Int.reduceSub, o_c141, ↓o_g141_0, ↓o_g141_1, ↓o_g141_5, ↓o_g141_6, ↓o_g141_7, ↓o_g141_8, ↓o_g141_9, ↓o_g141_21, ↓o_g141_25, ↓o_g141_26, ↓o_g141_27, ↓o_g141_28, ↓o_g141_29, ↓o_g141_30, ↓o_g141_31, ↓o_g141_34, ↓o_g141_35, ↓o_g141_36, g, B_X12_orderAt_51, ↓r_at e, ↓d_refuse Z, ↓d_gives Z, ↓d_is0 Z, ↓d_is1 Z, ↓d_isFrom_t Z, ↓d_isFrom_f Z, ↓d_orNone_t Z, ↓d_orNone_f Z]
  · refine op_rd hI (-1) 1 (fun f => ?_) (fun t e f => ?_)
    · rw [B_X11_orderAt]
      simp (disch := first | assumption | omega) only [↓sm, ↓reduceIte, ↓if_pos, ↓if_neg, kI, kJ, kR, kV, w32_eq, w64_eq, reduceCtorEq, Int.reduceAdd, Int.reduceMul, Int.reduceSub, o_c3, ↓o_g3_0, ↓o_g3_1, ↓o_g3_2, ↓o_g3_3, ↓o_g3_4, ↓o_g3_5, ↓o_g3_6, ↓o_g3_7, ↓o_g3_8, ↓o_g3_9, ↓o_g3_10, ↓o_g3_11, ↓o_g3_12, ↓o_g3_13, ↓o_g3_14, ↓o_g3_15, ↓o_g3_16, ↓o_g3_17, ↓a_ln4, ↓a_ld4, ↓a_ln61, ↓a_ld61, ↓a_ln62, ↓a_ld62, o_c7, ↓o_g7_4, ↓o_g7_5, ↓o_g7_7, ↓o_g7_8, ↓o_g7_9, ↓o_g7_11, ↓o_g7_12, ↓o_g7_13, ↓o_g7_14, ↓o_g7_15, ↓o_g7_16, ↓o_g7_17, ↓q_wide h, ↓q_high h, ↓q_odds h, ↓q_year h, ↓q_less h, ↓q_pups h, ↓q_thorns h Z, ↓q_berries h Z, ↓q_hours h hw Z, ↓q_needs h hw Z, ↓q_at h hw Z, ↓q_want h hw Z, ↓q_knows h hw Z, ↓q_caught h hw Z, ↓q_marks h hw Z, ↓q_torn h hw Z, ↓d_none Z, ↓d_done Z, ↓d_refused Z, ↓d_granted Z]
    · rw [B_X12_orderAt]
      simp (disch := first | assumption | omega) only [↓sm, ↓reduceIte, ↓if_pos, ↓if_neg, kI, kJ, kR, kV, w32_eq, w64_eq, reduceCtorEq, Int.reduceAdd, Int.reduceMul, Int.reduceSub, o_c141, ↓o_g141_0, ↓o_g141_1, ↓o_g141_5, ↓o_g141_6, ↓o_g141_7, ↓o_g141_8, ↓o_g141_9, ↓o_g141_21, ↓o_g141_25, ↓o_g141_26, ↓o_g141_27, ↓o_g141_28, ↓o_g141_29, ↓o_g141_30, ↓o_g141_31, ↓o_g141_34, ↓o_g141_35, ↓o_g141_36, ↓d_refuse Z, ↓d_gives Z, ↓d_is0 Z, ↓d_is1 Z, ↓d_isFrom_t Z, ↓d_isFrom_f Z, ↓d_orNone_t Z, ↓d_orNone_f Z]
