/-! write, read, pour, copyThorns -/
theorem bmod_bmod (x : Int) (m n : Nat) (hm : m = 256 ∨ m = 65536 ∨ m = 4294967296) (hn : n = m ∨ n = 4294967296) : Int.bmod (Int.bmod (Int.bmod x m) n) m = Int.bmod x m := by
  have h1 := Int.bmod_lt (x := x) (m := m) (by omega)
  have h2 := Int.le_bmod (x := x) (m := m) (by omega)
  have e : Int.bmod (Int.bmod x m) n = Int.bmod x m := Int.bmod_eq_of_le (by omega) (by omega)
  rw [e]
  exact Int.bmod_eq_of_le (by omega) (by omega)
theorem cutI_cut (o v : Int) : cutI o (cutI o v) = cutI o v := by
  unfold cutI
  by_cases h0 : o = 0
  · simp only [if_pos h0]
    exact bmod_bmod (mm_w32 v) 256 4294967296 (by omega) (by omega)
  · by_cases h1 : o = 1
    · simp only [if_neg h0, if_pos h1]
      exact bmod_bmod (mm_w32 v) 65536 4294967296 (by omega) (by omega)
    · by_cases h2 : o = 2
      · simp only [if_neg h0, if_neg h1, if_pos h2]
        have := bmod_bmod v 4294967296 4294967296 (by omega) (by omega)
        unfold mm_w32
        have h1 := Int.bmod_lt (x := v) (m := 4294967296) (by omega)
        have h2 := Int.le_bmod (x := v) (m := 4294967296) (by omega)
        exact Int.bmod_eq_of_le (by omega) (by omega)
      · simp only [if_neg h0, if_neg h1, if_neg h2]
theorem RT_up {s t : mS} (h : RT s t) {k : Nat} (hk : k < 4) {j v : Int} (j0 : 0 ≤ j) (j1 : j < t.2 145 k) (hv : cutI (t.2 144 k) v = v) : RT (uA s (76 + 2 * k + 1) j v) (uA t 146 (60 * k + j) v) := by
  intro k' hk'
  obtain ⟨b1, b2, b3, b4, b5, b6, b7⟩ := h k' hk'
  have b6' := (h k hk).2.2.2.2.2.1
  rw [uA_n t (by decide), uA_n t (by decide), uA_s]
  refine ⟨b1, b2, b3, b4, b5, b6, fun i i0 i1 => ?_⟩
  obtain ⟨c1, c2⟩ := b7 i i0 i1
  rw [uA_2]
  by_cases e : k' = k ∧ i = j
  · rw [if_pos (by omega), up_eq (by omega)]
    refine ⟨rfl, ?_⟩
    rw [e.1]
    exact hv
  · rw [if_neg (by omega), up_ne (by omega)]
    exact ⟨c1, c2⟩
theorem RT_eq {s t t' : mS} (h : RT s t) (e4 : t'.2 144 = t.2 144) (e5 : t'.2 145 = t.2 145) (e6 : t'.2 146 = t.2 146) : RT s t' := by
  intro k hk
  have := h k hk
  rw [e4, e5, e6]
  exact this
theorem twr_r (m p n : Int) : twr m p n = 0 ∧ m ≠ -1 ∧ 0 ≤ p ∧ 0 ≤ n ∧ n ≤ m - p ∨ twr m p n = 2 ∨ twr m p n = 3 := by
  unfold twr
  by_cases h1 : m = -1
  · rw [if_pos h1]; omega
  · rw [if_neg h1]
    by_cases h2 : 0 ≤ p ∧ 0 ≤ n ∧ n ≤ m - p
    · rw [if_pos h2]
      exact Or.inl ⟨rfl, h1, h2⟩
    · rw [if_neg h2]; omega
theorem op_rdx {Z : mX} {s : mS} {a b : Nat} {as : List mV} (hI : Inv s) (v x : Int)
    (hc : ∀ f : Int → mW → mO, mm_kI (mm_run (zP Z) a (.inr (.inr (some 3)) :: as) (mk s)) f = f v (mk (uF s 3 15 x)))
    (hr : ∀ t : mS, t = uF s 3 15 x → ∀ f : Int → mW → mO, mm_kI (mm_run (zP Z) b (.inr (.inr (some 141)) :: as) (mk t)) f = f v (mk (uF t 141 2 x))) : OpI Z s a b as :=
  ⟨v, uF s 3 15 x, uF (uF s 3 15 x) 141 2 x, hc, hr _ rfl, inv_rd hI x⟩
theorem op_rdj {Z : mX} {s : mS} {a b : Nat} {as : List mV} (hI : Inv s) (v x : Int)
    (hc : ∀ f : Int → mW → mO, mm_kJ (mm_run (zP Z) a (.inr (.inr (some 3)) :: as) (mk s)) f = f v (mk (uF s 3 15 x)))
    (hr : ∀ t : mS, t = uF s 3 15 x → ∀ f : Int → mW → mO, mm_kJ (mm_run (zP Z) b (.inr (.inr (some 141)) :: as) (mk t)) f = f v (mk (uF t 141 2 x))) : OpJ Z s a b as :=
  ⟨v, uF s 3 15 x, uF (uF s 3 15 x) 141 2 x, hc, hr _ rfl, inv_rd hI x⟩
theorem op_write (Z : mX) (s : mS) (hI : Inv s) (a p v : Int) : OpI Z s 140 224 [.inl a, .inl p, .inr (.inl v)] := by
  by_cases ha : 0 ≤ a ∧ a < 4
  · have hq := isT_of (k := a.toNat) (by omega)
    obtain ⟨b1, b2, b3, b4, b5, b6, b7⟩ := hI.2.2.2.1 a.toNat (by omega)
    rw [Int.toNat_of_nonneg ha.1] at b1 b2 b3 b4 b5 b6 b7
    rcases twr_r (s.2 145 a) p 1 with ⟨w1, w2, w3, _, w4⟩ | hw
    · refine op_tr hI 1 0 (uA s (76 + 2 * a.toNat + 1) p (cutI (s.2 144 a) v)) (fun f => ?_) (Ag_uA (Ag_refl _ _ _) (by unfold tcA; omega) _ _) (fun t _ e4 e5 e6 => ⟨uA t 146 (60 * a + p) (cutI (s.2 144 a) v), fun f => ?_, Ag_uA (Ag_refl _ _ _) (by unfold trA; omega) _ _, ?_⟩)
      · rw [B_X11_write]
        simp (disch := first | assumption | omega) only [↓sm, ↓reduceIte, ↓if_pos, ↓if_neg, kI, kJ, kR, kV, w32_eq, w64_eq, reduceCtorEq, Int.reduceAdd, Int.reduceMul, Int.reduceSub, o_c3, ↓o_g3_0, ↓o_g3_1, ↓o_g3_2, ↓o_g3_3, ↓o_g3_4, ↓o_g3_5, ↓o_g3_6, ↓o_g3_7, ↓o_g3_8, ↓o_g3_9, ↓o_g3_10, ↓o_g3_11, ↓o_g3_12, ↓o_g3_13, ↓o_g3_14, ↓o_g3_15, ↓o_g3_16, ↓o_g3_17, ↓a_ln4, ↓a_ld4, ↓a_ln61, ↓a_ld61, ↓a_ln62, ↓a_ld62, ↓d_none Z, ↓d_done Z, ↓d_refused Z, ↓d_granted Z, ↓c_trayAt_t Z, ↓c_trouble Z s hq p 1 (by omega) (by omega), b2, w1, t_c hq, ↓c8_set Z s hq, b1, reduceCtorEq]
      · rw [B_X12_write]
        simp (disch := first | assumption | omega) only [↓sm, ↓reduceIte, ↓if_pos, ↓if_neg, kI, kJ, kR, kV, w32_eq, w64_eq, reduceCtorEq, Int.reduceAdd, Int.reduceMul, Int.reduceSub, o_c141, ↓o_g141_0, ↓o_g141_1, ↓o_g141_5, ↓o_g141_6, ↓o_g141_7, ↓o_g141_8, ↓o_g141_9, ↓o_g141_21, ↓o_g141_25, ↓o_g141_26, ↓o_g141_27, ↓o_g141_28, ↓o_g141_29, ↓o_g141_30, ↓o_g141_31, ↓o_g141_34, ↓o_g141_35, ↓o_g141_36, ↓d_refuse Z, ↓d_gives Z, ↓d_is0 Z, ↓d_is1 Z, ↓d_isFrom_t Z, ↓d_isFrom_f Z, ↓d_orNone_t Z, ↓d_orNone_f Z, ↓r_wrongPlace Z, e5, w1, ↓a_ld144, e4, ↓r_cut Z, ↓a_st146, a_st146]
      · have := RT_up (RT_eq hI.2.2.2.1 e4 e5 e6) (k := a.toNat) (j := p) (v := cutI (s.2 144 a) v) (by omega) w3 (by rw [Int.toNat_of_nonneg ha.1, e5]; omega) (by rw [Int.toNat_of_nonneg ha.1, e4]; exact cutI_cut _ _)
        rw [Int.toNat_of_nonneg ha.1] at this
        exact this
    · have hw0 : twr (s.2 145 a) p 1 ≠ 0 := by omega
      refine op_rdx hI 0 (twr (s.2 145 a) p 1) (fun f => ?_) (fun t e f => ?_)
      · rw [B_X11_write]
        simp (disch := first | assumption | omega) only [↓sm, ↓reduceIte, ↓if_pos, ↓if_neg, kI, kJ, kR, kV, w32_eq, w64_eq, reduceCtorEq, Int.reduceAdd, Int.reduceMul, Int.reduceSub, o_c3, ↓o_g3_0, ↓o_g3_1, ↓o_g3_2, ↓o_g3_3, ↓o_g3_4, ↓o_g3_5, ↓o_g3_6, ↓o_g3_7, ↓o_g3_8, ↓o_g3_9, ↓o_g3_10, ↓o_g3_11, ↓o_g3_12, ↓o_g3_13, ↓o_g3_14, ↓o_g3_15, ↓o_g3_16, ↓o_g3_17, ↓a_ln4, ↓a_ld4, ↓a_ln61, ↓a_ld61, ↓a_ln62, ↓a_ld62, ↓d_none Z, ↓d_done Z, ↓d_refused Z, ↓d_granted Z, ↓c_trayAt_t Z, ↓c_trouble Z s hq p 1 (by omega) (by omega), b2, reduceCtorEq]
      · have e5 : t.2 145 = s.2 145 := by rw [e]; rfl
        rw [B_X12_write]
        simp (disch := first | assumption | omega) only [↓sm, ↓reduceIte, ↓if_pos, ↓if_neg, kI, kJ, kR, kV, w32_eq, w64_eq, reduceCtorEq, Int.reduceAdd, Int.reduceMul, Int.reduceSub, o_c141, ↓o_g141_0, ↓o_g141_1, ↓o_g141_5, ↓o_g141_6, ↓o_g141_7, ↓o_g141_8, ↓o_g141_9, ↓o_g141_21, ↓o_g141_25, ↓o_g141_26, ↓o_g141_27, ↓o_g141_28, ↓o_g141_29, ↓o_g141_30, ↓o_g141_31, ↓o_g141_34, ↓o_g141_35, ↓o_g141_36, ↓d_refuse Z, ↓d_gives Z, ↓d_is0 Z, ↓d_is1 Z, ↓d_isFrom_t Z, ↓d_isFrom_f Z, ↓d_orNone_t Z, ↓d_orNone_f Z, ↓r_wrongPlace Z, e5, d_is1 Z]
  · refine op_rd hI 0 1 (fun f => ?_) (fun t e f => ?_)
    · rw [B_X11_write]
      simp (disch := first | assumption | omega) only [↓sm, ↓reduceIte, ↓if_pos, ↓if_neg, kI, kJ, kR, kV, w32_eq, w64_eq, reduceCtorEq, Int.reduceAdd, Int.reduceMul, Int.reduceSub, o_c3, ↓o_g3_0, ↓o_g3_1, ↓o_g3_2, ↓o_g3_3, ↓o_g3_4, ↓o_g3_5, ↓o_g3_6, ↓o_g3_7, ↓o_g3_8, ↓o_g3_9, ↓o_g3_10, ↓o_g3_11, ↓o_g3_12, ↓o_g3_13, ↓o_g3_14, ↓o_g3_15, ↓o_g3_16, ↓o_g3_17, ↓a_ln4, ↓a_ld4, ↓a_ln61, ↓a_ld61, ↓a_ln62, ↓a_ld62, ↓d_none Z, ↓d_done Z, ↓d_refused Z, ↓d_granted Z, ↓c_trayAt_f Z, ↓c_trouble_n Z, reduceCtorEq]
    · rw [B_X12_write]
      simp (disch := first | assumption | omega) only [↓sm, ↓reduceIte, ↓if_pos, ↓if_neg, kI, kJ, kR, kV, w32_eq, w64_eq, reduceCtorEq, Int.reduceAdd, Int.reduceMul, Int.reduceSub, o_c141, ↓o_g141_0, ↓o_g141_1, ↓o_g141_5, ↓o_g141_6, ↓o_g141_7, ↓o_g141_8, ↓o_g141_9, ↓o_g141_21, ↓o_g141_25, ↓o_g141_26, ↓o_g141_27, ↓o_g141_28, ↓o_g141_29, ↓o_g141_30, ↓o_g141_31, ↓o_g141_34, ↓o_g141_35, ↓o_g141_36, ↓d_refuse Z, ↓d_gives Z, ↓d_is0 Z, ↓d_is1 Z, ↓d_isFrom_t Z, ↓d_isFrom_f Z, ↓d_orNone_t Z, ↓d_orNone_f Z, ↓r_wrongPlace_f Z]
theorem op_read (Z : mX) (s : mS) (hI : Inv s) (a p : Int) : OpJ Z s 141 225 [.inl a, .inl p] := by
  by_cases ha : 0 ≤ a ∧ a < 4
  · have hq := isT_of (k := a.toNat) (by omega)
    obtain ⟨b1, b2, b3, b4, b5, b6, b7⟩ := hI.2.2.2.1 a.toNat (by omega)
    rw [Int.toNat_of_nonneg ha.1] at b1 b2 b3 b4 b5 b6 b7
    rcases twr_r (s.2 145 a) p 1 with ⟨w1, w2, w3, _, w4⟩ | hw
    · have g := (b7 p w3 (by omega)).1
      rw [show 77 + 2 * a.toNat = 76 + 2 * a.toNat + 1 by omega] at g
      refine op_rdj hI (s.2 146 (60 * a + p)) 0 (fun f => ?_) (fun t e f => ?_)
      · rw [B_X11_read]
        simp (disch := first | assumption | omega) only [↓sm, ↓reduceIte, ↓if_pos, ↓if_neg, kI, kJ, kR, kV, w32_eq, w64_eq, reduceCtorEq, Int.reduceAdd, Int.reduceMul, Int.reduceSub, o_c3, ↓o_g3_0, ↓o_g3_1, ↓o_g3_2, ↓o_g3_3, ↓o_g3_4, ↓o_g3_5, ↓o_g3_6, ↓o_g3_7, ↓o_g3_8, ↓o_g3_9, ↓o_g3_10, ↓o_g3_11, ↓o_g3_12, ↓o_g3_13, ↓o_g3_14, ↓o_g3_15, ↓o_g3_16, ↓o_g3_17, ↓a_ln4, ↓a_ld4, ↓a_ln61, ↓a_ld61, ↓a_ln62, ↓a_ld62, ↓d_none Z, ↓d_done Z, ↓d_refused Z, ↓d_granted Z, ↓c_trayAt_t Z, ↓c_trouble Z s hq p 1 (by omega) (by omega), b2, w1, t_c hq, ↓o_p3_15, ↓c8_at Z _ hq, reduceCtorEq]
        rw [uF_2, g]
      · have e5 : t.2 145 = s.2 145 := by rw [e]; rfl
        have e6 : t.2 146 = s.2 146 := by rw [e]; rfl
        have e0 : (uF t 141 2 0).1 141 2 = 0 := by simp [uF_1]
        rw [B_X12_read]
        simp (disch := first | assumption | omega) only [↓sm, ↓reduceIte, ↓if_pos, ↓if_neg, kI, kJ, kR, kV, w32_eq, w64_eq, reduceCtorEq, Int.reduceAdd, Int.reduceMul, Int.reduceSub, o_c141, ↓o_g141_0, ↓o_g141_1, ↓o_g141_5, ↓o_g141_6, ↓o_g141_7, ↓o_g141_8, ↓o_g141_9, ↓o_g141_21, ↓o_g141_25, ↓o_g141_26, ↓o_g141_27, ↓o_g141_28, ↓o_g141_29, ↓o_g141_30, ↓o_g141_31, ↓o_g141_34, ↓o_g141_35, ↓o_g141_36, ↓d_refuse Z, ↓d_gives Z, ↓d_is0 Z, ↓d_is1 Z, ↓d_isFrom_t Z, ↓d_isFrom_f Z, ↓d_orNone_t Z, ↓d_orNone_f Z, ↓r_wrongPlace Z, e5, w1, ↓o_p141_2, ↓o_g141_2, e0, ↓a_ld146, a_ld146, uF_2, e6]
    · have hw0 : twr (s.2 145 a) p 1 ≠ 0 := by omega
      have hw1 : 0 < twr (s.2 145 a) p 1 := by omega
      refine op_rdj hI (-1) (twr (s.2 145 a) p 1) (fun f => ?_) (fun t e f => ?_)
      · rw [B_X11_read]
        simp (disch := first | assumption | omega) only [↓sm, ↓reduceIte, ↓if_pos, ↓if_neg, kI, kJ, kR, kV, w32_eq, w64_eq, reduceCtorEq, Int.reduceAdd, Int.reduceMul, Int.reduceSub, o_c3, ↓o_g3_0, ↓o_g3_1, ↓o_g3_2, ↓o_g3_3, ↓o_g3_4, ↓o_g3_5, ↓o_g3_6, ↓o_g3_7, ↓o_g3_8, ↓o_g3_9, ↓o_g3_10, ↓o_g3_11, ↓o_g3_12, ↓o_g3_13, ↓o_g3_14, ↓o_g3_15, ↓o_g3_16, ↓o_g3_17, ↓a_ln4, ↓a_ld4, ↓a_ln61, ↓a_ld61, ↓a_ln62, ↓a_ld62, ↓d_none Z, ↓d_done Z, ↓d_refused Z, ↓d_granted Z, ↓c_trayAt_t Z, ↓c_trouble Z s hq p 1 (by omega) (by omega), b2, reduceCtorEq]
      · have e5 : t.2 145 = s.2 145 := by rw [e]; rfl
        have e0 : (uF t 141 2 (twr (s.2 145 a) p 1)).1 141 2 = twr (s.2 145 a) p 1 := by simp [uF_1]
        rw [B_X12_read]
        simp (disch := first | assumption | omega) only [↓sm, ↓reduceIte, ↓if_pos, ↓if_neg, kI, kJ, kR, kV, w32_eq, w64_eq, reduceCtorEq, Int.reduceAdd, Int.reduceMul, Int.reduceSub, o_c141, ↓o_g141_0, ↓o_g141_1, ↓o_g141_5, ↓o_g141_6, ↓o_g141_7, ↓o_g141_8, ↓o_g141_9, ↓o_g141_21, ↓o_g141_25, ↓o_g141_26, ↓o_g141_27, ↓o_g141_28, ↓o_g141_29, ↓o_g141_30, ↓o_g141_31, ↓o_g141_34, ↓o_g141_35, ↓o_g141_36, ↓d_refuse Z, ↓d_gives Z, ↓d_is0 Z, ↓d_is1 Z, ↓d_isFrom_t Z, ↓d_isFrom_f Z, ↓d_orNone_t Z, ↓d_orNone_f Z, ↓r_wrongPlace Z, e5, ↓o_p141_2, o_p141_2, ↓o_g141_2, o_g141_2, e0]
  · refine op_rdj hI (-1) 1 (fun f => ?_) (fun t e f => ?_)
    · rw [B_X11_read]
      simp (disch := first | assumption | omega) only [↓sm, ↓reduceIte, ↓if_pos, ↓if_neg, kI, kJ, kR, kV, w32_eq, w64_eq, reduceCtorEq, Int.reduceAdd, Int.reduceMul, Int.reduceSub, o_c3, ↓o_g3_0, ↓o_g3_1, ↓o_g3_2, ↓o_g3_3, ↓o_g3_4, ↓o_g3_5, ↓o_g3_6, ↓o_g3_7, ↓o_g3_8, ↓o_g3_9, ↓o_g3_10, ↓o_g3_11, ↓o_g3_12, ↓o_g3_13, ↓o_g3_14, ↓o_g3_15, ↓o_g3_16, ↓o_g3_17, ↓a_ln4, ↓a_ld4, ↓a_ln61, ↓a_ld61, ↓a_ln62, ↓a_ld62, ↓d_none Z, ↓d_done Z, ↓d_refused Z, ↓d_granted Z, ↓c_trayAt_f Z, ↓c_trouble_n Z, reduceCtorEq]
    · have e0 : (uF t 141 2 1).1 141 2 = 1 := by simp [uF_1]
      rw [B_X12_read]
      simp (disch := first | assumption | omega) only [↓sm, ↓reduceIte, ↓if_pos, ↓if_neg, kI, kJ, kR, kV, w32_eq, w64_eq, reduceCtorEq, Int.reduceAdd, Int.reduceMul, Int.reduceSub, o_c141, ↓o_g141_0, ↓o_g141_1, ↓o_g141_5, ↓o_g141_6, ↓o_g141_7, ↓o_g141_8, ↓o_g141_9, ↓o_g141_21, ↓o_g141_25, ↓o_g141_26, ↓o_g141_27, ↓o_g141_28, ↓o_g141_29, ↓o_g141_30, ↓o_g141_31, ↓o_g141_34, ↓o_g141_35, ↓o_g141_36, ↓d_refuse Z, ↓d_gives Z, ↓d_is0 Z, ↓d_is1 Z, ↓d_isFrom_t Z, ↓d_isFrom_f Z, ↓d_orNone_t Z, ↓d_orNone_f Z, ↓r_wrongPlace_f Z, ↓o_p141_2, ↓o_g141_2, e0]
/-- numbers poured one by one, on both sides -/
theorem c_take1 (Z : mX) (s : mS) {qa qb : Nat} (ha : isT qa) (hb : isT qb) (p q n i F : Int) (hi : i < n) (p0 : 0 ≤ p) (q0 : 0 ≤ q) (i0 : 0 ≤ i) (n0 : n ≤ 60 - p) (n1 : n ≤ 60 - q) (hF : F = 0 ∨ F = 1) :
    mm_at (zP Z) 115 12 [some (.inr (.inr (some qb))), some (.inr (.inr (some qa))), some (.inl p), some (.inl q), some (.inl n), some (.inl F), some (.inl i), none] [] (mk s) = mm_at (zP Z) 115 12 [some (.inr (.inr (some qb))), some (.inr (.inr (some qa))), some (.inl p), some (.inl q), some (.inl n), some (.inl F), some (.inl ((i + 1))), none] [] (mk (uA s (qb + 1) (q + (if F = 0 then n - 1 - i else i)) (cutI (s.1 qb 1) (s.2 (qa + 1) (p + (if F = 0 then n - 1 - i else i)))))) := by
  conv => lhs; rw [B_X8_take_12]
  rcases hF with rfl | rfl
  · simp (disch := first | assumption | omega) only [↓sm, ↓reduceIte, ↓if_pos, ↓if_neg, kI, kJ, kR, kV, w32_eq, w64_eq, reduceCtorEq, Int.reduceAdd, Int.reduceMul, Int.reduceSub, B_X8_take_24, t_c ha, t_c hb, ↓c8_at Z _ ha, c8_at Z _ ha, ↓c8_set Z _ hb, c8_set Z _ hb]
  · simp (disch := first | assumption | omega) only [↓sm, ↓reduceIte, ↓if_pos, ↓if_neg, kI, kJ, kR, kV, w32_eq, w64_eq, reduceCtorEq, Int.reduceAdd, Int.reduceMul, Int.reduceSub, B_X8_take_24, t_c ha, t_c hb, ↓c8_at Z _ ha, c8_at Z _ ha, ↓c8_set Z _ hb, c8_set Z _ hb]
theorem r_pour1 (Z : mX) (t : mS) (a b p q n i F : Int) (hi : i < n) (p0 : 0 ≤ p) (q0 : 0 ≤ q) (i0 : 0 ≤ i) (n0 : n ≤ 60 - p) (n1 : n ≤ 60 - q) (a0 : 0 ≤ a) (a1 : a < 4) (b0 : 0 ≤ b) (b1 : b < 4) (hF : F = 0 ∧ p < q ∨ F = 1 ∧ ¬ p < q) :
    mm_at (zP Z) 226 67 [some (.inr (.inr (some 141))), some (.inl a), some (.inl p), some (.inl b), some (.inl q), some (.inl n), some (.inl i), none] [] (mk t) = mm_at (zP Z) 226 67 [some (.inr (.inr (some 141))), some (.inl a), some (.inl p), some (.inl b), some (.inl q), some (.inl n), some (.inl ((i + 1))), none] [] (mk (uA t 146 (60 * b + q + (if F = 0 then n - 1 - i else i)) (t.2 146 (60 * a + p + (if F = 0 then n - 1 - i else i))))) := by
  conv => lhs; rw [B_X12_pour_67]
  rcases hF with ⟨rfl, h⟩ | ⟨rfl, h⟩
  · simp (disch := first | assumption | omega) only [↓sm, ↓reduceIte, ↓if_pos, ↓if_neg, kI, kJ, kR, kV, w32_eq, w64_eq, reduceCtorEq, Int.reduceAdd, Int.reduceMul, Int.reduceSub, B_X12_pour_80, o_c141, ↓o_g141_0, ↓o_g141_1, ↓o_g141_5, ↓o_g141_6, ↓o_g141_7, ↓o_g141_8, ↓o_g141_9, ↓o_g141_21, ↓o_g141_25, ↓o_g141_26, ↓o_g141_27, ↓o_g141_28, ↓o_g141_29, ↓o_g141_30, ↓o_g141_31, ↓o_g141_34, ↓o_g141_35, ↓o_g141_36, ↓a_ld146, a_ld146, ↓a_st146, a_st146]
  · simp (disch := first | assumption | omega) only [↓sm, ↓reduceIte, ↓if_pos, ↓if_neg, kI, kJ, kR, kV, w32_eq, w64_eq, reduceCtorEq, Int.reduceAdd, Int.reduceMul, Int.reduceSub, B_X12_pour_80, o_c141, ↓o_g141_0, ↓o_g141_1, ↓o_g141_5, ↓o_g141_6, ↓o_g141_7, ↓o_g141_8, ↓o_g141_9, ↓o_g141_21, ↓o_g141_25, ↓o_g141_26, ↓o_g141_27, ↓o_g141_28, ↓o_g141_29, ↓o_g141_30, ↓o_g141_31, ↓o_g141_34, ↓o_g141_35, ↓o_g141_36, ↓a_ld146, a_ld146, ↓a_st146, a_st146]
theorem RT_pour {s t : mS} (hR : RT s t) {a b : Nat} (ha : a < 4) (hb : b < 4) {p q n k : Int} (p0 : 0 ≤ p) (q0 : 0 ≤ q) (hs : s.1 (76 + 2 * a) 1 = s.1 (76 + 2 * b) 1) (hn1 : n ≤ t.2 145 a - p) (hn2 : n ≤ t.2 145 b - q) (k0 : 0 ≤ k) (k1 : k < n) :
    RT (uA s (76 + 2 * b + 1) (q + k) (cutI (s.1 (76 + 2 * b) 1) (s.2 (76 + 2 * a + 1) (p + k)))) (uA t 146 (60 * (b : Int) + q + k) (t.2 146 (60 * (a : Int) + p + k))) := by
  obtain ⟨b1, b2, b3, b4, b5, b6, b7⟩ := hR a ha
  obtain ⟨d1, d2, d3, d4, d5, d6, d7⟩ := hR b hb
  obtain ⟨g1, g2⟩ := b7 (p + k) (by omega) (by omega)
  have g1 : s.2 (76 + 2 * a + 1) (p + k) = t.2 146 (60 * (a : Int) + (p + k)) := by
    rw [← g1, show 77 + 2 * a = 76 + 2 * a + 1 by omega]
  have ec : cutI (s.1 (76 + 2 * b) 1) (s.2 (76 + 2 * a + 1) (p + k)) = t.2 146 (60 * (a : Int) + p + k) := by
    rw [← hs, b1, g1, g2, Int.add_assoc]
  rw [ec, Int.add_assoc (60 * (b : Int)) q k]
  refine RT_up hR hb (by omega) (by omega) ?_
  rw [← d1, ← hs, b1, Int.add_assoc]
  exact g2
theorem lp_pour (Z : mX) (a b : Nat) (ha : a < 4) (hb : b < 4) (p q n : Int) (p0 : 0 ≤ p) (q0 : 0 ≤ q) (n1 : n ≤ 60 - p) (n2 : n ≤ 60 - q) (F : Int) (hF : F = 0 ∧ p < q ∨ F = 1 ∧ ¬ p < q) : ∀ i : Int, i ≤ n → ∀ s : mS, 0 ≤ i → s.1 (76 + 2 * a) 1 = s.1 (76 + 2 * b) 1 →
    ∃ s', mm_at (zP Z) 115 12 [some (.inr (.inr (some ((76 + 2 * b))))), some (.inr (.inr (some ((76 + 2 * a))))), some (.inl p), some (.inl q), some (.inl n), some (.inl F), some (.inl i), none] [] (mk s) = some (none, mk s') ∧ Ag tcA tcF s s' ∧ ∀ t : mS, RT s t → n ≤ t.2 145 a - p → n ≤ t.2 145 b - q → ∃ t', mm_at (zP Z) 226 67 [some (.inr (.inr (some 141))), some (.inl ((a : Int))), some (.inl p), some (.inl ((b : Int))), some (.inl q), some (.inl n), some (.inl i), none] [] (mk t) = some (some (.inl 1), mk (uF t' 141 2 0)) ∧ RT s' t' ∧ Ag trA noF t t' := by
  have qa := isT_of ha
  have qb := isT_of hb
  refine up ?_ ?_
  · intro s i0 _
    refine ⟨s, ?_, Ag_refl _ _ _, fun t hR _ _ => ⟨t, ?_, hR, Ag_refl _ _ _⟩⟩
    · rw [B_X8_take_12]
      simp (disch := first | assumption | omega) only [↓sm, ↓reduceIte, ↓if_pos, ↓if_neg, kI, kJ, kR, kV, w32_eq, w64_eq, reduceCtorEq, Int.reduceAdd, Int.reduceMul, Int.reduceSub]
    · rw [B_X12_pour_67]
      simp (disch := first | assumption | omega) only [↓sm, ↓reduceIte, ↓if_pos, ↓if_neg, kI, kJ, kR, kV, w32_eq, w64_eq, reduceCtorEq, Int.reduceAdd, Int.reduceMul, Int.reduceSub, o_c141, ↓d_refuse Z, ↓d_gives Z, ↓d_is0 Z, ↓d_is1 Z, ↓d_isFrom_t Z, ↓d_isFrom_f Z, ↓d_orNone_t Z, ↓d_orNone_f Z]
  · intro i hi ih s i0 hs
    have k0 : 0 ≤ (if F = 0 then n - 1 - i else i) := by split <;> omega
    have k1 : (if F = 0 then n - 1 - i else i) < n := by split <;> omega
    obtain ⟨s', g1, g4, g⟩ := ih (uA s (76 + 2 * b + 1) (q + (if F = 0 then n - 1 - i else i)) (cutI (s.1 (76 + 2 * b) 1) (s.2 (76 + 2 * a + 1) (p + (if F = 0 then n - 1 - i else i))))) (by omega) hs
    have e1 := c_take1 Z s qa qb p q n i F hi p0 q0 i0 (by omega) (by omega) (by omega)
    refine ⟨s', e1.trans g1, Ag_trans (Ag_uA (Ag_refl _ _ _) (by unfold tcA; omega) _ _) g4, fun t hR hn1 hn2 => ?_⟩
    have hR1 := RT_pour hR ha hb p0 q0 hs hn1 hn2 k0 k1
    obtain ⟨t', g2, g3, g5⟩ := g _ hR1 (by rw [uA_n t (by decide)]; exact hn1) (by rw [uA_n t (by decide)]; exact hn2)
    have e2 := r_pour1 Z t (a : Int) (b : Int) p q n i F hi p0 q0 i0 (by omega) (by omega) (by omega) (by omega) (by omega) (by omega) hF
    exact ⟨t', e2.trans g2, g3, Ag_trans (Ag_uA (Ag_refl _ _ _) (by unfold trA; omega) _ _) g5⟩
