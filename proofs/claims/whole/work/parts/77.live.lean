/-! the autumns lived, on both sides -/
theorem run_end (Z : mX) {s : mS} {S N : Int → Int} {n : Int} (h : LC s S N n n) (i : Int) : mm_at (zP Z) 32 25 [some (.inr (.inr (some 63))), none, some (.inl n), some (.inl i)] [] (mk s) = some (none, mk s) := by
  obtain ⟨n60, e33, hP, hM, hA⟩ := LC_u h
  rw [B_X4_run_25]
  by_cases hi : i < 100000
  · simp (disch := first | assumption | omega) only [↓sm, ↓reduceIte, ↓if_pos, ↓if_neg, kI, kJ, kR, kV, w32_eq, w64_eq, reduceCtorEq, Int.reduceAdd, Int.reduceMul, Int.reduceSub, o_c63, ↓o_g63_0, ↓o_g63_1, ↓o_g63_2, ↓o_g63_3, ↓o_g63_4, ↓o_g63_5, ↓o_g63_6, ↓o_g63_7, ↓o_g63_8, ↓o_g63_9, ↓o_g63_10, ↓o_g63_11, ↓a_ln64, ↓a_ld64, ↓a_ln65, ↓a_ld65, o_c33, ↓o_g33_0, ↓o_g33_1, ↓o_g33_2, ↓o_g33_3, ↓o_g33_4, ↓o_g33_5, ↓o_g33_6, ↓o_g33_7, ↓a_ln34, ↓a_ld34, ↓a_ln35, ↓a_ld35, ↓a_ln36, ↓a_ld36, ↓a_ln37, ↓a_ld37, ↓a_ln38, ↓a_ld38, e33]
  · simp (disch := first | assumption | omega) only [↓sm, ↓reduceIte, ↓if_pos, ↓if_neg, kI, kJ, kR, kV, w32_eq, w64_eq, reduceCtorEq, Int.reduceAdd, Int.reduceMul, Int.reduceSub]
theorem lp_run (Z : mX) (N : Int → Int) (n : Int) : ∀ m : Nat, ∀ (i p : Int) (s : mS) (S : Int → Int), (100000 - i).toNat = m → 0 ≤ i → LC s S N n p → FB s S n p i → ∃ s' S', mm_at (zP Z) 32 25 [some (.inr (.inr (some 63))), none, some (.inl p), some (.inl i)] [] (mk s) = some (none, mk s') ∧ WF S' ∧ Kp S S' ∧ CS s' 7 S' N ∧ Ag laA laF s s' ∧
    ∀ t, LD s t S p → ∃ t', MB Z p t = mm_at (zP Z) 357 121 [some (.inr (.inr (some 141))), none, none, none] [] (mk t') ∧ t'.2 142 = S' ∧ LR s' t' ∧ Ag lbA lbF t t' := by
  intro m
  induction m with
  | zero =>
    intro i p s S hm i0 h hF
    obtain ⟨w, cs, au, h7, p0, p1, ha, m0, m1, c1, hu, x0, x1⟩ := id h
    have hpn : p = n := by
      rcases hF with x | ⟨x, -⟩
      · exact x
      · omega
    subst hpn
    refine ⟨s, S, run_end Z h i, w, Kp_refl _, cs, Ag_refl _ _ _, fun t ht => ?_⟩
    exact ⟨t, MB_n Z ht.1 h7 p0, ht.1, ht.2.1, Ag_refl _ _ _⟩
  | succ m ih =>
    intro i p s S hm i0 h hF
    obtain ⟨w, cs, au, h7, p0, p1, ha, m0, m1, c1, hu, x0, x1⟩ := id h
    obtain ⟨n60, e33, hP, hM, hA⟩ := LC_u h
    by_cases hpn : p = n
    · subst hpn
      refine ⟨s, S, run_end Z h i, w, Kp_refl _, cs, Ag_refl _ _ _, fun t ht => ?_⟩
      exact ⟨t, MB_n Z ht.1 h7 p0, ht.1, ht.2.1, Ag_refl _ _ _⟩
    · obtain ⟨q, s1, S1, c, h1, k1, ag1, F1, R1⟩ := ps_any Z h (by omega)
      obtain ⟨s', S', c2, w2, k2, cs2, ag2, R2⟩ := ih (i + 1) q s1 S1 (by omega) (by omega) h1 (F1 i hF)
      refine ⟨s', S', ?_, w2, Kp_trans k1 k2, cs2, Ag_trans ag1 ag2, fun t ht => ?_⟩
      · rw [B_X4_run_25]
        simp (disch := first | assumption | omega) only [↓sm, ↓reduceIte, ↓if_pos, ↓if_neg, kI, kJ, kR, kV, w32_eq, w64_eq, reduceCtorEq, Int.reduceAdd, Int.reduceMul, Int.reduceSub, o_c63, ↓o_g63_0, ↓o_g63_1, ↓o_g63_2, ↓o_g63_3, ↓o_g63_4, ↓o_g63_5, ↓o_g63_6, ↓o_g63_7, ↓o_g63_8, ↓o_g63_9, ↓o_g63_10, ↓o_g63_11, ↓a_ln64, ↓a_ld64, ↓a_ln65, ↓a_ld65, o_c33, ↓o_g33_0, ↓o_g33_1, ↓o_g33_2, ↓o_g33_3, ↓o_g33_4, ↓o_g33_5, ↓o_g33_6, ↓o_g33_7, ↓a_ln34, ↓a_ld34, ↓a_ln35, ↓a_ld35, ↓a_ln36, ↓a_ld36, ↓a_ln37, ↓a_ld37, ↓a_ln38, ↓a_ld38, e33, ↓c]
        exact c2
      · obtain ⟨t1, g1, d1, a1⟩ := R1 t ht
        obtain ⟨t2, g2, e2, l2, a2⟩ := R2 t1 d1
        exact ⟨t2, g1.trans g2, e2, l2, Ag_trans a1 a2⟩
def li0 (s : mS) (a : Int) : mS := uF (uF (uF (uF (uF (uF (uF s 63 5 0) 63 6 0) 63 7 0) 63 8 0) 63 9 0) 63 10 0) 63 11 a
def z5 (t : mS) : mS := uA (uA (uA (uA (uA t 158 0 0) 158 1 0) 158 2 0) 158 3 0) 158 4 0
def ri0 (t : mS) (a : Int) : mS := z5 (uF (uF (uF t 141 32 a) 141 33 0) 141 24 0)
theorem r_zero (Z : mX) (t : mS) : mm_at (zP Z) 357 11 [some (.inr (.inr (some 141))), none, some (.inl 0), none] [] (mk t) = mm_at (zP Z) 357 23 [some (.inr (.inr (some 141))), none, some (.inl 0), none] [] (mk (z5 t)) := by
  rw [B_X12_lives_11]
  simp (disch := first | assumption | omega) only [↓sm, ↓reduceIte, ↓if_pos, ↓if_neg, kI, kJ, kR, kV, w32_eq, w64_eq, reduceCtorEq, Int.reduceAdd, Int.reduceMul, Int.reduceSub, o_c141, ↓o_g141_0, ↓o_g141_1, ↓o_g141_5, ↓o_g141_6, ↓o_g141_7, ↓o_g141_8, ↓o_g141_9, ↓o_g141_21, ↓o_g141_25, ↓o_g141_26, ↓o_g141_27, ↓o_g141_28, ↓o_g141_29, ↓o_g141_30, ↓o_g141_31, ↓o_g141_34, ↓o_g141_35, ↓o_g141_36, ↓a_st158]
  rw [B_X12_lives_11]
  simp (disch := first | assumption | omega) only [↓sm, ↓reduceIte, ↓if_pos, ↓if_neg, kI, kJ, kR, kV, w32_eq, w64_eq, reduceCtorEq, Int.reduceAdd, Int.reduceMul, Int.reduceSub, o_c141, ↓o_g141_0, ↓o_g141_1, ↓o_g141_5, ↓o_g141_6, ↓o_g141_7, ↓o_g141_8, ↓o_g141_9, ↓o_g141_21, ↓o_g141_25, ↓o_g141_26, ↓o_g141_27, ↓o_g141_28, ↓o_g141_29, ↓o_g141_30, ↓o_g141_31, ↓o_g141_34, ↓o_g141_35, ↓o_g141_36, ↓a_st158]
  rw [B_X12_lives_11]
  simp (disch := first | assumption | omega) only [↓sm, ↓reduceIte, ↓if_pos, ↓if_neg, kI, kJ, kR, kV, w32_eq, w64_eq, reduceCtorEq, Int.reduceAdd, Int.reduceMul, Int.reduceSub, o_c141, ↓o_g141_0, ↓o_g141_1, ↓o_g141_5, ↓o_g141_6, ↓o_g141_7, ↓o_g141_8, ↓o_g141_9, ↓o_g141_21, ↓o_g141_25, ↓o_g141_26, ↓o_g141_27, ↓o_g141_28, ↓o_g141_29, ↓o_g141_30, ↓o_g141_31, ↓o_g141_34, ↓o_g141_35, ↓o_g141_36, ↓a_st158]
  rw [B_X12_lives_11]
  simp (disch := first | assumption | omega) only [↓sm, ↓reduceIte, ↓if_pos, ↓if_neg, kI, kJ, kR, kV, w32_eq, w64_eq, reduceCtorEq, Int.reduceAdd, Int.reduceMul, Int.reduceSub, o_c141, ↓o_g141_0, ↓o_g141_1, ↓o_g141_5, ↓o_g141_6, ↓o_g141_7, ↓o_g141_8, ↓o_g141_9, ↓o_g141_21, ↓o_g141_25, ↓o_g141_26, ↓o_g141_27, ↓o_g141_28, ↓o_g141_29, ↓o_g141_30, ↓o_g141_31, ↓o_g141_34, ↓o_g141_35, ↓o_g141_36, ↓a_st158]
  rw [B_X12_lives_11]
  simp (disch := first | assumption | omega) only [↓sm, ↓reduceIte, ↓if_pos, ↓if_neg, kI, kJ, kR, kV, w32_eq, w64_eq, reduceCtorEq, Int.reduceAdd, Int.reduceMul, Int.reduceSub, o_c141, ↓o_g141_0, ↓o_g141_1, ↓o_g141_5, ↓o_g141_6, ↓o_g141_7, ↓o_g141_8, ↓o_g141_9, ↓o_g141_21, ↓o_g141_25, ↓o_g141_26, ↓o_g141_27, ↓o_g141_28, ↓o_g141_29, ↓o_g141_30, ↓o_g141_31, ↓o_g141_34, ↓o_g141_35, ↓o_g141_36, ↓a_st158]
  rw [B_X12_lives_11]
  simp (disch := first | assumption | omega) only [↓sm, ↓reduceIte, ↓if_pos, ↓if_neg, kI, kJ, kR, kV, w32_eq, w64_eq, reduceCtorEq, Int.reduceAdd, Int.reduceMul, Int.reduceSub]
  rfl
theorem r_start (Z : mX) {t : mS} {S : Int → Int} (e : t.2 142 = S) (h7 : 0 ≤ S 7) (n60 : S 7 ≤ 60) (hM : PM S (S 7) (fun _ => False)) : mm_at (zP Z) 357 23 [some (.inr (.inr (some 141))), none, some (.inl 0), none] [] (mk t) = MB Z 0 t := by
  by_cases h0 : S 7 = 0
  · rw [MB_n Z e h0 (by omega), B_X12_lives_23]
    simp (disch := first | assumption | omega) only [↓sm, ↓reduceIte, ↓if_pos, ↓if_neg, kI, kJ, kR, kV, w32_eq, w64_eq, reduceCtorEq, Int.reduceAdd, Int.reduceMul, Int.reduceSub, o_c141, ↓o_g141_0, ↓o_g141_1, ↓o_g141_5, ↓o_g141_6, ↓o_g141_7, ↓o_g141_8, ↓o_g141_9, ↓o_g141_21, ↓o_g141_25, ↓o_g141_26, ↓o_g141_27, ↓o_g141_28, ↓o_g141_29, ↓o_g141_30, ↓o_g141_31, ↓o_g141_34, ↓o_g141_35, ↓o_g141_36, ↓r_at e, h0]
  · refine (MB_step Z e rfl n60 (by omega) (by omega) ?_).symm
    intro x
    have := hM.2.1 0 (by omega) (by omega) x
    omega
theorem run_both (Z : mX) {s : mS} {S N : Int → Int} (w : WF S) (cs : CS s 7 S N) (au : AU s 33 S) (h7 : 0 ≤ S 7) (a : Int) (a0 : 0 ≤ a) (a1 : a < 65536) : ∃ s' S', (∀ f : mW → mO, mm_kV (mm_run (zP Z) 32 [.inr (.inr (some 63)), .inl a] (mk s)) f = f (mk s')) ∧ WF S' ∧ Kp S S' ∧ CS s' 7 S' N ∧ Ag laA laF s s' ∧
    ∀ t : mS, t.2 142 = S → ∃ t', (∀ f : mW → mO, mm_kV (mm_run (zP Z) 357 [.inr (.inr (some 141)), .inl a] (mk t)) f = f (mk t')) ∧ t'.2 142 = S' ∧ Ag lbA lbF t t' ∧ s'.1 63 5 = t'.1 141 33 ∧ s'.1 63 6 = t'.2 158 0 ∧ s'.1 63 7 = t'.2 158 1 ∧ s'.1 63 8 = t'.2 158 2 ∧ s'.1 63 9 = t'.2 158 3 ∧ s'.1 63 10 = t'.2 158 4 := by
  have ag0 : Ag laA laF s (li0 s a) := by
    unfold li0
    refine Ag_uF (F := laF) (Ag_uF (F := laF) (Ag_uF (F := laF) (Ag_uF (F := laF) (Ag_uF (F := laF) (Ag_uF (F := laF) (Ag_uF (F := laF) (Ag_refl _ _ _) ?_ _) ?_ _) ?_ _) ?_ _) ?_ _) ?_ _) ?_ _ <;> (unfold laF; omega)
  have e2 : (li0 s a).2 = s.2 := rfl
  have e5 : (li0 s a).1 63 5 = 0 := by simp [li0, uF_1]
  have e6 : (li0 s a).1 63 6 = 0 := by simp [li0, uF_1]
  have e7 : (li0 s a).1 63 7 = 0 := by simp [li0, uF_1]
  have e8 : (li0 s a).1 63 8 = 0 := by simp [li0, uF_1]
  have e9 : (li0 s a).1 63 9 = 0 := by simp [li0, uF_1]
  have e10 : (li0 s a).1 63 10 = 0 := by simp [li0, uF_1]
  have e11 : (li0 s a).1 63 11 = a := by simp [li0, uF_1]
  have f63 : ∀ q k, q ≠ 63 → (li0 s a).1 q k = s.1 q k := fun q k h => by simp [li0, uF_1, h]
  have n60 : S 7 ≤ 60 := by obtain ⟨x, -⟩ := au; omega
  have h0 : LC (li0 s a) S N (S 7) 0 := ⟨w, CS_fr cs (fun k => f63 7 k (by omega)) (fun j _ _ => rfl), AU_fr au (fun k => f63 33 k (by omega)) (fun j _ _ => rfl), rfl, by omega, h7, fun o ho => by have := ho.1; have := ho.2.1; omega, by omega, by omega, by omega, fun _ => e10, by omega, by omega⟩
  have hF : FB (li0 s a) S (S 7) 0 0 := by
    unfold FB
    rw [e5]
    omega
  obtain ⟨s', S', c, wS, kS, cS, ag, R⟩ := lp_run Z N (S 7) _ 0 0 (li0 s a) S rfl (by omega) h0 hF
  refine ⟨s', S', fun f => ?_, wS, kS, cS, Ag_trans ag0 ag, fun t et => ?_⟩
  · rw [B_X4_run]
    simp (disch := first | assumption | omega) only [↓sm, ↓reduceIte, ↓if_pos, ↓if_neg, kI, kJ, kR, kV, w32_eq, w64_eq, reduceCtorEq, Int.reduceAdd, Int.reduceMul, Int.reduceSub, ↓o_p63_5, ↓o_p63_6, ↓o_p63_7, ↓o_p63_8, ↓o_p63_9, ↓o_p63_10, ↓o_p63_11]
    unfold li0 at c
    rw [c, kV]
  · have et0 : (ri0 t a).2 142 = S := by
      unfold ri0 z5
      rw [uA_n _ (by decide), uA_n _ (by decide), uA_n _ (by decide), uA_n _ (by decide), uA_n _ (by decide)]
      exact et
    have hL : LR (li0 s a) (ri0 t a) := by
      unfold LR
      rw [e5, e6, e7, e8, e9, e10, e11]
      refine ⟨?_, ?_, ?_, ?_, ?_, ?_, ?_, a0, a1⟩ <;> simp [ri0, z5, uA_1, uA_2, uF_1]
    obtain ⟨t1, g, k2, k3, k4⟩ := R (ri0 t a) ⟨et0, hL, fun o ho => by have := ho.1; have := ho.2.1; omega⟩
    have ag1 : Ag lbA lbF t (ri0 t a) := by
      unfold ri0 z5
      refine Ag_uA (Ag_uA (Ag_uA (Ag_uA (Ag_uA (Ag_uF (F := lbF) (Ag_uF (F := lbF) (Ag_uF (F := lbF) (Ag_refl _ _ _) ?_ _) ?_ _) ?_ _) ?_ _ _) ?_ _ _) ?_ _ _) ?_ _ _) ?_ _ _ <;> first | (unfold lbF; omega) | (unfold lbA; omega)
    obtain ⟨l1, l2, l3, l4, l5, l6, l7, l8, l9⟩ := k3
    refine ⟨uA t1 158 3 (t1.1 141 24), fun f => ?_, by rw [uA_n _ (by decide)]; exact k2, Ag_uA (Ag_trans ag1 k4) (by unfold lbA; omega) _ _, l1, ?_, ?_, ?_, ?_, ?_⟩
    · rw [B_X12_lives]
      simp (disch := first | assumption | omega) only [↓sm, ↓reduceIte, ↓if_pos, ↓if_neg, kI, kJ, kR, kV, w32_eq, w64_eq, reduceCtorEq, Int.reduceAdd, Int.reduceMul, Int.reduceSub, ↓o_p141_32, ↓o_p141_33, ↓o_p141_24]
      rw [r_zero Z]
      have hh : mm_at (zP Z) 357 23 [some (.inr (.inr (some 141))), none, some (.inl 0), none] [] (mk (ri0 t a)) = mm_at (zP Z) 357 121 [some (.inr (.inr (some 141))), none, none, none] [] (mk t1) := by
        rw [r_start Z et0 h7 n60 au.2.2.1]
        exact g
      unfold ri0 at hh
      rw [hh, B_X12_lives_121]
      simp (disch := first | assumption | omega) only [↓sm, ↓reduceIte, ↓if_pos, ↓if_neg, kI, kJ, kR, kV, w32_eq, w64_eq, reduceCtorEq, Int.reduceAdd, Int.reduceMul, Int.reduceSub, o_c141, ↓o_g141_0, ↓o_g141_1, ↓o_g141_5, ↓o_g141_6, ↓o_g141_7, ↓o_g141_8, ↓o_g141_9, ↓o_g141_21, ↓o_g141_25, ↓o_g141_26, ↓o_g141_27, ↓o_g141_28, ↓o_g141_29, ↓o_g141_30, ↓o_g141_31, ↓o_g141_34, ↓o_g141_35, ↓o_g141_36, ↓o_g141_24, ↓a_st158]
    · rw [uA_s, up_ne (by omega)]; exact l2
    · rw [uA_s, up_ne (by omega)]; exact l3
    · rw [uA_s, up_ne (by omega)]; exact l4
    · rw [uA_s, up_eq rfl]; exact l5
    · rw [uA_s, up_ne (by omega)]; exact l6
/-! what holds after it -/
def igA (q : Nat) : Prop := scA q ∨ srA q ∨ scl q ∨ q = 142 ∨ q = 143 ∨ q = 65 ∨ q = 159
def igF (q k : Nat) : Prop := scF q k ∨ srF q k ∨ q = 7 ∨ q = 63 ∨ (q = 3 ∧ (k = 16 ∨ k = 17)) ∨ (q = 141 ∧ (k = 3 ∨ k = 4 ∨ k = 37))
theorem inv_ig {s t : mS} (h : Inv s) (g : Ag igA igF s t) (hs : t.1 3 15 = t.1 141 2) (hf : TFr t) (hc : TSc t) (hl : TLv t) (k1 : ∀ j, 104 ≤ j → j < 1888 → t.2 142 j = s.2 142 j) (k7 : t.2 142 7 = s.2 142 7) (k2 : ∀ j, 12 ≤ j → j < 48 → t.2 143 j = s.2 143 j)
    (kn : ncl (t.2 142) = ncl (s.2 142)) (k3 : s.2 142 3 ≤ t.2 142 3) : Inv t := by
  obtain ⟨i1, i2, i3, i4, i5, i6, i7, i8⟩ := h
  have f1 := g.2
  have f2 := g.1
  unfold igA scA srA scl at f2
  unfold igF scF srF at f1
  refine ⟨hs, hf, hc, ?_, ?_, ?_, ?_, hl⟩
  · exact TTr_fr i4 (fun q k q0 q1 => f1 q k (by omega)) (fun q hq => f2 q (by omega))
  · exact TTx_fr i5 ⟨f1 5 4 (by omega), f1 5 9 (by omega), f1 5 10 (by omega)⟩ ⟨f1 141 10 (by omega), f1 141 16 (by omega), f1 141 17 (by omega)⟩ (f2 6 (by omega)) (f2 147 (by omega))
  · exact AU_S (AU_fr i6 (fun k => f1 33 k (by omega)) (fun j j0 j1 => f2 _ (by omega))) (fun j j0 j1 => k1 j j0 (by omega)) k7 kn k3
  · exact TMk_fr i7 (f1 3 14 (by omega)) (f1 141 38 (by omega)) (fun q k q0 q1 => f1 q k (by omega)) (fun q q0 q1 => f2 q (by omega)) (fun j j0 j1 => k1 j (by omega) j1) k2
def k5 (s : mS) : mS := uA (uA (uA (uA (uA s 65 0 (s.1 63 6)) 65 1 (s.1 63 7)) 65 2 (s.1 63 8)) 65 3 (s.1 63 9)) 65 4 (s.1 63 10)
theorem c_keep (Z : mX) (s : mS) (f : mW → mO) : mm_kV (mm_run (zP Z) 31 [.inr (.inr (some 63))] (mk s)) f = f (mk (uF (k5 s) 63 4 1)) := by
  rw [B_X4_keepAsLived]
  simp (disch := first | assumption | omega) only [↓sm, ↓reduceIte, ↓if_pos, ↓if_neg, kI, kJ, kR, kV, w32_eq, w64_eq, reduceCtorEq, Int.reduceAdd, Int.reduceMul, Int.reduceSub, o_c63, ↓o_g63_0, ↓o_g63_1, ↓o_g63_2, ↓o_g63_3, ↓o_g63_4, ↓o_g63_5, ↓o_g63_6, ↓o_g63_7, ↓o_g63_8, ↓o_g63_9, ↓o_g63_10, ↓o_g63_11, ↓a_ln64, ↓a_ld64, ↓a_ln65, ↓a_ld65, ↓p_65 Z, p_65 Z, uA_1, ↓o_p63_4, o_g63_7, o_g63_8, o_g63_9, o_g63_10]
  rfl
def w5 (t : mS) : mS := uA (uA (uA (uA (uA t 159 0 (t.2 158 0)) 159 1 (t.2 158 1)) 159 2 (t.2 158 2)) 159 3 (t.2 158 3)) 159 4 (t.2 158 4)
theorem r_keep (Z : mX) (t : mS) : mm_at (zP Z) 358 25 [some (.inr (.inr (some 141))), none, some (.inl 0)] [] (mk t) = mm_at (zP Z) 358 25 [some (.inr (.inr (some 141))), none, some (.inl 5)] [] (mk (w5 t)) := by
  have n : ∀ (s : mS) (i v : Int), (uA s 159 i v).2 158 = s.2 158 := fun s i v => uA_n _ (by decide) _ _
  rw [B_X12_live_25]
  simp (disch := first | assumption | omega) only [↓sm, ↓reduceIte, ↓if_pos, ↓if_neg, kI, kJ, kR, kV, w32_eq, w64_eq, reduceCtorEq, Int.reduceAdd, Int.reduceMul, Int.reduceSub, o_c141, ↓o_g141_0, ↓o_g141_1, ↓o_g141_5, ↓o_g141_6, ↓o_g141_7, ↓o_g141_8, ↓o_g141_9, ↓o_g141_21, ↓o_g141_25, ↓o_g141_26, ↓o_g141_27, ↓o_g141_28, ↓o_g141_29, ↓o_g141_30, ↓o_g141_31, ↓o_g141_34, ↓o_g141_35, ↓o_g141_36, ↓a_ld158, ↓a_st159, n]
  rw [B_X12_live_25]
  simp (disch := first | assumption | omega) only [↓sm, ↓reduceIte, ↓if_pos, ↓if_neg, kI, kJ, kR, kV, w32_eq, w64_eq, reduceCtorEq, Int.reduceAdd, Int.reduceMul, Int.reduceSub, o_c141, ↓o_g141_0, ↓o_g141_1, ↓o_g141_5, ↓o_g141_6, ↓o_g141_7, ↓o_g141_8, ↓o_g141_9, ↓o_g141_21, ↓o_g141_25, ↓o_g141_26, ↓o_g141_27, ↓o_g141_28, ↓o_g141_29, ↓o_g141_30, ↓o_g141_31, ↓o_g141_34, ↓o_g141_35, ↓o_g141_36, ↓a_ld158, ↓a_st159, n]
  rw [B_X12_live_25]
  simp (disch := first | assumption | omega) only [↓sm, ↓reduceIte, ↓if_pos, ↓if_neg, kI, kJ, kR, kV, w32_eq, w64_eq, reduceCtorEq, Int.reduceAdd, Int.reduceMul, Int.reduceSub, o_c141, ↓o_g141_0, ↓o_g141_1, ↓o_g141_5, ↓o_g141_6, ↓o_g141_7, ↓o_g141_8, ↓o_g141_9, ↓o_g141_21, ↓o_g141_25, ↓o_g141_26, ↓o_g141_27, ↓o_g141_28, ↓o_g141_29, ↓o_g141_30, ↓o_g141_31, ↓o_g141_34, ↓o_g141_35, ↓o_g141_36, ↓a_ld158, ↓a_st159, n]
  rw [B_X12_live_25]
  simp (disch := first | assumption | omega) only [↓sm, ↓reduceIte, ↓if_pos, ↓if_neg, kI, kJ, kR, kV, w32_eq, w64_eq, reduceCtorEq, Int.reduceAdd, Int.reduceMul, Int.reduceSub, o_c141, ↓o_g141_0, ↓o_g141_1, ↓o_g141_5, ↓o_g141_6, ↓o_g141_7, ↓o_g141_8, ↓o_g141_9, ↓o_g141_21, ↓o_g141_25, ↓o_g141_26, ↓o_g141_27, ↓o_g141_28, ↓o_g141_29, ↓o_g141_30, ↓o_g141_31, ↓o_g141_34, ↓o_g141_35, ↓o_g141_36, ↓a_ld158, ↓a_st159, n]
  conv => lhs; rw [B_X12_live_25]
  simp (disch := first | assumption | omega) only [↓sm, ↓reduceIte, ↓if_pos, ↓if_neg, kI, kJ, kR, kV, w32_eq, w64_eq, reduceCtorEq, Int.reduceAdd, Int.reduceMul, Int.reduceSub, o_c141, ↓o_g141_0, ↓o_g141_1, ↓o_g141_5, ↓o_g141_6, ↓o_g141_7, ↓o_g141_8, ↓o_g141_9, ↓o_g141_21, ↓o_g141_25, ↓o_g141_26, ↓o_g141_27, ↓o_g141_28, ↓o_g141_29, ↓o_g141_30, ↓o_g141_31, ↓o_g141_34, ↓o_g141_35, ↓o_g141_36, ↓a_ld158, ↓a_st159, n]
  rfl
theorem k5_Ag {A : Nat → Prop} {F : Nat → Nat → Prop} {u s : mS} (h : Ag A F u s) (hA : A 65) : Ag A F u (k5 s) := Ag_uA (Ag_uA (Ag_uA (Ag_uA (Ag_uA h hA _ _) hA _ _) hA _ _) hA _ _) hA _ _
theorem w5_Ag {A : Nat → Prop} {F : Nat → Nat → Prop} {u s : mS} (h : Ag A F u s) (hA : A 159) : Ag A F u (w5 s) := Ag_uA (Ag_uA (Ag_uA (Ag_uA (Ag_uA h hA _ _) hA _ _) hA _ _) hA _ _) hA _ _
theorem run_ig {s s' : mS} (h : Ag laA laF s s') : Ag igA igF s s' := Ag_mono h (fun q hq => by unfold laA scl at hq; unfold igA scA scl; omega) (fun q k hq => by unfold laF at hq; unfold igF; omega)
theorem liv_ig {s s' : mS} (h : Ag lbA lbF s s') : Ag igA igF s s' := Ag_mono h (fun q hq => by unfold lbA at hq; unfold igA srA; omega) (fun q k hq => by unfold lbF at hq; unfold igF srF; omega)
theorem op_live (Z : mX) (s : mS) (hI : Inv s) (a : Int) : OpI Z s 185 358 [.inl a] := by
  obtain ⟨i1, i2, ⟨w, cs⟩, i4, i5, i6, i7, i8⟩ := id hI
  by_cases ha : 0 ≤ a ∧ a ≤ 9999
  · obtain ⟨a0, a1⟩ := ha
    by_cases h7 : s.2 142 7 = -1
    · have t0 : s.1 33 0 = 0 := by
        obtain ⟨x, -⟩ := i6
        omega
      refine op_rd hI (-1) 6 (fun f => ?_) (fun t e f => ?_)
      · rw [B_X11_live]
        simp (disch := first | assumption | omega) only [↓sm, ↓reduceIte, ↓if_pos, ↓if_neg, kI, kJ, kR, kV, w32_eq, w64_eq, reduceCtorEq, Int.reduceAdd, Int.reduceMul, Int.reduceSub, o_c3, ↓o_g3_0, ↓o_g3_1, ↓o_g3_2, ↓o_g3_3, ↓o_g3_4, ↓o_g3_5, ↓o_g3_6, ↓o_g3_7, ↓o_g3_8, ↓o_g3_9, ↓o_g3_10, ↓o_g3_11, ↓o_g3_12, ↓o_g3_13, ↓o_g3_14, ↓o_g3_15, ↓o_g3_16, ↓o_g3_17, ↓a_ln4, ↓a_ld4, ↓a_ln61, ↓a_ld61, ↓a_ln62, ↓a_ld62, ↓d_none Z, ↓d_done Z, ↓d_refused Z, ↓d_granted Z, ↓k_isIn_t Z, o_c33, ↓o_g33_0, ↓o_g33_1, ↓o_g33_2, ↓o_g33_3, ↓o_g33_4, ↓o_g33_5, ↓o_g33_6, ↓o_g33_7, ↓a_ln34, ↓a_ld34, ↓a_ln35, ↓a_ld35, ↓a_ln36, ↓a_ld36, ↓a_ln37, ↓a_ld37, ↓a_ln38, ↓a_ld38, t0]
      · rw [B_X12_live]
        simp (disch := first | assumption | omega) only [↓sm, ↓reduceIte, ↓if_pos, ↓if_neg, kI, kJ, kR, kV, w32_eq, w64_eq, reduceCtorEq, Int.reduceAdd, Int.reduceMul, Int.reduceSub, o_c141, ↓o_g141_0, ↓o_g141_1, ↓o_g141_5, ↓o_g141_6, ↓o_g141_7, ↓o_g141_8, ↓o_g141_9, ↓o_g141_21, ↓o_g141_25, ↓o_g141_26, ↓o_g141_27, ↓o_g141_28, ↓o_g141_29, ↓o_g141_30, ↓o_g141_31, ↓o_g141_34, ↓o_g141_35, ↓o_g141_36, ↓d_refuse Z, ↓d_gives Z, ↓d_is0 Z, ↓d_is1 Z, ↓d_isFrom_t Z, ↓d_isFrom_f Z, ↓d_orNone_t Z, ↓d_orNone_f Z, ↓r_at e, h7]
    · have t1 : s.1 33 0 = 1 ∧ 0 ≤ s.2 142 7 := by
        obtain ⟨x, -⟩ := i6
        omega
      obtain ⟨t1, n0⟩ := t1
      obtain ⟨s', S', c, wS, kS, cS, ag, R⟩ := run_both Z w cs i6 n0 a a0 (by omega)
      have e142 : (uF (uF (k5 s') 63 4 1) 3 15 0).2 142 = s.2 142 := ag.1 142 (by unfold laA scl; omega)
      have e143 : (uF (uF (k5 s') 63 4 1) 3 15 0).2 143 = s.2 143 := ag.1 143 (by unfold laA scl; omega)
      obtain ⟨t', r, e, ag2, r5, r6, r7, r8, r9, r10⟩ := R (uF (uF (k5 s') 63 4 1) 3 15 0) e142
      have agC : Ag igA igF s (uF (uF (k5 s') 63 4 1) 3 15 0) := Ag_uF (F := igF) (Ag_uF (F := igF) (k5_Ag (run_ig ag) (by unfold igA; omega)) (by unfold igF; omega) _) (by unfold igF scF; omega) _
      have agR : Ag igA igF (uF (uF (k5 s') 63 4 1) 3 15 0) (uF (uF (w5 t') 141 37 1) 141 2 0) := Ag_uF (F := igF) (Ag_uF (F := igF) (w5_Ag (liv_ig ag2) (by unfold igA; omega)) (by unfold igF; omega) _) (by unfold igF srF; omega) _
      refine ⟨s'.1 63 5, uF (uF (k5 s') 63 4 1) 3 15 0, uF (uF (w5 t') 141 37 1) 141 2 0, fun f => ?_, fun f => ?_, ?_⟩
      · have q5 : (uF (k5 s') 63 4 1).1 63 5 = s'.1 63 5 := by rw [uF_1, if_neg (by omega)]; rfl
        rw [B_X11_live]
        simp (disch := first | assumption | omega) only [↓sm, ↓reduceIte, ↓if_pos, ↓if_neg, kI, kJ, kR, kV, w32_eq, w64_eq, reduceCtorEq, Int.reduceAdd, Int.reduceMul, Int.reduceSub, o_c3, ↓o_g3_0, ↓o_g3_1, ↓o_g3_2, ↓o_g3_3, ↓o_g3_4, ↓o_g3_5, ↓o_g3_6, ↓o_g3_7, ↓o_g3_8, ↓o_g3_9, ↓o_g3_10, ↓o_g3_11, ↓o_g3_12, ↓o_g3_13, ↓o_g3_14, ↓o_g3_15, ↓o_g3_16, ↓o_g3_17, ↓a_ln4, ↓a_ld4, ↓a_ln61, ↓a_ld61, ↓a_ln62, ↓a_ld62, ↓d_none Z, ↓d_done Z, ↓d_refused Z, ↓d_granted Z, ↓k_isIn_t Z, o_c33, ↓o_g33_0, ↓o_g33_1, ↓o_g33_2, ↓o_g33_3, ↓o_g33_4, ↓o_g33_5, ↓o_g33_6, ↓o_g33_7, ↓a_ln34, ↓a_ld34, ↓a_ln35, ↓a_ld35, ↓a_ln36, ↓a_ld36, ↓a_ln37, ↓a_ld37, ↓a_ln38, ↓a_ld38, t1, o_c63, ↓c, ↓c_keep Z, ↓o_g63_5, q5]
      · have q5 : (uF (w5 t') 141 37 1).1 141 33 = s'.1 63 5 := by rw [uF_1, if_neg (by omega)]; exact r5.symm
        rw [B_X12_live]
        simp (disch := first | assumption | omega) only [↓sm, ↓reduceIte, ↓if_pos, ↓if_neg, kI, kJ, kR, kV, w32_eq, w64_eq, reduceCtorEq, Int.reduceAdd, Int.reduceMul, Int.reduceSub, o_c141, ↓o_g141_0, ↓o_g141_1, ↓o_g141_5, ↓o_g141_6, ↓o_g141_7, ↓o_g141_8, ↓o_g141_9, ↓o_g141_21, ↓o_g141_25, ↓o_g141_26, ↓o_g141_27, ↓o_g141_28, ↓o_g141_29, ↓o_g141_30, ↓o_g141_31, ↓o_g141_34, ↓o_g141_35, ↓o_g141_36, ↓d_refuse Z, ↓d_gives Z, ↓d_is0 Z, ↓d_is1 Z, ↓d_isFrom_t Z, ↓d_isFrom_f Z, ↓d_orNone_t Z, ↓d_orNone_f Z, ↓r_at e142, h7, ↓r, r_keep Z, B_X12_live_25 Z, ↓o_p141_37, ↓o_g141_33, q5]
      · have hq : ∀ q, q ≠ 142 → q ≠ 157 → q ≠ 158 → q ≠ 159 → (uF (uF (w5 t') 141 37 1) 141 2 0).2 q = (uF (uF (k5 s') 63 4 1) 3 15 0).2 q := fun q h1 h2 h3 h4 => by
          have x1 : (uF (uF (w5 t') 141 37 1) 141 2 0).2 q = t'.2 q := by
            rw [uF_2, uF_2]
            unfold w5
            rw [uA_n _ h4, uA_n _ h4, uA_n _ h4, uA_n _ h4, uA_n _ h4]
          rw [x1]
          exact ag2.1 q (by unfold lbA; omega)
        have h142 : (uF (uF (w5 t') 141 37 1) 141 2 0).2 142 = S' := e
        have h143 : (uF (uF (w5 t') 141 37 1) 141 2 0).2 143 = s.2 143 := (hq 143 (by omega) (by omega) (by omega) (by omega)).trans e143
        have hf : ∀ q k, q ≠ 141 → (uF (uF (w5 t') 141 37 1) 141 2 0).1 q k = (uF (uF (k5 s') 63 4 1) 3 15 0).1 q k := fun q k h => by
          rw [uF_1, if_neg (fun x => h x.1), uF_1, if_neg (fun x => h x.1)]
          exact ag2.2 q k (fun x => h x.1)
        refine inv_ig hI (Ag_trans agC agR) ?_ ⟨?_, ?_⟩ ⟨?_, ?_⟩ ⟨?_, Or.inr ?_, ?_⟩ (fun j j0 j1 => ?_) ?_ (fun j j0 j1 => by rw [h143]) ?_ ?_
        · rw [hf 3 15 (by omega), uF_1, if_pos ⟨rfl, rfl⟩, uF_1, if_pos ⟨rfl, rfl⟩]
        · rw [hf 3 16 (by omega), uF_1, if_neg (by omega), uF_1, if_neg (by omega), uF_1, if_neg (by omega), uF_1, if_neg (by omega)]
          have x1 : (k5 s').1 3 16 = s.1 3 16 := ag.2 3 16 (by unfold laF; omega)
          have x2 : (w5 t').1 141 3 = s.1 141 3 := (ag2.2 141 3 (by unfold lbF; omega)).trans (by rw [uF_1, if_neg (by omega), uF_1, if_neg (by omega)]; exact ag.2 141 3 (by unfold laF; omega))
          rw [x1, x2]
          exact i2.1
        · rw [hf 3 17 (by omega), uF_1, if_neg (by omega), uF_1, if_neg (by omega), uF_1, if_neg (by omega), uF_1, if_neg (by omega)]
          have x1 : (k5 s').1 3 17 = s.1 3 17 := ag.2 3 17 (by unfold laF; omega)
          have x2 : (w5 t').1 141 4 = s.1 141 4 := (ag2.2 141 4 (by unfold lbF; omega)).trans (by rw [uF_1, if_neg (by omega), uF_1, if_neg (by omega)]; exact ag.2 141 4 (by unfold laF; omega))
          rw [x1, x2]
          exact i2.2
        · rw [h142]; exact wS
        · rw [h142, h143]
          refine CS_fr (s := s') cS (fun k => ?_) (fun j j0 j1 => ?_)
          · rw [hf 7 k (by omega), uF_1, if_neg (by omega), uF_1, if_neg (by omega)]
            rfl
          · rw [hq _ (by omega) (by omega) (by omega) (by omega), uF_2, uF_2]
            unfold k5
            rw [uA_n _ (by omega), uA_n _ (by omega), uA_n _ (by omega), uA_n _ (by omega), uA_n _ (by omega)]
        · rw [hf 63 4 (by omega), uF_1, if_neg (by omega), uF_1, if_pos ⟨rfl, rfl⟩, uF_1, if_neg (by omega), uF_1, if_pos ⟨rfl, rfl⟩]
        · rw [hf 63 4 (by omega), uF_1, if_neg (by omega), uF_1, if_pos ⟨rfl, rfl⟩]
        · intro i j0 j1
          rw [hq 65 (by omega) (by omega) (by omega) (by omega), uF_2, uF_2, uF_2, uF_2]
          have hi : i = 0 ∨ i = 1 ∨ i = 2 ∨ i = 3 ∨ i = 4 := by omega
          unfold k5 w5
          simp only [uA_2, uA_1]
          rcases hi with rfl | rfl | rfl | rfl | rfl
          · exact r6
          · exact r7
          · exact r8
          · exact r9
          · exact r10
        · rw [h142]; exact kS.1 j j0
        · rw [h142]; exact kS.2.1
        · rw [h142]; exact Kp_ncl kS
        · rw [h142]; exact kS.2.2.2.2
  · refine op_rd hI (-1) 1 (fun f => ?_) (fun t e f => ?_)
    · rw [B_X11_live]
      simp (disch := first | assumption | omega) only [↓sm, ↓reduceIte, ↓if_pos, ↓if_neg, kI, kJ, kR, kV, w32_eq, w64_eq, reduceCtorEq, Int.reduceAdd, Int.reduceMul, Int.reduceSub, o_c3, ↓o_g3_0, ↓o_g3_1, ↓o_g3_2, ↓o_g3_3, ↓o_g3_4, ↓o_g3_5, ↓o_g3_6, ↓o_g3_7, ↓o_g3_8, ↓o_g3_9, ↓o_g3_10, ↓o_g3_11, ↓o_g3_12, ↓o_g3_13, ↓o_g3_14, ↓o_g3_15, ↓o_g3_16, ↓o_g3_17, ↓a_ln4, ↓a_ld4, ↓a_ln61, ↓a_ld61, ↓a_ln62, ↓a_ld62, ↓d_none Z, ↓d_done Z, ↓d_refused Z, ↓d_granted Z, ↓k_isIn_f Z]
    · rw [B_X12_live]
      simp (disch := first | assumption | omega) only [↓sm, ↓reduceIte, ↓if_pos, ↓if_neg, kI, kJ, kR, kV, w32_eq, w64_eq, reduceCtorEq, Int.reduceAdd, Int.reduceMul, Int.reduceSub, o_c141, ↓o_g141_0, ↓o_g141_1, ↓o_g141_5, ↓o_g141_6, ↓o_g141_7, ↓o_g141_8, ↓o_g141_9, ↓o_g141_21, ↓o_g141_25, ↓o_g141_26, ↓o_g141_27, ↓o_g141_28, ↓o_g141_29, ↓o_g141_30, ↓o_g141_31, ↓o_g141_34, ↓o_g141_35, ↓o_g141_36, ↓d_refuse Z, ↓d_gives Z, ↓d_is0 Z, ↓d_is1 Z, ↓d_isFrom_t Z, ↓d_isFrom_f Z, ↓d_orNone_t Z, ↓d_orNone_f Z]
