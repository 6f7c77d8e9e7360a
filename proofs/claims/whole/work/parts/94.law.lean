/-! the law, call by call (printed by gen/law94.py) -/
theorem lw_22 (Z : mX) (hZ : ∀ i : Int, zR32 (Z.1 i)) (i : Int) (i0 : 0 ≤ i) (i1 : i + 6 ≤ Z.2) (i2 : Z.2 ≤ 3072) (s : mS) (hI : Inv s) : ∃ s', Inv s' ∧ mm_at (zP Z) 365 22 [some (.inr (.inr (some 2))), some (.inr (.inr (some 3))), some (.inr (.inr (some 141))), some (.inl i)] [] (mk s) = mm_at (zP Z) 365 1365 [some (.inr (.inr (some 2))), some (.inr (.inr (some 3))), some (.inr (.inr (some 141))), some (.inl i)] [] (mk s') := by
  obtain ⟨v, s1, s2, c, r, h⟩ := op_status Z s hI  
  refine ⟨s2, h, ?_⟩
  rw [B_L_law_22]
  simp (disch := first | assumption | omega) only [↓sm, ↓reduceIte, ↓if_pos, ↓if_neg, kI, kJ, kR, kV, w32_eq, w64_eq, reduceCtorEq, Int.reduceAdd, Int.reduceMul, Int.reduceSub, o_c3, ↓c, o_c141, ↓r]
theorem lw_29 (Z : mX) (hZ : ∀ i : Int, zR32 (Z.1 i)) (i : Int) (i0 : 0 ≤ i) (i1 : i + 6 ≤ Z.2) (i2 : Z.2 ≤ 3072) (s : mS) (hI : Inv s) : ∃ s', Inv s' ∧ mm_at (zP Z) 365 29 [some (.inr (.inr (some 2))), some (.inr (.inr (some 3))), some (.inr (.inr (some 141))), some (.inl i)] [] (mk s) = mm_at (zP Z) 365 1365 [some (.inr (.inr (some 2))), some (.inr (.inr (some 3))), some (.inr (.inr (some 141))), some (.inl i)] [] (mk s') := by
  obtain ⟨v, s1, s2, c, r, h⟩ := op_top Z s hI  
  refine ⟨s2, h, ?_⟩
  rw [B_L_law_29]
  simp (disch := first | assumption | omega) only [↓sm, ↓reduceIte, ↓if_pos, ↓if_neg, kI, kJ, kR, kV, w32_eq, w64_eq, reduceCtorEq, Int.reduceAdd, Int.reduceMul, Int.reduceSub, o_c3, ↓c, o_c141, ↓r, lcmp0]
theorem lw_37 (Z : mX) (hZ : ∀ i : Int, zR32 (Z.1 i)) (i : Int) (i0 : 0 ≤ i) (i1 : i + 6 ≤ Z.2) (i2 : Z.2 ≤ 3072) (s : mS) (hI : Inv s) : ∃ s', Inv s' ∧ mm_at (zP Z) 365 37 [some (.inr (.inr (some 2))), some (.inr (.inr (some 3))), some (.inr (.inr (some 141))), some (.inl i)] [] (mk s) = mm_at (zP Z) 365 1365 [some (.inr (.inr (some 2))), some (.inr (.inr (some 3))), some (.inr (.inr (some 141))), some (.inl i)] [] (mk s') := by
  obtain ⟨v, s1, s2, c, r, h⟩ := op_bottom Z s hI  
  refine ⟨s2, h, ?_⟩
  rw [B_L_law_37]
  simp (disch := first | assumption | omega) only [↓sm, ↓reduceIte, ↓if_pos, ↓if_neg, kI, kJ, kR, kV, w32_eq, w64_eq, reduceCtorEq, Int.reduceAdd, Int.reduceMul, Int.reduceSub, o_c3, ↓c, o_c141, ↓r, lcmp0]
theorem lw_45 (Z : mX) (hZ : ∀ i : Int, zR32 (Z.1 i)) (i : Int) (i0 : 0 ≤ i) (i1 : i + 6 ≤ Z.2) (i2 : Z.2 ≤ 3072) (s : mS) (hI : Inv s) : ∃ s', Inv s' ∧ mm_at (zP Z) 365 45 [some (.inr (.inr (some 2))), some (.inr (.inr (some 3))), some (.inr (.inr (some 141))), some (.inl i)] [] (mk s) = mm_at (zP Z) 365 1365 [some (.inr (.inr (some 2))), some (.inr (.inr (some 3))), some (.inr (.inr (some 141))), some (.inl i)] [] (mk s') := by
  have w1 : mm_w32 (i + 1) = i + 1 := w32_eq (by omega) (by omega)
  have w2 : mm_w32 (i + 2) = i + 2 := w32_eq (by omega) (by omega)
  have w3 : mm_w32 (i + 3) = i + 3 := w32_eq (by omega) (by omega)
  obtain ⟨v, s1, s2, c, r, h⟩ := op_tray Z s hI (Z.1 (i + 1)) (Z.1 (i + 2)) (Z.1 (i + 3)) 
  refine ⟨s2, h, ?_⟩
  rw [B_L_law_45]
  simp only [w1, w2, w3]
  simp (disch := first | assumption | omega) only [↓sm, ↓reduceIte, ↓if_pos, ↓if_neg, kI, kJ, kR, kV, w32_eq, w64_eq, reduceCtorEq, Int.reduceAdd, Int.reduceMul, Int.reduceSub, o_c3, ↓c, o_c141, ↓r]
theorem lw_82 (Z : mX) (hZ : ∀ i : Int, zR32 (Z.1 i)) (i : Int) (i0 : 0 ≤ i) (i1 : i + 6 ≤ Z.2) (i2 : Z.2 ≤ 3072) (s : mS) (hI : Inv s) : ∃ s', Inv s' ∧ mm_at (zP Z) 365 82 [some (.inr (.inr (some 2))), some (.inr (.inr (some 3))), some (.inr (.inr (some 141))), some (.inl i)] [] (mk s) = mm_at (zP Z) 365 1365 [some (.inr (.inr (some 2))), some (.inr (.inr (some 3))), some (.inr (.inr (some 141))), some (.inl i)] [] (mk s') := by
  have w1 : mm_w32 (i + 1) = i + 1 := w32_eq (by omega) (by omega)
  have w2 : mm_w32 (i + 2) = i + 2 := w32_eq (by omega) (by omega)
  have w3 : mm_w32 (i + 3) = i + 3 := w32_eq (by omega) (by omega)
  have w4 : mm_w32 (i + 4) = i + 4 := w32_eq (by omega) (by omega)
  have w5 : mm_w32 (i + 5) = i + 5 := w32_eq (by omega) (by omega)
  obtain ⟨v, s1, s2, c, r, h⟩ := op_write Z s hI (Z.1 (i + 1)) (Z.1 (i + 2)) (mm_lor (mm_lshl (Z.1 (i + 3)) 32) (mm_land (Z.1 (i + 4)) 4294967295)) 
  refine ⟨s2, h, ?_⟩
  rw [B_L_law_82]
  simp only [w1, w2, w3, w4, w5]
  simp (disch := first | assumption | omega) only [↓sm, ↓reduceIte, ↓if_pos, ↓if_neg, kI, kJ, kR, kV, w32_eq, w64_eq, reduceCtorEq, Int.reduceAdd, Int.reduceMul, Int.reduceSub, o_c3, ↓c, o_c141, ↓r]
theorem lw_143 (Z : mX) (hZ : ∀ i : Int, zR32 (Z.1 i)) (i : Int) (i0 : 0 ≤ i) (i1 : i + 6 ≤ Z.2) (i2 : Z.2 ≤ 3072) (s : mS) (hI : Inv s) : ∃ s', Inv s' ∧ mm_at (zP Z) 365 143 [some (.inr (.inr (some 2))), some (.inr (.inr (some 3))), some (.inr (.inr (some 141))), some (.inl i)] [] (mk s) = mm_at (zP Z) 365 1365 [some (.inr (.inr (some 2))), some (.inr (.inr (some 3))), some (.inr (.inr (some 141))), some (.inl i)] [] (mk s') := by
  have w1 : mm_w32 (i + 1) = i + 1 := w32_eq (by omega) (by omega)
  have w2 : mm_w32 (i + 2) = i + 2 := w32_eq (by omega) (by omega)
  obtain ⟨v, s1, s2, c, r, h⟩ := op_read Z s hI (Z.1 (i + 1)) (Z.1 (i + 2)) 
  refine ⟨s2, h, ?_⟩
  rw [B_L_law_143]
  simp only [w1, w2]
  simp (disch := first | assumption | omega) only [↓sm, ↓reduceIte, ↓if_pos, ↓if_neg, kI, kJ, kR, kV, w32_eq, w64_eq, reduceCtorEq, Int.reduceAdd, Int.reduceMul, Int.reduceSub, o_c3, ↓c, o_c141, ↓r, lcmp0]
theorem lw_171 (Z : mX) (hZ : ∀ i : Int, zR32 (Z.1 i)) (i : Int) (i0 : 0 ≤ i) (i1 : i + 6 ≤ Z.2) (i2 : Z.2 ≤ 3072) (s : mS) (hI : Inv s) : ∃ s', Inv s' ∧ mm_at (zP Z) 365 171 [some (.inr (.inr (some 2))), some (.inr (.inr (some 3))), some (.inr (.inr (some 141))), some (.inl i)] [] (mk s) = mm_at (zP Z) 365 1365 [some (.inr (.inr (some 2))), some (.inr (.inr (some 3))), some (.inr (.inr (some 141))), some (.inl i)] [] (mk s') := by
  have w1 : mm_w32 (i + 1) = i + 1 := w32_eq (by omega) (by omega)
  have w2 : mm_w32 (i + 2) = i + 2 := w32_eq (by omega) (by omega)
  have w3 : mm_w32 (i + 3) = i + 3 := w32_eq (by omega) (by omega)
  have w4 : mm_w32 (i + 4) = i + 4 := w32_eq (by omega) (by omega)
  have w5 : mm_w32 (i + 5) = i + 5 := w32_eq (by omega) (by omega)
  obtain ⟨v, s1, s2, c, r, h⟩ := op_pour Z s hI (Z.1 (i + 1)) (Z.1 (i + 2)) (Z.1 (i + 3)) (Z.1 (i + 4)) (Z.1 (i + 5)) (hZ _) (hZ _)
  refine ⟨s2, h, ?_⟩
  rw [B_L_law_171]
  simp only [w1, w2, w3, w4, w5]
  simp (disch := first | assumption | omega) only [↓sm, ↓reduceIte, ↓if_pos, ↓if_neg, kI, kJ, kR, kV, w32_eq, w64_eq, reduceCtorEq, Int.reduceAdd, Int.reduceMul, Int.reduceSub, o_c3, ↓c, o_c141, ↓r]
theorem lw_228 (Z : mX) (hZ : ∀ i : Int, zR32 (Z.1 i)) (i : Int) (i0 : 0 ≤ i) (i1 : i + 6 ≤ Z.2) (i2 : Z.2 ≤ 3072) (s : mS) (hI : Inv s) : ∃ s', Inv s' ∧ mm_at (zP Z) 365 228 [some (.inr (.inr (some 2))), some (.inr (.inr (some 3))), some (.inr (.inr (some 141))), some (.inl i)] [] (mk s) = mm_at (zP Z) 365 1365 [some (.inr (.inr (some 2))), some (.inr (.inr (some 3))), some (.inr (.inr (some 141))), some (.inl i)] [] (mk s') := by
  have w1 : mm_w32 (i + 1) = i + 1 := w32_eq (by omega) (by omega)
  have w2 : mm_w32 (i + 2) = i + 2 := w32_eq (by omega) (by omega)
  have w3 : mm_w32 (i + 3) = i + 3 := w32_eq (by omega) (by omega)
  have w4 : mm_w32 (i + 4) = i + 4 := w32_eq (by omega) (by omega)
  have w5 : mm_w32 (i + 5) = i + 5 := w32_eq (by omega) (by omega)
  obtain ⟨v, s1, s2, c, r, h⟩ := op_feed Z s hI (Z.1 (i + 1)) (Z.1 (i + 2)) (Z.1 (i + 3)) (Z.1 (i + 4)) (Z.1 (i + 5)) 
  refine ⟨s2, h, ?_⟩
  rw [B_L_law_228]
  simp only [w1, w2, w3, w4, w5]
  simp (disch := first | assumption | omega) only [↓sm, ↓reduceIte, ↓if_pos, ↓if_neg, kI, kJ, kR, kV, w32_eq, w64_eq, reduceCtorEq, Int.reduceAdd, Int.reduceMul, Int.reduceSub, o_c3, ↓c, o_c141, ↓r]
theorem lw_285 (Z : mX) (h8 : ∀ s : mS, Inv s → ∀ a : Int, zR32 a → OpI Z s 144 262 [.inl a]) (hZ : ∀ i : Int, zR32 (Z.1 i)) (i : Int) (i0 : 0 ≤ i) (i1 : i + 6 ≤ Z.2) (i2 : Z.2 ≤ 3072) (s : mS) (hI : Inv s) : ∃ s', Inv s' ∧ mm_at (zP Z) 365 285 [some (.inr (.inr (some 2))), some (.inr (.inr (some 3))), some (.inr (.inr (some 141))), some (.inl i)] [] (mk s) = mm_at (zP Z) 365 1365 [some (.inr (.inr (some 2))), some (.inr (.inr (some 3))), some (.inr (.inr (some 141))), some (.inl i)] [] (mk s') := by
  have w1 : mm_w32 (i + 1) = i + 1 := w32_eq (by omega) (by omega)
  obtain ⟨v, s1, s2, c, r, h⟩ := h8 s hI (Z.1 (i + 1)) (hZ _)
  refine ⟨s2, h, ?_⟩
  rw [B_L_law_285]
  simp only [w1]
  simp (disch := first | assumption | omega) only [↓sm, ↓reduceIte, ↓if_pos, ↓if_neg, kI, kJ, kR, kV, w32_eq, w64_eq, reduceCtorEq, Int.reduceAdd, Int.reduceMul, Int.reduceSub, o_c3, ↓c, o_c141, ↓r]
theorem lw_302 (Z : mX) (h9 : ∀ s : mS, Inv s → ∀ a : Int, zR32 a → OpI Z s 145 269 [.inl a]) (hZ : ∀ i : Int, zR32 (Z.1 i)) (i : Int) (i0 : 0 ≤ i) (i1 : i + 6 ≤ Z.2) (i2 : Z.2 ≤ 3072) (s : mS) (hI : Inv s) : ∃ s', Inv s' ∧ mm_at (zP Z) 365 302 [some (.inr (.inr (some 2))), some (.inr (.inr (some 3))), some (.inr (.inr (some 141))), some (.inl i)] [] (mk s) = mm_at (zP Z) 365 1365 [some (.inr (.inr (some 2))), some (.inr (.inr (some 3))), some (.inr (.inr (some 141))), some (.inl i)] [] (mk s') := by
  have w1 : mm_w32 (i + 1) = i + 1 := w32_eq (by omega) (by omega)
  obtain ⟨v, s1, s2, c, r, h⟩ := h9 s hI (Z.1 (i + 1)) (hZ _)
  refine ⟨s2, h, ?_⟩
  rw [B_L_law_302]
  simp only [w1]
  simp (disch := first | assumption | omega) only [↓sm, ↓reduceIte, ↓if_pos, ↓if_neg, kI, kJ, kR, kV, w32_eq, w64_eq, reduceCtorEq, Int.reduceAdd, Int.reduceMul, Int.reduceSub, o_c3, ↓c, o_c141, ↓r]
theorem lw_319 (Z : mX) (hZ : ∀ i : Int, zR32 (Z.1 i)) (i : Int) (i0 : 0 ≤ i) (i1 : i + 6 ≤ Z.2) (i2 : Z.2 ≤ 3072) (s : mS) (hI : Inv s) : ∃ s', Inv s' ∧ mm_at (zP Z) 365 319 [some (.inr (.inr (some 2))), some (.inr (.inr (some 3))), some (.inr (.inr (some 141))), some (.inl i)] [] (mk s) = mm_at (zP Z) 365 1365 [some (.inr (.inr (some 2))), some (.inr (.inr (some 3))), some (.inr (.inr (some 141))), some (.inl i)] [] (mk s') := by
  have w1 : mm_w32 (i + 1) = i + 1 := w32_eq (by omega) (by omega)
  obtain ⟨v, s1, s2, c, r, h⟩ := op_fault Z s hI (Z.1 (i + 1)) 
  refine ⟨s2, h, ?_⟩
  rw [B_L_law_319]
  simp only [w1]
  simp (disch := first | assumption | omega) only [↓sm, ↓reduceIte, ↓if_pos, ↓if_neg, kI, kJ, kR, kV, w32_eq, w64_eq, reduceCtorEq, Int.reduceAdd, Int.reduceMul, Int.reduceSub, o_c3, ↓c, o_c141, ↓r]
theorem lw_336 (Z : mX) (hZ : ∀ i : Int, zR32 (Z.1 i)) (i : Int) (i0 : 0 ≤ i) (i1 : i + 6 ≤ Z.2) (i2 : Z.2 ≤ 3072) (s : mS) (hI : Inv s) : ∃ s', Inv s' ∧ mm_at (zP Z) 365 336 [some (.inr (.inr (some 2))), some (.inr (.inr (some 3))), some (.inr (.inr (some 141))), some (.inl i)] [] (mk s) = mm_at (zP Z) 365 1365 [some (.inr (.inr (some 2))), some (.inr (.inr (some 3))), some (.inr (.inr (some 141))), some (.inl i)] [] (mk s') := by
  have w1 : mm_w32 (i + 1) = i + 1 := w32_eq (by omega) (by omega)
  obtain ⟨v, s1, s2, c, r, h⟩ := op_told Z s hI (Z.1 (i + 1)) 
  refine ⟨s2, h, ?_⟩
  rw [B_L_law_336]
  simp only [w1]
  simp (disch := first | assumption | omega) only [↓sm, ↓reduceIte, ↓if_pos, ↓if_neg, kI, kJ, kR, kV, w32_eq, w64_eq, reduceCtorEq, Int.reduceAdd, Int.reduceMul, Int.reduceSub, o_c3, ↓c, o_c141, ↓r]
theorem lw_353 (Z : mX) (hZ : ∀ i : Int, zR32 (Z.1 i)) (i : Int) (i0 : 0 ≤ i) (i1 : i + 6 ≤ Z.2) (i2 : Z.2 ≤ 3072) (s : mS) (hI : Inv s) : ∃ s', Inv s' ∧ mm_at (zP Z) 365 353 [some (.inr (.inr (some 2))), some (.inr (.inr (some 3))), some (.inr (.inr (some 141))), some (.inl i)] [] (mk s) = mm_at (zP Z) 365 1365 [some (.inr (.inr (some 2))), some (.inr (.inr (some 3))), some (.inr (.inr (some 141))), some (.inl i)] [] (mk s') := by
  have w1 : mm_w32 (i + 1) = i + 1 := w32_eq (by omega) (by omega)
  have w2 : mm_w32 (i + 2) = i + 2 := w32_eq (by omega) (by omega)
  obtain ⟨v, s1, s2, c, r, h⟩ := op_cell Z s hI (Z.1 (i + 1)) (Z.1 (i + 2)) 
  refine ⟨s2, h, ?_⟩
  rw [B_L_law_353]
  simp only [w1, w2]
  simp (disch := first | assumption | omega) only [↓sm, ↓reduceIte, ↓if_pos, ↓if_neg, kI, kJ, kR, kV, w32_eq, w64_eq, reduceCtorEq, Int.reduceAdd, Int.reduceMul, Int.reduceSub, o_c3, ↓c, o_c141, ↓r]
theorem lw_380 (Z : mX) (hZ : ∀ i : Int, zR32 (Z.1 i)) (i : Int) (i0 : 0 ≤ i) (i1 : i + 6 ≤ Z.2) (i2 : Z.2 ≤ 3072) (s : mS) (hI : Inv s) : ∃ s', Inv s' ∧ mm_at (zP Z) 365 380 [some (.inr (.inr (some 2))), some (.inr (.inr (some 3))), some (.inr (.inr (some 141))), some (.inl i)] [] (mk s) = mm_at (zP Z) 365 1365 [some (.inr (.inr (some 2))), some (.inr (.inr (some 3))), some (.inr (.inr (some 141))), some (.inl i)] [] (mk s') := by
  have w1 : mm_w32 (i + 1) = i + 1 := w32_eq (by omega) (by omega)
  have w2 : mm_w32 (i + 2) = i + 2 := w32_eq (by omega) (by omega)
  obtain ⟨v, s1, s2, c, r, h⟩ := op_lesson Z s hI (Z.1 (i + 1)) (Z.1 (i + 2)) 
  refine ⟨s2, h, ?_⟩
  rw [B_L_law_380]
  simp only [w1, w2]
  simp (disch := first | assumption | omega) only [↓sm, ↓reduceIte, ↓if_pos, ↓if_neg, kI, kJ, kR, kV, w32_eq, w64_eq, reduceCtorEq, Int.reduceAdd, Int.reduceMul, Int.reduceSub, o_c3, ↓c, o_c141, ↓r]
theorem lw_407 (Z : mX) (hZ : ∀ i : Int, zR32 (Z.1 i)) (i : Int) (i0 : 0 ≤ i) (i1 : i + 6 ≤ Z.2) (i2 : Z.2 ≤ 3072) (s : mS) (hI : Inv s) : ∃ s', Inv s' ∧ mm_at (zP Z) 365 407 [some (.inr (.inr (some 2))), some (.inr (.inr (some 3))), some (.inr (.inr (some 141))), some (.inl i)] [] (mk s) = mm_at (zP Z) 365 1365 [some (.inr (.inr (some 2))), some (.inr (.inr (some 3))), some (.inr (.inr (some 141))), some (.inl i)] [] (mk s') := by
  have w1 : mm_w32 (i + 1) = i + 1 := w32_eq (by omega) (by omega)
  have w2 : mm_w32 (i + 2) = i + 2 := w32_eq (by omega) (by omega)
  obtain ⟨v, s1, s2, c, r, h⟩ := op_pupil Z s hI (Z.1 (i + 1)) (Z.1 (i + 2)) 
  refine ⟨s2, h, ?_⟩
  rw [B_L_law_407]
  simp only [w1, w2]
  simp (disch := first | assumption | omega) only [↓sm, ↓reduceIte, ↓if_pos, ↓if_neg, kI, kJ, kR, kV, w32_eq, w64_eq, reduceCtorEq, Int.reduceAdd, Int.reduceMul, Int.reduceSub, o_c3, ↓c, o_c141, ↓r]
theorem lw_434 (Z : mX) (hZ : ∀ i : Int, zR32 (Z.1 i)) (i : Int) (i0 : 0 ≤ i) (i1 : i + 6 ≤ Z.2) (i2 : Z.2 ≤ 3072) (s : mS) (hI : Inv s) : ∃ s', Inv s' ∧ mm_at (zP Z) 365 434 [some (.inr (.inr (some 2))), some (.inr (.inr (some 3))), some (.inr (.inr (some 141))), some (.inl i)] [] (mk s) = mm_at (zP Z) 365 1365 [some (.inr (.inr (some 2))), some (.inr (.inr (some 3))), some (.inr (.inr (some 141))), some (.inl i)] [] (mk s') := by
  have w1 : mm_w32 (i + 1) = i + 1 := w32_eq (by omega) (by omega)
  have w2 : mm_w32 (i + 2) = i + 2 := w32_eq (by omega) (by omega)
  obtain ⟨v, s1, s2, c, r, h⟩ := op_catches Z s hI (Z.1 (i + 1)) (Z.1 (i + 2)) 
  refine ⟨s2, h, ?_⟩
  rw [B_L_law_434]
  simp only [w1, w2]
  simp (disch := first | assumption | omega) only [↓sm, ↓reduceIte, ↓if_pos, ↓if_neg, kI, kJ, kR, kV, w32_eq, w64_eq, reduceCtorEq, Int.reduceAdd, Int.reduceMul, Int.reduceSub, o_c3, ↓c, o_c141, ↓r]
theorem lw_461 (Z : mX) (hZ : ∀ i : Int, zR32 (Z.1 i)) (i : Int) (i0 : 0 ≤ i) (i1 : i + 6 ≤ Z.2) (i2 : Z.2 ≤ 3072) (s : mS) (hI : Inv s) : ∃ s', Inv s' ∧ mm_at (zP Z) 365 461 [some (.inr (.inr (some 2))), some (.inr (.inr (some 3))), some (.inr (.inr (some 141))), some (.inl i)] [] (mk s) = mm_at (zP Z) 365 1365 [some (.inr (.inr (some 2))), some (.inr (.inr (some 3))), some (.inr (.inr (some 141))), some (.inl i)] [] (mk s') := by
  have w1 : mm_w32 (i + 1) = i + 1 := w32_eq (by omega) (by omega)
  have w2 : mm_w32 (i + 2) = i + 2 := w32_eq (by omega) (by omega)
  obtain ⟨v, s1, s2, c, r, h⟩ := op_go Z s hI (Z.1 (i + 1)) (Z.1 (i + 2)) 
  refine ⟨s2, h, ?_⟩
  rw [B_L_law_461]
  simp only [w1, w2]
  simp (disch := first | assumption | omega) only [↓sm, ↓reduceIte, ↓if_pos, ↓if_neg, kI, kJ, kR, kV, w32_eq, w64_eq, reduceCtorEq, Int.reduceAdd, Int.reduceMul, Int.reduceSub, o_c3, ↓c, o_c141, ↓r]
theorem lw_488 (Z : mX) (hZ : ∀ i : Int, zR32 (Z.1 i)) (i : Int) (i0 : 0 ≤ i) (i1 : i + 6 ≤ Z.2) (i2 : Z.2 ≤ 3072) (s : mS) (hI : Inv s) : ∃ s', Inv s' ∧ mm_at (zP Z) 365 488 [some (.inr (.inr (some 2))), some (.inr (.inr (some 3))), some (.inr (.inr (some 141))), some (.inl i)] [] (mk s) = mm_at (zP Z) 365 1365 [some (.inr (.inr (some 2))), some (.inr (.inr (some 3))), some (.inr (.inr (some 141))), some (.inl i)] [] (mk s') := by
  have w1 : mm_w32 (i + 1) = i + 1 := w32_eq (by omega) (by omega)
  have w2 : mm_w32 (i + 2) = i + 2 := w32_eq (by omega) (by omega)
  obtain ⟨v, s1, s2, c, r, h⟩ := op_free Z s hI (Z.1 (i + 1)) (Z.1 (i + 2)) 
  refine ⟨s2, h, ?_⟩
  rw [B_L_law_488]
  simp only [w1, w2]
  simp (disch := first | assumption | omega) only [↓sm, ↓reduceIte, ↓if_pos, ↓if_neg, kI, kJ, kR, kV, w32_eq, w64_eq, reduceCtorEq, Int.reduceAdd, Int.reduceMul, Int.reduceSub, o_c3, ↓c, o_c141, ↓r]
theorem lw_515 (Z : mX) (hZ : ∀ i : Int, zR32 (Z.1 i)) (i : Int) (i0 : 0 ≤ i) (i1 : i + 6 ≤ Z.2) (i2 : Z.2 ≤ 3072) (s : mS) (hI : Inv s) : ∃ s', Inv s' ∧ mm_at (zP Z) 365 515 [some (.inr (.inr (some 2))), some (.inr (.inr (some 3))), some (.inr (.inr (some 141))), some (.inl i)] [] (mk s) = mm_at (zP Z) 365 1365 [some (.inr (.inr (some 2))), some (.inr (.inr (some 3))), some (.inr (.inr (some 141))), some (.inl i)] [] (mk s') := by
  have w1 : mm_w32 (i + 1) = i + 1 := w32_eq (by omega) (by omega)
  obtain ⟨v, s1, s2, c, r, h⟩ := op_tear Z s hI (Z.1 (i + 1)) 
  refine ⟨s2, h, ?_⟩
  rw [B_L_law_515]
  simp only [w1]
  simp (disch := first | assumption | omega) only [↓sm, ↓reduceIte, ↓if_pos, ↓if_neg, kI, kJ, kR, kV, w32_eq, w64_eq, reduceCtorEq, Int.reduceAdd, Int.reduceMul, Int.reduceSub, o_c3, ↓c, o_c141, ↓r]
theorem lw_532 (Z : mX) (hZ : ∀ i : Int, zR32 (Z.1 i)) (i : Int) (i0 : 0 ≤ i) (i1 : i + 6 ≤ Z.2) (i2 : Z.2 ≤ 3072) (s : mS) (hI : Inv s) : ∃ s', Inv s' ∧ mm_at (zP Z) 365 532 [some (.inr (.inr (some 2))), some (.inr (.inr (some 3))), some (.inr (.inr (some 141))), some (.inl i)] [] (mk s) = mm_at (zP Z) 365 1365 [some (.inr (.inr (some 2))), some (.inr (.inr (some 3))), some (.inr (.inr (some 141))), some (.inl i)] [] (mk s') := by
  have w1 : mm_w32 (i + 1) = i + 1 := w32_eq (by omega) (by omega)
  obtain ⟨v, s1, s2, c, r, h⟩ := op_pick Z s hI (Z.1 (i + 1)) 
  refine ⟨s2, h, ?_⟩
  rw [B_L_law_532]
  simp only [w1]
  simp (disch := first | assumption | omega) only [↓sm, ↓reduceIte, ↓if_pos, ↓if_neg, kI, kJ, kR, kV, w32_eq, w64_eq, reduceCtorEq, Int.reduceAdd, Int.reduceMul, Int.reduceSub, o_c3, ↓c, o_c141, ↓r]
theorem lw_549 (Z : mX) (hZ : ∀ i : Int, zR32 (Z.1 i)) (i : Int) (i0 : 0 ≤ i) (i1 : i + 6 ≤ Z.2) (i2 : Z.2 ≤ 3072) (s : mS) (hI : Inv s) : ∃ s', Inv s' ∧ mm_at (zP Z) 365 549 [some (.inr (.inr (some 2))), some (.inr (.inr (some 3))), some (.inr (.inr (some 141))), some (.inl i)] [] (mk s) = mm_at (zP Z) 365 1365 [some (.inr (.inr (some 2))), some (.inr (.inr (some 3))), some (.inr (.inr (some 141))), some (.inl i)] [] (mk s') := by
  have w1 : mm_w32 (i + 1) = i + 1 := w32_eq (by omega) (by omega)
  obtain ⟨v, s1, s2, c, r, h⟩ := op_year Z s hI (Z.1 (i + 1)) 
  refine ⟨s2, h, ?_⟩
  rw [B_L_law_549]
  simp only [w1]
  simp (disch := first | assumption | omega) only [↓sm, ↓reduceIte, ↓if_pos, ↓if_neg, kI, kJ, kR, kV, w32_eq, w64_eq, reduceCtorEq, Int.reduceAdd, Int.reduceMul, Int.reduceSub, o_c3, ↓c, o_c141, ↓r]
theorem lw_566 (Z : mX) (hZ : ∀ i : Int, zR32 (Z.1 i)) (i : Int) (i0 : 0 ≤ i) (i1 : i + 6 ≤ Z.2) (i2 : Z.2 ≤ 3072) (s : mS) (hI : Inv s) : ∃ s', Inv s' ∧ mm_at (zP Z) 365 566 [some (.inr (.inr (some 2))), some (.inr (.inr (some 3))), some (.inr (.inr (some 141))), some (.inl i)] [] (mk s) = mm_at (zP Z) 365 1365 [some (.inr (.inr (some 2))), some (.inr (.inr (some 3))), some (.inr (.inr (some 141))), some (.inl i)] [] (mk s') := by
  have w1 : mm_w32 (i + 1) = i + 1 := w32_eq (by omega) (by omega)
  have w2 : mm_w32 (i + 2) = i + 2 := w32_eq (by omega) (by omega)
  have w3 : mm_w32 (i + 3) = i + 3 := w32_eq (by omega) (by omega)
  obtain ⟨v, s1, s2, c, r, h⟩ := op_plant Z s hI (Z.1 (i + 1)) (Z.1 (i + 2)) (Z.1 (i + 3)) 
  refine ⟨s2, h, ?_⟩
  rw [B_L_law_566]
  simp only [w1, w2, w3]
  simp (disch := first | assumption | omega) only [↓sm, ↓reduceIte, ↓if_pos, ↓if_neg, kI, kJ, kR, kV, w32_eq, w64_eq, reduceCtorEq, Int.reduceAdd, Int.reduceMul, Int.reduceSub, o_c3, ↓c, o_c141, ↓r]
theorem lw_603 (Z : mX) (hZ : ∀ i : Int, zR32 (Z.1 i)) (i : Int) (i0 : 0 ≤ i) (i1 : i + 6 ≤ Z.2) (i2 : Z.2 ≤ 3072) (s : mS) (hI : Inv s) : ∃ s', Inv s' ∧ mm_at (zP Z) 365 603 [some (.inr (.inr (some 2))), some (.inr (.inr (some 3))), some (.inr (.inr (some 141))), some (.inl i)] [] (mk s) = mm_at (zP Z) 365 1365 [some (.inr (.inr (some 2))), some (.inr (.inr (some 3))), some (.inr (.inr (some 141))), some (.inl i)] [] (mk s') := by
  have w1 : mm_w32 (i + 1) = i + 1 := w32_eq (by omega) (by omega)
  have w2 : mm_w32 (i + 2) = i + 2 := w32_eq (by omega) (by omega)
  obtain ⟨v, s1, s2, c, r, h⟩ := op_wish Z s hI (Z.1 (i + 1)) (Z.1 (i + 2)) 
  refine ⟨s2, h, ?_⟩
  rw [B_L_law_603]
  simp only [w1, w2]
  simp (disch := first | assumption | omega) only [↓sm, ↓reduceIte, ↓if_pos, ↓if_neg, kI, kJ, kR, kV, w32_eq, w64_eq, reduceCtorEq, Int.reduceAdd, Int.reduceMul, Int.reduceSub, o_c3, ↓c, o_c141, ↓r]
theorem lw_630 (Z : mX) (hZ : ∀ i : Int, zR32 (Z.1 i)) (i : Int) (i0 : 0 ≤ i) (i1 : i + 6 ≤ Z.2) (i2 : Z.2 ≤ 3072) (s : mS) (hI : Inv s) : ∃ s', Inv s' ∧ mm_at (zP Z) 365 630 [some (.inr (.inr (some 2))), some (.inr (.inr (some 3))), some (.inr (.inr (some 141))), some (.inl i)] [] (mk s) = mm_at (zP Z) 365 1365 [some (.inr (.inr (some 2))), some (.inr (.inr (some 3))), some (.inr (.inr (some 141))), some (.inl i)] [] (mk s') := by
  have w1 : mm_w32 (i + 1) = i + 1 := w32_eq (by omega) (by omega)
  have w2 : mm_w32 (i + 2) = i + 2 := w32_eq (by omega) (by omega)
  have w3 : mm_w32 (i + 3) = i + 3 := w32_eq (by omega) (by omega)
  by_cases hz : Z.1 (i + 3) = 0
  · obtain ⟨v, s1, s2, c, r, h⟩ := op_teach Z s hI (Z.1 (i + 1)) (Z.1 (i + 2)) 0
    refine ⟨s2, h, ?_⟩
    rw [B_L_law_630]
    simp only [w1, w2, w3]
    simp (disch := first | assumption | omega) only [↓sm, ↓reduceIte, ↓if_pos, ↓if_neg, kI, kJ, kR, kV, w32_eq, w64_eq, reduceCtorEq, Int.reduceAdd, Int.reduceMul, Int.reduceSub, hz, B_L_law_650, w1, w2, w3, o_c3, ↓c, B_L_law_671, o_c141, ↓r]
  · obtain ⟨v, s1, s2, c, r, h⟩ := op_teach Z s hI (Z.1 (i + 1)) (Z.1 (i + 2)) 1
    refine ⟨s2, h, ?_⟩
    rw [B_L_law_630]
    simp only [w1, w2, w3]
    simp (disch := first | assumption | omega) only [↓sm, ↓reduceIte, ↓if_pos, ↓if_neg, kI, kJ, kR, kV, w32_eq, w64_eq, reduceCtorEq, Int.reduceAdd, Int.reduceMul, Int.reduceSub, hz, B_L_law_650, w1, w2, w3, o_c3, ↓c, B_L_law_671, o_c141, ↓r]
theorem lw_675 (Z : mX) (hZ : ∀ i : Int, zR32 (Z.1 i)) (i : Int) (i0 : 0 ≤ i) (i1 : i + 6 ≤ Z.2) (i2 : Z.2 ≤ 3072) (s : mS) (hI : Inv s) : ∃ s', Inv s' ∧ mm_at (zP Z) 365 675 [some (.inr (.inr (some 2))), some (.inr (.inr (some 3))), some (.inr (.inr (some 141))), some (.inl i)] [] (mk s) = mm_at (zP Z) 365 1365 [some (.inr (.inr (some 2))), some (.inr (.inr (some 3))), some (.inr (.inr (some 141))), some (.inl i)] [] (mk s') := by
  have w1 : mm_w32 (i + 1) = i + 1 := w32_eq (by omega) (by omega)
  obtain ⟨v, s1, s2, c, r, h⟩ := op_come Z s hI (Z.1 (i + 1)) 
  refine ⟨s2, h, ?_⟩
  rw [B_L_law_675]
  simp only [w1]
  simp (disch := first | assumption | omega) only [↓sm, ↓reduceIte, ↓if_pos, ↓if_neg, kI, kJ, kR, kV, w32_eq, w64_eq, reduceCtorEq, Int.reduceAdd, Int.reduceMul, Int.reduceSub, o_c3, ↓c, o_c141, ↓r]
theorem lw_692 (Z : mX) (hZ : ∀ i : Int, zR32 (Z.1 i)) (i : Int) (i0 : 0 ≤ i) (i1 : i + 6 ≤ Z.2) (i2 : Z.2 ≤ 3072) (s : mS) (hI : Inv s) : ∃ s', Inv s' ∧ mm_at (zP Z) 365 692 [some (.inr (.inr (some 2))), some (.inr (.inr (some 3))), some (.inr (.inr (some 141))), some (.inl i)] [] (mk s) = mm_at (zP Z) 365 1365 [some (.inr (.inr (some 2))), some (.inr (.inr (some 3))), some (.inr (.inr (some 141))), some (.inl i)] [] (mk s') := by
  have w1 : mm_w32 (i + 1) = i + 1 := w32_eq (by omega) (by omega)
  obtain ⟨v, s1, s2, c, r, h⟩ := op_rule Z s hI (Z.1 (i + 1)) 
  refine ⟨s2, h, ?_⟩
  rw [B_L_law_692]
  simp only [w1]
  simp (disch := first | assumption | omega) only [↓sm, ↓reduceIte, ↓if_pos, ↓if_neg, kI, kJ, kR, kV, w32_eq, w64_eq, reduceCtorEq, Int.reduceAdd, Int.reduceMul, Int.reduceSub, o_c3, ↓c, o_c141, ↓r]
theorem lw_709 (Z : mX) (hZ : ∀ i : Int, zR32 (Z.1 i)) (i : Int) (i0 : 0 ≤ i) (i1 : i + 6 ≤ Z.2) (i2 : Z.2 ≤ 3072) (s : mS) (hI : Inv s) : ∃ s', Inv s' ∧ mm_at (zP Z) 365 709 [some (.inr (.inr (some 2))), some (.inr (.inr (some 3))), some (.inr (.inr (some 141))), some (.inl i)] [] (mk s) = mm_at (zP Z) 365 1365 [some (.inr (.inr (some 2))), some (.inr (.inr (some 3))), some (.inr (.inr (some 141))), some (.inl i)] [] (mk s') := by
  have w1 : mm_w32 (i + 1) = i + 1 := w32_eq (by omega) (by omega)
  obtain ⟨v, s1, s2, c, r, h⟩ := op_reach Z s hI (Z.1 (i + 1)) 
  refine ⟨s2, h, ?_⟩
  rw [B_L_law_709]
  simp only [w1]
  simp (disch := first | assumption | omega) only [↓sm, ↓reduceIte, ↓if_pos, ↓if_neg, kI, kJ, kR, kV, w32_eq, w64_eq, reduceCtorEq, Int.reduceAdd, Int.reduceMul, Int.reduceSub, o_c3, ↓c, o_c141, ↓r]
theorem lw_726 (Z : mX) (hZ : ∀ i : Int, zR32 (Z.1 i)) (i : Int) (i0 : 0 ≤ i) (i1 : i + 6 ≤ Z.2) (i2 : Z.2 ≤ 3072) (s : mS) (hI : Inv s) : ∃ s', Inv s' ∧ mm_at (zP Z) 365 726 [some (.inr (.inr (some 2))), some (.inr (.inr (some 3))), some (.inr (.inr (some 141))), some (.inl i)] [] (mk s) = mm_at (zP Z) 365 1365 [some (.inr (.inr (some 2))), some (.inr (.inr (some 3))), some (.inr (.inr (some 141))), some (.inl i)] [] (mk s') := by
  have w1 : mm_w32 (i + 1) = i + 1 := w32_eq (by omega) (by omega)
  have w2 : mm_w32 (i + 2) = i + 2 := w32_eq (by omega) (by omega)
  obtain ⟨v, s1, s2, c, r, h⟩ := op_far Z s hI (Z.1 (i + 1)) (Z.1 (i + 2)) 
  refine ⟨s2, h, ?_⟩
  rw [B_L_law_726]
  simp only [w1, w2]
  simp (disch := first | assumption | omega) only [↓sm, ↓reduceIte, ↓if_pos, ↓if_neg, kI, kJ, kR, kV, w32_eq, w64_eq, reduceCtorEq, Int.reduceAdd, Int.reduceMul, Int.reduceSub, o_c3, ↓c, o_c141, ↓r]
theorem lw_753 (Z : mX) (hZ : ∀ i : Int, zR32 (Z.1 i)) (i : Int) (i0 : 0 ≤ i) (i1 : i + 6 ≤ Z.2) (i2 : Z.2 ≤ 3072) (s : mS) (hI : Inv s) : ∃ s', Inv s' ∧ mm_at (zP Z) 365 753 [some (.inr (.inr (some 2))), some (.inr (.inr (some 3))), some (.inr (.inr (some 141))), some (.inl i)] [] (mk s) = mm_at (zP Z) 365 1365 [some (.inr (.inr (some 2))), some (.inr (.inr (some 3))), some (.inr (.inr (some 141))), some (.inl i)] [] (mk s') := by
  have w1 : mm_w32 (i + 1) = i + 1 := w32_eq (by omega) (by omega)
  have w2 : mm_w32 (i + 2) = i + 2 := w32_eq (by omega) (by omega)
  have w3 : mm_w32 (i + 3) = i + 3 := w32_eq (by omega) (by omega)
  obtain ⟨v, s1, s2, c, r, h⟩ := op_way Z s hI (Z.1 (i + 1)) (Z.1 (i + 2)) (Z.1 (i + 3)) 
  refine ⟨s2, h, ?_⟩
  rw [B_L_law_753]
  simp only [w1, w2, w3]
  simp (disch := first | assumption | omega) only [↓sm, ↓reduceIte, ↓if_pos, ↓if_neg, kI, kJ, kR, kV, w32_eq, w64_eq, reduceCtorEq, Int.reduceAdd, Int.reduceMul, Int.reduceSub, o_c3, ↓c, o_c141, ↓r]
theorem lw_790 (Z : mX) (hZ : ∀ i : Int, zR32 (Z.1 i)) (i : Int) (i0 : 0 ≤ i) (i1 : i + 6 ≤ Z.2) (i2 : Z.2 ≤ 3072) (s : mS) (hI : Inv s) : ∃ s', Inv s' ∧ mm_at (zP Z) 365 790 [some (.inr (.inr (some 2))), some (.inr (.inr (some 3))), some (.inr (.inr (some 141))), some (.inl i)] [] (mk s) = mm_at (zP Z) 365 1365 [some (.inr (.inr (some 2))), some (.inr (.inr (some 3))), some (.inr (.inr (some 141))), some (.inl i)] [] (mk s') := by
  have w1 : mm_w32 (i + 1) = i + 1 := w32_eq (by omega) (by omega)
  have w2 : mm_w32 (i + 2) = i + 2 := w32_eq (by omega) (by omega)
  obtain ⟨v, s1, s2, c, r, h⟩ := op_calm Z s hI (Z.1 (i + 1)) (Z.1 (i + 2)) 
  refine ⟨s2, h, ?_⟩
  rw [B_L_law_790]
  simp only [w1, w2]
  simp (disch := first | assumption | omega) only [↓sm, ↓reduceIte, ↓if_pos, ↓if_neg, kI, kJ, kR, kV, w32_eq, w64_eq, reduceCtorEq, Int.reduceAdd, Int.reduceMul, Int.reduceSub, o_c3, ↓c, o_c141, ↓r]
theorem lw_817 (Z : mX) (hZ : ∀ i : Int, zR32 (Z.1 i)) (i : Int) (i0 : 0 ≤ i) (i1 : i + 6 ≤ Z.2) (i2 : Z.2 ≤ 3072) (s : mS) (hI : Inv s) : ∃ s', Inv s' ∧ mm_at (zP Z) 365 817 [some (.inr (.inr (some 2))), some (.inr (.inr (some 3))), some (.inr (.inr (some 141))), some (.inl i)] [] (mk s) = mm_at (zP Z) 365 1365 [some (.inr (.inr (some 2))), some (.inr (.inr (some 3))), some (.inr (.inr (some 141))), some (.inl i)] [] (mk s') := by
  have w1 : mm_w32 (i + 1) = i + 1 := w32_eq (by omega) (by omega)
  have w2 : mm_w32 (i + 2) = i + 2 := w32_eq (by omega) (by omega)
  obtain ⟨v, s1, s2, c, r, h⟩ := op_pricks Z s hI (Z.1 (i + 1)) (Z.1 (i + 2)) 
  refine ⟨s2, h, ?_⟩
  rw [B_L_law_817]
  simp only [w1, w2]
  simp (disch := first | assumption | omega) only [↓sm, ↓reduceIte, ↓if_pos, ↓if_neg, kI, kJ, kR, kV, w32_eq, w64_eq, reduceCtorEq, Int.reduceAdd, Int.reduceMul, Int.reduceSub, o_c3, ↓c, o_c141, ↓r]
theorem lw_844 (Z : mX) (hZ : ∀ i : Int, zR32 (Z.1 i)) (i : Int) (i0 : 0 ≤ i) (i1 : i + 6 ≤ Z.2) (i2 : Z.2 ≤ 3072) (s : mS) (hI : Inv s) : ∃ s', Inv s' ∧ mm_at (zP Z) 365 844 [some (.inr (.inr (some 2))), some (.inr (.inr (some 3))), some (.inr (.inr (some 141))), some (.inl i)] [] (mk s) = mm_at (zP Z) 365 1365 [some (.inr (.inr (some 2))), some (.inr (.inr (some 3))), some (.inr (.inr (some 141))), some (.inl i)] [] (mk s') := by
  have w1 : mm_w32 (i + 1) = i + 1 := w32_eq (by omega) (by omega)
  have w2 : mm_w32 (i + 2) = i + 2 := w32_eq (by omega) (by omega)
  obtain ⟨v, s1, s2, c, r, h⟩ := op_opening Z s hI (Z.1 (i + 1)) (Z.1 (i + 2)) 
  refine ⟨s2, h, ?_⟩
  rw [B_L_law_844]
  simp only [w1, w2]
  simp (disch := first | assumption | omega) only [↓sm, ↓reduceIte, ↓if_pos, ↓if_neg, kI, kJ, kR, kV, w32_eq, w64_eq, reduceCtorEq, Int.reduceAdd, Int.reduceMul, Int.reduceSub, o_c3, ↓c, o_c141, ↓r]
theorem lw_871 (Z : mX) (hZ : ∀ i : Int, zR32 (Z.1 i)) (i : Int) (i0 : 0 ≤ i) (i1 : i + 6 ≤ Z.2) (i2 : Z.2 ≤ 3072) (s : mS) (hI : Inv s) : ∃ s', Inv s' ∧ mm_at (zP Z) 365 871 [some (.inr (.inr (some 2))), some (.inr (.inr (some 3))), some (.inr (.inr (some 141))), some (.inl i)] [] (mk s) = mm_at (zP Z) 365 1365 [some (.inr (.inr (some 2))), some (.inr (.inr (some 3))), some (.inr (.inr (some 141))), some (.inl i)] [] (mk s') := by
  obtain ⟨v, s1, s2, c, r, h⟩ := op_freed Z s hI  
  refine ⟨s2, h, ?_⟩
  rw [B_L_law_871]
  simp (disch := first | assumption | omega) only [↓sm, ↓reduceIte, ↓if_pos, ↓if_neg, kI, kJ, kR, kV, w32_eq, w64_eq, reduceCtorEq, Int.reduceAdd, Int.reduceMul, Int.reduceSub, o_c3, ↓c, o_c141, ↓r]
theorem lw_878 (Z : mX) (hZ : ∀ i : Int, zR32 (Z.1 i)) (i : Int) (i0 : 0 ≤ i) (i1 : i + 6 ≤ Z.2) (i2 : Z.2 ≤ 3072) (s : mS) (hI : Inv s) : ∃ s', Inv s' ∧ mm_at (zP Z) 365 878 [some (.inr (.inr (some 2))), some (.inr (.inr (some 3))), some (.inr (.inr (some 141))), some (.inl i)] [] (mk s) = mm_at (zP Z) 365 1365 [some (.inr (.inr (some 2))), some (.inr (.inr (some 3))), some (.inr (.inr (some 141))), some (.inl i)] [] (mk s') := by
  have w1 : mm_w32 (i + 1) = i + 1 := w32_eq (by omega) (by omega)
  obtain ⟨v, s1, s2, c, r, h⟩ := op_helpers Z s hI (Z.1 (i + 1)) 
  refine ⟨s2, h, ?_⟩
  rw [B_L_law_878]
  simp only [w1]
  simp (disch := first | assumption | omega) only [↓sm, ↓reduceIte, ↓if_pos, ↓if_neg, kI, kJ, kR, kV, w32_eq, w64_eq, reduceCtorEq, Int.reduceAdd, Int.reduceMul, Int.reduceSub, o_c3, ↓c, o_c141, ↓r]
theorem lw_895 (Z : mX) (hZ : ∀ i : Int, zR32 (Z.1 i)) (i : Int) (i0 : 0 ≤ i) (i1 : i + 6 ≤ Z.2) (i2 : Z.2 ≤ 3072) (s : mS) (hI : Inv s) : ∃ s', Inv s' ∧ mm_at (zP Z) 365 895 [some (.inr (.inr (some 2))), some (.inr (.inr (some 3))), some (.inr (.inr (some 141))), some (.inl i)] [] (mk s) = mm_at (zP Z) 365 1365 [some (.inr (.inr (some 2))), some (.inr (.inr (some 3))), some (.inr (.inr (some 141))), some (.inl i)] [] (mk s') := by
  have w1 : mm_w32 (i + 1) = i + 1 := w32_eq (by omega) (by omega)
  obtain ⟨v, s1, s2, c, r, h⟩ := op_learns Z s hI (Z.1 (i + 1)) 
  refine ⟨s2, h, ?_⟩
  rw [B_L_law_895]
  simp only [w1]
  simp (disch := first | assumption | omega) only [↓sm, ↓reduceIte, ↓if_pos, ↓if_neg, kI, kJ, kR, kV, w32_eq, w64_eq, reduceCtorEq, Int.reduceAdd, Int.reduceMul, Int.reduceSub, o_c3, ↓c, o_c141, ↓r]
theorem lw_912 (Z : mX) (hZ : ∀ i : Int, zR32 (Z.1 i)) (i : Int) (i0 : 0 ≤ i) (i1 : i + 6 ≤ Z.2) (i2 : Z.2 ≤ 3072) (s : mS) (hI : Inv s) : ∃ s', Inv s' ∧ mm_at (zP Z) 365 912 [some (.inr (.inr (some 2))), some (.inr (.inr (some 3))), some (.inr (.inr (some 141))), some (.inl i)] [] (mk s) = mm_at (zP Z) 365 1365 [some (.inr (.inr (some 2))), some (.inr (.inr (some 3))), some (.inr (.inr (some 141))), some (.inl i)] [] (mk s') := by
  have w1 : mm_w32 (i + 1) = i + 1 := w32_eq (by omega) (by omega)
  obtain ⟨v, s1, s2, c, r, h⟩ := op_alone Z s hI (Z.1 (i + 1)) 
  refine ⟨s2, h, ?_⟩
  rw [B_L_law_912]
  simp only [w1]
  simp (disch := first | assumption | omega) only [↓sm, ↓reduceIte, ↓if_pos, ↓if_neg, kI, kJ, kR, kV, w32_eq, w64_eq, reduceCtorEq, Int.reduceAdd, Int.reduceMul, Int.reduceSub, o_c3, ↓c, o_c141, ↓r]
theorem lw_929 (Z : mX) (hZ : ∀ i : Int, zR32 (Z.1 i)) (i : Int) (i0 : 0 ≤ i) (i1 : i + 6 ≤ Z.2) (i2 : Z.2 ≤ 3072) (s : mS) (hI : Inv s) : ∃ s', Inv s' ∧ mm_at (zP Z) 365 929 [some (.inr (.inr (some 2))), some (.inr (.inr (some 3))), some (.inr (.inr (some 141))), some (.inl i)] [] (mk s) = mm_at (zP Z) 365 1365 [some (.inr (.inr (some 2))), some (.inr (.inr (some 3))), some (.inr (.inr (some 141))), some (.inl i)] [] (mk s') := by
  have w1 : mm_w32 (i + 1) = i + 1 := w32_eq (by omega) (by omega)
  obtain ⟨v, s1, s2, c, r, h⟩ := op_together Z s hI (Z.1 (i + 1)) 
  refine ⟨s2, h, ?_⟩
  rw [B_L_law_929]
  simp only [w1]
  simp (disch := first | assumption | omega) only [↓sm, ↓reduceIte, ↓if_pos, ↓if_neg, kI, kJ, kR, kV, w32_eq, w64_eq, reduceCtorEq, Int.reduceAdd, Int.reduceMul, Int.reduceSub, o_c3, ↓c, o_c141, ↓r]
theorem lw_946 (Z : mX) (hZ : ∀ i : Int, zR32 (Z.1 i)) (i : Int) (i0 : 0 ≤ i) (i1 : i + 6 ≤ Z.2) (i2 : Z.2 ≤ 3072) (s : mS) (hI : Inv s) : ∃ s', Inv s' ∧ mm_at (zP Z) 365 946 [some (.inr (.inr (some 2))), some (.inr (.inr (some 3))), some (.inr (.inr (some 141))), some (.inl i)] [] (mk s) = mm_at (zP Z) 365 1365 [some (.inr (.inr (some 2))), some (.inr (.inr (some 3))), some (.inr (.inr (some 141))), some (.inl i)] [] (mk s') := by
  obtain ⟨v, s1, s2, c, r, h⟩ := op_orders Z s hI  
  refine ⟨s2, h, ?_⟩
  rw [B_L_law_946]
  simp (disch := first | assumption | omega) only [↓sm, ↓reduceIte, ↓if_pos, ↓if_neg, kI, kJ, kR, kV, w32_eq, w64_eq, reduceCtorEq, Int.reduceAdd, Int.reduceMul, Int.reduceSub, o_c3, ↓c, o_c141, ↓r]
theorem lw_953 (Z : mX) (hZ : ∀ i : Int, zR32 (Z.1 i)) (i : Int) (i0 : 0 ≤ i) (i1 : i + 6 ≤ Z.2) (i2 : Z.2 ≤ 3072) (s : mS) (hI : Inv s) : ∃ s', Inv s' ∧ mm_at (zP Z) 365 953 [some (.inr (.inr (some 2))), some (.inr (.inr (some 3))), some (.inr (.inr (some 141))), some (.inl i)] [] (mk s) = mm_at (zP Z) 365 1365 [some (.inr (.inr (some 2))), some (.inr (.inr (some 3))), some (.inr (.inr (some 141))), some (.inl i)] [] (mk s') := by
  have w1 : mm_w32 (i + 1) = i + 1 := w32_eq (by omega) (by omega)
  obtain ⟨v, s1, s2, c, r, h⟩ := op_orderAt Z s hI (Z.1 (i + 1)) 
  refine ⟨s2, h, ?_⟩
  rw [B_L_law_953]
  simp only [w1]
  simp (disch := first | assumption | omega) only [↓sm, ↓reduceIte, ↓if_pos, ↓if_neg, kI, kJ, kR, kV, w32_eq, w64_eq, reduceCtorEq, Int.reduceAdd, Int.reduceMul, Int.reduceSub, o_c3, ↓c, o_c141, ↓r]
theorem lw_970 (Z : mX) (hZ : ∀ i : Int, zR32 (Z.1 i)) (i : Int) (i0 : 0 ≤ i) (i1 : i + 6 ≤ Z.2) (i2 : Z.2 ≤ 3072) (s : mS) (hI : Inv s) : ∃ s', Inv s' ∧ mm_at (zP Z) 365 970 [some (.inr (.inr (some 2))), some (.inr (.inr (some 3))), some (.inr (.inr (some 141))), some (.inl i)] [] (mk s) = mm_at (zP Z) 365 1365 [some (.inr (.inr (some 2))), some (.inr (.inr (some 3))), some (.inr (.inr (some 141))), some (.inl i)] [] (mk s') := by
  have w1 : mm_w32 (i + 1) = i + 1 := w32_eq (by omega) (by omega)
  have w2 : mm_w32 (i + 2) = i + 2 := w32_eq (by omega) (by omega)
  obtain ⟨v, s1, s2, c, r, h⟩ := op_left Z s hI (Z.1 (i + 1)) (Z.1 (i + 2)) 
  refine ⟨s2, h, ?_⟩
  rw [B_L_law_970]
  simp only [w1, w2]
  simp (disch := first | assumption | omega) only [↓sm, ↓reduceIte, ↓if_pos, ↓if_neg, kI, kJ, kR, kV, w32_eq, w64_eq, reduceCtorEq, Int.reduceAdd, Int.reduceMul, Int.reduceSub, o_c3, ↓c, o_c141, ↓r]
theorem lw_997 (Z : mX) (hZ : ∀ i : Int, zR32 (Z.1 i)) (i : Int) (i0 : 0 ≤ i) (i1 : i + 6 ≤ Z.2) (i2 : Z.2 ≤ 3072) (s : mS) (hI : Inv s) : ∃ s', Inv s' ∧ mm_at (zP Z) 365 997 [some (.inr (.inr (some 2))), some (.inr (.inr (some 3))), some (.inr (.inr (some 141))), some (.inl i)] [] (mk s) = mm_at (zP Z) 365 1365 [some (.inr (.inr (some 2))), some (.inr (.inr (some 3))), some (.inr (.inr (some 141))), some (.inl i)] [] (mk s') := by
  have w1 : mm_w32 (i + 1) = i + 1 := w32_eq (by omega) (by omega)
  have w2 : mm_w32 (i + 2) = i + 2 := w32_eq (by omega) (by omega)
  have w3 : mm_w32 (i + 3) = i + 3 := w32_eq (by omega) (by omega)
  obtain ⟨v, s1, s2, c, r, h⟩ := op_fits Z s hI (Z.1 (i + 1)) (Z.1 (i + 2)) (Z.1 (i + 3)) 
  refine ⟨s2, h, ?_⟩
  rw [B_L_law_997]
  simp only [w1, w2, w3]
  simp (disch := first | assumption | omega) only [↓sm, ↓reduceIte, ↓if_pos, ↓if_neg, kI, kJ, kR, kV, w32_eq, w64_eq, reduceCtorEq, Int.reduceAdd, Int.reduceMul, Int.reduceSub, o_c3, ↓c, o_c141, ↓r]
theorem lw_1034 (Z : mX) (hZ : ∀ i : Int, zR32 (Z.1 i)) (i : Int) (i0 : 0 ≤ i) (i1 : i + 6 ≤ Z.2) (i2 : Z.2 ≤ 3072) (s : mS) (hI : Inv s) : ∃ s', Inv s' ∧ mm_at (zP Z) 365 1034 [some (.inr (.inr (some 2))), some (.inr (.inr (some 3))), some (.inr (.inr (some 141))), some (.inl i)] [] (mk s) = mm_at (zP Z) 365 1365 [some (.inr (.inr (some 2))), some (.inr (.inr (some 3))), some (.inr (.inr (some 141))), some (.inl i)] [] (mk s') := by
  have w1 : mm_w32 (i + 1) = i + 1 := w32_eq (by omega) (by omega)
  have w2 : mm_w32 (i + 2) = i + 2 := w32_eq (by omega) (by omega)
  have w3 : mm_w32 (i + 3) = i + 3 := w32_eq (by omega) (by omega)
  have w4 : mm_w32 (i + 4) = i + 4 := w32_eq (by omega) (by omega)
  obtain ⟨v, s1, s2, c, r, h⟩ := op_fitsAt Z s hI (Z.1 (i + 1)) (Z.1 (i + 2)) (Z.1 (i + 3)) (Z.1 (i + 4)) (hZ _)
  refine ⟨s2, h, ?_⟩
  rw [B_L_law_1034]
  simp only [w1, w2, w3, w4]
  simp (disch := first | assumption | omega) only [↓sm, ↓reduceIte, ↓if_pos, ↓if_neg, kI, kJ, kR, kV, w32_eq, w64_eq, reduceCtorEq, Int.reduceAdd, Int.reduceMul, Int.reduceSub, o_c3, ↓c, o_c141, ↓r]
theorem lw_1081 (Z : mX) (hZ : ∀ i : Int, zR32 (Z.1 i)) (i : Int) (i0 : 0 ≤ i) (i1 : i + 6 ≤ Z.2) (i2 : Z.2 ≤ 3072) (s : mS) (hI : Inv s) : ∃ s', Inv s' ∧ mm_at (zP Z) 365 1081 [some (.inr (.inr (some 2))), some (.inr (.inr (some 3))), some (.inr (.inr (some 141))), some (.inl i)] [] (mk s) = mm_at (zP Z) 365 1365 [some (.inr (.inr (some 2))), some (.inr (.inr (some 3))), some (.inr (.inr (some 141))), some (.inl i)] [] (mk s') := by
  have w1 : mm_w32 (i + 1) = i + 1 := w32_eq (by omega) (by omega)
  have w2 : mm_w32 (i + 2) = i + 2 := w32_eq (by omega) (by omega)
  have w3 : mm_w32 (i + 3) = i + 3 := w32_eq (by omega) (by omega)
  obtain ⟨v, s1, s2, c, r, h⟩ := op_ask Z s hI (Z.1 (i + 1)) (Z.1 (i + 2)) (Z.1 (i + 3)) 
  refine ⟨s2, h, ?_⟩
  rw [B_L_law_1081]
  simp only [w1, w2, w3]
  simp (disch := first | assumption | omega) only [↓sm, ↓reduceIte, ↓if_pos, ↓if_neg, kI, kJ, kR, kV, w32_eq, w64_eq, reduceCtorEq, Int.reduceAdd, Int.reduceMul, Int.reduceSub, o_c3, ↓c, o_c141, ↓r]
theorem lw_1118 (Z : mX) (hZ : ∀ i : Int, zR32 (Z.1 i)) (i : Int) (i0 : 0 ≤ i) (i1 : i + 6 ≤ Z.2) (i2 : Z.2 ≤ 3072) (s : mS) (hI : Inv s) : ∃ s', Inv s' ∧ mm_at (zP Z) 365 1118 [some (.inr (.inr (some 2))), some (.inr (.inr (some 3))), some (.inr (.inr (some 141))), some (.inl i)] [] (mk s) = mm_at (zP Z) 365 1365 [some (.inr (.inr (some 2))), some (.inr (.inr (some 3))), some (.inr (.inr (some 141))), some (.inl i)] [] (mk s') := by
  have w1 : mm_w32 (i + 1) = i + 1 := w32_eq (by omega) (by omega)
  have w2 : mm_w32 (i + 2) = i + 2 := w32_eq (by omega) (by omega)
  obtain ⟨v, s1, s2, c, r, h⟩ := op_whose Z s hI (Z.1 (i + 1)) (Z.1 (i + 2)) 
  refine ⟨s2, h, ?_⟩
  rw [B_L_law_1118]
  simp only [w1, w2]
  simp (disch := first | assumption | omega) only [↓sm, ↓reduceIte, ↓if_pos, ↓if_neg, kI, kJ, kR, kV, w32_eq, w64_eq, reduceCtorEq, Int.reduceAdd, Int.reduceMul, Int.reduceSub, o_c3, ↓c, o_c141, ↓r]
theorem lw_1145 (Z : mX) (hZ : ∀ i : Int, zR32 (Z.1 i)) (i : Int) (i0 : 0 ≤ i) (i1 : i + 6 ≤ Z.2) (i2 : Z.2 ≤ 3072) (s : mS) (hI : Inv s) : ∃ s', Inv s' ∧ mm_at (zP Z) 365 1145 [some (.inr (.inr (some 2))), some (.inr (.inr (some 3))), some (.inr (.inr (some 141))), some (.inl i)] [] (mk s) = mm_at (zP Z) 365 1365 [some (.inr (.inr (some 2))), some (.inr (.inr (some 3))), some (.inr (.inr (some 141))), some (.inl i)] [] (mk s') := by
  have w1 : mm_w32 (i + 1) = i + 1 := w32_eq (by omega) (by omega)
  have w2 : mm_w32 (i + 2) = i + 2 := w32_eq (by omega) (by omega)
  have w3 : mm_w32 (i + 3) = i + 3 := w32_eq (by omega) (by omega)
  obtain ⟨v, s1, s2, c, r, h⟩ := op_game Z s hI (Z.1 (i + 1)) (Z.1 (i + 2)) (Z.1 (i + 3)) 
  refine ⟨s2, h, ?_⟩
  rw [B_L_law_1145]
  simp only [w1, w2, w3]
  simp (disch := first | assumption | omega) only [↓sm, ↓reduceIte, ↓if_pos, ↓if_neg, kI, kJ, kR, kV, w32_eq, w64_eq, reduceCtorEq, Int.reduceAdd, Int.reduceMul, Int.reduceSub, o_c3, ↓c, o_c141, ↓r]
theorem lw_1182 (Z : mX) (hZ : ∀ i : Int, zR32 (Z.1 i)) (i : Int) (i0 : 0 ≤ i) (i1 : i + 6 ≤ Z.2) (i2 : Z.2 ≤ 3072) (s : mS) (hI : Inv s) : ∃ s', Inv s' ∧ mm_at (zP Z) 365 1182 [some (.inr (.inr (some 2))), some (.inr (.inr (some 3))), some (.inr (.inr (some 141))), some (.inl i)] [] (mk s) = mm_at (zP Z) 365 1365 [some (.inr (.inr (some 2))), some (.inr (.inr (some 3))), some (.inr (.inr (some 141))), some (.inl i)] [] (mk s') := by
  have w1 : mm_w32 (i + 1) = i + 1 := w32_eq (by omega) (by omega)
  have w2 : mm_w32 (i + 2) = i + 2 := w32_eq (by omega) (by omega)
  have w3 : mm_w32 (i + 3) = i + 3 := w32_eq (by omega) (by omega)
  obtain ⟨v, s1, s2, c, r, h⟩ := op_moveOf Z s hI (Z.1 (i + 1)) (Z.1 (i + 2)) (Z.1 (i + 3)) 
  refine ⟨s2, h, ?_⟩
  rw [B_L_law_1182]
  simp only [w1, w2, w3]
  simp (disch := first | assumption | omega) only [↓sm, ↓reduceIte, ↓if_pos, ↓if_neg, kI, kJ, kR, kV, w32_eq, w64_eq, reduceCtorEq, Int.reduceAdd, Int.reduceMul, Int.reduceSub, o_c3, ↓c, o_c141, ↓r]
theorem lw_1219 (Z : mX) (hZ : ∀ i : Int, zR32 (Z.1 i)) (i : Int) (i0 : 0 ≤ i) (i1 : i + 6 ≤ Z.2) (i2 : Z.2 ≤ 3072) (s : mS) (hI : Inv s) : ∃ s', Inv s' ∧ mm_at (zP Z) 365 1219 [some (.inr (.inr (some 2))), some (.inr (.inr (some 3))), some (.inr (.inr (some 141))), some (.inl i)] [] (mk s) = mm_at (zP Z) 365 1365 [some (.inr (.inr (some 2))), some (.inr (.inr (some 3))), some (.inr (.inr (some 141))), some (.inl i)] [] (mk s') := by
  have w1 : mm_w32 (i + 1) = i + 1 := w32_eq (by omega) (by omega)
  have w2 : mm_w32 (i + 2) = i + 2 := w32_eq (by omega) (by omega)
  obtain ⟨v, s1, s2, c, r, h⟩ := op_chance Z s hI (Z.1 (i + 1)) (Z.1 (i + 2)) 
  refine ⟨s2, h, ?_⟩
  rw [B_L_law_1219]
  simp only [w1, w2]
  simp (disch := first | assumption | omega) only [↓sm, ↓reduceIte, ↓if_pos, ↓if_neg, kI, kJ, kR, kV, w32_eq, w64_eq, reduceCtorEq, Int.reduceAdd, Int.reduceMul, Int.reduceSub, o_c3, ↓c, o_c141, ↓r]
theorem lw_1246 (Z : mX) (hZ : ∀ i : Int, zR32 (Z.1 i)) (i : Int) (i0 : 0 ≤ i) (i1 : i + 6 ≤ Z.2) (i2 : Z.2 ≤ 3072) (s : mS) (hI : Inv s) : ∃ s', Inv s' ∧ mm_at (zP Z) 365 1246 [some (.inr (.inr (some 2))), some (.inr (.inr (some 3))), some (.inr (.inr (some 141))), some (.inl i)] [] (mk s) = mm_at (zP Z) 365 1365 [some (.inr (.inr (some 2))), some (.inr (.inr (some 3))), some (.inr (.inr (some 141))), some (.inl i)] [] (mk s') := by
  have w1 : mm_w32 (i + 1) = i + 1 := w32_eq (by omega) (by omega)
  have w2 : mm_w32 (i + 2) = i + 2 := w32_eq (by omega) (by omega)
  obtain ⟨v, s1, s2, c, r, h⟩ := op_slips Z s hI (Z.1 (i + 1)) (Z.1 (i + 2)) 
  refine ⟨s2, h, ?_⟩
  rw [B_L_law_1246]
  simp only [w1, w2]
  simp (disch := first | assumption | omega) only [↓sm, ↓reduceIte, ↓if_pos, ↓if_neg, kI, kJ, kR, kV, w32_eq, w64_eq, reduceCtorEq, Int.reduceAdd, Int.reduceMul, Int.reduceSub, o_c3, ↓c, o_c141, ↓r]
theorem lw_1273 (Z : mX) (hZ : ∀ i : Int, zR32 (Z.1 i)) (i : Int) (i0 : 0 ≤ i) (i1 : i + 6 ≤ Z.2) (i2 : Z.2 ≤ 3072) (s : mS) (hI : Inv s) : ∃ s', Inv s' ∧ mm_at (zP Z) 365 1273 [some (.inr (.inr (some 2))), some (.inr (.inr (some 3))), some (.inr (.inr (some 141))), some (.inl i)] [] (mk s) = mm_at (zP Z) 365 1365 [some (.inr (.inr (some 2))), some (.inr (.inr (some 3))), some (.inr (.inr (some 141))), some (.inl i)] [] (mk s') := by
  have w1 : mm_w32 (i + 1) = i + 1 := w32_eq (by omega) (by omega)
  obtain ⟨v, s1, s2, c, r, h⟩ := op_copyThorns Z s hI (Z.1 (i + 1)) 
  refine ⟨s2, h, ?_⟩
  rw [B_L_law_1273]
  simp only [w1]
  simp (disch := first | assumption | omega) only [↓sm, ↓reduceIte, ↓if_pos, ↓if_neg, kI, kJ, kR, kV, w32_eq, w64_eq, reduceCtorEq, Int.reduceAdd, Int.reduceMul, Int.reduceSub, o_c3, ↓c, o_c141, ↓r]
theorem lw_1290 (Z : mX) (h49 : ∀ s : mS, Inv s → ∀ a : Int, zR32 a → OpI Z s 185 358 [.inl a]) (hZ : ∀ i : Int, zR32 (Z.1 i)) (i : Int) (i0 : 0 ≤ i) (i1 : i + 6 ≤ Z.2) (i2 : Z.2 ≤ 3072) (s : mS) (hI : Inv s) : ∃ s', Inv s' ∧ mm_at (zP Z) 365 1290 [some (.inr (.inr (some 2))), some (.inr (.inr (some 3))), some (.inr (.inr (some 141))), some (.inl i)] [] (mk s) = mm_at (zP Z) 365 1365 [some (.inr (.inr (some 2))), some (.inr (.inr (some 3))), some (.inr (.inr (some 141))), some (.inl i)] [] (mk s') := by
  have w1 : mm_w32 (i + 1) = i + 1 := w32_eq (by omega) (by omega)
  obtain ⟨v, s1, s2, c, r, h⟩ := h49 s hI (Z.1 (i + 1)) (hZ _)
  refine ⟨s2, h, ?_⟩
  rw [B_L_law_1290]
  simp only [w1]
  simp (disch := first | assumption | omega) only [↓sm, ↓reduceIte, ↓if_pos, ↓if_neg, kI, kJ, kR, kV, w32_eq, w64_eq, reduceCtorEq, Int.reduceAdd, Int.reduceMul, Int.reduceSub, o_c3, ↓c, o_c141, ↓r]
theorem lw_1307 (Z : mX) (hZ : ∀ i : Int, zR32 (Z.1 i)) (i : Int) (i0 : 0 ≤ i) (i1 : i + 6 ≤ Z.2) (i2 : Z.2 ≤ 3072) (s : mS) (hI : Inv s) : ∃ s', Inv s' ∧ mm_at (zP Z) 365 1307 [some (.inr (.inr (some 2))), some (.inr (.inr (some 3))), some (.inr (.inr (some 141))), some (.inl i)] [] (mk s) = mm_at (zP Z) 365 1365 [some (.inr (.inr (some 2))), some (.inr (.inr (some 3))), some (.inr (.inr (some 141))), some (.inl i)] [] (mk s') := by
  have w1 : mm_w32 (i + 1) = i + 1 := w32_eq (by omega) (by omega)
  obtain ⟨v, s1, s2, c, r, h⟩ := op_lived Z s hI (Z.1 (i + 1)) 
  refine ⟨s2, h, ?_⟩
  rw [B_L_law_1307]
  simp only [w1]
  simp (disch := first | assumption | omega) only [↓sm, ↓reduceIte, ↓if_pos, ↓if_neg, kI, kJ, kR, kV, w32_eq, w64_eq, reduceCtorEq, Int.reduceAdd, Int.reduceMul, Int.reduceSub, o_c3, ↓c, o_c141, ↓r]
theorem lw_1324 (Z : mX) (h51 : ∀ s : mS, Inv s → ∀ a b : Int, zR32 a → zR32 b → OpI Z s 187 360 [.inl a, .inl b]) (hZ : ∀ i : Int, zR32 (Z.1 i)) (i : Int) (i0 : 0 ≤ i) (i1 : i + 6 ≤ Z.2) (i2 : Z.2 ≤ 3072) (s : mS) (hI : Inv s) : ∃ s', Inv s' ∧ mm_at (zP Z) 365 1324 [some (.inr (.inr (some 2))), some (.inr (.inr (some 3))), some (.inr (.inr (some 141))), some (.inl i)] [] (mk s) = mm_at (zP Z) 365 1365 [some (.inr (.inr (some 2))), some (.inr (.inr (some 3))), some (.inr (.inr (some 141))), some (.inl i)] [] (mk s') := by
  have w1 : mm_w32 (i + 1) = i + 1 := w32_eq (by omega) (by omega)
  have w2 : mm_w32 (i + 2) = i + 2 := w32_eq (by omega) (by omega)
  obtain ⟨v, s1, s2, c, r, h⟩ := h51 s hI (Z.1 (i + 1)) (Z.1 (i + 2)) (hZ _) (hZ _)
  refine ⟨s2, h, ?_⟩
  rw [B_L_law_1324]
  simp only [w1, w2]
  simp (disch := first | assumption | omega) only [↓sm, ↓reduceIte, ↓if_pos, ↓if_neg, kI, kJ, kR, kV, w32_eq, w64_eq, reduceCtorEq, Int.reduceAdd, Int.reduceMul, Int.reduceSub, o_c3, ↓c, o_c141, ↓r]
theorem lw_1351 (Z : mX) (hZ : ∀ i : Int, zR32 (Z.1 i)) (i : Int) (i0 : 0 ≤ i) (i1 : i + 6 ≤ Z.2) (i2 : Z.2 ≤ 3072) (s : mS) (hI : Inv s) : ∃ s', Inv s' ∧ mm_at (zP Z) 365 1351 [some (.inr (.inr (some 2))), some (.inr (.inr (some 3))), some (.inr (.inr (some 141))), some (.inl i)] [] (mk s) = mm_at (zP Z) 365 1365 [some (.inr (.inr (some 2))), some (.inr (.inr (some 3))), some (.inr (.inr (some 141))), some (.inl i)] [] (mk s') := by
  obtain ⟨v, s1, s2, c, r, h⟩ := op_mark Z s hI  
  refine ⟨s2, h, ?_⟩
  rw [B_L_law_1351]
  simp (disch := first | assumption | omega) only [↓sm, ↓reduceIte, ↓if_pos, ↓if_neg, kI, kJ, kR, kV, w32_eq, w64_eq, reduceCtorEq, Int.reduceAdd, Int.reduceMul, Int.reduceSub, o_c3, ↓c, o_c141, ↓r]
theorem lw_1358 (Z : mX) (hZ : ∀ i : Int, zR32 (Z.1 i)) (i : Int) (i0 : 0 ≤ i) (i1 : i + 6 ≤ Z.2) (i2 : Z.2 ≤ 3072) (s : mS) (hI : Inv s) : ∃ s', Inv s' ∧ mm_at (zP Z) 365 1358 [some (.inr (.inr (some 2))), some (.inr (.inr (some 3))), some (.inr (.inr (some 141))), some (.inl i)] [] (mk s) = mm_at (zP Z) 365 1365 [some (.inr (.inr (some 2))), some (.inr (.inr (some 3))), some (.inr (.inr (some 141))), some (.inl i)] [] (mk s') := by
  obtain ⟨v, s1, s2, c, r, h⟩ := op_undo Z s hI  
  refine ⟨s2, h, ?_⟩
  rw [B_L_law_1358]
  simp (disch := first | assumption | omega) only [↓sm, ↓reduceIte, ↓if_pos, ↓if_neg, kI, kJ, kR, kV, w32_eq, w64_eq, reduceCtorEq, Int.reduceAdd, Int.reduceMul, Int.reduceSub, o_c3, ↓c, o_c141, ↓r]
theorem lw_all (Z : mX) (h8 : ∀ s : mS, Inv s → ∀ a : Int, zR32 a → OpI Z s 144 262 [.inl a]) (h9 : ∀ s : mS, Inv s → ∀ a : Int, zR32 a → OpI Z s 145 269 [.inl a]) (h49 : ∀ s : mS, Inv s → ∀ a : Int, zR32 a → OpI Z s 185 358 [.inl a]) (h51 : ∀ s : mS, Inv s → ∀ a b : Int, zR32 a → zR32 b → OpI Z s 187 360 [.inl a, .inl b]) (hZ : ∀ i : Int, zR32 (Z.1 i)) (i2 : Z.2 ≤ 3072) (i4 : 0 ≤ Z.2) : ∀ n : Nat, ∀ i : Int, (Z.2 - i).toNat ≤ n → 0 ≤ i → i ≤ 4000 → ∀ s : mS, Inv s → ∃ s', mm_at (zP Z) 365 10 [some (.inr (.inr (some 2))), some (.inr (.inr (some 3))), some (.inr (.inr (some 141))), some (.inl i)] [] (mk s) = some (some (.inl 1), mk s') := by
  intro n
  induction n with
  | zero =>
    intro i hn i0 i3 s hI
    refine ⟨s, ?_⟩
    rw [B_L_law_10, sm, if_pos rfl, w32_eq (x := Z.2 - 6) (by omega) (by omega), if_pos (by omega)]
  | succ n ih =>
    intro i hn i0 i3 s hI
    by_cases hend : Z.2 - 6 < i
    · refine ⟨s, ?_⟩
      rw [B_L_law_10, sm, if_pos rfl, w32_eq (x := Z.2 - 6) (by omega) (by omega), if_pos hend]
    · have nx : ∀ s1 : mS, Inv s1 → ∃ s', mm_at (zP Z) 365 1365 [some (.inr (.inr (some 2))), some (.inr (.inr (some 3))), some (.inr (.inr (some 141))), some (.inl i)] [] (mk s1) = some (some (.inl 1), mk s') := by
        intro s1 h1
        obtain ⟨s', g⟩ := ih (i + 6) (by omega) (by omega) (by omega) s1 h1
        refine ⟨s', ?_⟩
        rw [B_L_law_1365, w32_eq (by omega) (by omega)]
        exact g
      have fin : ∀ o : mO, (∃ s1, Inv s1 ∧ o = mm_at (zP Z) 365 1365 [some (.inr (.inr (some 2))), some (.inr (.inr (some 3))), some (.inr (.inr (some 141))), some (.inl i)] [] (mk s1)) → ∃ s', o = some (some (.inl 1), mk s') := by
        rintro o ⟨s1, h1, e⟩
        obtain ⟨s', g⟩ := nx s1 h1
        exact ⟨s', e.trans g⟩
      have i1 : i + 6 ≤ Z.2 := by omega
      apply fin
      rw [B_L_law_10, sm, if_pos rfl, w32_eq (x := Z.2 - 6) (by omega) (by omega), if_neg hend, sm, if_pos ⟨rfl, i0, by omega⟩]
      generalize mm_iand (Z.1 i) 63 = k
      by_cases k0 : k = 0
      · rw [if_pos k0]; exact lw_22 Z hZ i i0 i1 i2 s hI
      rw [if_neg k0]
      by_cases k1 : k = 1
      · rw [if_pos k1]; exact lw_29 Z hZ i i0 i1 i2 s hI
      rw [if_neg k1]
      by_cases k2 : k = 2
      · rw [if_pos k2]; exact lw_37 Z hZ i i0 i1 i2 s hI
      rw [if_neg k2]
      by_cases k3 : k = 3
      · rw [if_pos k3]; exact lw_45 Z hZ i i0 i1 i2 s hI
      rw [if_neg k3]
      by_cases k4 : k = 4
      · rw [if_pos k4]; exact lw_82 Z hZ i i0 i1 i2 s hI
      rw [if_neg k4]
      by_cases k5 : k = 5
      · rw [if_pos k5]; exact lw_143 Z hZ i i0 i1 i2 s hI
      rw [if_neg k5]
      by_cases k6 : k = 6
      · rw [if_pos k6]; exact lw_171 Z hZ i i0 i1 i2 s hI
      rw [if_neg k6]
      by_cases k7 : k = 7
      · rw [if_pos k7]; exact lw_228 Z hZ i i0 i1 i2 s hI
      rw [if_neg k7]
      by_cases k8 : k = 8
      · rw [if_pos k8]; exact lw_285 Z h8 hZ i i0 i1 i2 s hI
      rw [if_neg k8]
      by_cases k9 : k = 9
      · rw [if_pos k9]; exact lw_302 Z h9 hZ i i0 i1 i2 s hI
      rw [if_neg k9]
      by_cases k10 : k = 10
      · rw [if_pos k10]; exact lw_319 Z hZ i i0 i1 i2 s hI
      rw [if_neg k10]
      by_cases k11 : k = 11
      · rw [if_pos k11]; exact lw_336 Z hZ i i0 i1 i2 s hI
      rw [if_neg k11]
      by_cases k12 : k = 12
      · rw [if_pos k12]; exact lw_353 Z hZ i i0 i1 i2 s hI
      rw [if_neg k12]
      by_cases k13 : k = 13
      · rw [if_pos k13]; exact lw_380 Z hZ i i0 i1 i2 s hI
      rw [if_neg k13]
      by_cases k14 : k = 14
      · rw [if_pos k14]; exact lw_407 Z hZ i i0 i1 i2 s hI
      rw [if_neg k14]
      by_cases k15 : k = 15
      · rw [if_pos k15]; exact lw_434 Z hZ i i0 i1 i2 s hI
      rw [if_neg k15]
      by_cases k16 : k = 16
      · rw [if_pos k16]; exact lw_461 Z hZ i i0 i1 i2 s hI
      rw [if_neg k16]
      by_cases k17 : k = 17
      · rw [if_pos k17]; exact lw_488 Z hZ i i0 i1 i2 s hI
      rw [if_neg k17]
      by_cases k18 : k = 18
      · rw [if_pos k18]; exact lw_515 Z hZ i i0 i1 i2 s hI
      rw [if_neg k18]
      by_cases k19 : k = 19
      · rw [if_pos k19]; exact lw_532 Z hZ i i0 i1 i2 s hI
      rw [if_neg k19]
      by_cases k20 : k = 20
      · rw [if_pos k20]; exact lw_549 Z hZ i i0 i1 i2 s hI
      rw [if_neg k20]
      by_cases k21 : k = 21
      · rw [if_pos k21]; exact lw_566 Z hZ i i0 i1 i2 s hI
      rw [if_neg k21]
      by_cases k22 : k = 22
      · rw [if_pos k22]; exact lw_603 Z hZ i i0 i1 i2 s hI
      rw [if_neg k22]
      by_cases k23 : k = 23
      · rw [if_pos k23]; exact lw_630 Z hZ i i0 i1 i2 s hI
      rw [if_neg k23]
      by_cases k24 : k = 24
      · rw [if_pos k24]; exact lw_675 Z hZ i i0 i1 i2 s hI
      rw [if_neg k24]
      by_cases k25 : k = 25
      · rw [if_pos k25]; exact lw_692 Z hZ i i0 i1 i2 s hI
      rw [if_neg k25]
      by_cases k26 : k = 26
      · rw [if_pos k26]; exact lw_709 Z hZ i i0 i1 i2 s hI
      rw [if_neg k26]
      by_cases k27 : k = 27
      · rw [if_pos k27]; exact lw_726 Z hZ i i0 i1 i2 s hI
      rw [if_neg k27]
      by_cases k28 : k = 28
      · rw [if_pos k28]; exact lw_753 Z hZ i i0 i1 i2 s hI
      rw [if_neg k28]
      by_cases k29 : k = 29
      · rw [if_pos k29]; exact lw_790 Z hZ i i0 i1 i2 s hI
      rw [if_neg k29]
      by_cases k30 : k = 30
      · rw [if_pos k30]; exact lw_817 Z hZ i i0 i1 i2 s hI
      rw [if_neg k30]
      by_cases k31 : k = 31
      · rw [if_pos k31]; exact lw_844 Z hZ i i0 i1 i2 s hI
      rw [if_neg k31]
      by_cases k32 : k = 32
      · rw [if_pos k32]; exact lw_871 Z hZ i i0 i1 i2 s hI
      rw [if_neg k32]
      by_cases k33 : k = 33
      · rw [if_pos k33]; exact lw_878 Z hZ i i0 i1 i2 s hI
      rw [if_neg k33]
      by_cases k34 : k = 34
      · rw [if_pos k34]; exact lw_895 Z hZ i i0 i1 i2 s hI
      rw [if_neg k34]
      by_cases k35 : k = 35
      · rw [if_pos k35]; exact lw_912 Z hZ i i0 i1 i2 s hI
      rw [if_neg k35]
      by_cases k36 : k = 36
      · rw [if_pos k36]; exact lw_929 Z hZ i i0 i1 i2 s hI
      rw [if_neg k36]
      by_cases k37 : k = 37
      · rw [if_pos k37]; exact lw_946 Z hZ i i0 i1 i2 s hI
      rw [if_neg k37]
      by_cases k38 : k = 38
      · rw [if_pos k38]; exact lw_953 Z hZ i i0 i1 i2 s hI
      rw [if_neg k38]
      by_cases k39 : k = 39
      · rw [if_pos k39]; exact lw_970 Z hZ i i0 i1 i2 s hI
      rw [if_neg k39]
      by_cases k40 : k = 40
      · rw [if_pos k40]; exact lw_997 Z hZ i i0 i1 i2 s hI
      rw [if_neg k40]
      by_cases k41 : k = 41
      · rw [if_pos k41]; exact lw_1034 Z hZ i i0 i1 i2 s hI
      rw [if_neg k41]
      by_cases k42 : k = 42
      · rw [if_pos k42]; exact lw_1081 Z hZ i i0 i1 i2 s hI
      rw [if_neg k42]
      by_cases k43 : k = 43
      · rw [if_pos k43]; exact lw_1118 Z hZ i i0 i1 i2 s hI
      rw [if_neg k43]
      by_cases k44 : k = 44
      · rw [if_pos k44]; exact lw_1145 Z hZ i i0 i1 i2 s hI
      rw [if_neg k44]
      by_cases k45 : k = 45
      · rw [if_pos k45]; exact lw_1182 Z hZ i i0 i1 i2 s hI
      rw [if_neg k45]
      by_cases k46 : k = 46
      · rw [if_pos k46]; exact lw_1219 Z hZ i i0 i1 i2 s hI
      rw [if_neg k46]
      by_cases k47 : k = 47
      · rw [if_pos k47]; exact lw_1246 Z hZ i i0 i1 i2 s hI
      rw [if_neg k47]
      by_cases k48 : k = 48
      · rw [if_pos k48]; exact lw_1273 Z hZ i i0 i1 i2 s hI
      rw [if_neg k48]
      by_cases k49 : k = 49
      · rw [if_pos k49]; exact lw_1290 Z h49 hZ i i0 i1 i2 s hI
      rw [if_neg k49]
      by_cases k50 : k = 50
      · rw [if_pos k50]; exact lw_1307 Z hZ i i0 i1 i2 s hI
      rw [if_neg k50]
      by_cases k51 : k = 51
      · rw [if_pos k51]; exact lw_1324 Z h51 hZ i i0 i1 i2 s hI
      rw [if_neg k51]
      by_cases k52 : k = 52
      · rw [if_pos k52]; exact lw_1351 Z hZ i i0 i1 i2 s hI
      rw [if_neg k52]
      by_cases k53 : k = 53
      · rw [if_pos k53]; exact lw_1358 Z hZ i i0 i1 i2 s hI
      rw [if_neg k53]
      exact ⟨s, hI, rfl⟩
theorem law_of (H : ∀ Z : mX, (∀ s : mS, Inv s → ∀ a : Int, zR32 a → OpI Z s 144 262 [.inl a]) ∧ (∀ s : mS, Inv s → ∀ a : Int, zR32 a → OpI Z s 145 269 [.inl a]) ∧ (∀ s : mS, Inv s → ∀ a : Int, zR32 a → OpI Z s 185 358 [.inl a]) ∧ (∀ s : mS, Inv s → ∀ a b : Int, zR32 a → zR32 b → OpI Z s 187 360 [.inl a, .inl b])) : zLaw := by
  intro Z ⟨L, hL, hL2⟩ hZ
  obtain ⟨h8, h9, h49, h51⟩ := H Z
  obtain ⟨f1, f2⟩ := first Z
  have c1 : iA1.2.1 = 4 := rfl
  have c2 : (gw iE1).2.1 = 141 := by
    have h := iE1_c
    rwa [beq_iff_eq] at h
  obtain ⟨s', g⟩ := lw_all Z h8 h9 h49 h51 hZ (by omega) (by omega) (Z.2).toNat 0 (by omega) (by omega) (by omega) s0 inv0
  refine ⟨mk s', ?_, ?_, ?_⟩
  · rw [B_L_law]
    have a1 : mm_cls (mm_alloc z_w0 (.inl (11, z_defs 11)) 18) z_w0.2.1 = 11 := rfl
    rw [if_pos a1]
    have f1' : mm_run (zP Z) 135 [.inr (.inr (some z_w0.2.1))] (mm_alloc z_w0 (.inl (11, z_defs 11)) 18) = some (none, gw iE1) := f1
    rw [f1', kV]
    have a2 : mm_cls (mm_alloc (gw iE1) (.inl (12, z_defs 12)) 39) (gw iE1).2.1 = 12 := by
      generalize gw iE1 = w
      unfold mm_cls mm_alloc
      simp
    rw [if_pos a2]
    have f2' : mm_run (zP Z) 210 [.inr (.inr (some (gw iE1).2.1))] (mm_alloc (gw iE1) (.inl (12, z_defs 12)) 39) = some (none, mk s0) := by
      rw [c2]
      exact f2
    rw [f2', kV, c2]
    exact g
  · show 160 ≤ 600000
    omega
  · show 11856 ≤ 7302250
    omega
