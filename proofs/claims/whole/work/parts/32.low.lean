/-! the class's helpers over rows -/
theorem k_get (Z : mX) (s : mS) {q n : Nat} (h : arOf q = some (0, n)) (i : Int) (h0 : 0 ≤ i) (h1 : i < n) (f : Int → mW → mO) : mm_kI (mm_run (zP Z) 199 [.inr (.inr (some q)), .inl i] (mk s)) f = f (s.2 q i) (mk s) := by
  rw [B_X11_get]
  simp (disch := first | assumption | omega) only [↓sm, ↓reduceIte, ↓if_pos, ↓if_neg, kI, kJ, kR, kV, w32_eq, reduceCtorEq, mk_ln s h, mk_ld s h]
theorem k_put (Z : mX) (s : mS) {q n : Nat} (h : arOf q = some (0, n)) (i v : Int) (h0 : 0 ≤ i) (h1 : i < n) (f : mW → mO) : mm_kV (mm_run (zP Z) 200 [.inr (.inr (some q)), .inl i, .inl v] (mk s)) f = f (mk (uA s q i v)) := by
  rw [B_X11_put]
  simp (disch := first | assumption | omega) only [↓sm, ↓reduceIte, ↓if_pos, ↓if_neg, kI, kJ, kR, kV, w32_eq, reduceCtorEq, mk_ln s h, mk_st s h]
theorem k_exchange (Z : mX) (s : mS) {q n : Nat} (h : arOf q = some (0, n)) (i v : Int) (h0 : 0 ≤ i) (h1 : i < n) (f : Int → mW → mO) : mm_kI (mm_run (zP Z) 201 [.inr (.inr (some q)), .inl i, .inl v] (mk s)) f = f (s.2 q i) (mk (uA s q i v)) := by
  rw [B_X11_exchange]
  simp (disch := first | assumption | omega) only [↓sm, ↓reduceIte, ↓if_pos, ↓if_neg, kI, kJ, kR, kV, w32_eq, reduceCtorEq, ↓k_get Z s h, ↓k_put Z s h]
