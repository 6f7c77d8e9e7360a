/-! the class's helpers over rows -/
theorem k_get (Z : mX) (s : mS) {q n : Nat} (h : arOf q = some (0, n)) (i : Int) (h0 : 0 ≤ i) (h1 : i < n) (f : Int → mW → mO) : mm_kI (mm_run (zP Z) 199 [.inr (.inr (some q)), .inl i] (mk s)) f = f (s.2 q i) (mk s) := by
  rw [B_X11_get]
  simp (disch := first | assumption | omega) only [↓sm, ↓reduceIte, ↓if_pos, ↓if_neg, kI, kJ, kR, kV, w32_eq, w64_eq, reduceCtorEq, mk_ln s h, mk_ld s h]
theorem k_put (Z : mX) (s : mS) {q n : Nat} (h : arOf q = some (0, n)) (i v : Int) (h0 : 0 ≤ i) (h1 : i < n) (f : mW → mO) : mm_kV (mm_run (zP Z) 200 [.inr (.inr (some q)), .inl i, .inl v] (mk s)) f = f (mk (uA s q i v)) := by
  rw [B_X11_put]
  simp (disch := first | assumption | omega) only [↓sm, ↓reduceIte, ↓if_pos, ↓if_neg, kI, kJ, kR, kV, w32_eq, w64_eq, reduceCtorEq, mk_ln s h, mk_st s h]
theorem k_exchange (Z : mX) (s : mS) {q n : Nat} (h : arOf q = some (0, n)) (i v : Int) (h0 : 0 ≤ i) (h1 : i < n) (f : Int → mW → mO) : mm_kI (mm_run (zP Z) 201 [.inr (.inr (some q)), .inl i, .inl v] (mk s)) f = f (s.2 q i) (mk (uA s q i v)) := by
  rw [B_X11_exchange]
  simp (disch := first | assumption | omega) only [↓sm, ↓reduceIte, ↓if_pos, ↓if_neg, kI, kJ, kR, kV, w32_eq, w64_eq, reduceCtorEq, ↓k_get Z s h, ↓k_put Z s h]
def fA (s : mS) (q : Nat) (n v : Int) : mS := (s.1, fun q' j => if q' = q ∧ 0 ≤ j ∧ j < n then v else s.2 q' j)
def cA (s : mS) (a b : Nat) (n : Int) : mS := (s.1, fun q' j => if q' = b ∧ 0 ≤ j ∧ j < n then s.2 a j else s.2 q' j)
theorem fA_0 (s : mS) (q : Nat) (v : Int) : fA s q 0 v = s := by
  unfold fA
  refine Prod.ext rfl (funext fun q' => funext fun j => ?_)
  show (if _ then _ else _) = _
  rw [if_neg (by omega)]
theorem fA_s (s : mS) (q : Nat) (n v : Int) (h : 0 ≤ n) : uA (fA s q n v) q n v = fA s q (n + 1) v := by
  refine Prod.ext rfl (funext fun q' => funext fun j => ?_)
  show (if q' = q ∧ j = n then v else if q' = q ∧ 0 ≤ j ∧ j < n then v else s.2 q' j) = if q' = q ∧ 0 ≤ j ∧ j < n + 1 then v else s.2 q' j
  by_cases hq : q' = q
  · by_cases h1 : j = n
    · rw [if_pos ⟨hq, h1⟩, if_pos ⟨hq, by omega⟩]
    · rw [if_neg (by omega)]
      by_cases h2 : 0 ≤ j ∧ j < n
      · rw [if_pos ⟨hq, h2⟩, if_pos ⟨hq, by omega⟩]
      · rw [if_neg (by omega), if_neg (by omega)]
  · simp [hq]
theorem cA_0 (s : mS) (a b : Nat) : cA s a b 0 = s := by
  unfold cA
  refine Prod.ext rfl (funext fun q' => funext fun j => ?_)
  show (if _ then _ else _) = _
  rw [if_neg (by omega)]
theorem cA_s (s : mS) (a b : Nat) (n : Int) (h : 0 ≤ n) : uA (cA s a b n) b n ((cA s a b n).2 a n) = cA s a b (n + 1) := by
  refine Prod.ext rfl (funext fun q' => funext fun j => ?_)
  show (if q' = b ∧ j = n then (if a = b ∧ 0 ≤ n ∧ n < n then s.2 a n else s.2 a n) else if q' = b ∧ 0 ≤ j ∧ j < n then s.2 a j else s.2 q' j) = if q' = b ∧ 0 ≤ j ∧ j < n + 1 then s.2 a j else s.2 q' j
  rw [if_neg (show ¬ (a = b ∧ 0 ≤ n ∧ n < n) by omega)]
  by_cases hq : q' = b
  · by_cases h1 : j = n
    · rw [if_pos ⟨hq, h1⟩, if_pos ⟨hq, by omega⟩, h1]
    · rw [if_neg (by omega)]
      by_cases h2 : 0 ≤ j ∧ j < n
      · rw [if_pos ⟨hq, h2⟩, if_pos ⟨hq, by omega⟩]
      · rw [if_neg (by omega), if_neg (by omega)]
  · simp [hq]
/-- counting down to the end of a loop -/
theorem up {N : Int} {P : Int → Prop} (h0 : P N) (h1 : ∀ i, i < N → P (i + 1) → P i) : ∀ i, i ≤ N → P i := by
  intro i hi
  generalize hk : (N - i).toNat = k
  induction k generalizing i with
  | zero =>
    have : i = N := by omega
    subst this
    exact h0
  | succ k ih => exact h1 i (by omega) (ih (i + 1) (by omega) (by omega))
theorem lp_fill (Z : mX) (s : mS) {q n : Nat} (h : arOf q = some (0, n)) (v : Int) (hn : n < 100000) : ∀ i : Int, i ≤ n → 0 ≤ i → mm_at (zP Z) 202 5 [some (.inr (.inr (some q))), some (.inl v), some (.inl i)] [] (mk (fA s q i v)) = some (none, mk (fA s q n v)) := by
  refine up ?_ ?_
  · intro h0
    rw [B_X11_fill_5]
    simp (disch := first | assumption | omega) only [↓sm, ↓reduceIte, ↓if_pos, ↓if_neg, kI, kJ, kR, kV, w32_eq, w64_eq, reduceCtorEq, mk_ln _ h]
  · intro i hi ih h0
    rw [B_X11_fill_5]
    simp (disch := first | assumption | omega) only [↓sm, ↓reduceIte, ↓if_pos, ↓if_neg, kI, kJ, kR, kV, w32_eq, w64_eq, reduceCtorEq, mk_ln _ h, mk_st _ h, fA_s]
    exact ih (by omega)
theorem k_fill (Z : mX) (s : mS) {q n : Nat} (h : arOf q = some (0, n)) (hn : n < 100000) (v : Int) (f : mW → mO) : mm_kV (mm_run (zP Z) 202 [.inr (.inr (some q)), .inl v] (mk s)) f = f (mk (fA s q n v)) := by
  have e := lp_fill Z s h v hn 0 (by omega) (by omega)
  rw [fA_0] at e
  rw [B_X11_fill]
  simp (disch := first | assumption | omega) only [↓sm, ↓reduceIte, ↓if_pos, ↓if_neg, kI, kJ, kR, kV, w32_eq, w64_eq, reduceCtorEq, e]
theorem lp_copy (Z : mX) (s : mS) {a b n : Nat} (ha : arOf a = some (0, n)) (hb : arOf b = some (0, n)) (hn : n < 100000) : ∀ i : Int, i ≤ n → 0 ≤ i → mm_at (zP Z) 203 7 [some (.inr (.inr (some a))), some (.inr (.inr (some b))), some (.inl i)] [] (mk (cA s a b i)) = some (none, mk (cA s a b n)) := by
  refine up ?_ ?_
  · intro h0
    rw [B_X11_copy_7]
    simp (disch := first | assumption | omega) only [↓sm, ↓reduceIte, ↓if_pos, ↓if_neg, kI, kJ, kR, kV, w32_eq, w64_eq, reduceCtorEq, mk_ln _ ha, mk_ln _ hb]
  · intro i hi ih h0
    rw [B_X11_copy_7]
    simp (disch := first | assumption | omega) only [↓sm, ↓reduceIte, ↓if_pos, ↓if_neg, kI, kJ, kR, kV, w32_eq, w64_eq, reduceCtorEq, mk_ln _ ha, mk_ln _ hb, mk_ld _ ha, mk_st _ hb, cA_s]
    exact ih (by omega)
theorem k_copy (Z : mX) (s : mS) {a b n : Nat} (ha : arOf a = some (0, n)) (hb : arOf b = some (0, n)) (hn : n < 100000) (f : mW → mO) : mm_kV (mm_run (zP Z) 203 [.inr (.inr (some a)), .inr (.inr (some b))] (mk s)) f = f (mk (cA s a b n)) := by
  have e := lp_copy Z s ha hb hn 0 (by omega) (by omega)
  rw [cA_0] at e
  rw [B_X11_copy]
  simp (disch := first | assumption | omega) only [↓sm, ↓reduceIte, ↓if_pos, ↓if_neg, kI, kJ, kR, kV, w32_eq, w64_eq, reduceCtorEq, e]
theorem lp_copyJ (Z : mX) (s : mS) {a b n : Nat} (ha : arOf a = some (3, n)) (hb : arOf b = some (3, n)) (hn : n < 100000) : ∀ i : Int, i ≤ n → 0 ≤ i → mm_at (zP Z) 204 7 [some (.inr (.inr (some a))), some (.inr (.inr (some b))), some (.inl i)] [] (mk (cA s a b i)) = some (none, mk (cA s a b n)) := by
  refine up ?_ ?_
  · intro h0
    rw [B_X11_copy__7]
    simp (disch := first | assumption | omega) only [↓sm, ↓reduceIte, ↓if_pos, ↓if_neg, kI, kJ, kR, kV, w32_eq, w64_eq, reduceCtorEq, mk_ln _ ha, mk_ln _ hb]
  · intro i hi ih h0
    rw [B_X11_copy__7]
    simp (disch := first | assumption | omega) only [↓sm, ↓reduceIte, ↓if_pos, ↓if_neg, kI, kJ, kR, kV, w32_eq, w64_eq, reduceCtorEq, mk_ln _ ha, mk_ln _ hb, mk_ld _ ha, mk_st _ hb, cA_s]
    exact ih (by omega)
theorem k_copyJ (Z : mX) (s : mS) {a b n : Nat} (ha : arOf a = some (3, n)) (hb : arOf b = some (3, n)) (hn : n < 100000) (f : mW → mO) : mm_kV (mm_run (zP Z) 204 [.inr (.inr (some a)), .inr (.inr (some b))] (mk s)) f = f (mk (cA s a b n)) := by
  have e := lp_copyJ Z s ha hb hn 0 (by omega) (by omega)
  rw [cA_0] at e
  rw [B_X11_copy_]
  simp (disch := first | assumption | omega) only [↓sm, ↓reduceIte, ↓if_pos, ↓if_neg, kI, kJ, kR, kV, w32_eq, w64_eq, reduceCtorEq, e]
/-- the sum of a row's first numbers -/
def sumI (g : Int → Int) : Nat → Int
  | 0 => 0
  | n + 1 => sumI g n + g n
theorem sumI_ge (g : Int → Int) (M : Int) : ∀ n : Nat, (∀ i : Int, 0 ≤ i → i < n → 0 ≤ g i ∧ g i ≤ M) → 0 ≤ sumI g n ∧ sumI g n ≤ M * n
  | 0, _ => by simp [sumI]
  | n + 1, h => by
    have := sumI_ge g M n (fun i h0 h1 => h i h0 (by omega))
    have h2 := h n (by omega) (by omega)
    have e : M * ((n + 1 : Nat) : Int) = M * n + M := by rw [Int.natCast_add, Int.mul_add]; simp
    unfold sumI
    omega
theorem sumI_ext (g g' : Int → Int) : ∀ n : Nat, (∀ i : Int, 0 ≤ i → i < n → g i = g' i) → sumI g n = sumI g' n
  | 0, _ => rfl
  | n + 1, h => by
    unfold sumI
    rw [sumI_ext g g' n (fun i h0 h1 => h i h0 (by omega)), h n (by omega) (by omega)]
theorem sumI_tail (g : Int → Int) (m : Nat) : ∀ n : Nat, m ≤ n → (∀ i : Int, m ≤ i → i < n → g i = 0) → sumI g n = sumI g m
  | 0, h, _ => by have : m = 0 := by omega
                  subst this; rfl
  | n + 1, h, hz => by
    by_cases e : m = n + 1
    · subst e; rfl
    · show sumI g n + g n = _
      rw [sumI_tail g m n (by omega) (fun i h0 h1 => hz i h0 (by omega)), hz n (by omega) (by omega), Int.add_zero]
theorem lp_sum (Z : mX) (s : mS) {q n : Nat} (h : arOf q = some (0, n)) (hn : n < 1000) (hb : ∀ i : Int, 0 ≤ i → i < n → 0 ≤ s.2 q i ∧ s.2 q i ≤ 10000) : ∀ i : Int, i ≤ n → 0 ≤ i → mm_at (zP Z) 205 4 [some (.inr (.inr (some q))), some (.inl (sumI (s.2 q) i.toNat)), some (.inl i)] [] (mk s) = some (some (.inl (sumI (s.2 q) n)), mk s) := by
  refine up ?_ ?_
  · intro h0
    rw [B_X11_sum_4]
    simp (disch := first | assumption | omega) only [↓sm, ↓reduceIte, ↓if_pos, ↓if_neg, kI, kJ, kR, kV, w32_eq, w64_eq, reduceCtorEq, mk_ln _ h]
    rw [Int.toNat_natCast]
  · intro i hi ih h0
    have g1 := sumI_ge (s.2 q) 10000 i.toNat (fun j h0 h1 => hb j h0 (by omega))
    have g2 := hb i h0 hi
    have g3 : sumI (s.2 q) (i + 1).toNat = sumI (s.2 q) i.toNat + s.2 q i := by
      rw [show (i + 1).toNat = i.toNat + 1 by omega]
      show sumI (s.2 q) i.toNat + s.2 q (i.toNat : Int) = _
      rw [Int.toNat_of_nonneg h0]
    rw [B_X11_sum_4]
    simp (disch := first | assumption | omega) only [↓sm, ↓reduceIte, ↓if_pos, ↓if_neg, kI, kJ, kR, kV, w32_eq, w64_eq, reduceCtorEq, mk_ln _ h, mk_ld _ h]
    rw [← g3]
    exact ih (by omega)
theorem k_sum (Z : mX) (s : mS) {q n : Nat} (h : arOf q = some (0, n)) (hn : n < 1000) (hb : ∀ i : Int, 0 ≤ i → i < n → 0 ≤ s.2 q i ∧ s.2 q i ≤ 10000) (f : Int → mW → mO) : mm_kI (mm_run (zP Z) 205 [.inr (.inr (some q))] (mk s)) f = f (sumI (s.2 q) n) (mk s) := by
  have e := lp_sum Z s h hn hb 0 (by omega) (by omega)
  rw [B_X11_sum]
  rw [show sumI (s.2 q) (Int.toNat 0) = 0 from rfl] at e
  rw [e, kI]
theorem k_bit (Z : mX) (i : Int) (w : mW) (f : Int → mW → mO) : mm_kI (mm_run (zP Z) 206 [.inl i] w) f = f (mm_ishl 1 i) w := by
  rw [B_X11_bit, kI]
/-- a truth as an int -/
def b2i (b : Bool) : Int := if b then 1 else 0
theorem b2i_0 (b : Bool) : (b2i b = 0) = (b = false) := by cases b <;> simp [b2i]
theorem b2i_1 (b : Bool) : (b2i b = 1) = (b = true) := by cases b <;> simp [b2i]
theorem k_has (Z : mX) (a i : Int) (w : mW) (h0 : 0 ≤ i) (h1 : i < 32) (f : Int → mW → mO) : mm_kI (mm_run (zP Z) 207 [.inl a, .inl i] w) f = f (b2i (tb a i.toNat)) w := by
  rw [B_X11_has, has_u h0 h1]
  unfold b2i
  by_cases h : tb a i.toNat = true
  · simp only [h, if_true, kI]
  · simp only [h, if_false, kI, show ¬ ((0 : Int) = 1) by decide, Bool.false_eq_true]
theorem k_isIn (Z : mX) (a l m : Int) (w : mW) (f : Int → mW → mO) : mm_kI (mm_run (zP Z) 208 [.inl a, .inl l, .inl m] w) f = f (b2i (decide (l ≤ a ∧ a ≤ m))) w := by
  rw [B_X11_isIn]
  by_cases h1 : a < l
  · rw [if_pos h1, kI, decide_eq_false (by omega)]; rfl
  · rw [if_neg h1]
    by_cases h2 : m < a
    · rw [if_pos h2, kI, decide_eq_false (by omega)]; rfl
    · rw [if_neg h2, kI, decide_eq_true (by omega)]; rfl
theorem lp_power (Z : mX) (b n : Int) (w : mW) (hb : 0 ≤ b) (hb1 : b ≤ 16) (hn : n ≤ 15) : ∀ i : Int, i ≤ n → 0 ≤ i → mm_at (zP Z) 209 4 [some (.inr (.inl b)), none, some (.inl n), some (.inr (.inl (b ^ i.toNat))), none, some (.inl i)] [] w = some (some (.inr (.inl (b ^ n.toNat))), w) := by
  have key : ∀ b : Nat, b < 17 → ∀ k : Nat, k < 16 → b ^ k < 9223372036854775808 := by decide +kernel
  refine up ?_ ?_
  · intro h0
    rw [B_X11_power_4]
    simp (disch := first | assumption | omega) only [↓sm, ↓reduceIte, ↓if_pos, ↓if_neg, kI, kJ, kR, kV, w32_eq, w64_eq, reduceCtorEq]
  · intro i hi ih h0
    have g := key b.toNat (by omega) (i.toNat + 1) (by omega)
    have g1 : b ^ (i + 1).toNat = b ^ i.toNat * b := by
      rw [show (i + 1).toNat = i.toNat + 1 by omega, Int.pow_succ]
    have g2 : b ^ (i + 1).toNat = ((b.toNat ^ (i.toNat + 1) : Nat) : Int) := by
      rw [show (i + 1).toNat = i.toNat + 1 by omega, Int.natCast_pow, Int.toNat_of_nonneg hb]
    rw [B_X11_power_4]
    rw [← g1]
    simp (disch := first | assumption | omega) only [↓sm, ↓reduceIte, ↓if_pos, ↓if_neg, kI, kJ, kR, kV, w32_eq, w64_eq, reduceCtorEq]
    exact ih (by omega)
theorem k_power (Z : mX) (b n : Int) (w : mW) (hb : 0 ≤ b) (hb1 : b ≤ 16) (h0 : 0 ≤ n) (hn : n ≤ 15) (f : Int → mW → mO) : mm_kJ (mm_run (zP Z) 209 [.inr (.inl b), .inl n] w) f = f (b ^ n.toNat) w := by
  have e := lp_power Z b n w hb hb1 hn 0 (by omega) (by omega)
  rw [B_X11_power]
  rw [show b ^ (Int.toNat 0) = 1 from Int.pow_zero b] at e
  rw [e, kJ]
