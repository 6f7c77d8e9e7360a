/-! what is read of a school: words for both sides -/
def ct (S : Int → Int) (p c w : Int) : Int := if S (10 + c) = 0 then 0 else if 0 < S (10 + c) + w - pc (S (74 + 6 * p + 2)) then S (10 + c) + w - pc (S (74 + 6 * p + 2)) else 0
def sd (S : Int → Int) (c k : Int) : Int :=
  if k = 0 then (if 0 < c % S 0 then c - 1 else -1) else if k = 1 then (if c % S 0 < S 0 - 1 then c + 1 else -1)
  else if k = 2 then (if c < S 0 then -1 else c - S 0) else if c + S 0 < ncl S then c + S 0 else -1
def nearB (S : Int → Int) (a b : Int) : Bool := decide (a = b) || decide (sd S a 0 = b) || decide (sd S a 1 = b) || decide (sd S a 2 = b) || decide (sd S a 3 = b)
def fst1 (P : Int → Bool) : Nat → Int → Int
  | 0, _ => -1
  | n + 1, k => if P k then k else fst1 P n (k + 1)
def any1 (P : Int → Bool) : Nat → Int → Bool
  | 0, _ => false
  | n + 1, k => P k || any1 P n (k + 1)
/-- the lesson that one would learn -/
def nlP (S : Int → Int) (K : Int) (k : Int) : Bool := !tb K k.toNat && decide (mm_iand (S (60 + 2 * k + 1)) (mm_ixor K (-1)) = 0)
def nl (S : Int → Int) (p : Int) : Int := fst1 (nlP S (S (74 + 6 * p + 2))) (S 2).toNat 0
def helpB (S : Int → Int) (i p : Int) : Bool := decide (i ≠ p) && (decide (¬ 0 < S (74 + 6 * i + 3)) && (decide (0 < S (74 + 6 * p + 3)) && nearB S (S (74 + 6 * i)) (S (74 + 6 * p))))
/-- freed by those of a set -/
def nearS (S : Int → Int) (i set : Int) : Bool := any1 (fun j => tb set j.toNat && nearB S (S (74 + 6 * j)) (S (74 + 6 * i))) (S 3).toNat 0
def fr1 (S : Int → Int) : Nat → Int → Int → Int
  | 0, _, set => set
  | n + 1, i, set => fr1 S n (i + 1) (if nearS S i set then mm_ior set (mm_ishl 1 i) else set)
def fr2 (S : Int → Int) : Nat → Int → Int
  | 0, set => set
  | n + 1, set => fr2 S n (fr1 S (S 3).toNat 0 set)
theorem irem_eq {a b : Int} (ha : 0 ≤ a) (hb : 0 < b) (hb1 : b < 2147483648) : mm_irem a b = a % b := by
  have h1 := Int.emod_nonneg a (show b ≠ 0 by omega)
  have h2 := Int.emod_lt_of_pos a hb
  unfold mm_irem
  rw [Int.tmod_eq_emod_of_nonneg ha]
  exact w32_eq (by omega) (by omega)
theorem idiv_eq {a b : Int} (ha : 0 ≤ a) (ha1 : a < 2147483648) (hb : 0 < b) : mm_idiv a b = a / b := by
  have h1 := Int.ediv_nonneg ha (show 0 ≤ b by omega)
  have h2 : a / b ≤ a := Int.ediv_le_self b ha
  unfold mm_idiv
  rw [Int.tdiv_eq_ediv_of_nonneg ha]
  exact w32_eq (by omega) (by omega)
theorem ct_r {S : Int → Int} (hw : WF S) {p c w : Int} (p0 : 0 ≤ p) (p1 : p < S 3) (c0 : 0 ≤ c) (c1 : c < 25) (w0 : 0 ≤ w) (w1 : w ≤ 9) : 0 ≤ ct S p c w ∧ ct S p c w ≤ 18 := by
  have h1 := wf_c hw c0 c1
  have h2 := wf_p hw p0 p1
  have h3 := pc_r h2.2.2.2.2.1 h2.2.2.2.2.2.1
  unfold ct
  split
  · omega
  · split <;> omega
theorem c_cells {s : mS} {S N : Int → Int} (h : CS s 7 S N) (hw : WF S) (Z : mX) (f : Int → mW → mO) : mm_kI (mm_run (zP Z) 48 [.inr (.inr (some 7))] (mk s)) f = f (ncl S) (mk s) := by
  rw [B_X5_cells]
  simp (disch := first | assumption | omega) only [↓sm, ↓reduceIte, ↓if_pos, ↓if_neg, kI, kJ, kR, kV, w32_eq, w64_eq, reduceCtorEq, Int.reduceAdd, Int.reduceMul, Int.reduceSub, ↓q_wide h, ↓q_high h, w_ncl hw]
theorem c_hasCell_t {s : mS} {S N : Int → Int} (h : CS s 7 S N) (hw : WF S) (Z : mX) (c : Int) (h0 : 0 ≤ c) (h1 : c < ncl S) (f : Int → mW → mO) : mm_kI (mm_run (zP Z) 49 [.inr (.inr (some 7)), .inl c] (mk s)) f = f 1 (mk s) := by
  rw [B_X5_hasCell]
  simp (disch := first | assumption | omega) only [↓sm, ↓reduceIte, ↓if_pos, ↓if_neg, kI, kJ, kR, kV, w32_eq, w64_eq, reduceCtorEq, Int.reduceAdd, Int.reduceMul, Int.reduceSub, ↓q_wide h, ↓q_high h, w_ncl hw]
theorem c_hasCell_f {s : mS} {S N : Int → Int} (h : CS s 7 S N) (hw : WF S) (Z : mX) (c : Int) (hn : ¬ (0 ≤ c ∧ c < ncl S)) (f : Int → mW → mO) : mm_kI (mm_run (zP Z) 49 [.inr (.inr (some 7)), .inl c] (mk s)) f = f 0 (mk s) := by
  rw [B_X5_hasCell]
  by_cases h0 : c < 0
  · simp (disch := first | assumption | omega) only [↓sm, ↓reduceIte, ↓if_pos, ↓if_neg, kI, kJ, kR, kV, w32_eq, w64_eq, reduceCtorEq, Int.reduceAdd, Int.reduceMul, Int.reduceSub, ↓q_wide h, ↓q_high h, w_ncl hw]
  · simp (disch := first | assumption | omega) only [↓sm, ↓reduceIte, ↓if_pos, ↓if_neg, kI, kJ, kR, kV, w32_eq, w64_eq, reduceCtorEq, Int.reduceAdd, Int.reduceMul, Int.reduceSub, ↓q_wide h, ↓q_high h, w_ncl hw]
theorem c_hasLesson_t {s : mS} {S N : Int → Int} (h : CS s 7 S N) (hw : WF S) (Z : mX) (c : Int) (h0 : 0 ≤ c) (h1 : c < S 2) (f : Int → mW → mO) : mm_kI (mm_run (zP Z) 51 [.inr (.inr (some 7)), .inl c] (mk s)) f = f 1 (mk s) := by
  rw [B_X5_hasLesson]
  simp (disch := first | assumption | omega) only [↓sm, ↓reduceIte, ↓if_pos, ↓if_neg, kI, kJ, kR, kV, w32_eq, w64_eq, reduceCtorEq, Int.reduceAdd, Int.reduceMul, Int.reduceSub, ↓q_less h]
theorem c_hasLesson_f {s : mS} {S N : Int → Int} (h : CS s 7 S N) (hw : WF S) (Z : mX) (c : Int) (hn : ¬ (0 ≤ c ∧ c < S 2)) (f : Int → mW → mO) : mm_kI (mm_run (zP Z) 51 [.inr (.inr (some 7)), .inl c] (mk s)) f = f 0 (mk s) := by
  rw [B_X5_hasLesson]
  by_cases h0 : c < 0
  · simp (disch := first | assumption | omega) only [↓sm, ↓reduceIte, ↓if_pos, ↓if_neg, kI, kJ, kR, kV, w32_eq, w64_eq, reduceCtorEq, Int.reduceAdd, Int.reduceMul, Int.reduceSub, ↓q_less h]
  · simp (disch := first | assumption | omega) only [↓sm, ↓reduceIte, ↓if_pos, ↓if_neg, kI, kJ, kR, kV, w32_eq, w64_eq, reduceCtorEq, Int.reduceAdd, Int.reduceMul, Int.reduceSub, ↓q_less h]
theorem c_hasPupil_t {s : mS} {S N : Int → Int} (h : CS s 7 S N) (hw : WF S) (Z : mX) (c : Int) (h0 : 0 ≤ c) (h1 : c < S 3) (f : Int → mW → mO) : mm_kI (mm_run (zP Z) 52 [.inr (.inr (some 7)), .inl c] (mk s)) f = f 1 (mk s) := by
  rw [B_X5_hasPupil]
  simp (disch := first | assumption | omega) only [↓sm, ↓reduceIte, ↓if_pos, ↓if_neg, kI, kJ, kR, kV, w32_eq, w64_eq, reduceCtorEq, Int.reduceAdd, Int.reduceMul, Int.reduceSub, ↓q_pups h]
theorem c_hasPupil_f {s : mS} {S N : Int → Int} (h : CS s 7 S N) (hw : WF S) (Z : mX) (c : Int) (hn : ¬ (0 ≤ c ∧ c < S 3)) (f : Int → mW → mO) : mm_kI (mm_run (zP Z) 52 [.inr (.inr (some 7)), .inl c] (mk s)) f = f 0 (mk s) := by
  rw [B_X5_hasPupil]
  by_cases h0 : c < 0
  · simp (disch := first | assumption | omega) only [↓sm, ↓reduceIte, ↓if_pos, ↓if_neg, kI, kJ, kR, kV, w32_eq, w64_eq, reduceCtorEq, Int.reduceAdd, Int.reduceMul, Int.reduceSub, ↓q_pups h]
  · simp (disch := first | assumption | omega) only [↓sm, ↓reduceIte, ↓if_pos, ↓if_neg, kI, kJ, kR, kV, w32_eq, w64_eq, reduceCtorEq, Int.reduceAdd, Int.reduceMul, Int.reduceSub, ↓q_pups h]
theorem lcmp0 (a b : Int) : (mm_lcmp a b = 0) = (a = b) := by
  unfold mm_lcmp
  apply propext
  split
  · omega
  · split <;> omega
theorem lcmpl (a b : Int) : (mm_lcmp a b < 0) = (a < b) := by
  unfold mm_lcmp
  apply propext
  split
  · omega
  · split <;> omega
theorem lcmpg (a b : Int) : (0 < mm_lcmp a b) = (b < a) := by
  unfold mm_lcmp
  apply propext
  split
  · omega
  · split <;> omega
theorem c_isCellNumber_t {s : mS} {S N : Int → Int} (h : CS s 7 S N) (hw : WF S) (Z : mX) (c : Int) (h0 : 0 ≤ c) (h1 : c < ncl S) (f : Int → mW → mO) : mm_kI (mm_run (zP Z) 50 [.inr (.inr (some 7)), .inr (.inl c)] (mk s)) f = f 1 (mk s) := by
  rw [B_X5_isCellNumber]
  simp (disch := first | assumption | omega) only [↓sm, ↓reduceIte, ↓if_pos, ↓if_neg, kI, kJ, kR, kV, w32_eq, w64_eq, reduceCtorEq, Int.reduceAdd, Int.reduceMul, Int.reduceSub, lcmpl, o_c7, ↓c_cells h hw Z]
theorem c_isCellNumber_f {s : mS} {S N : Int → Int} (h : CS s 7 S N) (hw : WF S) (Z : mX) (c : Int) (hn : ¬ (0 ≤ c ∧ c < ncl S)) (f : Int → mW → mO) : mm_kI (mm_run (zP Z) 50 [.inr (.inr (some 7)), .inr (.inl c)] (mk s)) f = f 0 (mk s) := by
  rw [B_X5_isCellNumber]
  by_cases h0 : c < 0
  · simp (disch := first | assumption | omega) only [↓sm, ↓reduceIte, ↓if_pos, ↓if_neg, kI, kJ, kR, kV, w32_eq, w64_eq, reduceCtorEq, Int.reduceAdd, Int.reduceMul, Int.reduceSub, lcmpl]
  · simp (disch := first | assumption | omega) only [↓sm, ↓reduceIte, ↓if_pos, ↓if_neg, kI, kJ, kR, kV, w32_eq, w64_eq, reduceCtorEq, Int.reduceAdd, Int.reduceMul, Int.reduceSub, lcmpl, o_c7, ↓c_cells h hw Z]
theorem c_beside {s : mS} {S N : Int → Int} (h : CS s 7 S N) (hw : WF S) (Z : mX) (c k : Int) (h0 : 0 ≤ c) (h1 : c < ncl S) (k0 : 0 ≤ k) (k1 : k ≤ 3) (f : Int → mW → mO) : mm_kI (mm_run (zP Z) 57 [.inr (.inr (some 7)), .inl c, .inl k] (mk s)) f = f (sd S c k) (mk s) := by
  have w := wf0 hw
  have n := wf_n hw
  rw [B_X5_beside]
  unfold sd
  have hk : k = 0 ∨ k = 1 ∨ k = 2 ∨ k = 3 := by omega
  rcases hk with rfl | rfl | rfl | rfl
  · by_cases hc : 0 < c % S 0
    · simp (disch := first | assumption | omega) only [↓sm, ↓reduceIte, ↓if_pos, ↓if_neg, kI, kJ, kR, kV, w32_eq, w64_eq, reduceCtorEq, Int.reduceAdd, Int.reduceMul, Int.reduceSub, o_c7, ↓c_hasCell_t h hw Z, ↓q_wide h, irem_eq]
    · simp (disch := first | assumption | omega) only [↓sm, ↓reduceIte, ↓if_pos, ↓if_neg, kI, kJ, kR, kV, w32_eq, w64_eq, reduceCtorEq, Int.reduceAdd, Int.reduceMul, Int.reduceSub, o_c7, ↓c_hasCell_t h hw Z, ↓q_wide h, irem_eq]
  · by_cases hc : c % S 0 < S 0 - 1
    · simp (disch := first | assumption | omega) only [↓sm, ↓reduceIte, ↓if_pos, ↓if_neg, kI, kJ, kR, kV, w32_eq, w64_eq, reduceCtorEq, Int.reduceAdd, Int.reduceMul, Int.reduceSub, o_c7, ↓c_hasCell_t h hw Z, ↓q_wide h, irem_eq]
    · simp (disch := first | assumption | omega) only [↓sm, ↓reduceIte, ↓if_pos, ↓if_neg, kI, kJ, kR, kV, w32_eq, w64_eq, reduceCtorEq, Int.reduceAdd, Int.reduceMul, Int.reduceSub, o_c7, ↓c_hasCell_t h hw Z, ↓q_wide h, irem_eq]
  · by_cases hc : c < S 0
    · simp (disch := first | assumption | omega) only [↓sm, ↓reduceIte, ↓if_pos, ↓if_neg, kI, kJ, kR, kV, w32_eq, w64_eq, reduceCtorEq, Int.reduceAdd, Int.reduceMul, Int.reduceSub, o_c7, ↓c_hasCell_t h hw Z, ↓q_wide h, irem_eq]
    · simp (disch := first | assumption | omega) only [↓sm, ↓reduceIte, ↓if_pos, ↓if_neg, kI, kJ, kR, kV, w32_eq, w64_eq, reduceCtorEq, Int.reduceAdd, Int.reduceMul, Int.reduceSub, o_c7, ↓c_hasCell_t h hw Z, ↓q_wide h, irem_eq]
  · by_cases hc : c + S 0 < ncl S
    · simp (disch := first | assumption | omega) only [↓sm, ↓reduceIte, ↓if_pos, ↓if_neg, kI, kJ, kR, kV, w32_eq, w64_eq, reduceCtorEq, Int.reduceAdd, Int.reduceMul, Int.reduceSub, o_c7, ↓c_hasCell_t h hw Z, ↓q_wide h, irem_eq, ↓c_cells h hw Z]
    · simp (disch := first | assumption | omega) only [↓sm, ↓reduceIte, ↓if_pos, ↓if_neg, kI, kJ, kR, kV, w32_eq, w64_eq, reduceCtorEq, Int.reduceAdd, Int.reduceMul, Int.reduceSub, o_c7, ↓c_hasCell_t h hw Z, ↓q_wide h, irem_eq, ↓c_cells h hw Z]
theorem c_touch {s : mS} {S N : Int → Int} (h : CS s 7 S N) (hw : WF S) (Z : mX) (p : Int) (p0 : 0 ≤ p) (p1 : p < S 3) (f : Int → mW → mO) : mm_kI (mm_run (zP Z) 61 [.inr (.inr (some 7)), .inl p] (mk s)) f = f (pc (S (74 + 6 * p + 2))) (mk s) := by
  have w := wf_p hw p0 p1
  rw [B_X5_touch]
  simp (disch := first | assumption | omega) only [↓sm, ↓reduceIte, ↓if_pos, ↓if_neg, kI, kJ, kR, kV, w32_eq, w64_eq, reduceCtorEq, Int.reduceAdd, Int.reduceMul, Int.reduceSub, o_c7, ↓o_g7_4, ↓o_g7_5, ↓o_g7_7, ↓o_g7_8, ↓o_g7_9, ↓o_g7_11, ↓o_g7_12, ↓o_g7_13, ↓o_g7_14, ↓o_g7_15, ↓o_g7_16, ↓o_g7_17, ↓q_wide h, ↓q_high h, ↓q_odds h, ↓q_year h, ↓q_less h, ↓q_pups h, ↓q_thorns h Z, ↓q_berries h Z, ↓q_hours h hw Z, ↓q_needs h hw Z, ↓q_at h hw Z, ↓q_want h hw Z, ↓q_knows h hw Z, ↓q_caught h hw Z, ↓q_marks h hw Z, ↓q_torn h hw Z, ↓k_bitCount]
theorem c_catchOf {s : mS} {S N : Int → Int} (h : CS s 7 S N) (hw : WF S) (Z : mX) (p c w : Int) (p0 : 0 ≤ p) (p1 : p < S 3) (c0 : 0 ≤ c) (c1 : c < 25) (w0 : 0 ≤ w) (w1 : w ≤ 9) (f : Int → mW → mO) : mm_kI (mm_run (zP Z) 62 [.inr (.inr (some 7)), .inl p, .inl c, .inl w] (mk s)) f = f (ct S p c w) (mk s) := by
  have h1 := wf_c hw c0 c1
  have h2 := wf_p hw p0 p1
  have h3 := pc_r h2.2.2.2.2.1 h2.2.2.2.2.2.1
  rw [B_X5_catchOf]
  unfold ct
  by_cases hz : S (10 + c) = 0
  · simp (disch := first | assumption | omega) only [↓sm, ↓reduceIte, ↓if_pos, ↓if_neg, kI, kJ, kR, kV, w32_eq, w64_eq, reduceCtorEq, Int.reduceAdd, Int.reduceMul, Int.reduceSub, o_c7, ↓o_g7_4, ↓o_g7_5, ↓o_g7_7, ↓o_g7_8, ↓o_g7_9, ↓o_g7_11, ↓o_g7_12, ↓o_g7_13, ↓o_g7_14, ↓o_g7_15, ↓o_g7_16, ↓o_g7_17, ↓q_wide h, ↓q_high h, ↓q_odds h, ↓q_year h, ↓q_less h, ↓q_pups h, ↓q_thorns h Z, ↓q_berries h Z, ↓q_hours h hw Z, ↓q_needs h hw Z, ↓q_at h hw Z, ↓q_want h hw Z, ↓q_knows h hw Z, ↓q_caught h hw Z, ↓q_marks h hw Z, ↓q_torn h hw Z, ↓k_bitCount, hz]
  · simp (disch := first | assumption | omega) only [↓sm, ↓reduceIte, ↓if_pos, ↓if_neg, kI, kJ, kR, kV, w32_eq, w64_eq, reduceCtorEq, Int.reduceAdd, Int.reduceMul, Int.reduceSub, o_c7, ↓o_g7_4, ↓o_g7_5, ↓o_g7_7, ↓o_g7_8, ↓o_g7_9, ↓o_g7_11, ↓o_g7_12, ↓o_g7_13, ↓o_g7_14, ↓o_g7_15, ↓o_g7_16, ↓o_g7_17, ↓q_wide h, ↓q_high h, ↓q_odds h, ↓q_year h, ↓q_less h, ↓q_pups h, ↓q_thorns h Z, ↓q_berries h Z, ↓q_hours h hw Z, ↓q_needs h hw Z, ↓q_at h hw Z, ↓q_want h hw Z, ↓q_knows h hw Z, ↓q_caught h hw Z, ↓q_marks h hw Z, ↓q_torn h hw Z, ↓k_bitCount, hz]
theorem c_isCaught_t {s : mS} {S N : Int → Int} (h : CS s 7 S N) (hw : WF S) (Z : mX) (p : Int) (p0 : 0 ≤ p) (p1 : p < S 3) (hc : 0 < S (74 + 6 * p + 3)) (f : Int → mW → mO) : mm_kI (mm_run (zP Z) 64 [.inr (.inr (some 7)), .inl p] (mk s)) f = f 1 (mk s) := by
  rw [B_X5_isCaught]
  simp (disch := first | assumption | omega) only [↓sm, ↓reduceIte, ↓if_pos, ↓if_neg, kI, kJ, kR, kV, w32_eq, w64_eq, reduceCtorEq, Int.reduceAdd, Int.reduceMul, Int.reduceSub, o_c7, ↓o_g7_4, ↓o_g7_5, ↓o_g7_7, ↓o_g7_8, ↓o_g7_9, ↓o_g7_11, ↓o_g7_12, ↓o_g7_13, ↓o_g7_14, ↓o_g7_15, ↓o_g7_16, ↓o_g7_17, ↓q_wide h, ↓q_high h, ↓q_odds h, ↓q_year h, ↓q_less h, ↓q_pups h, ↓q_thorns h Z, ↓q_berries h Z, ↓q_hours h hw Z, ↓q_needs h hw Z, ↓q_at h hw Z, ↓q_want h hw Z, ↓q_knows h hw Z, ↓q_caught h hw Z, ↓q_marks h hw Z, ↓q_torn h hw Z]
theorem c_isCaught_f {s : mS} {S N : Int → Int} (h : CS s 7 S N) (hw : WF S) (Z : mX) (p : Int) (p0 : 0 ≤ p) (p1 : p < S 3) (hc : ¬ 0 < S (74 + 6 * p + 3)) (f : Int → mW → mO) : mm_kI (mm_run (zP Z) 64 [.inr (.inr (some 7)), .inl p] (mk s)) f = f 0 (mk s) := by
  rw [B_X5_isCaught]
  simp (disch := first | assumption | omega) only [↓sm, ↓reduceIte, ↓if_pos, ↓if_neg, kI, kJ, kR, kV, w32_eq, w64_eq, reduceCtorEq, Int.reduceAdd, Int.reduceMul, Int.reduceSub, o_c7, ↓o_g7_4, ↓o_g7_5, ↓o_g7_7, ↓o_g7_8, ↓o_g7_9, ↓o_g7_11, ↓o_g7_12, ↓o_g7_13, ↓o_g7_14, ↓o_g7_15, ↓o_g7_16, ↓o_g7_17, ↓q_wide h, ↓q_high h, ↓q_odds h, ↓q_year h, ↓q_less h, ↓q_pups h, ↓q_thorns h Z, ↓q_berries h Z, ↓q_hours h hw Z, ↓q_needs h hw Z, ↓q_at h hw Z, ↓q_want h hw Z, ↓q_knows h hw Z, ↓q_caught h hw Z, ↓q_marks h hw Z, ↓q_torn h hw Z]
/-- the cells that are clear -/
def clr (S : Int → Int) (p w : Int) : Int := bz (fun c => decide (ct S p c w = 0)) (ncl S)
theorem lp_clearSet {s : mS} {S N : Int → Int} (h : CS s 7 S N) (hw : WF S) (Z : mX) (p w : Int) (p0 : 0 ≤ p) (p1 : p < S 3) (w0 : 0 ≤ w) (w1 : w ≤ 9) : ∀ i : Int, i ≤ ncl S → 0 ≤ i → mm_at (zP Z) 63 4 [some (.inr (.inr (some 7))), some (.inl p), some (.inl w), some (.inl ((bz (fun c => decide (ct S p c w = 0)) i))), some (.inl i)] [] (mk s) = some (some (.inl (clr S p w)), mk s) := by
  have n := wf_n hw
  refine up ?_ ?_
  · intro h0
    rw [B_X5_clearSet_4]
    simp (disch := first | assumption | omega) only [↓sm, ↓reduceIte, ↓if_pos, ↓if_neg, kI, kJ, kR, kV, w32_eq, w64_eq, reduceCtorEq, Int.reduceAdd, Int.reduceMul, Int.reduceSub, o_c7, ↓c_cells h hw Z]
    rfl
  · intro i hi ih h0
    rw [B_X5_clearSet_4]
    by_cases hz : ct S p i w = 0
    · have e := bz_or1 (fun c => decide (ct S p c w = 0)) h0 (by omega) (by simpa using hz)
      simp (disch := first | assumption | omega) only [↓sm, ↓reduceIte, ↓if_pos, ↓if_neg, kI, kJ, kR, kV, w32_eq, w64_eq, reduceCtorEq, Int.reduceAdd, Int.reduceMul, Int.reduceSub, o_c7, ↓c_cells h hw Z, ↓c_catchOf h hw Z, hz, ↓k_bit, e]
      exact ih (by omega)
    · have e := bz_or0 (fun c => decide (ct S p c w = 0)) h0 (by simpa using hz)
      simp (disch := first | assumption | omega) only [↓sm, ↓reduceIte, ↓if_pos, ↓if_neg, kI, kJ, kR, kV, w32_eq, w64_eq, reduceCtorEq, Int.reduceAdd, Int.reduceMul, Int.reduceSub, o_c7, ↓c_cells h hw Z, ↓c_catchOf h hw Z, hz, ← e]
      exact ih (by omega)
theorem c_clearSet {s : mS} {S N : Int → Int} (h : CS s 7 S N) (hw : WF S) (Z : mX) (p w : Int) (p0 : 0 ≤ p) (p1 : p < S 3) (w0 : 0 ≤ w) (w1 : w ≤ 9) (f : Int → mW → mO) : mm_kI (mm_run (zP Z) 63 [.inr (.inr (some 7)), .inl p, .inl w] (mk s)) f = f (clr S p w) (mk s) := by
  have n := wf_n hw
  have e := lp_clearSet h hw Z p w p0 p1 w0 w1 0 (by omega) (by omega)
  rw [bz_0] at e
  rw [B_X5_clearSet, e, kI]
