/-! what a school is: S the reference's memory (0 wide, 1 high, 2 lessons, 3 pupils, 4 odds, 5 year, 10 thorns, 35 berries, 60 + 2k hours and needs, 74 + 6p a pupil), N its names -/
def ncl (S : Int → Int) : Int := S 0 * S 1
def WF (S : Int → Int) : Prop :=
  (1 ≤ S 0 ∧ S 0 ≤ 5 ∧ 1 ≤ S 1 ∧ S 1 ≤ 5 ∧ 0 ≤ S 2 ∧ S 2 ≤ 7 ∧ 0 ≤ S 3 ∧ S 3 ≤ 5 ∧ 0 ≤ S 4 ∧ S 4 ≤ 16 ∧ 0 ≤ S 5 ∧ S 5 ≤ 9999) ∧
  (∀ c, 0 ≤ c → c < 25 → 0 ≤ S (10 + c) ∧ S (10 + c) ≤ 9 ∧ 0 ≤ S (35 + c) ∧ S (35 + c) ≤ 9 ∧ (ncl S ≤ c → S (10 + c) = 0 ∧ S (35 + c) = 0)) ∧
  (∀ k, 0 ≤ k → k < S 2 → 1 ≤ S (60 + 2 * k) ∧ S (60 + 2 * k) ≤ 9 ∧ 0 ≤ S (61 + 2 * k) ∧ S (61 + 2 * k) < 2 ^ k.toNat) ∧
  (∀ p, 0 ≤ p → p < S 3 → 0 ≤ S (74 + 6 * p) ∧ S (74 + 6 * p) < ncl S ∧ 0 ≤ S (75 + 6 * p) ∧ S (75 + 6 * p) ≤ 9 ∧ 0 ≤ S (76 + 6 * p) ∧ S (76 + 6 * p) < 128 ∧
    0 ≤ S (77 + 6 * p) ∧ S (77 + 6 * p) ≤ 18 ∧ 0 ≤ S (78 + 6 * p) ∧ S (78 + 6 * p) ≤ 9999 ∧ 0 ≤ S (79 + 6 * p) ∧ S (79 + 6 * p) ≤ 9999)
/-- the school object o of the class holds it -/
def CS (s : mS) (o : Nat) (S N : Int → Int) : Prop :=
  (s.1 o 0 = S 0 ∧ s.1 o 1 = S 1 ∧ s.1 o 2 = S 4 ∧ s.1 o 3 = S 5 ∧ s.1 o 6 = S 2 ∧ s.1 o 10 = S 3) ∧
  (∀ c, 0 ≤ c → c < 25 → s.2 (o + 1) c = S (10 + c) ∧ s.2 (o + 2) c = S (35 + c)) ∧
  (∀ k, 0 ≤ k → k < S 2 → s.2 (o + 3) k = S (60 + 2 * k) ∧ s.2 (o + 4) k = S (61 + 2 * k) ∧ s.2 (o + 5) k = N k) ∧
  (∀ p, 0 ≤ p → p < S 3 → s.2 (o + 6) p = S (74 + 6 * p) ∧ s.2 (o + 7) p = S (75 + 6 * p) ∧ s.2 (o + 8) p = S (76 + 6 * p) ∧ s.2 (o + 9) p = S (77 + 6 * p) ∧
    s.2 (o + 10) p = S (78 + 6 * p) ∧ s.2 (o + 11) p = S (79 + 6 * p) ∧ s.2 (o + 12) p = N (7 + p)) ∧
  (∀ p, S 3 ≤ p → p < 5 → s.2 (o + 10) p = 0 ∧ s.2 (o + 11) p = 0)
theorem wf_w {S : Int → Int} (h : WF S) : 1 ≤ S 0 ∧ S 0 ≤ 5 := by have := h.1; omega
theorem wf_n {S : Int → Int} (h : WF S) : 1 ≤ ncl S ∧ ncl S ≤ 25 := by
  obtain ⟨⟨h1, h2, h3, h4, -⟩, -⟩ := h
  have key : ∀ a : Nat, a < 6 → ∀ b : Nat, b < 6 → 1 ≤ a → 1 ≤ b → 1 ≤ (a : Int) * b ∧ (a : Int) * b ≤ 25 := by decide
  have := key (S 0).toNat (by omega) (S 1).toNat (by omega) (by omega) (by omega)
  rw [Int.toNat_of_nonneg (by omega), Int.toNat_of_nonneg (by omega)] at this
  exact this
/-! read of the school that is played (object 7) -/
section
variable {s : mS} {S N : Int → Int} (h : CS s 7 S N)
theorem q_wide (f : Int → mO) : (mm_gI (mk s) 7 5 0).bind f = f (S 0) := by rw [o_g7_0, h.1.1]
theorem q_high (f : Int → mO) : (mm_gI (mk s) 7 5 1).bind f = f (S 1) := by rw [o_g7_1, h.1.2.1]
theorem q_odds (f : Int → mO) : (mm_gI (mk s) 7 5 2).bind f = f (S 4) := by rw [o_g7_2, h.1.2.2.1]
theorem q_year (f : Int → mO) : (mm_gI (mk s) 7 5 3).bind f = f (S 5) := by rw [o_g7_3, h.1.2.2.2.1]
theorem q_less (f : Int → mO) : (mm_gI (mk s) 7 5 6).bind f = f (S 2) := by rw [o_g7_6, h.1.2.2.2.2.1]
theorem q_pups (f : Int → mO) : (mm_gI (mk s) 7 5 10).bind f = f (S 3) := by rw [o_g7_10, h.1.2.2.2.2.2]
theorem q_thorns (Z : mX) (c : Int) (h0 : 0 ≤ c) (h1 : c < 25) (f : Int → mW → mO) : mm_kI (mm_run (zP Z) 199 [.inr (.inr (some 8)), .inl c] (mk s)) f = f (S (10 + c)) (mk s) := by rw [g_8 Z s c h0 h1, (h.2.1 c h0 h1).1]
theorem q_berries (Z : mX) (c : Int) (h0 : 0 ≤ c) (h1 : c < 25) (f : Int → mW → mO) : mm_kI (mm_run (zP Z) 199 [.inr (.inr (some 9)), .inl c] (mk s)) f = f (S (35 + c)) (mk s) := by rw [g_9 Z s c h0 h1, (h.2.1 c h0 h1).2]
theorem q_hours (hw : WF S) (Z : mX) (c : Int) (h0 : 0 ≤ c) (h1 : c < S 2) (f : Int → mW → mO) : mm_kI (mm_run (zP Z) 199 [.inr (.inr (some 10)), .inl c] (mk s)) f = f (S (60 + 2 * c)) (mk s) := by
  have := hw.1
  rw [g_10 Z s c h0 (by omega), (h.2.2.1 c h0 h1).1]
theorem q_needs (hw : WF S) (Z : mX) (c : Int) (h0 : 0 ≤ c) (h1 : c < S 2) (f : Int → mW → mO) : mm_kI (mm_run (zP Z) 199 [.inr (.inr (some 11)), .inl c] (mk s)) f = f (S (61 + 2 * c)) (mk s) := by
  have := hw.1
  rw [g_11 Z s c h0 (by omega), (h.2.2.1 c h0 h1).2.1]
theorem q_at (hw : WF S) (Z : mX) (p : Int) (h0 : 0 ≤ p) (h1 : p < S 3) (f : Int → mW → mO) : mm_kI (mm_run (zP Z) 199 [.inr (.inr (some 13)), .inl p] (mk s)) f = f (S (74 + 6 * p)) (mk s) := by
  have := hw.1
  rw [g_13 Z s p h0 (by omega), (h.2.2.2.1 p h0 h1).1]
theorem q_want (hw : WF S) (Z : mX) (p : Int) (h0 : 0 ≤ p) (h1 : p < S 3) (f : Int → mW → mO) : mm_kI (mm_run (zP Z) 199 [.inr (.inr (some 14)), .inl p] (mk s)) f = f (S (75 + 6 * p)) (mk s) := by
  have := hw.1
  rw [g_14 Z s p h0 (by omega), (h.2.2.2.1 p h0 h1).2.1]
theorem q_knows (hw : WF S) (Z : mX) (p : Int) (h0 : 0 ≤ p) (h1 : p < S 3) (f : Int → mW → mO) : mm_kI (mm_run (zP Z) 199 [.inr (.inr (some 15)), .inl p] (mk s)) f = f (S (76 + 6 * p)) (mk s) := by
  have := hw.1
  rw [g_15 Z s p h0 (by omega), (h.2.2.2.1 p h0 h1).2.2.1]
theorem q_caught (hw : WF S) (Z : mX) (p : Int) (h0 : 0 ≤ p) (h1 : p < S 3) (f : Int → mW → mO) : mm_kI (mm_run (zP Z) 199 [.inr (.inr (some 16)), .inl p] (mk s)) f = f (S (77 + 6 * p)) (mk s) := by
  have := hw.1
  rw [g_16 Z s p h0 (by omega), (h.2.2.2.1 p h0 h1).2.2.2.1]
theorem q_marks (hw : WF S) (Z : mX) (p : Int) (h0 : 0 ≤ p) (h1 : p < S 3) (f : Int → mW → mO) : mm_kI (mm_run (zP Z) 199 [.inr (.inr (some 17)), .inl p] (mk s)) f = f (S (78 + 6 * p)) (mk s) := by
  have := hw.1
  rw [g_17 Z s p h0 (by omega), (h.2.2.2.1 p h0 h1).2.2.2.2.1]
theorem q_torn (hw : WF S) (Z : mX) (p : Int) (h0 : 0 ≤ p) (h1 : p < S 3) (f : Int → mW → mO) : mm_kI (mm_run (zP Z) 199 [.inr (.inr (some 18)), .inl p] (mk s)) f = f (S (79 + 6 * p)) (mk s) := by
  have := hw.1
  rw [g_18 Z s p h0 (by omega), (h.2.2.2.1 p h0 h1).2.2.2.2.2.1]
end
/-! how many bits -/
def pc (x : Int) : Int := (((List.range 10).filter fun i => tb x i).length : Nat)
def bcI (a0 : Int) : Int :=
  let a := mm_w32 (a0 - mm_iand (mm_iushr a0 1) 1431655765)
  let b := mm_w32 (mm_iand a 858993459 + mm_iand (mm_iushr a 2) 858993459)
  let c := mm_iand (mm_w32 (b + mm_iushr b 4)) 252645135
  let d := mm_w32 (c + mm_iushr c 8)
  mm_iand (mm_w32 (d + mm_iushr d 16)) 63
theorem bc_pc : ∀ x : Nat, x < 1024 → bcI (x : Int) = pc (x : Int) := by decide +kernel
theorem pc_le : ∀ x : Nat, x < 128 → 0 ≤ pc (x : Int) ∧ pc (x : Int) ≤ 7 := by decide +kernel
theorem pc_le10 : ∀ x : Nat, x < 1024 → 0 ≤ pc (x : Int) ∧ pc (x : Int) ≤ 10 := by decide +kernel
theorem pc_dn : ∀ x : Nat, x < 127 → (mm_iand ((x : Int) + 1) (x : Int)) < (x : Int) + 1 ∧ 0 ≤ (mm_iand ((x : Int) + 1) (x : Int)) ∧ pc (mm_iand ((x : Int) + 1) (x : Int)) + 1 = pc ((x : Int) + 1) := by decide +kernel
theorem k_bitCount (Z : mX) (w : mW) (x : Int) (h0 : 0 ≤ x) (h1 : x < 1024) (f : Int → mW → mO) : mm_kI (mm_run (zP Z) 364 [.inl x] w) f = f (pc x) w := by
  have e := bc_pc x.toNat (by omega)
  rw [Int.toNat_of_nonneg h0] at e
  rw [B_J6_bitCount_0f7a4, kI, ← e]
  rfl
theorem lp_bits (Z : mX) (w : mW) : ∀ n : Nat, ∀ x c : Int, x.toNat = n → 0 ≤ x → x < 128 → 0 ≤ c → c ≤ 100 → mm_at (zP Z) 273 4 [none, some (.inl c), some (.inl x)] [] w = some (some (.inl (c + pc x)), w) := by
  intro n
  induction n using Nat.strongRecOn with
  | _ n ih =>
    intro x c hx h0 h1 hc hc1
    rw [B_X12_bits_4]
    by_cases hz : x = 0
    · subst hz
      simp (disch := first | assumption | omega) only [↓sm, ↓reduceIte, ↓if_pos, ↓if_neg, kI, kJ, kR, kV, w32_eq, w64_eq, reduceCtorEq]
      rw [show pc 0 = 0 from rfl, Int.add_zero]
    · have k := pc_dn (x.toNat - 1) (by omega)
      have e1 : ((x.toNat - 1 : Nat) : Int) + 1 = x := by omega
      have e2 : ((x.toNat - 1 : Nat) : Int) = x - 1 := by omega
      rw [e1, e2] at k
      have e3 : mm_w32 (x - 1) = x - 1 := w32_eq (by omega) (by omega)
      have e4 : mm_w32 (c + 1) = c + 1 := w32_eq (by omega) (by omega)
      rw [if_neg hz, e3, e4]
      by_cases h100 : c + 1 ≤ 100
      · rw [ih _ (by omega) _ _ rfl k.2.1 (by omega) (by omega) h100]
        rw [← k.2.2, Int.add_assoc, Int.add_comm 1]
      · sorry
