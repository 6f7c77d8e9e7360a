/-! what a school is: S the reference's memory (0 wide, 1 high, 2 lessons, 3 pupils, 4 odds, 5 year, 10 thorns, 35 berries, 60 + 2k hours and needs, 74 + 6p a pupil), N its names -/
def ncl (S : Int → Int) : Int := S 0 * S 1
def WF (S : Int → Int) : Prop :=
  (1 ≤ S 0 ∧ S 0 ≤ 5 ∧ 1 ≤ S 1 ∧ S 1 ≤ 5 ∧ 0 ≤ S 2 ∧ S 2 ≤ 7 ∧ 0 ≤ S 3 ∧ S 3 ≤ 5 ∧ 0 ≤ S 4 ∧ S 4 ≤ 16 ∧ 0 ≤ S 5 ∧ S 5 ≤ 9999) ∧
  (∀ c, 0 ≤ c → c < 25 → 0 ≤ S (10 + c) ∧ S (10 + c) ≤ 9 ∧ 0 ≤ S (35 + c) ∧ S (35 + c) ≤ 9 ∧ (ncl S ≤ c → S (10 + c) = 0 ∧ S (35 + c) = 0)) ∧
  (∀ k, 0 ≤ k → k < S 2 → 1 ≤ S (60 + 2 * k) ∧ S (60 + 2 * k) ≤ 9 ∧ 0 ≤ S (60 + 2 * k + 1) ∧ S (60 + 2 * k + 1) < 128 ∧ ∀ j : Nat, k ≤ j → tb (S (60 + 2 * k + 1)) j = false) ∧
  (∀ p, 0 ≤ p → p < S 3 → 0 ≤ S (74 + 6 * p) ∧ S (74 + 6 * p) < ncl S ∧ 0 ≤ S (74 + 6 * p + 1) ∧ S (74 + 6 * p + 1) ≤ 9 ∧ 0 ≤ S (74 + 6 * p + 2) ∧ S (74 + 6 * p + 2) < 128 ∧
    0 ≤ S (74 + 6 * p + 3) ∧ S (74 + 6 * p + 3) ≤ 18 ∧ 0 ≤ S (74 + 6 * p + 4) ∧ S (74 + 6 * p + 4) ≤ 9999 ∧ 0 ≤ S (74 + 6 * p + 5) ∧ S (74 + 6 * p + 5) ≤ 9999)
/-- the school object o of the class holds it -/
def CS (s : mS) (o : Nat) (S N : Int → Int) : Prop :=
  (s.1 o 0 = S 0 ∧ s.1 o 1 = S 1 ∧ s.1 o 2 = S 4 ∧ s.1 o 3 = S 5 ∧ s.1 o 6 = S 2 ∧ s.1 o 10 = S 3) ∧
  (∀ c, 0 ≤ c → c < 25 → s.2 (o + 1) c = S (10 + c) ∧ s.2 (o + 2) c = S (35 + c)) ∧
  (∀ k, 0 ≤ k → k < S 2 → s.2 (o + 3) k = S (60 + 2 * k) ∧ s.2 (o + 4) k = S (60 + 2 * k + 1) ∧ s.2 (o + 5) k = N k) ∧
  (∀ p, 0 ≤ p → p < S 3 → s.2 (o + 6) p = S (74 + 6 * p) ∧ s.2 (o + 7) p = S (74 + 6 * p + 1) ∧ s.2 (o + 8) p = S (74 + 6 * p + 2) ∧ s.2 (o + 9) p = S (74 + 6 * p + 3) ∧
    s.2 (o + 10) p = S (74 + 6 * p + 4) ∧ s.2 (o + 11) p = S (74 + 6 * p + 5) ∧ s.2 (o + 12) p = N (7 + p)) ∧
  (∀ p, S 3 ≤ p → p < 5 → s.2 (o + 10) p = 0 ∧ s.2 (o + 11) p = 0)
theorem wf0 {S : Int → Int} (h : WF S) : 1 ≤ S 0 ∧ S 0 ≤ 5 ∧ 1 ≤ S 1 ∧ S 1 ≤ 5 ∧ 0 ≤ S 2 ∧ S 2 ≤ 7 ∧ 0 ≤ S 3 ∧ S 3 ≤ 5 ∧ 0 ≤ S 4 ∧ S 4 ≤ 16 ∧ 0 ≤ S 5 ∧ S 5 ≤ 9999 := h.1
theorem wf_c {S : Int → Int} (h : WF S) {c : Int} (h0 : 0 ≤ c) (h1 : c < 25) : 0 ≤ S (10 + c) ∧ S (10 + c) ≤ 9 ∧ 0 ≤ S (35 + c) ∧ S (35 + c) ≤ 9 := by
  have := h.2.1 c h0 h1
  omega
theorem wf_l {S : Int → Int} (h : WF S) {k : Int} (h0 : 0 ≤ k) (h1 : k < S 2) : 1 ≤ S (60 + 2 * k) ∧ S (60 + 2 * k) ≤ 9 ∧ 0 ≤ S (60 + 2 * k + 1) ∧ S (60 + 2 * k + 1) < 128 := by
  have := h.2.2.1 k h0 h1
  omega
theorem wf_p {S : Int → Int} (h : WF S) {p : Int} (h0 : 0 ≤ p) (h1 : p < S 3) : 0 ≤ S (74 + 6 * p) ∧ S (74 + 6 * p) < ncl S ∧ 0 ≤ S (74 + 6 * p + 1) ∧ S (74 + 6 * p + 1) ≤ 9 ∧ 0 ≤ S (74 + 6 * p + 2) ∧ S (74 + 6 * p + 2) < 128 ∧
    0 ≤ S (74 + 6 * p + 3) ∧ S (74 + 6 * p + 3) ≤ 18 ∧ 0 ≤ S (74 + 6 * p + 4) ∧ S (74 + 6 * p + 4) ≤ 9999 ∧ 0 ≤ S (74 + 6 * p + 5) ∧ S (74 + 6 * p + 5) ≤ 9999 := h.2.2.2 p h0 h1
theorem wf_n {S : Int → Int} (h : WF S) : 1 ≤ ncl S ∧ ncl S ≤ 25 := by
  obtain ⟨⟨h1, h2, h3, h4, -⟩, -⟩ := h
  have key : ∀ a : Nat, a < 6 → ∀ b : Nat, b < 6 → 1 ≤ a → 1 ≤ b → 1 ≤ (a : Int) * b ∧ (a : Int) * b ≤ 25 := by decide
  have := key (S 0).toNat (by omega) (S 1).toNat (by omega) (by omega) (by omega)
  rw [Int.toNat_of_nonneg (by omega), Int.toNat_of_nonneg (by omega)] at this
  exact this
theorem w_ncl {S : Int → Int} (h : WF S) : mm_w32 (S 0 * S 1) = ncl S := by
  have := wf_n h
  unfold ncl at *
  exact w32_eq (by omega) (by omega)
/-! read of the school that is played (object 7) -/
theorem q_wide {s : mS} {S N : Int → Int} (h : CS s 7 S N) (f : Int → mO) : (mm_gI (mk s) 7 5 0).bind f = f (S 0) := by rw [o_g7_0, h.1.1]
theorem q_high {s : mS} {S N : Int → Int} (h : CS s 7 S N) (f : Int → mO) : (mm_gI (mk s) 7 5 1).bind f = f (S 1) := by rw [o_g7_1, h.1.2.1]
theorem q_odds {s : mS} {S N : Int → Int} (h : CS s 7 S N) (f : Int → mO) : (mm_gI (mk s) 7 5 2).bind f = f (S 4) := by rw [o_g7_2, h.1.2.2.1]
theorem q_year {s : mS} {S N : Int → Int} (h : CS s 7 S N) (f : Int → mO) : (mm_gI (mk s) 7 5 3).bind f = f (S 5) := by rw [o_g7_3, h.1.2.2.2.1]
theorem q_less {s : mS} {S N : Int → Int} (h : CS s 7 S N) (f : Int → mO) : (mm_gI (mk s) 7 5 6).bind f = f (S 2) := by rw [o_g7_6, h.1.2.2.2.2.1]
theorem q_pups {s : mS} {S N : Int → Int} (h : CS s 7 S N) (f : Int → mO) : (mm_gI (mk s) 7 5 10).bind f = f (S 3) := by rw [o_g7_10, h.1.2.2.2.2.2]
theorem q_thorns {s : mS} {S N : Int → Int} (h : CS s 7 S N) (Z : mX) (c : Int) (h0 : 0 ≤ c) (h1 : c < 25) (f : Int → mW → mO) : mm_kI (mm_run (zP Z) 199 [.inr (.inr (some 8)), .inl c] (mk s)) f = f (S (10 + c)) (mk s) := by rw [g_8 Z s c h0 h1, (h.2.1 c h0 h1).1]
theorem q_berries {s : mS} {S N : Int → Int} (h : CS s 7 S N) (Z : mX) (c : Int) (h0 : 0 ≤ c) (h1 : c < 25) (f : Int → mW → mO) : mm_kI (mm_run (zP Z) 199 [.inr (.inr (some 9)), .inl c] (mk s)) f = f (S (35 + c)) (mk s) := by rw [g_9 Z s c h0 h1, (h.2.1 c h0 h1).2]

theorem q_hours {s : mS} {S N : Int → Int} (h : CS s 7 S N) (hw : WF S) (Z : mX) (c : Int) (h0 : 0 ≤ c) (h1 : c < S 2) (f : Int → mW → mO) : mm_kI (mm_run (zP Z) 199 [.inr (.inr (some 10)), .inl c] (mk s)) f = f (S (60 + 2 * c)) (mk s) := by
  have := wf0 hw
  rw [g_10 Z s c h0 (by omega), (h.2.2.1 c h0 h1).1]
theorem q_needs {s : mS} {S N : Int → Int} (h : CS s 7 S N) (hw : WF S) (Z : mX) (c : Int) (h0 : 0 ≤ c) (h1 : c < S 2) (f : Int → mW → mO) : mm_kI (mm_run (zP Z) 199 [.inr (.inr (some 11)), .inl c] (mk s)) f = f (S (60 + 2 * c + 1)) (mk s) := by
  have := wf0 hw
  rw [g_11 Z s c h0 (by omega), (h.2.2.1 c h0 h1).2.1]
theorem q_at {s : mS} {S N : Int → Int} (h : CS s 7 S N) (hw : WF S) (Z : mX) (p : Int) (h0 : 0 ≤ p) (h1 : p < S 3) (f : Int → mW → mO) : mm_kI (mm_run (zP Z) 199 [.inr (.inr (some 13)), .inl p] (mk s)) f = f (S (74 + 6 * p)) (mk s) := by
  have := wf0 hw
  rw [g_13 Z s p h0 (by omega), (h.2.2.2.1 p h0 h1).1]
theorem q_want {s : mS} {S N : Int → Int} (h : CS s 7 S N) (hw : WF S) (Z : mX) (p : Int) (h0 : 0 ≤ p) (h1 : p < S 3) (f : Int → mW → mO) : mm_kI (mm_run (zP Z) 199 [.inr (.inr (some 14)), .inl p] (mk s)) f = f (S (74 + 6 * p + 1)) (mk s) := by
  have := wf0 hw
  rw [g_14 Z s p h0 (by omega), (h.2.2.2.1 p h0 h1).2.1]
theorem q_knows {s : mS} {S N : Int → Int} (h : CS s 7 S N) (hw : WF S) (Z : mX) (p : Int) (h0 : 0 ≤ p) (h1 : p < S 3) (f : Int → mW → mO) : mm_kI (mm_run (zP Z) 199 [.inr (.inr (some 15)), .inl p] (mk s)) f = f (S (74 + 6 * p + 2)) (mk s) := by
  have := wf0 hw
  rw [g_15 Z s p h0 (by omega), (h.2.2.2.1 p h0 h1).2.2.1]
theorem q_caught {s : mS} {S N : Int → Int} (h : CS s 7 S N) (hw : WF S) (Z : mX) (p : Int) (h0 : 0 ≤ p) (h1 : p < S 3) (f : Int → mW → mO) : mm_kI (mm_run (zP Z) 199 [.inr (.inr (some 16)), .inl p] (mk s)) f = f (S (74 + 6 * p + 3)) (mk s) := by
  have := wf0 hw
  rw [g_16 Z s p h0 (by omega), (h.2.2.2.1 p h0 h1).2.2.2.1]
theorem q_marks {s : mS} {S N : Int → Int} (h : CS s 7 S N) (hw : WF S) (Z : mX) (p : Int) (h0 : 0 ≤ p) (h1 : p < S 3) (f : Int → mW → mO) : mm_kI (mm_run (zP Z) 199 [.inr (.inr (some 17)), .inl p] (mk s)) f = f (S (74 + 6 * p + 4)) (mk s) := by
  have := wf0 hw
  rw [g_17 Z s p h0 (by omega), (h.2.2.2.1 p h0 h1).2.2.2.2.1]
theorem q_torn {s : mS} {S N : Int → Int} (h : CS s 7 S N) (hw : WF S) (Z : mX) (p : Int) (h0 : 0 ≤ p) (h1 : p < S 3) (f : Int → mW → mO) : mm_kI (mm_run (zP Z) 199 [.inr (.inr (some 18)), .inl p] (mk s)) f = f (S (74 + 6 * p + 5)) (mk s) := by
  have := wf0 hw
  rw [g_18 Z s p h0 (by omega), (h.2.2.2.1 p h0 h1).2.2.2.2.2.1]
/-! how many bits -/
def pc (x : Int) : Int := (((List.range 10).filter fun i => tb x i).length : Nat)
def bcI (a0 : Int) : Int :=
  let a := mm_w32 (a0 - mm_iand (mm_iushr a0 1) 1431655765)
  let b := mm_w32 (mm_iand a 858993459 + mm_iand (mm_iushr a 2) 858993459)
  let c := mm_iand (mm_w32 (b + mm_iushr b 4)) 252645135
  let d := mm_w32 (c + mm_iushr c 8)
  mm_iand (mm_w32 (d + mm_iushr d 16)) 63
theorem bc_pc : ∀ x : Nat, x < 1024 → bcI (x : Int) = pc (x : Int) := by decide +kernel
theorem pc_le : ∀ x : Nat, x < 128 → 0 ≤ pc (x : Int) ∧ pc (x : Int) ≤ 7 := by decide +kernel
theorem pc_le10 : ∀ x : Nat, x < 1024 → 0 ≤ pc (x : Int) ∧ pc (x : Int) ≤ 10 := by decide +kernel
theorem pc_dn : ∀ x : Nat, x < 127 → (mm_iand ((x : Int) + 1) (x : Int)) < (x : Int) + 1 ∧ 0 ≤ (mm_iand ((x : Int) + 1) (x : Int)) ∧ pc (mm_iand ((x : Int) + 1) (x : Int)) + 1 = pc ((x : Int) + 1) := by decide +kernel
theorem pc_r {x : Int} (h0 : 0 ≤ x) (h1 : x < 128) : 0 ≤ pc x ∧ pc x ≤ 7 := by
  have := pc_le x.toNat (by omega)
  rwa [Int.toNat_of_nonneg h0] at this
theorem pc_r10 {x : Int} (h0 : 0 ≤ x) (h1 : x < 1024) : 0 ≤ pc x ∧ pc x ≤ 10 := by
  have := pc_le10 x.toNat (by omega)
  rwa [Int.toNat_of_nonneg h0] at this
theorem k_bitCount (Z : mX) (w : mW) (x : Int) (h0 : 0 ≤ x) (h1 : x < 1024) (f : Int → mW → mO) : mm_kI (mm_run (zP Z) 364 [.inl x] w) f = f (pc x) w := by
  have e := bc_pc x.toNat (by omega)
  rw [Int.toNat_of_nonneg h0] at e
  rw [B_J6_bitCount_0f7a4, kI, ← e]
  rfl
theorem lp_bits (Z : mX) (w : mW) : ∀ n : Nat, ∀ x c : Int, x.toNat = n → 0 ≤ x → x < 128 → 0 ≤ c → c + pc x ≤ 100 → mm_at (zP Z) 273 4 [none, some (.inl c), some (.inl x)] [] w = some (some (.inl (c + pc x)), w) := by
  intro n
  induction n using Nat.strongRecOn with
  | _ n ih =>
    intro x c hx h0 h1 hc hc1
    rw [B_X12_bits_4]
    by_cases hz : x = 0
    · subst hz
      simp (disch := first | assumption | omega) only [↓sm, ↓reduceIte, ↓if_pos, ↓if_neg, kI, kJ, kR, kV, w32_eq, w64_eq, reduceCtorEq]
      rw [show pc 0 = 0 from rfl, Int.add_zero]
    · have k := pc_dn (x.toNat - 1) (by omega)
      have e1 : ((x.toNat - 1 : Nat) : Int) + 1 = x := by omega
      have e2 : ((x.toNat - 1 : Nat) : Int) = x - 1 := by omega
      rw [e1, e2] at k
      have r := pc_r k.2.1 (by omega)
      have e3 : mm_w32 (x - 1) = x - 1 := w32_eq (by omega) (by omega)
      have e4 : mm_w32 (c + 1) = c + 1 := w32_eq (by omega) (by omega)
      rw [if_neg hz, e3, e4]
      rw [ih _ (by omega) _ _ rfl k.2.1 (by omega) (by omega) (by omega)]
      rw [← k.2.2, Int.add_assoc, Int.add_comm 1]
theorem k_bits (Z : mX) (w : mW) (x : Int) (h0 : 0 ≤ x) (h1 : x < 128) (f : Int → mW → mO) : mm_kI (mm_run (zP Z) 273 [.inl x] w) f = f (pc x) w := by
  have r := pc_r h0 h1
  rw [B_X12_bits, lp_bits Z w x.toNat x 0 rfl h0 h1 (by omega) (by omega), kI, Int.zero_add]
/-! sets by loops -/
def bz (P : Int → Bool) (n : Int) : Int := bs (fun k => P (k : Int)) n.toNat
theorem bz_0 (P : Int → Bool) : bz P 0 = 0 := rfl
theorem bz_s (P : Int → Bool) {n : Int} (h : 0 ≤ n) : bz P (n + 1) = bz P n + (if P n then 2 ^ n.toNat else 0) := by
  unfold bz
  rw [show (n + 1).toNat = n.toNat + 1 by omega, bs_s, Int.toNat_of_nonneg h]
theorem bz_range (P : Int → Bool) (n : Int) : 0 ≤ bz P n ∧ bz P n < 2 ^ n.toNat := bs_range _ _
theorem tb_bz (P : Int → Bool) {n : Int} (h : n ≤ 31) (i : Nat) : tb (bz P n) i = (decide ((i : Int) < n) && P i) := by
  unfold bz
  rw [tb_bs _ _ (by omega)]
  congr 1
  simp
theorem bz_lt (P : Int → Bool) {n : Int} (h : n ≤ 30) : 0 ≤ bz P n ∧ bz P n ≤ 1073741823 := by
  obtain ⟨h1, h2⟩ := bz_range P n
  have key : ∀ n : Nat, n < 31 → (2 : Int) ^ n ≤ 1073741824 := by decide +kernel
  have := key n.toNat (by omega)
  omega
theorem bz_zr (P : Int → Bool) {n : Int} (h : n ≤ 30) : zR32 (bz P n) := by
  have := bz_lt P h
  unfold zR32
  omega
theorem bz_or1 (P : Int → Bool) {i : Int} (h0 : 0 ≤ i) (h1 : i < 30) (hp : P i = true) : mm_ior (bz P i) (mm_ishl 1 i) = bz P (i + 1) := by
  apply tb_ext
  · exact zr_32 _
  · exact bz_zr P (by omega)
  · intro k hk
    rw [tb_or, tb_bz P (by omega), tb_bz P (by omega), tb_shl1 h0 (by omega)]
    by_cases e : (k : Int) = i
    · have e2 : k = i.toNat := by omega
      rw [e, hp]
      simp [e2]
      omega
    · have e2 : ¬ k = i.toNat := by omega
      have e3 : ((k : Int) < i) = ((k : Int) < i + 1) := by apply propext; omega
      simp [e2, e3]
theorem bz_or0 (P : Int → Bool) {i : Int} (h0 : 0 ≤ i) (hp : P i = false) : bz P (i + 1) = bz P i := by
  rw [bz_s P h0, hp]
  simp
theorem bz_ext (P Q : Int → Bool) : ∀ n : Nat, (∀ i : Int, 0 ≤ i → i < n → P i = Q i) → bz P n = bz Q n
  | 0, _ => rfl
  | n + 1, h => by
    rw [show ((n + 1 : Nat) : Int) = (n : Int) + 1 by omega, bz_s P (by omega), bz_s Q (by omega), bz_ext P Q n (fun i h0 h1 => h i h0 (by omega)), h n (by omega) (by omega)]
theorem bz_ext' {P Q : Int → Bool} {n : Int} (hn : 0 ≤ n) (h : ∀ i : Int, 0 ≤ i → i < n → P i = Q i) : bz P n = bz Q n := by
  have := bz_ext P Q n.toNat (fun i h0 h1 => h i h0 (by omega))
  rwa [Int.toNat_of_nonneg hn] at this
theorem p2_or0 (x : Int) (h : zR32 x) : mm_ior x 0 = x := by
  refine tb_ext (a := mm_ior x 0) (b := x) (zr_32 _) h ?_
  intro i _
  rw [tb_or, tb_0, Bool.or_false]
