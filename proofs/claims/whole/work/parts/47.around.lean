/-! what is beside a set of cells (the class's bits) -/
theorem tb_shl {a j : Int} (h0 : 0 ≤ j) (h1 : j < 32) (i : Nat) (hi : i < 32) : tb (mm_ishl a j) i = (decide (j ≤ i) && tb a (i - j.toNat)) := by
  have key : ∀ n : Nat, n < 32 → ((Int32.ofInt (n : Int)) &&& 31).toBitVec.smod 32 = BitVec.ofNat 32 n := by decide +kernel
  have hk := key j.toNat (by omega)
  rw [Int.toNat_of_nonneg h0] at hk
  unfold mm_ishl
  rw [tb_of, Int32.toBitVec_shiftLeft, hk]
  unfold tb
  rw [BitVec.shiftLeft_eq', BitVec.getLsbD_shiftLeft]
  have e : (BitVec.ofNat 32 j.toNat).toNat = j.toNat := by
    rw [BitVec.toNat_ofNat]
    omega
  rw [e]
  by_cases h : j ≤ i
  · have h2 : ¬ i < j.toNat := by omega
    simp [h, h2, hi]
  · have h2 : i < j.toNat := by omega
    simp [h, h2]
def tbz (x c : Int) : Bool := decide (0 ≤ c) && tb x c.toNat
def arB (S : Int → Int) (x d : Int) : Bool := tbz x (sd S d 0) || tbz x (sd S d 1) || tbz x (sd S d 2) || tbz x (sd S d 3)
def ar (S : Int → Int) (x : Int) : Int := bz (arB S x) (ncl S)
/-- a set of cells -/
def sub (S : Int → Int) (x : Int) : Prop := zR32 x ∧ ∀ i : Nat, tb x i = true → (i : Int) < ncl S
theorem sub_bz {S : Int → Int} (hw : WF S) (P : Int → Bool) : sub S (bz P (ncl S)) := by
  have n := wf_n hw
  refine ⟨bz_zr P (by omega), fun i h => ?_⟩
  rw [tb_bz P (by omega)] at h
  simp at h
  exact h.1
theorem sub_bit {S : Int → Int} (hw : WF S) {c : Int} (c0 : 0 ≤ c) (c1 : c < ncl S) : sub S (mm_ishl 1 c) := by
  have n := wf_n hw
  refine ⟨zr_32 _, fun i h => ?_⟩
  rw [tb_shl1 c0 (by omega)] at h
  simp at h
  omega
theorem sub_or {S : Int → Int} {x y : Int} (hx : sub S x) (hy : sub S y) : sub S (mm_ior x y) := by
  refine ⟨zr_32 _, fun i h => ?_⟩
  rw [tb_or] at h
  simp at h
  rcases h with h | h
  · exact hx.2 i h
  · exact hy.2 i h
theorem sub_and {S : Int → Int} {x : Int} (hx : sub S x) (y : Int) : sub S (mm_iand x y) := by
  refine ⟨zr_32 _, fun i h => ?_⟩
  rw [tb_and] at h
  simp at h
  exact hx.2 i h.1
theorem tb_ar {S : Int → Int} (hw : WF S) (x : Int) (i : Nat) : tb (ar S x) i = (decide ((i : Int) < ncl S) && arB S x i) := by
  have n := wf_n hw
  exact tb_bz _ (by omega) i
/-- the first cells of the rows -/
def fiP (w : Int) (j : Int) : Bool := decide (j % w = 0)
theorem fi_s {w r : Int} (w1 : 1 ≤ w) (w5 : w ≤ 5) (r0 : 0 ≤ r) (r1 : r < 5) : mm_ior (bz (fiP w) (r * w)) (mm_ishl 1 (r * w)) = bz (fiP w) ((r + 1) * w) := by
  have hd : w = 1 ∨ w = 2 ∨ w = 3 ∨ w = 4 ∨ w = 5 := by omega
  apply tb_ext
  · exact zr_32 _
  · apply bz_zr
    rcases hd with rfl | rfl | rfl | rfl | rfl <;> omega
  · intro i hi
    rw [tb_or, tb_bz _ (by rcases hd with rfl | rfl | rfl | rfl | rfl <;> omega), tb_bz _ (by rcases hd with rfl | rfl | rfl | rfl | rfl <;> omega), tb_shl1 (by rcases hd with rfl | rfl | rfl | rfl | rfl <;> omega) (by rcases hd with rfl | rfl | rfl | rfl | rfl <;> omega)]
    unfold fiP
    rw [Bool.eq_iff_iff]
    simp only [Bool.or_eq_true, Bool.and_eq_true, decide_eq_true_eq]
    rcases hd with rfl | rfl | rfl | rfl | rfl <;> omega
theorem lp_around {s : mS} {S N : Int → Int} (h : CS s 7 S N) (hw : WF S) (Z : mX) (x : Int) (V : Int) (hV : mm_at (zP Z) 58 4 [some (.inr (.inr (some 7))), some (.inl x), some (.inl ((bz (fiP (S 0)) (S 1 * S 0)))), some (.inl ((S 1))), none] [] (mk s) = some (some (.inl V), mk s)) : ∀ r : Int, r ≤ S 1 → 0 ≤ r → mm_at (zP Z) 58 4 [some (.inr (.inr (some 7))), some (.inl x), some (.inl ((bz (fiP (S 0)) (r * S 0)))), some (.inl r), none] [] (mk s) = some (some (.inl V), mk s) := by
  have w := wf0 hw
  have n := wf_n hw
  refine up ?_ ?_
  · intro _
    exact hV
  · intro i hi ih h0
    have b1 : 0 ≤ i * S 0 := Int.mul_nonneg h0 (by omega)
    have b2 : i * S 0 ≤ 4 * 5 := Int.mul_le_mul (by omega) (by omega) (by omega) (by omega)
    rw [B_X5_around_4]
    simp (disch := first | assumption | omega) only [↓sm, ↓reduceIte, ↓if_pos, ↓if_neg, kI, kJ, kR, kV, w32_eq, w64_eq, reduceCtorEq, Int.reduceAdd, Int.reduceMul, Int.reduceSub, o_c7, ↓o_g7_4, ↓o_g7_5, ↓o_g7_7, ↓o_g7_8, ↓o_g7_9, ↓o_g7_11, ↓o_g7_12, ↓o_g7_13, ↓o_g7_14, ↓o_g7_15, ↓o_g7_16, ↓o_g7_17, ↓q_high h, ↓q_wide h, ↓k_bit Z, fi_s]
    exact ih (by omega)
theorem ishl_n {n : Int} (h0 : 0 ≤ n) (h1 : n < 31) : mm_w32 (mm_ishl 1 n - 1) = bz (fun _ => true) n := by
  have key : ∀ n : Nat, n < 31 → mm_w32 (mm_ishl 1 (n : Int) - 1) = bz (fun _ => true) (n : Int) := by decide +kernel
  have := key n.toNat (by omega)
  rwa [Int.toNat_of_nonneg h0] at this
theorem ar_eq {S : Int → Int} (hw : WF S) {x : Int} (hx : sub S x) :
    mm_iand (mm_ior (mm_ior (mm_ior (mm_ishl (mm_iand x (mm_ixor (mm_ishl (bz (fiP (S 0)) (S 1 * S 0)) (S 0 - 1)) (-1))) 1) (mm_iushr (mm_iand x (mm_ixor (bz (fiP (S 0)) (S 1 * S 0)) (-1))) 1)) (mm_ishl x (S 0))) (mm_iushr x (S 0))) (bz (fun _ => true) (ncl S)) = ar S x := by
  have w := wf0 hw
  have n := wf_n hw
  have hn : S 1 * S 0 = ncl S := Int.mul_comm _ _
  rw [hn]
  have hN : ∃ h : Int, ncl S = S 0 * h := ⟨S 1, rfl⟩
  apply tb_ext
  · exact zr_32 _
  · exact (sub_bz hw _).1
  intro i hi
  rw [tb_ar hw, tb_and, tb_bz _ (by omega), tb_or, tb_or, tb_or, tb_shl (by omega) (by omega) i hi, tb_ushr (by omega) (by omega), tb_shl (by omega) (by omega) i hi, tb_ushr (by omega) (by omega), tb_and, tb_and, tb_not, tb_not, tb_bz _ (by omega)]
  by_cases hin : (i : Int) < ncl S
  · rw [decide_eq_true hin, Bool.true_and, Bool.and_true]
    have hlast : (1 : Int) ≤ i → tb (mm_ishl (bz (fiP (S 0)) (ncl S)) (S 0 - 1)) (i - Int.toNat 1) = decide ((i : Int) % S 0 = 0) := by
      intro h1
      rw [tb_shl (by omega) (by omega) _ (by omega), tb_bz _ (by omega)]
      unfold fiP
      obtain ⟨h, hN⟩ := hN
      generalize ncl S = N at *
      generalize S 0 = d at *
      have hd : d = 1 ∨ d = 2 ∨ d = 3 ∨ d = 4 ∨ d = 5 := by omega
      rw [Bool.eq_iff_iff]
      simp only [Bool.and_eq_true, decide_eq_true_eq]
      rcases hd with rfl | rfl | rfl | rfl | rfl <;> omega
    have e0 : (decide ((1 : Int) ≤ i) && (tb x (i - Int.toNat 1) && (decide (i - Int.toNat 1 < 32) && !tb (mm_ishl (bz (fiP (S 0)) (ncl S)) (S 0 - 1)) (i - Int.toNat 1)))) = tbz x (sd S i 0) := by
      unfold sd tbz
      rw [if_pos rfl]
      by_cases h1 : (1 : Int) ≤ i
      · rw [hlast h1]
        have h2 : i - Int.toNat 1 < 32 := by omega
        by_cases h3 : 0 < (i : Int) % S 0
        · have h4 : ((i : Int) - 1).toNat = i - Int.toNat 1 := by omega
          rw [if_pos h3, h4]
          have h5 : ¬ ((i : Int) % S 0 = 0) := by omega
          have h6 : (0 : Int) ≤ i - 1 := by omega
          simp [h1, h2, h5, h6]
          intro _
          omega
        · have h5 : ((i : Int) % S 0 = 0) := by
            have := Int.emod_nonneg (i : Int) (show S 0 ≠ 0 by omega)
            omega
          rw [if_neg h3]
          simp [h5]
      · have h3 : (i : Int) = 0 := by omega
        rw [h3]
        simp
    have e1 : (tb x (i + Int.toNat 1) && (decide (i + Int.toNat 1 < 32) && !(decide (((i + Int.toNat 1 : Nat) : Int) < ncl S) && fiP (S 0) ((i + Int.toNat 1 : Nat) : Int)))) = tbz x (sd S i 1) := by
      unfold sd tbz fiP
      rw [if_neg (by decide), if_pos rfl]
      have hm : (((i : Int) + 1) % S 0 = 0) ↔ ¬ ((i : Int) % S 0 < S 0 - 1) := by
        generalize S 0 = d at *
        have hd : d = 1 ∨ d = 2 ∨ d = 3 ∨ d = 4 ∨ d = 5 := by omega
        rcases hd with rfl | rfl | rfl | rfl | rfl <;> omega
      by_cases ht : tb x (i + Int.toNat 1) = true
      · have hl := hx.2 _ ht
        by_cases h3 : (i : Int) % S 0 < S 0 - 1
        · rw [if_pos h3]
          have h4 : ((i : Int) + 1).toNat = i + Int.toNat 1 := by omega
          have h5 : ¬ (((i : Int) + 1) % S 0 = 0) := fun q => hm.mp q h3
          have h6 : (0 : Int) ≤ i + 1 := by omega
          have h7 : i + Int.toNat 1 < 32 := by omega
          rw [h4, ht]
          simp [h5, h6]
          omega
        · rw [if_neg h3]
          have h5 := hm.mpr h3
          simp [h5]
          intro _ _
          omega
      · have ht : tb x (i + Int.toNat 1) = false := by simpa using ht
        rw [ht]
        by_cases h3 : (i : Int) % S 0 < S 0 - 1
        · rw [if_pos h3]
          have h4 : ((i : Int) + 1).toNat = i + Int.toNat 1 := by omega
          rw [h4, ht]
          simp
        · rw [if_neg h3]
          simp
    have e2 : (decide (S 0 ≤ (i : Int)) && tb x (i - (S 0).toNat)) = tbz x (sd S i 2) := by
      unfold sd tbz
      rw [if_neg (by decide), if_neg (by decide), if_pos rfl]
      by_cases h3 : (i : Int) < S 0
      · rw [if_pos h3]
        have h4 : ¬ (S 0 ≤ (i : Int)) := by omega
        simp [h4]
      · rw [if_neg h3]
        have h4 : S 0 ≤ (i : Int) := by omega
        have h5 : ((i : Int) - S 0).toNat = i - (S 0).toNat := by omega
        have h6 : 0 ≤ (i : Int) - S 0 := by omega
        rw [h5]
        simp [h4, h6]
    have e3 : tb x (i + (S 0).toNat) = tbz x (sd S i 3) := by
      unfold sd tbz
      rw [if_neg (by decide), if_neg (by decide), if_neg (by decide)]
      have h5 : ((i : Int) + S 0).toNat = i + (S 0).toNat := by omega
      have h6 : 0 ≤ (i : Int) + S 0 := by omega
      by_cases h3 : (i : Int) + S 0 < ncl S
      · rw [if_pos h3, h5]
        simp [h6]
      · rw [if_neg h3]
        by_cases ht : tb x (i + (S 0).toNat) = true
        · have := hx.2 _ ht
          omega
        · have ht : tb x (i + (S 0).toNat) = false := by simpa using ht
          simp [ht]
    rw [e0, e1, e2, e3]
    rfl
  · rw [decide_eq_false hin, Bool.false_and, Bool.false_and, Bool.and_false]
theorem c_around {s : mS} {S N : Int → Int} (h : CS s 7 S N) (hw : WF S) (Z : mX) (x : Int) (hx : sub S x) (f : Int → mW → mO) : mm_kI (mm_run (zP Z) 58 [.inr (.inr (some 7)), .inl x] (mk s)) f = f (ar S x) (mk s) := by
  have w := wf0 hw
  have n := wf_n hw
  have g := lp_around h hw Z x (ar S x) (by
    rw [B_X5_around_4]
    simp (disch := first | assumption | omega) only [↓sm, ↓reduceIte, ↓if_pos, ↓if_neg, kI, kJ, kR, kV, w32_eq, w64_eq, reduceCtorEq, Int.reduceAdd, Int.reduceMul, Int.reduceSub, o_c7, ↓o_g7_4, ↓o_g7_5, ↓o_g7_7, ↓o_g7_8, ↓o_g7_9, ↓o_g7_11, ↓o_g7_12, ↓o_g7_13, ↓o_g7_14, ↓o_g7_15, ↓o_g7_16, ↓o_g7_17, ↓q_high h, ↓q_wide h, ↓c_cells h hw Z, ↓k_bit Z, ishl_n]
    rw [ar_eq hw hx]) 0 (by omega) (by omega)
  rw [Int.zero_mul, bz_0] at g
  rw [B_X5_around, g, kI]
