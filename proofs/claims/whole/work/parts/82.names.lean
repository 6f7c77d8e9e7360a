/-! words and names, as the reference reads them -/
def nR (b : Int → Int) (F E : Int) : Int := if E - F ≤ 8 then nv b F (E - F).toNat else -1
def mtch (b : Int → Int) (F E : Int) (m : Nat) : Prop := (ksN (m + 1) : Int) - 1 - ksN m = E - F ∧ ∀ j : Nat, (j : Int) < E - F → gR ((ksN m : Int) + j) = b (F + j)
theorem nv_ext {f g : Int → Int} {F G : Int} : ∀ k : Nat, (∀ j : Nat, j < k → f (F + j) = g (G + j)) → nv f F k = nv g G k
  | 0, _ => rfl
  | k + 1, h => by
    show nv f F k * 256 + f (F + k) = nv g G k * 256 + g (G + k)
    rw [nv_ext k (fun j hj => h j (by omega)), h k (by omega)]
theorem ltR' {m : Nat} (hm : m < 27) : ∀ j : Int, (ksN m : Int) ≤ j → j < (ksN m : Int) + ((ksN (m + 1) - 1 - ksN m : Nat) : Int) → isLt (gR j) := by
  obtain ⟨l1, l2, l3, l4, l5⟩ := ltR m hm
  intro j j0 j1
  have := l5 (j - ksN m).toNat (by omega) (by omega)
  rw [show ((ksN m + (j - ksN m).toNat : Nat) : Int) = j by omega] at this
  exact this
theorem mtch_iff {b : Int → Int} {F E : Int} (hFE : F < E) (hl : ∀ j, F ≤ j → j < E → isLt (b j)) {m : Nat} (hm : m < 27) : mtch b F E m ↔ nR b F E = pR m := by
  obtain ⟨l1, l2, l3, l4, l5⟩ := ltR m hm
  have lR := ltR' hm
  unfold mtch nR
  constructor
  · intro ⟨h1, h2⟩
    rw [if_pos (by omega)]
    unfold pR
    rw [show (E - F).toNat = ksN (m + 1) - 1 - ksN m by omega]
    exact nv_ext _ (fun j hj => (h2 j (by omega)).symm)
  · intro h
    by_cases h8 : E - F ≤ 8
    · rw [if_pos h8] at h
      obtain ⟨k1, k2⟩ := nv_inj (E - F).toNat (ksN (m + 1) - 1 - ksN m) (fun j j0 j1 => hl j j0 (by omega)) lR h
      exact ⟨by omega, fun j hj => (k2 j (by omega)).symm⟩
    · rw [if_neg h8] at h
      have := (nv_r (b := gR) (F := ksN m) (ksN (m + 1) - 1 - ksN m) lR).1
      unfold pR at h
      omega
theorem r_cmp_t (Z : mX) {b : Int → Int} {n F E : Int} {t : mS} (hT : TB0 b n) (hR : RB b n t) (hF : 0 ≤ F) (hE : E ≤ n) (h13 : t.1 141 13 = F) {m : Nat} (hm : m < 27) (hlen : (ksN (m + 1) : Int) - 1 - ksN m = E - F) : ∀ d : Nat, ∀ j : Nat, (j : Int) + d = E - F → (∀ i : Nat, j ≤ i → (i : Int) < E - F → gR ((ksN m : Int) + i) = b (F + i)) →
    mm_at (zP Z) 235 38 [some (.inr (.inr (some 141))), some (.inr (.inr (some 1))), some (.inl ((m : Int))), some (.inl ((ksN m : Int))), some (.inl (((ksN (m + 1) : Int) - 1))), some (.inl 1), some (.inl (((ksN m : Int) + j)))] [] (mk t) = mm_at (zP Z) 235 61 [some (.inr (.inr (some 141))), some (.inr (.inr (some 1))), some (.inl ((m : Int))), none, some (.inl (((ksN (m + 1) : Int) - 1))), some (.inl 1), none] [] (mk t) := by
  obtain ⟨l1, l2, l3, l4, l5⟩ := ltR m hm
  have n9 := hT.2.1
  intro d
  induction d with
  | zero =>
    intro j hj _
    rw [B_X12_inWords_38]
    simp (disch := first | assumption | omega) only [↓sm, ↓reduceIte, ↓if_pos, ↓if_neg, kI, kJ, kR, kV, w32_eq, w64_eq, reduceCtorEq, Int.reduceAdd, Int.reduceMul, Int.reduceSub]
  | succ d ih =>
    intro j hj h
    have hi : 1 < 2 ∧ 0 ≤ (ksN m : Int) + j ∧ (ksN m : Int) + j < ((z_strs 1).length : Int) := ⟨by decide, by omega, by rw [lenR]; omega⟩
    have h1 := h j (by omega) (by omega)
    have hg : (z_strs 1).getD (Int.toNat ((ksN m : Int) + j)) 0 = b (F + j) := h1
    have w1 : mm_w32 (mm_w32 (F + ((ksN m : Int) + j)) - ksN m) = F + j := by rw [w32_eq (x := F + ((ksN m : Int) + j)) (by omega) (by omega), w32_eq (by omega) (by omega)]; omega
    have w2 : mm_w32 ((ksN m : Int) + j + 1) = (ksN m : Int) + ((j + 1 : Nat) : Int) := by rw [w32_eq (by omega) (by omega)]; omega
    have hb : bt b n (F + j) = b (F + j) := if_pos (by omega)
    have c := fun f => r_byteAt Z hT hR (F + j) (by omega) f
    rw [hb] at c
    rw [B_X12_inWords_38, sm, hg, w2]
    simp (disch := first | assumption | omega) only [↓sm, ↓reduceIte, ↓if_pos, ↓if_neg, kI, kJ, kR, kV, w32_eq, w64_eq, reduceCtorEq, Int.reduceAdd, Int.reduceMul, Int.reduceSub, o_c141, ↓o_g141_0, ↓o_g141_1, ↓o_g141_5, ↓o_g141_6, ↓o_g141_7, ↓o_g141_8, ↓o_g141_9, ↓o_g141_21, ↓o_g141_25, ↓o_g141_26, ↓o_g141_27, ↓o_g141_28, ↓o_g141_29, ↓o_g141_30, ↓o_g141_31, ↓o_g141_34, ↓o_g141_35, ↓o_g141_36, ↓o_g141_13, h13, w1, c]
    exact ih (j + 1) (by omega) (fun i i0 i1 => h i (by omega) i1)
theorem r_cmp_f (Z : mX) {b : Int → Int} {n F E : Int} {t : mS} (hT : TB0 b n) (hR : RB b n t) (hF : 0 ≤ F) (hE : E ≤ n) (h13 : t.1 141 13 = F) {m : Nat} (hm : m < 27) (hlen : (ksN (m + 1) : Int) - 1 - ksN m = E - F) : ∀ d : Nat, ∀ j : Nat, (j : Int) + d = E - F → (∃ i : Nat, j ≤ i ∧ (i : Int) < E - F ∧ gR ((ksN m : Int) + i) ≠ b (F + i)) →
    mm_at (zP Z) 235 38 [some (.inr (.inr (some 141))), some (.inr (.inr (some 1))), some (.inl ((m : Int))), some (.inl ((ksN m : Int))), some (.inl (((ksN (m + 1) : Int) - 1))), some (.inl 1), some (.inl (((ksN m : Int) + j)))] [] (mk t) = mm_at (zP Z) 235 61 [some (.inr (.inr (some 141))), some (.inr (.inr (some 1))), some (.inl ((m : Int))), none, some (.inl (((ksN (m + 1) : Int) - 1))), some (.inl 0), none] [] (mk t) := by
  obtain ⟨l1, l2, l3, l4, l5⟩ := ltR m hm
  have n9 := hT.2.1
  intro d
  induction d with
  | zero =>
    intro j hj h
    obtain ⟨i, i0, i1, _⟩ := h
    omega
  | succ d ih =>
    intro j hj h
    have hi : 1 < 2 ∧ 0 ≤ (ksN m : Int) + j ∧ (ksN m : Int) + j < ((z_strs 1).length : Int) := ⟨by decide, by omega, by rw [lenR]; omega⟩
    have w1 : mm_w32 (mm_w32 (F + ((ksN m : Int) + j)) - ksN m) = F + j := by rw [w32_eq (x := F + ((ksN m : Int) + j)) (by omega) (by omega), w32_eq (by omega) (by omega)]; omega
    have w2 : mm_w32 ((ksN m : Int) + j + 1) = (ksN m : Int) + ((j + 1 : Nat) : Int) := by rw [w32_eq (by omega) (by omega)]; omega
    have hb : bt b n (F + j) = b (F + j) := if_pos (by omega)
    have c := fun f => r_byteAt Z hT hR (F + j) (by omega) f
    rw [hb] at c
    by_cases hj2 : gR ((ksN m : Int) + j) = b (F + j)
    · have hg : (z_strs 1).getD (Int.toNat ((ksN m : Int) + j)) 0 = b (F + j) := hj2
      rw [B_X12_inWords_38, sm, hg, w2]
      simp (disch := first | assumption | omega) only [↓sm, ↓reduceIte, ↓if_pos, ↓if_neg, kI, kJ, kR, kV, w32_eq, w64_eq, reduceCtorEq, Int.reduceAdd, Int.reduceMul, Int.reduceSub, o_c141, ↓o_g141_0, ↓o_g141_1, ↓o_g141_5, ↓o_g141_6, ↓o_g141_7, ↓o_g141_8, ↓o_g141_9, ↓o_g141_21, ↓o_g141_25, ↓o_g141_26, ↓o_g141_27, ↓o_g141_28, ↓o_g141_29, ↓o_g141_30, ↓o_g141_31, ↓o_g141_34, ↓o_g141_35, ↓o_g141_36, ↓o_g141_13, h13, w1, c]
      refine ih (j + 1) (by omega) ?_
      obtain ⟨i, i0, i1, i2⟩ := h
      refine ⟨i, ?_, i1, i2⟩
      by_cases hij : i = j
      · rw [hij] at i2
        exact absurd hj2 i2
      · omega
    · have hg : (z_strs 1).getD (Int.toNat ((ksN m : Int) + j)) 0 = gR ((ksN m : Int) + j) := rfl
      rw [B_X12_inWords_38, sm, hg, w2]
      simp (disch := first | assumption | omega) only [↓sm, ↓reduceIte, ↓if_pos, ↓if_neg, kI, kJ, kR, kV, w32_eq, w64_eq, reduceCtorEq, Int.reduceAdd, Int.reduceMul, Int.reduceSub, o_c141, ↓o_g141_0, ↓o_g141_1, ↓o_g141_5, ↓o_g141_6, ↓o_g141_7, ↓o_g141_8, ↓o_g141_9, ↓o_g141_21, ↓o_g141_25, ↓o_g141_26, ↓o_g141_27, ↓o_g141_28, ↓o_g141_29, ↓o_g141_30, ↓o_g141_31, ↓o_g141_34, ↓o_g141_35, ↓o_g141_36, ↓o_g141_13, h13, w1, c, hj2]
      rw [B_X12_inWords_38]
      by_cases hd : (ksN m : Int) + ((j + 1 : Nat) : Int) < (ksN (m + 1) : Int) - 1
      · simp (disch := first | assumption | omega) only [↓sm, ↓reduceIte, ↓if_pos, ↓if_neg, kI, kJ, kR, kV, w32_eq, w64_eq, reduceCtorEq, Int.reduceAdd, Int.reduceMul, Int.reduceSub]
      · simp (disch := first | assumption | omega) only [↓sm, ↓reduceIte, ↓if_pos, ↓if_neg, kI, kJ, kR, kV, w32_eq, w64_eq, reduceCtorEq, Int.reduceAdd, Int.reduceMul, Int.reduceSub]
theorem r_wd_in (Z : mX) (t : mS) {m : Nat} (hm : m < 27) : ∀ k : Nat, ksN m + k < ksN (m + 1) → mm_at (zP Z) 235 16 [some (.inr (.inr (some 141))), some (.inr (.inr (some 1))), some (.inl ((m : Int))), some (.inl ((ksN m : Int))), some (.inl ((ksN m : Int))), none, none] [] (mk t) = mm_at (zP Z) 235 16 [some (.inr (.inr (some 141))), some (.inr (.inr (some 1))), some (.inl ((m : Int))), some (.inl ((ksN m : Int))), some (.inl (((ksN m : Int) + k))), none, none] [] (mk t)
  | 0, _ => by
    rw [show ((ksN m : Int) + ((0 : Nat) : Int)) = (ksN m : Int) by omega]
  | k + 1, h => by
    obtain ⟨l1, l2, l3, l4, l5⟩ := ltR m hm
    have h5 := l5 k (by omega) (by omega)
    rw [r_wd_in Z t hm k (by omega)]
    have hi : 1 < 2 ∧ 0 ≤ (ksN m : Int) + (k : Int) ∧ (ksN m : Int) + (k : Int) < ((z_strs 1).length : Int) := ⟨by decide, by omega, by rw [lenR]; omega⟩
    have hg : (z_strs 1).getD (Int.toNat ((ksN m : Int) + k)) 0 = gR ((ksN m : Int) + k) := rfl
    have hc : ((ksN m + k : Nat) : Int) = (ksN m : Int) + (k : Int) := by omega
    rw [hc] at h5
    have n32 : ¬ gR ((ksN m : Int) + (k : Int)) = 32 := by omega
    have w1 : mm_w32 ((ksN m : Int) + (k : Int) + 1) = (ksN m : Int) + ((k + 1 : Nat) : Int) := by rw [w32_eq (by omega) (by omega)]; omega
    conv => lhs; rw [B_X12_inWords_16, sm, hg, w1]
    simp (disch := first | assumption | omega) only [↓sm, ↓reduceIte, ↓if_pos, ↓if_neg, kI, kJ, kR, kV, w32_eq, w64_eq, reduceCtorEq, Int.reduceAdd, Int.reduceMul, Int.reduceSub, n32]
theorem r_wd (Z : mX) {b : Int → Int} {n F E : Int} {t : mS} (hT : TB0 b n) (hR : RB b n t) (hF : 0 ≤ F) (hFE : F < E) (hE : E ≤ n) (hl : ∀ j, F ≤ j → j < E → isLt (b j)) (h13 : t.1 141 13 = F) (h14 : t.1 141 14 = E) : ∀ r : Nat, ∀ m : Nat, m + r = 27 → mm_at (zP Z) 235 10 [some (.inr (.inr (some 141))), some (.inr (.inr (some 1))), some (.inl ((m : Int))), some (.inl ((ksN m : Int))), none, none, none] [] (mk t) = some (some (.inl (fn pR (nR b F E) r)), mk t)
  | 0, m, hm => by
    have : m = 27 := by omega
    subst this
    have e : ((ksN 27 : Nat) : Int) = 143 := by decide
    have hi : ¬ (143 : Int) < ((z_strs 1).length : Int) := by rw [lenR]; omega
    rw [B_X12_inWords_10, e]
    simp (disch := first | assumption | omega) only [↓sm, ↓reduceIte, ↓if_pos, ↓if_neg, kI, kJ, kR, kV, w32_eq, w64_eq, reduceCtorEq, Int.reduceAdd, Int.reduceMul, Int.reduceSub]
    rfl
  | r + 1, m, hm => by
    have hm' : m < 27 := by omega
    have em : 26 - r = m := by omega
    have n9 := hT.2.1
    obtain ⟨l1, l2, l3, l4, l5⟩ := ltR m hm'
    have ek : (ksN m : Int) + ((ksN (m + 1) - 1 - ksN m : Nat) : Int) = (ksN (m + 1) : Int) - 1 := by omega
    have ih := r_wd Z hT hR hF hFE hE hl h13 h14 r (m + 1) (by omega)
    have w1 : mm_w32 ((ksN (m + 1) : Int) - 1 + 1) = (ksN (m + 1) : Int) := by rw [w32_eq (by omega) (by omega)]; omega
    have w2 : mm_w32 ((m : Int) + 1) = ((m + 1 : Nat) : Int) := by rw [w32_eq (by omega) (by omega)]; omega
    have s0 : mm_at (zP Z) 235 61 [some (.inr (.inr (some 141))), some (.inr (.inr (some 1))), some (.inl ((m : Int))), none, some (.inl (((ksN (m + 1) : Int) - 1))), some (.inl 0), none] [] (mk t) = some (some (.inl (fn pR (nR b F E) r)), mk t) := by
      rw [B_X12_inWords_61, w1, w2]
      simp (disch := first | assumption | omega) only [↓sm, ↓reduceIte, ↓if_pos, ↓if_neg, kI, kJ, kR, kV, w32_eq, w64_eq, reduceCtorEq, Int.reduceAdd, Int.reduceMul, Int.reduceSub]
      exact ih
    have s1 : mm_at (zP Z) 235 61 [some (.inr (.inr (some 141))), some (.inr (.inr (some 1))), some (.inl ((m : Int))), none, some (.inl (((ksN (m + 1) : Int) - 1))), some (.inl 1), none] [] (mk t) = some (some (.inl (m : Int)), mk t) := by
      rw [B_X12_inWords_61]
      simp (disch := first | assumption | omega) only [↓sm, ↓reduceIte, ↓if_pos, ↓if_neg, kI, kJ, kR, kV, w32_eq, w64_eq, reduceCtorEq, Int.reduceAdd, Int.reduceMul, Int.reduceSub]
    have ef : fn pR (nR b F E) (r + 1) = if nR b F E = pR m then (m : Int) else fn pR (nR b F E) r := by
      show (if nR b F E = pR (26 - r) then ((26 - r : Nat) : Int) else fn pR (nR b F E) r) = _
      rw [em]
    have hd : mm_at (zP Z) 235 10 [some (.inr (.inr (some 141))), some (.inr (.inr (some 1))), some (.inl ((m : Int))), some (.inl ((ksN m : Int))), none, none, none] [] (mk t) = mm_at (zP Z) 235 16 [some (.inr (.inr (some 141))), some (.inr (.inr (some 1))), some (.inl ((m : Int))), some (.inl ((ksN m : Int))), some (.inl (((ksN (m + 1) : Int) - 1))), none, none] [] (mk t) := by
      have hi : (ksN m : Int) < ((z_strs 1).length : Int) := by rw [lenR]; omega
      rw [B_X12_inWords_10]
      simp (disch := first | assumption | omega) only [↓sm, ↓reduceIte, ↓if_pos, ↓if_neg, kI, kJ, kR, kV, w32_eq, w64_eq, reduceCtorEq, Int.reduceAdd, Int.reduceMul, Int.reduceSub]
      rw [r_wd_in Z t hm' (ksN (m + 1) - 1 - ksN m) (by omega), ek]
    have hi : 1 < 2 ∧ 0 ≤ (ksN (m + 1) : Int) - 1 ∧ (ksN (m + 1) : Int) - 1 < ((z_strs 1).length : Int) := ⟨by decide, by omega, by rw [lenR]; omega⟩
    have hg : (z_strs 1).getD (Int.toNat ((ksN (m + 1) : Int) - 1)) 0 = 32 := l4
    have e0 : (ksN m : Int) = (ksN m : Int) + ((0 : Nat) : Int) := by omega
    rw [hd, ef, B_X12_inWords_16, sm, hg]
    by_cases hlen : (ksN (m + 1) : Int) - 1 - ksN m = E - F
    · have h38 : mm_at (zP Z) 235 38 [some (.inr (.inr (some 141))), some (.inr (.inr (some 1))), some (.inl ((m : Int))), some (.inl ((ksN m : Int))), some (.inl (((ksN (m + 1) : Int) - 1))), some (.inl 1), some (.inl ((ksN m : Int)))] [] (mk t) = some (some (.inl (if nR b F E = pR m then (m : Int) else fn pR (nR b F E) r)), mk t) := by
        by_cases hN : nR b F E = pR m
        · obtain ⟨-, h2⟩ := (mtch_iff hFE hl hm').mpr hN
          have := r_cmp_t Z hT hR hF hE h13 hm' hlen (E - F).toNat 0 (by omega) (fun i _ i1 => h2 i i1)
          rw [← e0] at this
          rw [this, s1, if_pos hN]
        · have hx : ∃ i : Nat, 0 ≤ i ∧ (i : Int) < E - F ∧ gR ((ksN m : Int) + i) ≠ b (F + i) := by
            refine Classical.byContradiction fun hc => hN ((mtch_iff hFE hl hm').mp ⟨hlen, fun j hj => ?_⟩)
            exact Classical.byContradiction fun hne => hc ⟨j, by omega, hj, hne⟩
          have := r_cmp_f Z hT hR hF hE h13 hm' hlen (E - F).toNat 0 (by omega) hx
          rw [← e0] at this
          rw [this, s0, if_neg hN]
      have w3 : mm_w32 ((ksN (m + 1) : Int) - 1 - ksN m) = E - F := by rw [w32_eq (by omega) (by omega)]; exact hlen
      have w4 : mm_w32 (E - F) = E - F := w32_eq (by omega) (by omega)
      rw [w3]
      simp (disch := first | assumption | omega) only [↓sm, ↓reduceIte, ↓if_pos, ↓if_neg, kI, kJ, kR, kV, w32_eq, w64_eq, reduceCtorEq, Int.reduceAdd, Int.reduceMul, Int.reduceSub, o_c141, ↓o_g141_0, ↓o_g141_1, ↓o_g141_5, ↓o_g141_6, ↓o_g141_7, ↓o_g141_8, ↓o_g141_9, ↓o_g141_21, ↓o_g141_25, ↓o_g141_26, ↓o_g141_27, ↓o_g141_28, ↓o_g141_29, ↓o_g141_30, ↓o_g141_31, ↓o_g141_34, ↓o_g141_35, ↓o_g141_36, ↓o_g141_13, ↓o_g141_14, h13, h14, w4]
      exact h38
    · have hN : nR b F E ≠ pR m := fun x => hlen ((mtch_iff hFE hl hm').mpr x).1
      have w3 : mm_w32 ((ksN (m + 1) : Int) - 1 - ksN m) = (ksN (m + 1) : Int) - 1 - ksN m := w32_eq (by omega) (by omega)
      have w4 : mm_w32 (E - F) = E - F := w32_eq (by omega) (by omega)
      rw [w3, if_neg hN]
      simp (disch := first | assumption | omega) only [↓sm, ↓reduceIte, ↓if_pos, ↓if_neg, kI, kJ, kR, kV, w32_eq, w64_eq, reduceCtorEq, Int.reduceAdd, Int.reduceMul, Int.reduceSub, o_c141, ↓o_g141_0, ↓o_g141_1, ↓o_g141_5, ↓o_g141_6, ↓o_g141_7, ↓o_g141_8, ↓o_g141_9, ↓o_g141_21, ↓o_g141_25, ↓o_g141_26, ↓o_g141_27, ↓o_g141_28, ↓o_g141_29, ↓o_g141_30, ↓o_g141_31, ↓o_g141_34, ↓o_g141_35, ↓o_g141_36, ↓o_g141_13, ↓o_g141_14, h13, h14, w4, hlen]
      rw [B_X12_inWords_38]
      simp (disch := first | assumption | omega) only [↓sm, ↓reduceIte, ↓if_pos, ↓if_neg, kI, kJ, kR, kV, w32_eq, w64_eq, reduceCtorEq, Int.reduceAdd, Int.reduceMul, Int.reduceSub]
      exact s0
/-- the reference's number of the word that stands here -/
def wn (K V : Int) : Int := if K = 2 then km V else -1
theorem r_inWords (Z : mX) {b : Int → Int} {n F E K V W : Int} {t : mS} (hT : TB0 b n) (hk : Tk b n F E K V W) (hX : RX b n F E K V t) (f : Int → mW → mO) : mm_kI (mm_run (zP Z) 235 [.inr (.inr (some 141)), .inr (.inr (some 1))] (mk t)) f = f (wn K V) (mk t) := by
  obtain ⟨hR, h14, h13, h12, h15⟩ := hX
  obtain ⟨F0, FE, En, hk⟩ := hk
  rw [B_X12_inWords]
  rcases hk with ⟨rfl, -, -⟩ | ⟨hFE, hl, hn, hW, hK⟩ | ⟨hFE, hl, hn, hK⟩ | ⟨rfl, hnl, hnd, hnb, rfl, hK⟩
  · have e : t.1 141 12 = 0 := h12
    simp (disch := first | assumption | omega) only [↓sm, ↓reduceIte, ↓if_pos, ↓if_neg, kI, kJ, kR, kV, w32_eq, w64_eq, reduceCtorEq, Int.reduceAdd, Int.reduceMul, Int.reduceSub, ↓o_g141_12, e]
    rfl
  · have e : t.1 141 12 = 2 := by
      rw [h12]
      rcases hK with ⟨_, rfl⟩ | ⟨_, _, rfl⟩ | ⟨_, _, rfl, _⟩ <;> rfl
    have g := r_wd Z hT hR F0 hFE En hl h13 h14 27 0 rfl
    have e0 : ((ksN 0 : Nat) : Int) = 1 := by decide
    rw [e0] at g
    have g : mm_at (zP Z) 235 10 [some (.inr (.inr (some 141))), some (.inr (.inr (some 1))), some (.inl 0), some (.inl 1), none, none, none] [] (mk t) = some (some (.inl (fn pR (nR b F E) 27)), mk t) := g
    simp (disch := first | assumption | omega) only [↓sm, ↓reduceIte, ↓if_pos, ↓if_neg, kI, kJ, kR, kV, w32_eq, w64_eq, reduceCtorEq, Int.reduceAdd, Int.reduceMul, Int.reduceSub, ↓o_g141_12, e, g]
    congr 1
    have hp : E - F ≤ 8 → nR b F E = W := by
      intro h8
      unfold nR
      rw [if_pos h8, hW, pk_nv _ (by omega) (fun j j0 j1 => hl j j0 (by omega))]
    rcases hK with ⟨h8, rfl⟩ | ⟨h8, hw, rfl⟩ | ⟨h8, hw, rfl, rfl⟩
    · show _ = -1
      refine fn_none _ _ _ (fun m hm => ?_)
      unfold nR
      rw [if_neg (by omega)]
      have := (nv_r (b := gR) (F := ksN m) (ksN (m + 1) - 1 - ksN m) (ltR' hm)).1
      unfold pR
      omega
    · show _ = -1
      rw [hp h8, ← fn_km, hw]
      rfl
    · show _ = km _
      rw [hp h8, fn_km]
  · have e : t.1 141 12 ≠ 2 := by
      rw [h12]
      rcases hK with ⟨_, rfl⟩ | ⟨_, rfl, _⟩ <;> decide
    have ew : wn K V = -1 := by
      rcases hK with ⟨_, rfl⟩ | ⟨_, rfl, _⟩ <;> rfl
    rw [ew]
    simp (disch := first | assumption | omega) only [↓sm, ↓reduceIte, ↓if_pos, ↓if_neg, kI, kJ, kR, kV, w32_eq, w64_eq, reduceCtorEq, Int.reduceAdd, Int.reduceMul, Int.reduceSub, ↓o_g141_12, e]
  · have e : t.1 141 12 ≠ 2 := by
      rw [h12]
      rcases hK with ⟨rfl, _⟩ | ⟨rfl, _⟩ <;> decide
    have ew : wn K (b F) = -1 := by
      rcases hK with ⟨rfl, _⟩ | ⟨rfl, _⟩ <;> rfl
    rw [ew]
    simp (disch := first | assumption | omega) only [↓sm, ↓reduceIte, ↓if_pos, ↓if_neg, kI, kJ, kR, kV, w32_eq, w64_eq, reduceCtorEq, Int.reduceAdd, Int.reduceMul, Int.reduceSub, ↓o_g141_12, e]
theorem tk_k {b : Int → Int} {n F E K V W : Int} (hk : Tk b n F E K V W) : 0 ≤ K ∧ K ≤ 6 ∧ (K = 2 → 0 ≤ V ∧ V < 27) ∧ (K = 0 → F = n) ∧ (K ≠ 0 → F < E) ∧ (K = 5 → 0 ≤ V ∧ V ≤ 9999) ∧ 0 ≤ F ∧ F ≤ E ∧ E ≤ n := by
  obtain ⟨F0, FE, En, hk⟩ := hk
  rcases hk with ⟨rfl, h, -⟩ | ⟨hFE, hl, hn, hW, hK⟩ | ⟨hFE, hl, hn, hK⟩ | ⟨rfl, hnl, hnd, hnb, rfl, hK⟩
  · refine ⟨by omega, by omega, fun h => by omega, fun _ => h, fun h => by omega, fun h => by omega, F0, FE, En⟩
  · have fr := fn_r pC W 27
    rcases hK with ⟨_, rfl⟩ | ⟨_, _, rfl⟩ | ⟨_, hw, rfl, rfl⟩
    · exact ⟨by omega, by omega, fun h => by omega, fun h => by omega, fun _ => hFE, fun h => by omega, F0, FE, En⟩
    · exact ⟨by omega, by omega, fun h => by omega, fun h => by omega, fun _ => hFE, fun h => by omega, F0, FE, En⟩
    · exact ⟨by omega, by omega, fun h => by omega, fun h => by omega, fun _ => hFE, fun h => by omega, F0, FE, En⟩
  · rcases hK with ⟨_, rfl⟩ | ⟨h4, rfl, rfl⟩
    · exact ⟨by omega, by omega, fun h => by omega, fun h => by omega, fun _ => hFE, fun h => by omega, F0, FE, En⟩
    · have dr := dv_r (b := b) (F := F) (E - F).toNat (fun j j0 j1 => hl j j0 (by omega))
      have d4 : dv b F (E - F).toNat < 10000 := by
        have key : ∀ k : Nat, k < 5 → (10 : Int) ^ k ≤ 10000 := by decide
        have := key (E - F).toNat (by omega)
        omega
      exact ⟨by omega, by omega, fun h => by omega, fun h => by omega, fun _ => hFE, fun h => by omega, F0, FE, En⟩
  · rcases hK with ⟨rfl, _⟩ | ⟨rfl, _⟩
    · exact ⟨by omega, by omega, fun h => by omega, fun h => by omega, fun _ => by omega, fun h => by omega, F0, FE, En⟩
    · exact ⟨by omega, by omega, fun h => by omega, fun h => by omega, fun _ => by omega, fun h => by omega, F0, FE, En⟩
theorem wn_m1 {b : Int → Int} {n F E K V W : Int} (hk : Tk b n F E K V W) : wn K V = -1 ↔ K ≠ 2 := by
  obtain ⟨k0, k1, k2, -⟩ := tk_k hk
  unfold wn
  by_cases h : K = 2
  · have h2 := k2 h
    rw [if_pos h, km_m1 (by omega) h2.2]
    omega
  · rw [if_neg h]
    simp [h]
theorem r_isName (Z : mX) {b : Int → Int} {n F E K V W : Int} {t : mS} (hT : TB0 b n) (hk : Tk b n F E K V W) (hX : RX b n F E K V t) (f : Int → mW → mO) : mm_kI (mm_run (zP Z) 241 [.inr (.inr (some 141)), .inr (.inr (some 1))] (mk t)) f = f (if K = 3 then 1 else 0) (mk t) := by
  have hw := fun f => r_inWords Z hT hk hX f
  have hm := wn_m1 hk
  have n9 := hT.2.1
  obtain ⟨hR, h14, h13, h12, h15⟩ := hX
  obtain ⟨F0, FE, En, hk⟩ := hk
  have ww : mm_w32 (E - F) = E - F := w32_eq (by omega) (by omega)
  rw [B_X12_isName]
  by_cases h2 : tkr K = 2
  · have e : t.1 141 12 = 2 := h12.trans h2
    rcases hk with ⟨rfl, -, -⟩ | ⟨hFE, hl, hn, hW, hK⟩ | ⟨hFE, hl, hn, hK⟩ | ⟨rfl, hnl, hnd, hnb, rfl, hK⟩
    · exact absurd h2 (by decide)
    · rcases hK with ⟨h8, rfl⟩ | ⟨h8, _, rfl⟩ | ⟨h8, _, rfl, _⟩
      · simp (disch := first | assumption | omega) only [↓sm, ↓reduceIte, ↓if_pos, ↓if_neg, kI, kJ, kR, kV, w32_eq, w64_eq, reduceCtorEq, Int.reduceAdd, Int.reduceMul, Int.reduceSub, o_c141, ↓o_g141_0, ↓o_g141_1, ↓o_g141_5, ↓o_g141_6, ↓o_g141_7, ↓o_g141_8, ↓o_g141_9, ↓o_g141_21, ↓o_g141_25, ↓o_g141_26, ↓o_g141_27, ↓o_g141_28, ↓o_g141_29, ↓o_g141_30, ↓o_g141_31, ↓o_g141_34, ↓o_g141_35, ↓o_g141_36, ↓o_g141_12, ↓o_g141_13, ↓o_g141_14, h13, h14, e, ww]
      · have hm := hm.mpr (by omega)
        simp (disch := first | assumption | omega) only [↓sm, ↓reduceIte, ↓if_pos, ↓if_neg, kI, kJ, kR, kV, w32_eq, w64_eq, reduceCtorEq, Int.reduceAdd, Int.reduceMul, Int.reduceSub, o_c141, ↓o_g141_0, ↓o_g141_1, ↓o_g141_5, ↓o_g141_6, ↓o_g141_7, ↓o_g141_8, ↓o_g141_9, ↓o_g141_21, ↓o_g141_25, ↓o_g141_26, ↓o_g141_27, ↓o_g141_28, ↓o_g141_29, ↓o_g141_30, ↓o_g141_31, ↓o_g141_34, ↓o_g141_35, ↓o_g141_36, ↓o_g141_12, ↓o_g141_13, ↓o_g141_14, h13, h14, e, ww, ↓hw, hm]
      · have hm : ¬ wn 2 V = -1 := fun x => absurd (hm.mp x) (by omega)
        simp (disch := first | assumption | omega) only [↓sm, ↓reduceIte, ↓if_pos, ↓if_neg, kI, kJ, kR, kV, w32_eq, w64_eq, reduceCtorEq, Int.reduceAdd, Int.reduceMul, Int.reduceSub, o_c141, ↓o_g141_0, ↓o_g141_1, ↓o_g141_5, ↓o_g141_6, ↓o_g141_7, ↓o_g141_8, ↓o_g141_9, ↓o_g141_21, ↓o_g141_25, ↓o_g141_26, ↓o_g141_27, ↓o_g141_28, ↓o_g141_29, ↓o_g141_30, ↓o_g141_31, ↓o_g141_34, ↓o_g141_35, ↓o_g141_36, ↓o_g141_12, ↓o_g141_13, ↓o_g141_14, h13, h14, e, ww, ↓hw, hm]
    · rcases hK with ⟨_, rfl⟩ | ⟨_, rfl, _⟩ <;> exact absurd h2 (by decide)
    · rcases hK with ⟨rfl, _⟩ | ⟨rfl, _⟩ <;> exact absurd h2 (by decide)
  · have e : t.1 141 12 ≠ 2 := by rw [h12]; exact h2
    have n3 : ¬ K = 3 := fun x => h2 (by rw [x]; rfl)
    simp (disch := first | assumption | omega) only [↓sm, ↓reduceIte, ↓if_pos, ↓if_neg, kI, kJ, kR, kV, w32_eq, w64_eq, reduceCtorEq, Int.reduceAdd, Int.reduceMul, Int.reduceSub, o_c141, ↓o_g141_0, ↓o_g141_1, ↓o_g141_5, ↓o_g141_6, ↓o_g141_7, ↓o_g141_8, ↓o_g141_9, ↓o_g141_21, ↓o_g141_25, ↓o_g141_26, ↓o_g141_27, ↓o_g141_28, ↓o_g141_29, ↓o_g141_30, ↓o_g141_31, ↓o_g141_34, ↓o_g141_35, ↓o_g141_36, ↓o_g141_12, e, n3]
theorem lp_name (Z : mX) {b : Int → Int} {n F E : Int} {t : mS} (hT : TB0 b n) (hR : RB b n t) (hF : 0 ≤ F) (hE : E ≤ n) (h14 : t.1 141 14 = E) : ∀ i : Int, i ≤ E → F ≤ i → mm_at (zP Z) 242 5 [some (.inr (.inr (some 141))), some (.inr (.inl ((pk b F (i - F).toNat)))), none, some (.inl i)] [] (mk t) = some (some (.inr (.inl (pk b F (E - F).toNat))), mk t) := by
  have n9 := hT.2.1
  refine up ?_ ?_
  · intro h0
    rw [B_X12_nameHere_5]
    simp (disch := first | assumption | omega) only [↓sm, ↓reduceIte, ↓if_pos, ↓if_neg, kI, kJ, kR, kV, w32_eq, w64_eq, reduceCtorEq, Int.reduceAdd, Int.reduceMul, Int.reduceSub, ↓o_g141_14, h14]
  · intro i hi ih h0
    have hb : bt b n i = b i := if_pos (by omega)
    have c := fun f => r_byteAt Z hT hR i (by omega) f
    rw [hb] at c
    have ep : mm_lor (mm_lshl (pk b F (i - F).toNat) 8) (b i) = pk b F (i + 1 - F).toNat := by
      rw [show (i + 1 - F).toNat = (i - F).toNat + 1 by omega]
      show _ = mm_lor (mm_lshl (pk b F (i - F).toNat) 8) (b (F + ((i - F).toNat : Int)))
      rw [show F + ((i - F).toNat : Int) = i by omega]
    rw [B_X12_nameHere_5]
    simp (disch := first | assumption | omega) only [↓sm, ↓reduceIte, ↓if_pos, ↓if_neg, kI, kJ, kR, kV, w32_eq, w64_eq, reduceCtorEq, Int.reduceAdd, Int.reduceMul, Int.reduceSub, o_c141, ↓o_g141_0, ↓o_g141_1, ↓o_g141_5, ↓o_g141_6, ↓o_g141_7, ↓o_g141_8, ↓o_g141_9, ↓o_g141_21, ↓o_g141_25, ↓o_g141_26, ↓o_g141_27, ↓o_g141_28, ↓o_g141_29, ↓o_g141_30, ↓o_g141_31, ↓o_g141_34, ↓o_g141_35, ↓o_g141_36, ↓o_g141_14, h14, ↓c, ep]
    exact ih (by omega)
theorem r_nameHere (Z : mX) {b : Int → Int} {n F E V W : Int} {t : mS} (hT : TB0 b n) (hk : Tk b n F E 3 V W) (hX : RX b n F E 3 V t) (f : Int → mW → mO) : mm_kJ (mm_run (zP Z) 242 [.inr (.inr (some 141))] (mk t)) f = f W (mk t) := by
  obtain ⟨hR, h14, h13, h12, h15⟩ := hX
  obtain ⟨F0, FE, En, hk⟩ := hk
  rcases hk with ⟨x, -, -⟩ | ⟨hFE, hl, hn, hW, hK⟩ | ⟨hFE, hl, hn, hK⟩ | ⟨rfl, hnl, hnd, hnb, rfl, hK⟩
  · omega
  · have g := lp_name Z hT hR F0 En h14 F FE (by omega)
    rw [show (F - F).toNat = 0 by omega] at g
    have g : mm_at (zP Z) 242 5 [some (.inr (.inr (some 141))), some (.inr (.inl 0)), none, some (.inl F)] [] (mk t) = some (some (.inr (.inl (pk b F (E - F).toNat))), mk t) := g
    rw [B_X12_nameHere]
    simp (disch := first | assumption | omega) only [↓sm, ↓reduceIte, ↓if_pos, ↓if_neg, kI, kJ, kR, kV, w32_eq, w64_eq, reduceCtorEq, Int.reduceAdd, Int.reduceMul, Int.reduceSub, ↓o_g141_13, h13, g, hW]
  · omega
  · omega
/-- the first k from m - r on, below m, whose name is W -/
def fd (g : Int → Int) (W m : Int) : Nat → Int
  | 0 => -1
  | r + 1 => if g (m - (r + 1)) = W then m - (r + 1) else fd g W m r
theorem fd_ext {g h : Int → Int} {W m : Int} : ∀ r : Nat, (r : Int) ≤ m → (∀ k, 0 ≤ k → k < m → g k = h k) → fd g W m r = fd h W m r
  | 0, _, _ => rfl
  | r + 1, hr, e => by
    show (if g (m - (r + 1)) = W then m - (r + 1) else fd g W m r) = (if h (m - (r + 1)) = W then m - (r + 1) else fd h W m r)
    rw [fd_ext r (by omega) e, e _ (by omega) (by omega)]
theorem fd_r {g : Int → Int} {W m : Int} : ∀ r : Nat, (r : Int) ≤ m → fd g W m r = -1 ∨ (0 ≤ fd g W m r ∧ fd g W m r < m)
  | 0, _ => Or.inl rfl
  | r + 1, hr => by
    show (if g (m - (r + 1)) = W then m - (r + 1) else fd g W m r) = -1 ∨ (0 ≤ (if g (m - (r + 1)) = W then m - (r + 1) else fd g W m r) ∧ (if g (m - (r + 1)) = W then m - (r + 1) else fd g W m r) < m)
    have := fd_r (g := g) (W := W) r (show (r : Int) ≤ m by omega)
    split
    · right; omega
    · exact this
theorem lp_find (Z : mX) {b : Int → Int} {n F E V W : Int} {t : mS} (hT : TB0 b n) (hk : Tk b n F E 3 V W) (hX : RX b n F E 3 V t) (B m : Int) (B0 : 0 ≤ B) (m0 : 0 ≤ m) (Bm : B + m ≤ 72) : ∀ r : Nat, (r : Int) ≤ m → mm_at (zP Z) 243 2 [some (.inr (.inr (some 141))), some (.inl B), some (.inl m), some (.inl ((m - r)))] [] (mk t) = some (some (.inl (fd (fun k => t.2 143 (B + k)) W m r)), mk t)
  | 0, h => by
    rw [B_X12_findHere_2]
    simp (disch := first | assumption | omega) only [↓sm, ↓reduceIte, ↓if_pos, ↓if_neg, kI, kJ, kR, kV, w32_eq, w64_eq, reduceCtorEq, Int.reduceAdd, Int.reduceMul, Int.reduceSub]
    rfl
  | r + 1, h => by
    have ih := lp_find Z hT hk hX B m B0 m0 Bm r (by omega)
    have c := fun f => r_nameHere Z hT hk hX f
    have w1 : mm_w32 (B + (m - ((r + 1 : Nat) : Int))) = B + (m - ((r + 1 : Nat) : Int)) := w32_eq (by omega) (by omega)
    have w2 : mm_w32 (m - ((r + 1 : Nat) : Int) + 1) = m - (r : Int) := by rw [w32_eq (by omega) (by omega)]; omega
    have ef : fd (fun k => t.2 143 (B + k)) W m (r + 1) = if t.2 143 (B + (m - ((r + 1 : Nat) : Int))) = W then m - ((r + 1 : Nat) : Int) else fd (fun k => t.2 143 (B + k)) W m r := rfl
    rw [ef, B_X12_findHere_2, w1, w2]
    by_cases hN : t.2 143 (B + (m - ((r + 1 : Nat) : Int))) = W
    · simp (disch := first | assumption | omega) only [↓sm, ↓reduceIte, ↓if_pos, ↓if_neg, kI, kJ, kR, kV, w32_eq, w64_eq, reduceCtorEq, Int.reduceAdd, Int.reduceMul, Int.reduceSub, o_c141, ↓o_g141_0, ↓o_g141_1, ↓o_g141_5, ↓o_g141_6, ↓o_g141_7, ↓o_g141_8, ↓o_g141_9, ↓o_g141_21, ↓o_g141_25, ↓o_g141_26, ↓o_g141_27, ↓o_g141_28, ↓o_g141_29, ↓o_g141_30, ↓o_g141_31, ↓o_g141_34, ↓o_g141_35, ↓o_g141_36, ↓a_ld143, ↓c, lcmp0, hN]
    · simp (disch := first | assumption | omega) only [↓sm, ↓reduceIte, ↓if_pos, ↓if_neg, kI, kJ, kR, kV, w32_eq, w64_eq, reduceCtorEq, Int.reduceAdd, Int.reduceMul, Int.reduceSub, o_c141, ↓o_g141_0, ↓o_g141_1, ↓o_g141_5, ↓o_g141_6, ↓o_g141_7, ↓o_g141_8, ↓o_g141_9, ↓o_g141_21, ↓o_g141_25, ↓o_g141_26, ↓o_g141_27, ↓o_g141_28, ↓o_g141_29, ↓o_g141_30, ↓o_g141_31, ↓o_g141_34, ↓o_g141_35, ↓o_g141_36, ↓a_ld143, ↓c, lcmp0, hN]
      exact ih
theorem r_find (Z : mX) {b : Int → Int} {n F E V W : Int} {t : mS} (hT : TB0 b n) (hk : Tk b n F E 3 V W) (hX : RX b n F E 3 V t) (B m : Int) (B0 : 0 ≤ B) (m0 : 0 ≤ m) (Bm : B + m ≤ 72) (f : Int → mW → mO) : mm_kI (mm_run (zP Z) 243 [.inr (.inr (some 141)), .inl B, .inl m] (mk t)) f = f (fd (fun k => t.2 143 (B + k)) W m m.toNat) (mk t) := by
  have g := lp_find Z hT hk hX B m B0 m0 Bm m.toNat (by omega)
  rw [show m - (m.toNat : Int) = 0 by omega] at g
  rw [B_X12_findHere, g, kI]
/-! the class's look for a name -/
theorem lp_less (Z : mX) {s : mS} {W m : Int} (hm : s.1 40 6 = m) (m7 : m ≤ 7) : ∀ r : Nat, (r : Int) ≤ m → mm_at (zP Z) 53 2 [some (.inr (.inr (some 40))), some (.inr (.inl W)), none, some (.inl ((m - r)))] [] (mk s) = some (some (.inl (fd (s.2 45) W m r)), mk s)
  | 0, h => by
    rw [B_X5_lessonNamed_2]
    simp (disch := first | assumption | omega) only [↓sm, ↓reduceIte, ↓if_pos, ↓if_neg, kI, kJ, kR, kV, w32_eq, w64_eq, reduceCtorEq, Int.reduceAdd, Int.reduceMul, Int.reduceSub, o_c40, ↓o_g40_0, ↓o_g40_1, ↓o_g40_2, ↓o_g40_3, ↓o_g40_4, ↓o_g40_5, ↓o_g40_6, ↓o_g40_7, ↓o_g40_8, ↓o_g40_9, ↓o_g40_10, ↓o_g40_11, ↓o_g40_12, ↓o_g40_13, ↓o_g40_14, ↓o_g40_15, ↓o_g40_16, ↓o_g40_17, ↓a_ln41, ↓a_ld41, ↓a_ln42, ↓a_ld42, ↓a_ln43, ↓a_ld43, ↓a_ln44, ↓a_ld44, ↓a_ln45, ↓a_ld45, ↓a_ln46, ↓a_ld46, ↓a_ln47, ↓a_ld47, ↓a_ln48, ↓a_ld48, ↓a_ln49, ↓a_ld49, ↓a_ln50, ↓a_ld50, ↓a_ln51, ↓a_ld51, ↓a_ln52, ↓a_ld52, hm]
    rfl
  | r + 1, h => by
    have ih := lp_less Z hm m7 (W := W) r (by omega)
    have w2 : mm_w32 (m - ((r + 1 : Nat) : Int) + 1) = m - (r : Int) := by rw [w32_eq (by omega) (by omega)]; omega
    have ef : fd (s.2 45) W m (r + 1) = if s.2 45 (m - ((r + 1 : Nat) : Int)) = W then m - ((r + 1 : Nat) : Int) else fd (s.2 45) W m r := rfl
    rw [ef, B_X5_lessonNamed_2, w2]
    by_cases hN : s.2 45 (m - ((r + 1 : Nat) : Int)) = W
    · simp (disch := first | assumption | omega) only [↓sm, ↓reduceIte, ↓if_pos, ↓if_neg, kI, kJ, kR, kV, w32_eq, w64_eq, reduceCtorEq, Int.reduceAdd, Int.reduceMul, Int.reduceSub, o_c40, ↓o_g40_0, ↓o_g40_1, ↓o_g40_2, ↓o_g40_3, ↓o_g40_4, ↓o_g40_5, ↓o_g40_6, ↓o_g40_7, ↓o_g40_8, ↓o_g40_9, ↓o_g40_10, ↓o_g40_11, ↓o_g40_12, ↓o_g40_13, ↓o_g40_14, ↓o_g40_15, ↓o_g40_16, ↓o_g40_17, ↓a_ln41, ↓a_ld41, ↓a_ln42, ↓a_ld42, ↓a_ln43, ↓a_ld43, ↓a_ln44, ↓a_ld44, ↓a_ln45, ↓a_ld45, ↓a_ln46, ↓a_ld46, ↓a_ln47, ↓a_ld47, ↓a_ln48, ↓a_ld48, ↓a_ln49, ↓a_ld49, ↓a_ln50, ↓a_ld50, ↓a_ln51, ↓a_ld51, ↓a_ln52, ↓a_ld52, hm, lcmp0, hN]
    · simp (disch := first | assumption | omega) only [↓sm, ↓reduceIte, ↓if_pos, ↓if_neg, kI, kJ, kR, kV, w32_eq, w64_eq, reduceCtorEq, Int.reduceAdd, Int.reduceMul, Int.reduceSub, o_c40, ↓o_g40_0, ↓o_g40_1, ↓o_g40_2, ↓o_g40_3, ↓o_g40_4, ↓o_g40_5, ↓o_g40_6, ↓o_g40_7, ↓o_g40_8, ↓o_g40_9, ↓o_g40_10, ↓o_g40_11, ↓o_g40_12, ↓o_g40_13, ↓o_g40_14, ↓o_g40_15, ↓o_g40_16, ↓o_g40_17, ↓a_ln41, ↓a_ld41, ↓a_ln42, ↓a_ld42, ↓a_ln43, ↓a_ld43, ↓a_ln44, ↓a_ld44, ↓a_ln45, ↓a_ld45, ↓a_ln46, ↓a_ld46, ↓a_ln47, ↓a_ld47, ↓a_ln48, ↓a_ld48, ↓a_ln49, ↓a_ld49, ↓a_ln50, ↓a_ld50, ↓a_ln51, ↓a_ld51, ↓a_ln52, ↓a_ld52, hm, lcmp0, hN]
      exact ih
theorem c_less (Z : mX) {s : mS} {m : Int} (hm : s.1 40 6 = m) (m0 : 0 ≤ m) (m7 : m ≤ 7) (W : Int) (f : Int → mW → mO) : mm_kI (mm_run (zP Z) 53 [.inr (.inr (some 40)), .inr (.inl W)] (mk s)) f = f (fd (s.2 45) W m m.toNat) (mk s) := by
  have g := lp_less Z hm m7 (W := W) m.toNat (by omega)
  rw [show m - (m.toNat : Int) = 0 by omega] at g
  rw [B_X5_lessonNamed, g, kI]
theorem lp_pup (Z : mX) {s : mS} {W m : Int} (hm : s.1 40 10 = m) (m7 : m ≤ 5) : ∀ r : Nat, (r : Int) ≤ m → mm_at (zP Z) 54 2 [some (.inr (.inr (some 40))), some (.inr (.inl W)), none, some (.inl ((m - r)))] [] (mk s) = some (some (.inl (fd (s.2 52) W m r)), mk s)
  | 0, h => by
    rw [B_X5_pupilNamed_2]
    simp (disch := first | assumption | omega) only [↓sm, ↓reduceIte, ↓if_pos, ↓if_neg, kI, kJ, kR, kV, w32_eq, w64_eq, reduceCtorEq, Int.reduceAdd, Int.reduceMul, Int.reduceSub, o_c40, ↓o_g40_0, ↓o_g40_1, ↓o_g40_2, ↓o_g40_3, ↓o_g40_4, ↓o_g40_5, ↓o_g40_6, ↓o_g40_7, ↓o_g40_8, ↓o_g40_9, ↓o_g40_10, ↓o_g40_11, ↓o_g40_12, ↓o_g40_13, ↓o_g40_14, ↓o_g40_15, ↓o_g40_16, ↓o_g40_17, ↓a_ln41, ↓a_ld41, ↓a_ln42, ↓a_ld42, ↓a_ln43, ↓a_ld43, ↓a_ln44, ↓a_ld44, ↓a_ln45, ↓a_ld45, ↓a_ln46, ↓a_ld46, ↓a_ln47, ↓a_ld47, ↓a_ln48, ↓a_ld48, ↓a_ln49, ↓a_ld49, ↓a_ln50, ↓a_ld50, ↓a_ln51, ↓a_ld51, ↓a_ln52, ↓a_ld52, hm]
    rfl
  | r + 1, h => by
    have ih := lp_pup Z hm m7 (W := W) r (by omega)
    have w2 : mm_w32 (m - ((r + 1 : Nat) : Int) + 1) = m - (r : Int) := by rw [w32_eq (by omega) (by omega)]; omega
    have ef : fd (s.2 52) W m (r + 1) = if s.2 52 (m - ((r + 1 : Nat) : Int)) = W then m - ((r + 1 : Nat) : Int) else fd (s.2 52) W m r := rfl
    rw [ef, B_X5_pupilNamed_2, w2]
    by_cases hN : s.2 52 (m - ((r + 1 : Nat) : Int)) = W
    · simp (disch := first | assumption | omega) only [↓sm, ↓reduceIte, ↓if_pos, ↓if_neg, kI, kJ, kR, kV, w32_eq, w64_eq, reduceCtorEq, Int.reduceAdd, Int.reduceMul, Int.reduceSub, o_c40, ↓o_g40_0, ↓o_g40_1, ↓o_g40_2, ↓o_g40_3, ↓o_g40_4, ↓o_g40_5, ↓o_g40_6, ↓o_g40_7, ↓o_g40_8, ↓o_g40_9, ↓o_g40_10, ↓o_g40_11, ↓o_g40_12, ↓o_g40_13, ↓o_g40_14, ↓o_g40_15, ↓o_g40_16, ↓o_g40_17, ↓a_ln41, ↓a_ld41, ↓a_ln42, ↓a_ld42, ↓a_ln43, ↓a_ld43, ↓a_ln44, ↓a_ld44, ↓a_ln45, ↓a_ld45, ↓a_ln46, ↓a_ld46, ↓a_ln47, ↓a_ld47, ↓a_ln48, ↓a_ld48, ↓a_ln49, ↓a_ld49, ↓a_ln50, ↓a_ld50, ↓a_ln51, ↓a_ld51, ↓a_ln52, ↓a_ld52, hm, lcmp0, hN]
    · simp (disch := first | assumption | omega) only [↓sm, ↓reduceIte, ↓if_pos, ↓if_neg, kI, kJ, kR, kV, w32_eq, w64_eq, reduceCtorEq, Int.reduceAdd, Int.reduceMul, Int.reduceSub, o_c40, ↓o_g40_0, ↓o_g40_1, ↓o_g40_2, ↓o_g40_3, ↓o_g40_4, ↓o_g40_5, ↓o_g40_6, ↓o_g40_7, ↓o_g40_8, ↓o_g40_9, ↓o_g40_10, ↓o_g40_11, ↓o_g40_12, ↓o_g40_13, ↓o_g40_14, ↓o_g40_15, ↓o_g40_16, ↓o_g40_17, ↓a_ln41, ↓a_ld41, ↓a_ln42, ↓a_ld42, ↓a_ln43, ↓a_ld43, ↓a_ln44, ↓a_ld44, ↓a_ln45, ↓a_ld45, ↓a_ln46, ↓a_ld46, ↓a_ln47, ↓a_ld47, ↓a_ln48, ↓a_ld48, ↓a_ln49, ↓a_ld49, ↓a_ln50, ↓a_ld50, ↓a_ln51, ↓a_ld51, ↓a_ln52, ↓a_ld52, hm, lcmp0, hN]
      exact ih
theorem c_pup (Z : mX) {s : mS} {m : Int} (hm : s.1 40 10 = m) (m0 : 0 ≤ m) (m7 : m ≤ 5) (W : Int) (f : Int → mW → mO) : mm_kI (mm_run (zP Z) 54 [.inr (.inr (some 40)), .inr (.inl W)] (mk s)) f = f (fd (s.2 52) W m m.toNat) (mk s) := by
  have g := lp_pup Z hm m7 (W := W) m.toNat (by omega)
  rw [show m - (m.toNat : Int) = 0 by omega] at g
  rw [B_X5_pupilNamed, g, kI]
theorem lp_pup7 (Z : mX) {s : mS} {W m : Int} (hm : s.1 7 10 = m) (m7 : m ≤ 5) : ∀ r : Nat, (r : Int) ≤ m → mm_at (zP Z) 54 2 [some (.inr (.inr (some 7))), some (.inr (.inl W)), none, some (.inl ((m - r)))] [] (mk s) = some (some (.inl (fd (s.2 19) W m r)), mk s)
  | 0, h => by
    rw [B_X5_pupilNamed_2]
    simp (disch := first | assumption | omega) only [↓sm, ↓reduceIte, ↓if_pos, ↓if_neg, kI, kJ, kR, kV, w32_eq, w64_eq, reduceCtorEq, Int.reduceAdd, Int.reduceMul, Int.reduceSub, o_c7, ↓o_g7_0, ↓o_g7_1, ↓o_g7_2, ↓o_g7_3, ↓o_g7_4, ↓o_g7_5, ↓o_g7_6, ↓o_g7_7, ↓o_g7_8, ↓o_g7_9, ↓o_g7_10, ↓o_g7_11, ↓o_g7_12, ↓o_g7_13, ↓o_g7_14, ↓o_g7_15, ↓o_g7_16, ↓o_g7_17, ↓a_ln8, ↓a_ld8, ↓a_ln9, ↓a_ld9, ↓a_ln10, ↓a_ld10, ↓a_ln11, ↓a_ld11, ↓a_ln12, ↓a_ld12, ↓a_ln13, ↓a_ld13, ↓a_ln14, ↓a_ld14, ↓a_ln15, ↓a_ld15, ↓a_ln16, ↓a_ld16, ↓a_ln17, ↓a_ld17, ↓a_ln18, ↓a_ld18, ↓a_ln19, ↓a_ld19, hm]
    rfl
  | r + 1, h => by
    have ih := lp_pup7 Z hm m7 (W := W) r (by omega)
    have w2 : mm_w32 (m - ((r + 1 : Nat) : Int) + 1) = m - (r : Int) := by rw [w32_eq (by omega) (by omega)]; omega
    have ef : fd (s.2 19) W m (r + 1) = if s.2 19 (m - ((r + 1 : Nat) : Int)) = W then m - ((r + 1 : Nat) : Int) else fd (s.2 19) W m r := rfl
    rw [ef, B_X5_pupilNamed_2, w2]
    by_cases hN : s.2 19 (m - ((r + 1 : Nat) : Int)) = W
    · simp (disch := first | assumption | omega) only [↓sm, ↓reduceIte, ↓if_pos, ↓if_neg, kI, kJ, kR, kV, w32_eq, w64_eq, reduceCtorEq, Int.reduceAdd, Int.reduceMul, Int.reduceSub, o_c7, ↓o_g7_0, ↓o_g7_1, ↓o_g7_2, ↓o_g7_3, ↓o_g7_4, ↓o_g7_5, ↓o_g7_6, ↓o_g7_7, ↓o_g7_8, ↓o_g7_9, ↓o_g7_10, ↓o_g7_11, ↓o_g7_12, ↓o_g7_13, ↓o_g7_14, ↓o_g7_15, ↓o_g7_16, ↓o_g7_17, ↓a_ln8, ↓a_ld8, ↓a_ln9, ↓a_ld9, ↓a_ln10, ↓a_ld10, ↓a_ln11, ↓a_ld11, ↓a_ln12, ↓a_ld12, ↓a_ln13, ↓a_ld13, ↓a_ln14, ↓a_ld14, ↓a_ln15, ↓a_ld15, ↓a_ln16, ↓a_ld16, ↓a_ln17, ↓a_ld17, ↓a_ln18, ↓a_ld18, ↓a_ln19, ↓a_ld19, hm, lcmp0, hN]
    · simp (disch := first | assumption | omega) only [↓sm, ↓reduceIte, ↓if_pos, ↓if_neg, kI, kJ, kR, kV, w32_eq, w64_eq, reduceCtorEq, Int.reduceAdd, Int.reduceMul, Int.reduceSub, o_c7, ↓o_g7_0, ↓o_g7_1, ↓o_g7_2, ↓o_g7_3, ↓o_g7_4, ↓o_g7_5, ↓o_g7_6, ↓o_g7_7, ↓o_g7_8, ↓o_g7_9, ↓o_g7_10, ↓o_g7_11, ↓o_g7_12, ↓o_g7_13, ↓o_g7_14, ↓o_g7_15, ↓o_g7_16, ↓o_g7_17, ↓a_ln8, ↓a_ld8, ↓a_ln9, ↓a_ld9, ↓a_ln10, ↓a_ld10, ↓a_ln11, ↓a_ld11, ↓a_ln12, ↓a_ld12, ↓a_ln13, ↓a_ld13, ↓a_ln14, ↓a_ld14, ↓a_ln15, ↓a_ld15, ↓a_ln16, ↓a_ld16, ↓a_ln17, ↓a_ld17, ↓a_ln18, ↓a_ld18, ↓a_ln19, ↓a_ld19, hm, lcmp0, hN]
      exact ih
theorem c_pup7 (Z : mX) {s : mS} {m : Int} (hm : s.1 7 10 = m) (m0 : 0 ≤ m) (m7 : m ≤ 5) (W : Int) (f : Int → mW → mO) : mm_kI (mm_run (zP Z) 54 [.inr (.inr (some 7)), .inr (.inl W)] (mk s)) f = f (fd (s.2 19) W m m.toNat) (mk s) := by
  have g := lp_pup7 Z hm m7 (W := W) m.toNat (by omega)
  rw [show m - (m.toNat : Int) = 0 by omega] at g
  rw [B_X5_pupilNamed, g, kI]
