/-! the reference's tokens -/
def tkr (K : Int) : Int := if K = 0 then 0 else if K = 1 then 1 else if K ≤ 4 then 2 else if K = 5 then 3 else 4
def ryA (_ : Nat) : Prop := False
def ryF (q k : Nat) : Prop := q = 141 ∧ 12 ≤ k ∧ k ≤ 15
def RB (b : Int → Int) (n : Int) (t : mS) : Prop := t.1 141 11 = n ∧ ∀ j, 0 ≤ j → j < n → t.2 148 j = mm_i2b (b j)
/-- the reference has scanned a token -/
def RX (b : Int → Int) (n F E K V : Int) (t : mS) : Prop := RB b n t ∧ t.1 141 14 = E ∧ t.1 141 13 = F ∧ t.1 141 12 = tkr K ∧ (K = 5 ∨ K = 6 → t.1 141 15 = V)
def bt (b : Int → Int) (n k : Int) : Int := if k < n then b k else -1
theorem B_X12_ahead_0 (Z : mX) (o : Nat) (w : mW) : mm_at (zP Z) 233 0 [some (.inr (.inr (some o))), none] [] w = mm_run (zP Z) 233 [.inr (.inr (some o))] w := by
  unfold mm_run
  rfl
theorem rg14 {t : mS} {i : Int} (h : t.1 141 14 = i) (f : Int → mO) : (mm_gI (mk t) 141 12 14).bind f = f i := by rw [o_g141_14, h]
theorem rg13 {t : mS} {i : Int} (h : t.1 141 13 = i) (f : Int → mO) : (mm_gI (mk t) 141 12 13).bind f = f i := by rw [o_g141_13, h]
theorem rg14u {t : mS} {i : Int} (h : t.1 141 14 = i) (v : Int) (f : Int → mO) : (mm_gI (mk (uF t 141 15 v)) 141 12 14).bind f = f i := by rw [o_g141_14, uF_1, if_neg (by omega), h]
theorem i2b_255 {x : Int} (h0 : 0 ≤ x) (h1 : x < 256) : mm_iand (mm_i2b x) 255 = x := by
  have key : ∀ x : Nat, x < 256 → mm_iand (mm_i2b (x : Int)) 255 = (x : Int) := by decide +kernel
  have := key x.toNat (by omega)
  rwa [Int.toNat_of_nonneg h0] at this
theorem r_byteAt (Z : mX) {b : Int → Int} {n : Int} {t : mS} (hT : TB0 b n) (hR : RB b n t) (k : Int) (k0 : 0 ≤ k) (f : Int → mW → mO) : mm_kI (mm_run (zP Z) 230 [.inr (.inr (some 141)), .inl k] (mk t)) f = f (bt b n k) (mk t) := by
  obtain ⟨n0, n9, hT⟩ := hT
  obtain ⟨h1, h2⟩ := hR
  rw [B_X12_byteAt]
  unfold bt
  by_cases hk : k < n
  · have e := h2 k k0 hk
    have r := hT k k0 hk
    have e2 := i2b_255 r.1 r.2
    simp (disch := first | assumption | omega) only [↓sm, ↓reduceIte, ↓if_pos, ↓if_neg, kI, kJ, kR, kV, w32_eq, w64_eq, reduceCtorEq, Int.reduceAdd, Int.reduceMul, Int.reduceSub, o_c141, ↓o_g141_0, ↓o_g141_1, ↓o_g141_5, ↓o_g141_6, ↓o_g141_7, ↓o_g141_8, ↓o_g141_9, ↓o_g141_21, ↓o_g141_25, ↓o_g141_26, ↓o_g141_27, ↓o_g141_28, ↓o_g141_29, ↓o_g141_30, ↓o_g141_31, ↓o_g141_34, ↓o_g141_35, ↓o_g141_36, ↓o_g141_11, h1, ↓a_ld148, e, e2]
  · simp (disch := first | assumption | omega) only [↓sm, ↓reduceIte, ↓if_pos, ↓if_neg, kI, kJ, kR, kV, w32_eq, w64_eq, reduceCtorEq, Int.reduceAdd, Int.reduceMul, Int.reduceSub, o_c141, ↓o_g141_0, ↓o_g141_1, ↓o_g141_5, ↓o_g141_6, ↓o_g141_7, ↓o_g141_8, ↓o_g141_9, ↓o_g141_21, ↓o_g141_25, ↓o_g141_26, ↓o_g141_27, ↓o_g141_28, ↓o_g141_29, ↓o_g141_30, ↓o_g141_31, ↓o_g141_34, ↓o_g141_35, ↓o_g141_36, ↓o_g141_11, h1]
theorem r_sm_t (Z : mX) (w : mW) {c : Int} (h : isLt c) (f : Int → mW → mO) : mm_kI (mm_run (zP Z) 231 [.inl c] w) f = f 1 w := by
  unfold isLt at h
  rw [B_X12_isSmall]
  simp (disch := first | assumption | omega) only [↓sm, ↓reduceIte, ↓if_pos, ↓if_neg, kI, kJ, kR, kV, w32_eq, w64_eq, reduceCtorEq, Int.reduceAdd, Int.reduceMul, Int.reduceSub]
theorem r_sm_f (Z : mX) (w : mW) {c : Int} (h : ¬ isLt c) (f : Int → mW → mO) : mm_kI (mm_run (zP Z) 231 [.inl c] w) f = f 0 w := by
  unfold isLt at h
  rw [B_X12_isSmall]
  by_cases h1 : c < 97
  · simp (disch := first | assumption | omega) only [↓sm, ↓reduceIte, ↓if_pos, ↓if_neg, kI, kJ, kR, kV, w32_eq, w64_eq, reduceCtorEq, Int.reduceAdd, Int.reduceMul, Int.reduceSub]
  · simp (disch := first | assumption | omega) only [↓sm, ↓reduceIte, ↓if_pos, ↓if_neg, kI, kJ, kR, kV, w32_eq, w64_eq, reduceCtorEq, Int.reduceAdd, Int.reduceMul, Int.reduceSub]
theorem r_dg_t (Z : mX) (w : mW) {c : Int} (h : isDg c) (f : Int → mW → mO) : mm_kI (mm_run (zP Z) 232 [.inl c] w) f = f 1 w := by
  unfold isDg at h
  rw [B_X12_isDigit]
  simp (disch := first | assumption | omega) only [↓sm, ↓reduceIte, ↓if_pos, ↓if_neg, kI, kJ, kR, kV, w32_eq, w64_eq, reduceCtorEq, Int.reduceAdd, Int.reduceMul, Int.reduceSub]
theorem r_dg_f (Z : mX) (w : mW) {c : Int} (h : ¬ isDg c) (f : Int → mW → mO) : mm_kI (mm_run (zP Z) 232 [.inl c] w) f = f 0 w := by
  unfold isDg at h
  rw [B_X12_isDigit]
  by_cases h1 : c < 48
  · simp (disch := first | assumption | omega) only [↓sm, ↓reduceIte, ↓if_pos, ↓if_neg, kI, kJ, kR, kV, w32_eq, w64_eq, reduceCtorEq, Int.reduceAdd, Int.reduceMul, Int.reduceSub]
  · simp (disch := first | assumption | omega) only [↓sm, ↓reduceIte, ↓if_pos, ↓if_neg, kI, kJ, kR, kV, w32_eq, w64_eq, reduceCtorEq, Int.reduceAdd, Int.reduceMul, Int.reduceSub]
theorem ry_uF {s t : mS} (h : Ag ryA ryF s t) {k : Nat} (h0 : 12 ≤ k) (h1 : k ≤ 15) (v : Int) : Ag ryA ryF s (uF t 141 k v) := Ag_uF (F := ryF) h ⟨rfl, h0, h1⟩ v
theorem RB_ag {b : Int → Int} {n : Int} {s t : mS} (h : RB b n s) (g : Ag ryA ryF s t) : RB b n t :=
  ⟨(g.2 141 11 (by unfold ryF; omega)).trans h.1, fun j j0 j1 => by rw [g.1 148 (fun x => x)]; exact h.2 j j0 j1⟩
theorem RB_uF {b : Int → Int} {n : Int} {s : mS} (h : RB b n s) {k : Nat} (h0 : 12 ≤ k) (v : Int) : RB b n (uF s 141 k v) :=
  ⟨by rw [uF_1, if_neg (by omega)]; exact h.1, h.2⟩
theorem r_skip (Z : mX) {b : Int → Int} {n F : Int} (hT : TB0 b n) (hF : F ≤ n) : ∀ k : Nat, ∀ (i : Int) (t : mS), (F - i).toNat = k → 0 ≤ i → i ≤ F → RB b n t → t.1 141 14 = i → (∀ j, i ≤ j → j < F → isBl (b j)) →
    ∃ t', mm_run (zP Z) 233 [.inr (.inr (some 141))] (mk t) = mm_run (zP Z) 233 [.inr (.inr (some 141))] (mk t') ∧ t'.1 141 14 = F ∧ Ag ryA ryF t t' := by
  intro k
  induction k with
  | zero =>
    intro i t hk i0 i1 hR h2 hl
    have : i = F := by omega
    subst this
    exact ⟨t, rfl, h2, Ag_refl _ _ _⟩
  | succ k ih =>
    intro i t hk i0 i1 hR h2 hl
    have n9 := hT.2.1
    have hli := hl i (by omega) (by omega)
    have hbi : bt b n i = b i := if_pos (by omega)
    obtain ⟨t', e, f2, ag⟩ := ih (i + 1) (uF t 141 14 (i + 1)) (by omega) (by omega) (by omega) (RB_uF hR (by omega) _) (by rw [uF_1, if_pos ⟨rfl, rfl⟩]) (fun j j0 j1 => hl j (by omega) j1)
    refine ⟨t', ?_, f2, Ag_trans (ry_uF (Ag_refl _ _ _) (by omega) (by omega) _) ag⟩
    have c := fun f => r_byteAt Z hT hR i i0 f
    rw [hbi] at c
    unfold isBl at hli
    conv => lhs; rw [B_X12_ahead]
    rcases hli with hli | hli
    · simp (disch := first | assumption | omega) only [↓sm, ↓reduceIte, ↓if_pos, ↓if_neg, kI, kJ, kR, kV, w32_eq, w64_eq, reduceCtorEq, Int.reduceAdd, Int.reduceMul, Int.reduceSub, o_c141, ↓o_g141_0, ↓o_g141_1, ↓o_g141_5, ↓o_g141_6, ↓o_g141_7, ↓o_g141_8, ↓o_g141_9, ↓o_g141_21, ↓o_g141_25, ↓o_g141_26, ↓o_g141_27, ↓o_g141_28, ↓o_g141_29, ↓o_g141_30, ↓o_g141_31, ↓o_g141_34, ↓o_g141_35, ↓o_g141_36, ↓rg14 h2, ↓c, B_X12_ahead_12 Z, ↓o_p141_14]
      rw [B_X12_ahead_0]
      exact e
    · simp (disch := first | assumption | omega) only [↓sm, ↓reduceIte, ↓if_pos, ↓if_neg, kI, kJ, kR, kV, w32_eq, w64_eq, reduceCtorEq, Int.reduceAdd, Int.reduceMul, Int.reduceSub, o_c141, ↓o_g141_0, ↓o_g141_1, ↓o_g141_5, ↓o_g141_6, ↓o_g141_7, ↓o_g141_8, ↓o_g141_9, ↓o_g141_21, ↓o_g141_25, ↓o_g141_26, ↓o_g141_27, ↓o_g141_28, ↓o_g141_29, ↓o_g141_30, ↓o_g141_31, ↓o_g141_34, ↓o_g141_35, ↓o_g141_36, ↓rg14 h2, ↓c, B_X12_ahead_12 Z, ↓o_p141_14]
      rw [B_X12_ahead_0]
      exact e
theorem r_word (Z : mX) {b : Int → Int} {n F E : Int} (hT : TB0 b n) (hE : E ≤ n) (hF : 0 ≤ F) (hl : ∀ j, F ≤ j → j < E → isLt (b j)) (hn : E < n → ¬ isLt (b E)) : ∀ k : Nat, ∀ (i : Int) (t : mS), (E - i).toNat = k → F ≤ i → i ≤ E → RB b n t → t.1 141 14 = i →
    ∃ t', mm_at (zP Z) 233 41 [some (.inr (.inr (some 141))), none] [] (mk t) = some (none, mk t') ∧ t'.1 141 14 = E ∧ t'.1 141 12 = 2 ∧ t'.1 141 13 = t.1 141 13 ∧ Ag ryA ryF t t' := by
  intro k
  induction k with
  | zero =>
    intro i t hk i0 i1 hR h2
    have : i = E := by omega
    subst this
    have c := fun f => r_byteAt Z hT hR i (by omega) f
    have hb : ¬ isLt (bt b n i) := by
      unfold bt
      by_cases hi : i < n
      · rw [if_pos hi]; exact hn hi
      · rw [if_neg hi]; unfold isLt; omega
    generalize bt b n i = x at c hb
    refine ⟨uF t 141 12 2, ?_, by rw [uF_1, if_neg (by omega)]; exact h2, by rw [uF_1, if_pos ⟨rfl, rfl⟩], by rw [uF_1, if_neg (by omega)], ry_uF (Ag_refl _ _ _) (by omega) (by omega) _⟩
    rw [B_X12_ahead_41]
    simp (disch := first | assumption | omega) only [↓sm, ↓reduceIte, ↓if_pos, ↓if_neg, kI, kJ, kR, kV, w32_eq, w64_eq, reduceCtorEq, Int.reduceAdd, Int.reduceMul, Int.reduceSub, o_c141, ↓o_g141_0, ↓o_g141_1, ↓o_g141_5, ↓o_g141_6, ↓o_g141_7, ↓o_g141_8, ↓o_g141_9, ↓o_g141_21, ↓o_g141_25, ↓o_g141_26, ↓o_g141_27, ↓o_g141_28, ↓o_g141_29, ↓o_g141_30, ↓o_g141_31, ↓o_g141_34, ↓o_g141_35, ↓o_g141_36, ↓rg14 h2, ↓c, ↓r_sm_f Z, ↓o_p141_12]
  | succ k ih =>
    intro i t hk i0 i1 hR h2
    have n9 := hT.2.1
    have hli := hl i i0 (by omega)
    have hbi : bt b n i = b i := if_pos (by omega)
    have c := fun f => r_byteAt Z hT hR i (by omega) f
    rw [hbi] at c
    obtain ⟨t', e, f2, f3, f4, ag⟩ := ih (i + 1) (uF t 141 14 (i + 1)) (by omega) (by omega) (by omega) (RB_uF hR (by omega) _) (by rw [uF_1, if_pos ⟨rfl, rfl⟩])
    refine ⟨t', ?_, f2, f3, f4.trans (by rw [uF_1, if_neg (by omega)]), Ag_trans (ry_uF (Ag_refl _ _ _) (by omega) (by omega) _) ag⟩
    rw [B_X12_ahead_41]
    simp (disch := first | assumption | omega) only [↓sm, ↓reduceIte, ↓if_pos, ↓if_neg, kI, kJ, kR, kV, w32_eq, w64_eq, reduceCtorEq, Int.reduceAdd, Int.reduceMul, Int.reduceSub, o_c141, ↓o_g141_0, ↓o_g141_1, ↓o_g141_5, ↓o_g141_6, ↓o_g141_7, ↓o_g141_8, ↓o_g141_9, ↓o_g141_21, ↓o_g141_25, ↓o_g141_26, ↓o_g141_27, ↓o_g141_28, ↓o_g141_29, ↓o_g141_30, ↓o_g141_31, ↓o_g141_34, ↓o_g141_35, ↓o_g141_36, ↓rg14 h2, ↓c, ↓r_sm_t Z, ↓o_p141_14]
    exact e
theorem r_digits (Z : mX) {b : Int → Int} {n F E : Int} (hT : TB0 b n) (hE : E ≤ n) (hF : 0 ≤ F) (hl : ∀ j, F ≤ j → j < E → isDg (b j)) (hn : E < n → ¬ isDg (b E)) : ∀ k : Nat, ∀ (i : Int) (t : mS), (E - i).toNat = k → F ≤ i → i ≤ E → RB b n t → t.1 141 14 = i → t.1 141 13 = F → (i - F ≤ 4 → t.1 141 15 = dv b F (i - F).toNat) →
    ∃ t', mm_at (zP Z) 233 64 [some (.inr (.inr (some 141))), none] [] (mk t) = some (none, mk t') ∧ t'.1 141 14 = E ∧ t'.1 141 12 = (if 4 < E - F then 1 else 3) ∧ t'.1 141 13 = F ∧ (E - F ≤ 4 → t'.1 141 15 = dv b F (E - F).toNat) ∧ Ag ryA ryF t t' := by
  intro k
  have n9 := hT.2.1
  induction k with
  | zero =>
    intro i t hk i0 i1 hR h2 h3 h5
    have : i = E := by omega
    subst this
    have c := fun f => r_byteAt Z hT hR i (by omega) f
    have hb : ¬ isDg (bt b n i) := by
      unfold bt
      by_cases hi : i < n
      · rw [if_pos hi]; exact hn hi
      · rw [if_neg hi]; unfold isDg; omega
    generalize bt b n i = x at c hb
    refine ⟨uF t 141 12 (if 4 < i - F then 1 else 3), ?_, by rw [uF_1, if_neg (by omega)]; exact h2, by rw [uF_1, if_pos ⟨rfl, rfl⟩], by rw [uF_1, if_neg (by omega)]; exact h3, fun h => by rw [uF_1, if_neg (by omega)]; exact h5 h, ry_uF (Ag_refl _ _ _) (by omega) (by omega) _⟩
    rw [B_X12_ahead_64]
    by_cases h4 : 4 < i - F
    · simp (disch := first | assumption | omega) only [↓sm, ↓reduceIte, ↓if_pos, ↓if_neg, kI, kJ, kR, kV, w32_eq, w64_eq, reduceCtorEq, Int.reduceAdd, Int.reduceMul, Int.reduceSub, o_c141, ↓o_g141_0, ↓o_g141_1, ↓o_g141_5, ↓o_g141_6, ↓o_g141_7, ↓o_g141_8, ↓o_g141_9, ↓o_g141_21, ↓o_g141_25, ↓o_g141_26, ↓o_g141_27, ↓o_g141_28, ↓o_g141_29, ↓o_g141_30, ↓o_g141_31, ↓o_g141_34, ↓o_g141_35, ↓o_g141_36, ↓rg14 h2, ↓rg13 h3, ↓c, ↓r_dg_f Z, h4, ↓o_p141_12]
    · simp (disch := first | assumption | omega) only [↓sm, ↓reduceIte, ↓if_pos, ↓if_neg, kI, kJ, kR, kV, w32_eq, w64_eq, reduceCtorEq, Int.reduceAdd, Int.reduceMul, Int.reduceSub, o_c141, ↓o_g141_0, ↓o_g141_1, ↓o_g141_5, ↓o_g141_6, ↓o_g141_7, ↓o_g141_8, ↓o_g141_9, ↓o_g141_21, ↓o_g141_25, ↓o_g141_26, ↓o_g141_27, ↓o_g141_28, ↓o_g141_29, ↓o_g141_30, ↓o_g141_31, ↓o_g141_34, ↓o_g141_35, ↓o_g141_36, ↓rg14 h2, ↓rg13 h3, ↓c, ↓r_dg_f Z, h4, ↓o_p141_12]
  | succ k ih =>
    intro i t hk i0 i1 hR h2 h3 h5
    have hli := hl i i0 (by omega)
    have hbi : bt b n i = b i := if_pos (by omega)
    have c := fun f => r_byteAt Z hT hR i (by omega) f
    rw [hbi] at c
    obtain ⟨v, hv, hv2⟩ : ∃ v, (if mm_w32 (mm_w32 (mm_w32 (10 * t.1 141 15) + b i) - 48) < 100000 then mm_w32 (mm_w32 (mm_w32 (10 * t.1 141 15) + b i) - 48) else 100000) = v ∧ (i + 1 - F ≤ 4 → v = dv b F (i + 1 - F).toNat) := by
      refine ⟨_, rfl, fun h4 => ?_⟩
      have h5 := h5 (by omega)
      have dr := dv_r (b := b) (F := F) (i - F).toNat (fun j j0 j1 => hl j j0 (by omega))
      have d4 : dv b F (i - F).toNat < 1000 := by
        have key : ∀ k : Nat, k < 4 → (10 : Int) ^ k ≤ 1000 := by decide
        have := key (i - F).toNat (by omega)
        omega
      have hd := hli
      unfold isDg at hd
      have e1 : dv b F (i + 1 - F).toNat = dv b F (i - F).toNat * 10 + b i - 48 := by
        rw [show (i + 1 - F).toNat = (i - F).toNat + 1 by omega]
        show dv b F (i - F).toNat * 10 + b (F + ((i - F).toNat : Int)) - 48 = _
        rw [show F + ((i - F).toNat : Int) = i by omega]
      rw [h5, e1, w32_eq (x := 10 * dv b F (i - F).toNat) (by omega) (by omega), w32_eq (x := 10 * dv b F (i - F).toNat + b i) (by omega) (by omega), w32_eq (by omega) (by omega), if_pos (by omega)]
      omega
    obtain ⟨t', e, f2, f3, f4, f5, ag⟩ := ih (i + 1) (uF (uF t 141 15 v) 141 14 (i + 1)) (by omega) (by omega) (by omega) (RB_uF (RB_uF hR (by omega) _) (by omega) _) (by rw [uF_1, if_pos ⟨rfl, rfl⟩]) (by rw [uF_1, if_neg (by omega), uF_1, if_neg (by omega)]; exact h3) (fun h => by rw [uF_1, if_neg (by omega), uF_1, if_pos ⟨rfl, rfl⟩]; exact hv2 h)
    refine ⟨t', ?_, f2, f3, f4, f5, Ag_trans (ry_uF (ry_uF (Ag_refl _ _ _) (by omega) (by omega) _) (by omega) (by omega) _) ag⟩
    have q2 : (uF t 141 15 v).1 141 14 = i := by rw [uF_1, if_neg (by omega)]; exact h2
    have ww : mm_w32 (i + 1) = i + 1 := w32_eq (by omega) (by omega)
    rw [B_X12_ahead_64]
    simp (disch := first | assumption | omega) only [↓sm, ↓if_pos, ↓if_neg, kI, o_c141, ↓rg14 h2, ↓o_g141_15, ↓c, ↓r_dg_t Z, ↓o_p141_15, ↓rg14u h2, ↓o_p141_14, hv, ww]
    exact e
theorem r_ah0 (Z : mX) {b : Int → Int} {n F E K V W : Int} {t1 : mS} (hT : TB0 b n) (F0 : 0 ≤ F) (FE : F ≤ E) (En : E ≤ n) (hnb : F < n → ¬ isBl (b F)) (hK : K = 0) (hF0 : F = n) (hE0 : E = n) (hR1 : RB b n t1) (f2 : t1.1 141 14 = F) :
    ∃ t', (∀ f : mW → mO, mm_kV (mm_run (zP Z) 233 [.inr (.inr (some 141))] (mk t1)) f = f (mk t')) ∧ RX b n F E K V t' ∧ Ag ryA ryF t1 t' := by
  have n9 := hT.2.1
  have c1 := fun f => r_byteAt Z hT hR1 F F0 f
  have c2 := fun f => r_byteAt Z hT (RB_uF hR1 (k := 13) (by omega) F) F F0 f
  have q2 : (uF t1 141 13 F).1 141 14 = F := by rw [uF_1, if_neg (by omega)]; exact f2
  subst hK
  have hb : bt b n F = -1 := if_neg (by omega)
  rw [hb] at c1 c2
  refine ⟨uF (uF (uF t1 141 13 F) 141 15 (-1)) 141 12 0, fun f => ?_, ⟨RB_uF (RB_uF (RB_uF hR1 (by omega) _) (by omega) _) (by omega) _, ?_, ?_, ?_, fun h => by omega⟩, (ry_uF (ry_uF (ry_uF (Ag_refl _ _ _) (by omega) (by omega) _) (by omega) (by omega) _) (by omega) (by omega) _)⟩
  · rw [B_X12_ahead]
    simp (disch := first | assumption | omega) only [↓sm, ↓reduceIte, ↓if_pos, ↓if_neg, kI, kJ, kR, kV, w32_eq, w64_eq, reduceCtorEq, Int.reduceAdd, Int.reduceMul, Int.reduceSub, o_c141, ↓o_g141_0, ↓o_g141_1, ↓o_g141_5, ↓o_g141_6, ↓o_g141_7, ↓o_g141_8, ↓o_g141_9, ↓o_g141_21, ↓o_g141_25, ↓o_g141_26, ↓o_g141_27, ↓o_g141_28, ↓o_g141_29, ↓o_g141_30, ↓o_g141_31, ↓o_g141_34, ↓o_g141_35, ↓o_g141_36, ↓rg14 f2, ↓c1, ↓o_p141_13, ↓rg14 q2, ↓c2, ↓o_p141_15, ↓o_p141_12]
  · simp [uF_1, f2]
    omega
  · simp [uF_1]
  · simp [uF_1, tkr]
theorem r_ahW (Z : mX) {b : Int → Int} {n F E K V W : Int} {t1 : mS} (hT : TB0 b n) (F0 : 0 ≤ F) (FE : F ≤ E) (En : E ≤ n) (hnb : F < n → ¬ isBl (b F)) (hFE : F < E) (hl : ∀ j, F ≤ j → j < E → isLt (b j)) (hn : E < n → ¬ isLt (b E)) (hK : (8 < E - F ∧ K = 4) ∨ (E - F ≤ 8 ∧ fn pC W 27 = -1 ∧ K = 3) ∨ (E - F ≤ 8 ∧ fn pC W 27 ≠ -1 ∧ K = 2 ∧ V = fn pC W 27)) (hR1 : RB b n t1) (f2 : t1.1 141 14 = F) :
    ∃ t', (∀ f : mW → mO, mm_kV (mm_run (zP Z) 233 [.inr (.inr (some 141))] (mk t1)) f = f (mk t')) ∧ RX b n F E K V t' ∧ Ag ryA ryF t1 t' := by
  have n9 := hT.2.1
  have c1 := fun f => r_byteAt Z hT hR1 F F0 f
  have c2 := fun f => r_byteAt Z hT (RB_uF hR1 (k := 13) (by omega) F) F F0 f
  have q2 : (uF t1 141 13 F).1 141 14 = F := by rw [uF_1, if_neg (by omega)]; exact f2
  have hlF := hl F (by omega) (by omega)
  have hb : bt b n F = b F := if_pos (by omega)
  rw [hb] at c1 c2
  have hlt := hlF
  unfold isLt at hlt
  obtain ⟨t2, e2, k2, k3, k4, ag2⟩ := r_word Z hT En F0 hl hn _ F (uF (uF t1 141 13 F) 141 15 (b F)) rfl (by omega) FE (RB_uF (RB_uF hR1 (by omega) _) (by omega) _) (by rw [uF_1, if_neg (by omega)]; exact q2)
  have hK2 : tkr K = 2 := by
    rcases hK with ⟨_, rfl⟩ | ⟨_, _, rfl⟩ | ⟨_, _, rfl, _⟩ <;> rfl
  refine ⟨t2, fun f => ?_, ⟨RB_ag (RB_uF (RB_uF hR1 (by omega) _) (by omega) _) ag2, k2, k4.trans (by simp [uF_1]), by rw [hK2]; exact k3, fun h => ?_⟩, (Ag_trans (ry_uF (ry_uF (Ag_refl _ _ _) (by omega) (by omega) _) (by omega) (by omega) _) ag2)⟩
  · rw [B_X12_ahead]
    simp (disch := first | assumption | omega) only [↓sm, ↓reduceIte, ↓if_pos, ↓if_neg, kI, kJ, kR, kV, w32_eq, w64_eq, reduceCtorEq, Int.reduceAdd, Int.reduceMul, Int.reduceSub, o_c141, ↓o_g141_0, ↓o_g141_1, ↓o_g141_5, ↓o_g141_6, ↓o_g141_7, ↓o_g141_8, ↓o_g141_9, ↓o_g141_21, ↓o_g141_25, ↓o_g141_26, ↓o_g141_27, ↓o_g141_28, ↓o_g141_29, ↓o_g141_30, ↓o_g141_31, ↓o_g141_34, ↓o_g141_35, ↓o_g141_36, ↓rg14 f2, ↓c1, ↓o_p141_13, ↓rg14 q2, ↓c2, ↓o_p141_15, ↓r_sm_t Z, e2]
  · rcases hK with ⟨_, rfl⟩ | ⟨_, _, rfl⟩ | ⟨_, _, rfl, _⟩ <;> omega
theorem r_ahD (Z : mX) {b : Int → Int} {n F E K V W : Int} {t1 : mS} (hT : TB0 b n) (F0 : 0 ≤ F) (FE : F ≤ E) (En : E ≤ n) (hnb : F < n → ¬ isBl (b F)) (hFE : F < E) (hl : ∀ j, F ≤ j → j < E → isDg (b j)) (hn : E < n → ¬ isDg (b E)) (hK : (4 < E - F ∧ K = 1) ∨ (E - F ≤ 4 ∧ K = 5 ∧ V = dv b F (E - F).toNat)) (hR1 : RB b n t1) (f2 : t1.1 141 14 = F) :
    ∃ t', (∀ f : mW → mO, mm_kV (mm_run (zP Z) 233 [.inr (.inr (some 141))] (mk t1)) f = f (mk t')) ∧ RX b n F E K V t' ∧ Ag ryA ryF t1 t' := by
  have n9 := hT.2.1
  have c1 := fun f => r_byteAt Z hT hR1 F F0 f
  have c2 := fun f => r_byteAt Z hT (RB_uF hR1 (k := 13) (by omega) F) F F0 f
  have q2 : (uF t1 141 13 F).1 141 14 = F := by rw [uF_1, if_neg (by omega)]; exact f2
  have hdF := hl F (by omega) (by omega)
  have hb : bt b n F = b F := if_pos (by omega)
  rw [hb] at c1 c2
  have hd := hdF
  unfold isDg at hd
  have hnl : ¬ isLt (b F) := by unfold isLt; omega
  obtain ⟨t2, e2, k2, k3, k4, k5, ag2⟩ := r_digits Z hT En F0 hl hn _ F (uF (uF (uF t1 141 13 F) 141 15 (b F)) 141 15 0) rfl (by omega) FE (RB_uF (RB_uF (RB_uF hR1 (by omega) _) (by omega) _) (by omega) _) (by simp [uF_1, f2]) (by simp [uF_1]) (fun _ => by
    rw [show (F - F).toNat = 0 by omega]
    simp [uF_1, dv])
  refine ⟨t2, fun f => ?_, ⟨RB_ag (RB_uF (RB_uF (RB_uF hR1 (by omega) _) (by omega) _) (by omega) _) ag2, k2, k4, ?_, fun h => ?_⟩, (Ag_trans (ry_uF (ry_uF (ry_uF (Ag_refl _ _ _) (by omega) (by omega) _) (by omega) (by omega) _) (by omega) (by omega) _) ag2)⟩
  · rw [B_X12_ahead]
    simp (disch := first | assumption | omega) only [↓sm, ↓reduceIte, ↓if_pos, ↓if_neg, kI, kJ, kR, kV, w32_eq, w64_eq, reduceCtorEq, Int.reduceAdd, Int.reduceMul, Int.reduceSub, o_c141, ↓o_g141_0, ↓o_g141_1, ↓o_g141_5, ↓o_g141_6, ↓o_g141_7, ↓o_g141_8, ↓o_g141_9, ↓o_g141_21, ↓o_g141_25, ↓o_g141_26, ↓o_g141_27, ↓o_g141_28, ↓o_g141_29, ↓o_g141_30, ↓o_g141_31, ↓o_g141_34, ↓o_g141_35, ↓o_g141_36, ↓rg14 f2, ↓c1, ↓o_p141_13, ↓rg14 q2, ↓c2, ↓o_p141_15, ↓r_sm_f Z, ↓r_dg_t Z, e2]
  · rw [k3]
    rcases hK with ⟨h4, rfl⟩ | ⟨h4, rfl, _⟩
    · rw [if_pos h4]; rfl
    · rw [if_neg (by omega)]; rfl
  · rcases hK with ⟨h4, rfl⟩ | ⟨h4, rfl, rfl⟩
    · omega
    · exact k5 h4
theorem r_ahS (Z : mX) {b : Int → Int} {n F E K V W : Int} {t1 : mS} (hT : TB0 b n) (F0 : 0 ≤ F) (FE : F ≤ E) (En : E ≤ n) (hnb : F < n → ¬ isBl (b F)) (hE : E = F + 1) (hnl : ¬ isLt (b F)) (hnd : ¬ isDg (b F)) (hnb2 : ¬ isBl (b F)) (hV : V = b F) (hK : (K = 6 ∧ isSg (b F)) ∨ (K = 1 ∧ ¬ isSg (b F))) (hR1 : RB b n t1) (f2 : t1.1 141 14 = F) :
    ∃ t', (∀ f : mW → mO, mm_kV (mm_run (zP Z) 233 [.inr (.inr (some 141))] (mk t1)) f = f (mk t')) ∧ RX b n F E K V t' ∧ Ag ryA ryF t1 t' := by
  have n9 := hT.2.1
  have c1 := fun f => r_byteAt Z hT hR1 F F0 f
  have c2 := fun f => r_byteAt Z hT (RB_uF hR1 (k := 13) (by omega) F) F F0 f
  have q2 : (uF t1 141 13 F).1 141 14 = F := by rw [uF_1, if_neg (by omega)]; exact f2
  subst hE
  subst hV
  have hb : bt b n F = b F := if_pos (by omega)
  rw [hb] at c1 c2
  have hbr := hT.2.2 F F0 (by omega)
  have nb : ¬ b F = 32 ∧ ¬ b F = 10 := by unfold isBl at hnb2; omega
  obtain ⟨nb1, nb2⟩ := nb
  have e14 : (uF (uF t1 141 13 F) 141 15 (b F)).1 141 14 = F := by simp [uF_1, f2]
  have main : ∀ (k : Int), (k = 4 ∧ isSg (b F) ∨ k = 1 ∧ ¬ isSg (b F)) → ∀ f : mW → mO, mm_kV (mm_run (zP Z) 233 [.inr (.inr (some 141))] (mk t1)) f = f (mk (uF (uF (uF (uF t1 141 13 F) 141 15 (b F)) 141 14 (F + 1)) 141 12 k)) := by
    intro k hk f
    rw [B_X12_ahead]
    unfold isSg at hk
    rcases hk with ⟨rfl, hs | hs | hs | hs⟩ | ⟨rfl, hs⟩
    · simp (disch := first | assumption | omega) only [↓sm, ↓reduceIte, ↓if_pos, ↓if_neg, kI, kJ, kR, kV, w32_eq, w64_eq, reduceCtorEq, Int.reduceAdd, Int.reduceMul, Int.reduceSub, o_c141, ↓o_g141_0, ↓o_g141_1, ↓o_g141_5, ↓o_g141_6, ↓o_g141_7, ↓o_g141_8, ↓o_g141_9, ↓o_g141_21, ↓o_g141_25, ↓o_g141_26, ↓o_g141_27, ↓o_g141_28, ↓o_g141_29, ↓o_g141_30, ↓o_g141_31, ↓o_g141_34, ↓o_g141_35, ↓o_g141_36, ↓rg14 f2, ↓c1, ↓o_p141_13, ↓rg14 q2, ↓c2, ↓o_p141_15, ↓r_sm_f Z, ↓r_dg_f Z, ↓rg14 e14, ↓o_p141_14, ↓o_p141_12]
    · simp (disch := first | assumption | omega) only [↓sm, ↓reduceIte, ↓if_pos, ↓if_neg, kI, kJ, kR, kV, w32_eq, w64_eq, reduceCtorEq, Int.reduceAdd, Int.reduceMul, Int.reduceSub, o_c141, ↓o_g141_0, ↓o_g141_1, ↓o_g141_5, ↓o_g141_6, ↓o_g141_7, ↓o_g141_8, ↓o_g141_9, ↓o_g141_21, ↓o_g141_25, ↓o_g141_26, ↓o_g141_27, ↓o_g141_28, ↓o_g141_29, ↓o_g141_30, ↓o_g141_31, ↓o_g141_34, ↓o_g141_35, ↓o_g141_36, ↓rg14 f2, ↓c1, ↓o_p141_13, ↓rg14 q2, ↓c2, ↓o_p141_15, ↓r_sm_f Z, ↓r_dg_f Z, ↓rg14 e14, ↓o_p141_14, ↓o_p141_12]
    · simp (disch := first | assumption | omega) only [↓sm, ↓reduceIte, ↓if_pos, ↓if_neg, kI, kJ, kR, kV, w32_eq, w64_eq, reduceCtorEq, Int.reduceAdd, Int.reduceMul, Int.reduceSub, o_c141, ↓o_g141_0, ↓o_g141_1, ↓o_g141_5, ↓o_g141_6, ↓o_g141_7, ↓o_g141_8, ↓o_g141_9, ↓o_g141_21, ↓o_g141_25, ↓o_g141_26, ↓o_g141_27, ↓o_g141_28, ↓o_g141_29, ↓o_g141_30, ↓o_g141_31, ↓o_g141_34, ↓o_g141_35, ↓o_g141_36, ↓rg14 f2, ↓c1, ↓o_p141_13, ↓rg14 q2, ↓c2, ↓o_p141_15, ↓r_sm_f Z, ↓r_dg_f Z, ↓rg14 e14, ↓o_p141_14, ↓o_p141_12]
    · simp (disch := first | assumption | omega) only [↓sm, ↓reduceIte, ↓if_pos, ↓if_neg, kI, kJ, kR, kV, w32_eq, w64_eq, reduceCtorEq, Int.reduceAdd, Int.reduceMul, Int.reduceSub, o_c141, ↓o_g141_0, ↓o_g141_1, ↓o_g141_5, ↓o_g141_6, ↓o_g141_7, ↓o_g141_8, ↓o_g141_9, ↓o_g141_21, ↓o_g141_25, ↓o_g141_26, ↓o_g141_27, ↓o_g141_28, ↓o_g141_29, ↓o_g141_30, ↓o_g141_31, ↓o_g141_34, ↓o_g141_35, ↓o_g141_36, ↓rg14 f2, ↓c1, ↓o_p141_13, ↓rg14 q2, ↓c2, ↓o_p141_15, ↓r_sm_f Z, ↓r_dg_f Z, ↓rg14 e14, ↓o_p141_14, ↓o_p141_12]
    · simp (disch := first | assumption | omega) only [↓sm, ↓reduceIte, ↓if_pos, ↓if_neg, kI, kJ, kR, kV, w32_eq, w64_eq, reduceCtorEq, Int.reduceAdd, Int.reduceMul, Int.reduceSub, o_c141, ↓o_g141_0, ↓o_g141_1, ↓o_g141_5, ↓o_g141_6, ↓o_g141_7, ↓o_g141_8, ↓o_g141_9, ↓o_g141_21, ↓o_g141_25, ↓o_g141_26, ↓o_g141_27, ↓o_g141_28, ↓o_g141_29, ↓o_g141_30, ↓o_g141_31, ↓o_g141_34, ↓o_g141_35, ↓o_g141_36, ↓rg14 f2, ↓c1, ↓o_p141_13, ↓rg14 q2, ↓c2, ↓o_p141_15, ↓r_sm_f Z, ↓r_dg_f Z, ↓rg14 e14, ↓o_p141_14, ↓o_p141_12]
  have agk : ∀ k : Int, Ag ryA ryF t1 (uF (uF (uF (uF t1 141 13 F) 141 15 (b F)) 141 14 (F + 1)) 141 12 k) := fun k => (ry_uF (ry_uF (ry_uF (ry_uF (Ag_refl _ _ _) (by omega) (by omega) _) (by omega) (by omega) _) (by omega) (by omega) _) (by omega) (by omega) _)
  rcases hK with ⟨rfl, hs⟩ | ⟨rfl, hs⟩
  · exact ⟨_, main 4 (Or.inl ⟨rfl, hs⟩), ⟨RB_ag hR1 (agk 4), by simp [uF_1], by simp [uF_1], by simp [uF_1, tkr], fun _ => by simp [uF_1]⟩, agk 4⟩
  · exact ⟨_, main 1 (Or.inr ⟨rfl, hs⟩), ⟨RB_ag hR1 (agk 1), by simp [uF_1], by simp [uF_1], by simp [uF_1, tkr], fun h => by omega⟩, agk 1⟩
theorem r_ahead (Z : mX) {b : Int → Int} {n i F E K V W : Int} {t : mS} (hT : TB0 b n) (i0 : 0 ≤ i) (i1 : i ≤ F) (hbl : ∀ j, i ≤ j → j < F → isBl (b j)) (hnb : F < n → ¬ isBl (b F)) (hk : Tk b n F E K V W) (hR : RB b n t) (h2 : t.1 141 14 = i) :
    ∃ t', (∀ f : mW → mO, mm_kV (mm_run (zP Z) 233 [.inr (.inr (some 141))] (mk t)) f = f (mk t')) ∧ RX b n F E K V t' ∧ Ag ryA ryF t t' := by
  obtain ⟨F0, FE, En, hk⟩ := hk
  obtain ⟨t1, e1, f2, ag1⟩ := r_skip Z hT (by omega) _ i t rfl i0 i1 hR h2 hbl
  have hR1 := RB_ag hR ag1
  have fin : (∃ t', (∀ f : mW → mO, mm_kV (mm_run (zP Z) 233 [.inr (.inr (some 141))] (mk t1)) f = f (mk t')) ∧ RX b n F E K V t' ∧ Ag ryA ryF t1 t') → ∃ t', (∀ f : mW → mO, mm_kV (mm_run (zP Z) 233 [.inr (.inr (some 141))] (mk t)) f = f (mk t')) ∧ RX b n F E K V t' ∧ Ag ryA ryF t t' := by
    intro ⟨t', a, x, g⟩
    exact ⟨t', fun f => by rw [e1]; exact a f, x, Ag_trans ag1 g⟩
  rcases hk with ⟨hK, hF0, hE0⟩ | ⟨hFE, hl, hn, hW, hK⟩ | ⟨hFE, hl, hn, hK⟩ | ⟨hE, hnl, hnd, hnb2, hV, hK⟩
  · exact fin (r_ah0 Z (W := W) hT F0 FE En hnb hK hF0 hE0 hR1 f2)
  · exact fin (r_ahW Z hT F0 FE En hnb hFE hl hn hK hR1 f2)
  · exact fin (r_ahD Z (W := W) hT F0 FE En hnb hFE hl hn hK hR1 f2)
  · exact fin (r_ahS Z (W := W) hT F0 FE En hnb hE hnl hnd hnb2 hV hK hR1 f2)
