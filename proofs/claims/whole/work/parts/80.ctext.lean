/-! the class's tokens -/
def txA (_ : Nat) : Prop := False
def txF (q k : Nat) : Prop := q = 5 ∧ (k = 2 ∨ k = 3 ∨ k = 5 ∨ k = 6 ∨ k = 7)
def txG (q k : Nat) : Prop := q = 5 ∧ (k = 2 ∨ k = 6 ∨ k = 7)
theorem txG_F {s t : mS} (h : Ag txA txG s t) : Ag txA txF s t := Ag_mono h (fun q h => h) (fun q k h => by unfold txG at h; unfold txF; omega)
def TB0 (b : Int → Int) (n : Int) : Prop := 0 ≤ n ∧ n ≤ 900 ∧ ∀ j, 0 ≤ j → j < n → 0 ≤ b j ∧ b j < 256
/-- the class has scanned a token -/
def CX (b : Int → Int) (n F E K V W : Int) (s : mS) : Prop := s.1 5 1 = n ∧ (∀ j, 0 ≤ j → j < n → s.2 6 j = b j) ∧ s.1 5 2 = E ∧ s.1 5 3 = F ∧ s.1 5 5 = K ∧ (K = 2 ∨ K = 5 ∨ K = 6 → s.1 5 6 = V) ∧ (K = 3 → s.1 5 7 = W)
theorem B_X7_advance_0 (Z : mX) (o : Nat) (w : mW) : mm_at (zP Z) 94 0 [some (.inr (.inr (some o))), none] [] w = mm_run (zP Z) 94 [.inr (.inr (some o))] w := by
  unfold mm_run
  rfl
theorem k_get_hi (Z : mX) (s : mS) {q n : Nat} (h : arOf q = some (0, n)) (i : Int) (h1 : n ≤ i) (f : Int → mW → mO) : mm_kI (mm_run (zP Z) 199 [.inr (.inr (some q)), .inl i] (mk s)) f = f 0 (mk s) := by
  rw [B_X11_get]
  simp (disch := first | assumption | omega) only [↓sm, ↓reduceIte, ↓if_pos, ↓if_neg, kI, kJ, kR, kV, w32_eq, w64_eq, reduceCtorEq, Int.reduceAdd, Int.reduceMul, Int.reduceSub, mk_ln s h]
theorem c_bl_t (Z : mX) (w : mW) {c : Int} (h : isBl c) (f : Int → mW → mO) : mm_kI (mm_run (zP Z) 98 [.inl c] w) f = f 1 w := by
  unfold isBl at h
  rw [B_X7_isBlank]
  rcases h with h | h
  · simp (disch := first | assumption | omega) only [↓sm, ↓reduceIte, ↓if_pos, ↓if_neg, kI, kJ, kR, kV, w32_eq, w64_eq, reduceCtorEq, Int.reduceAdd, Int.reduceMul, Int.reduceSub, h]
  · simp (disch := first | assumption | omega) only [↓sm, ↓reduceIte, ↓if_pos, ↓if_neg, kI, kJ, kR, kV, w32_eq, w64_eq, reduceCtorEq, Int.reduceAdd, Int.reduceMul, Int.reduceSub, h]
theorem c_bl_f (Z : mX) (w : mW) {c : Int} (h : ¬ isBl c) (f : Int → mW → mO) : mm_kI (mm_run (zP Z) 98 [.inl c] w) f = f 0 w := by
  unfold isBl at h
  rw [B_X7_isBlank]
  simp (disch := first | assumption | omega) only [↓sm, ↓reduceIte, ↓if_pos, ↓if_neg, kI, kJ, kR, kV, w32_eq, w64_eq, reduceCtorEq, Int.reduceAdd, Int.reduceMul, Int.reduceSub]
theorem c_lt_t (Z : mX) (w : mW) {c : Int} (h : isLt c) (f : Int → mW → mO) : mm_kI (mm_run (zP Z) 99 [.inl c] w) f = f 1 w := by
  unfold isLt at h
  rw [B_X7_isLetter]
  simp (disch := first | assumption | omega) only [↓sm, ↓reduceIte, ↓if_pos, ↓if_neg, kI, kJ, kR, kV, w32_eq, w64_eq, reduceCtorEq, Int.reduceAdd, Int.reduceMul, Int.reduceSub]
theorem c_lt_f (Z : mX) (w : mW) {c : Int} (h : ¬ isLt c) (f : Int → mW → mO) : mm_kI (mm_run (zP Z) 99 [.inl c] w) f = f 0 w := by
  unfold isLt at h
  rw [B_X7_isLetter]
  by_cases h1 : c < 97
  · simp (disch := first | assumption | omega) only [↓sm, ↓reduceIte, ↓if_pos, ↓if_neg, kI, kJ, kR, kV, w32_eq, w64_eq, reduceCtorEq, Int.reduceAdd, Int.reduceMul, Int.reduceSub]
  · simp (disch := first | assumption | omega) only [↓sm, ↓reduceIte, ↓if_pos, ↓if_neg, kI, kJ, kR, kV, w32_eq, w64_eq, reduceCtorEq, Int.reduceAdd, Int.reduceMul, Int.reduceSub]
theorem c_dg_t (Z : mX) (w : mW) {c : Int} (h : isDg c) (f : Int → mW → mO) : mm_kI (mm_run (zP Z) 100 [.inl c] w) f = f 1 w := by
  unfold isDg at h
  rw [B_X7_isDigit]
  simp (disch := first | assumption | omega) only [↓sm, ↓reduceIte, ↓if_pos, ↓if_neg, kI, kJ, kR, kV, w32_eq, w64_eq, reduceCtorEq, Int.reduceAdd, Int.reduceMul, Int.reduceSub]
theorem c_dg_f (Z : mX) (w : mW) {c : Int} (h : ¬ isDg c) (f : Int → mW → mO) : mm_kI (mm_run (zP Z) 100 [.inl c] w) f = f 0 w := by
  unfold isDg at h
  rw [B_X7_isDigit]
  by_cases h1 : c < 48
  · simp (disch := first | assumption | omega) only [↓sm, ↓reduceIte, ↓if_pos, ↓if_neg, kI, kJ, kR, kV, w32_eq, w64_eq, reduceCtorEq, Int.reduceAdd, Int.reduceMul, Int.reduceSub]
  · simp (disch := first | assumption | omega) only [↓sm, ↓reduceIte, ↓if_pos, ↓if_neg, kI, kJ, kR, kV, w32_eq, w64_eq, reduceCtorEq, Int.reduceAdd, Int.reduceMul, Int.reduceSub]
theorem c_skip (Z : mX) {b : Int → Int} {n F : Int} (n9 : n ≤ 900) (hF : F ≤ n) : ∀ k : Nat, ∀ (i : Int) (s : mS), (F - i).toNat = k → 0 ≤ i → i ≤ F → s.1 5 1 = n → s.1 5 2 = i → (∀ j, 0 ≤ j → j < n → s.2 6 j = b j) → (∀ j, i ≤ j → j < F → isBl (b j)) → (F < n → ¬ isBl (b F)) →
    ∃ s', mm_run (zP Z) 94 [.inr (.inr (some 5))] (mk s) = mm_at (zP Z) 94 19 [some (.inr (.inr (some 5))), none] [] (mk s') ∧ s'.1 5 2 = F ∧ Ag txA txF s s' := by
  intro k
  induction k with
  | zero =>
    intro i s hk i0 i1 h1 h2 hb hl hn
    have : i = F := by omega
    subst this
    refine ⟨s, ?_, h2, Ag_refl _ _ _⟩
    by_cases hi : i < n
    · have hn := hn hi
      have hbi := hb i i0 hi
      rw [B_X7_advance]
      simp (disch := first | assumption | omega) only [↓sm, ↓reduceIte, ↓if_pos, ↓if_neg, kI, kJ, kR, kV, w32_eq, w64_eq, reduceCtorEq, Int.reduceAdd, Int.reduceMul, Int.reduceSub, o_c5, ↓o_g5_0, ↓o_g5_1, ↓o_g5_2, ↓o_g5_3, ↓o_g5_4, ↓o_g5_5, ↓o_g5_6, ↓o_g5_7, ↓o_g5_8, ↓o_g5_9, ↓o_g5_10, ↓a_ln6, ↓a_ld6, g_6 Z, h1, h2, hbi, c_bl_f Z]
    · rw [B_X7_advance]
      simp (disch := first | assumption | omega) only [↓sm, ↓reduceIte, ↓if_pos, ↓if_neg, kI, kJ, kR, kV, w32_eq, w64_eq, reduceCtorEq, Int.reduceAdd, Int.reduceMul, Int.reduceSub, o_c5, ↓o_g5_0, ↓o_g5_1, ↓o_g5_2, ↓o_g5_3, ↓o_g5_4, ↓o_g5_5, ↓o_g5_6, ↓o_g5_7, ↓o_g5_8, ↓o_g5_9, ↓o_g5_10, ↓a_ln6, ↓a_ld6, h1, h2]
  | succ k ih =>
    intro i s hk i0 i1 h1 h2 hb hl hn
    have hli := hl i (by omega) (by omega)
    have hbi := hb i i0 (by omega)
    obtain ⟨s', e, f2, ag⟩ := ih (i + 1) (uF s 5 2 (i + 1)) (by omega) (by omega) (by omega) (by rw [uF_1, if_neg (by omega)]; exact h1) (by rw [uF_1, if_pos ⟨rfl, rfl⟩]) hb (fun j j0 j1 => hl j (by omega) j1) hn
    refine ⟨s', ?_, f2, Ag_trans (Ag_uF (F := txF) (Ag_refl _ _ _) (by unfold txF; omega) _) ag⟩
    rw [B_X7_advance]
    simp (disch := first | assumption | omega) only [↓sm, ↓reduceIte, ↓if_pos, ↓if_neg, kI, kJ, kR, kV, w32_eq, w64_eq, reduceCtorEq, Int.reduceAdd, Int.reduceMul, Int.reduceSub, o_c5, ↓o_g5_0, ↓o_g5_1, ↓o_g5_2, ↓o_g5_3, ↓o_g5_4, ↓o_g5_5, ↓o_g5_6, ↓o_g5_7, ↓o_g5_8, ↓o_g5_9, ↓o_g5_10, ↓a_ln6, ↓a_ld6, g_6 Z, h1, h2, hbi, c_bl_t Z, ↓o_p5_2, o_p5_2]
    rw [B_X7_advance_0]
    exact e
theorem c_scan (Z : mX) {b : Int → Int} {n F E : Int} (n9 : n ≤ 900) (hE : E ≤ n) (hF : 0 ≤ F) (hl : ∀ j, F ≤ j → j < E → isLt (b j)) (hn : E < n → ¬ isLt (b E)) : ∀ k : Nat, ∀ (i : Int) (s : mS), (E - i).toNat = k → F ≤ i → i ≤ E → s.1 5 1 = n → s.1 5 2 = i → s.1 5 7 = pk b F (i - F).toNat → (∀ j, 0 ≤ j → j < n → s.2 6 j = b j) →
    ∃ s', mm_at (zP Z) 95 5 [some (.inr (.inr (some 5))), some (.inl ((i - F)))] [] (mk s) = mm_at (zP Z) 95 38 [some (.inr (.inr (some 5))), some (.inl ((E - F)))] [] (mk s') ∧ s'.1 5 2 = E ∧ s'.1 5 7 = pk b F (E - F).toNat ∧ Ag txA txG s s' := by
  intro k
  induction k with
  | zero =>
    intro i s hk i0 i1 h1 h2 h7 hb
    have : i = E := by omega
    subst this
    refine ⟨s, ?_, h2, h7, Ag_refl _ _ _⟩
    by_cases hi : i < n
    · have hn := hn hi
      have hbi := hb i (by omega) hi
      rw [B_X7_scanWord_5]
      simp (disch := first | assumption | omega) only [↓sm, ↓reduceIte, ↓if_pos, ↓if_neg, kI, kJ, kR, kV, w32_eq, w64_eq, reduceCtorEq, Int.reduceAdd, Int.reduceMul, Int.reduceSub, o_c5, ↓o_g5_0, ↓o_g5_1, ↓o_g5_2, ↓o_g5_3, ↓o_g5_4, ↓o_g5_5, ↓o_g5_6, ↓o_g5_7, ↓o_g5_8, ↓o_g5_9, ↓o_g5_10, ↓a_ln6, ↓a_ld6, g_6 Z, h1, h2, hbi, c_lt_f Z]
    · rw [B_X7_scanWord_5]
      simp (disch := first | assumption | omega) only [↓sm, ↓reduceIte, ↓if_pos, ↓if_neg, kI, kJ, kR, kV, w32_eq, w64_eq, reduceCtorEq, Int.reduceAdd, Int.reduceMul, Int.reduceSub, o_c5, ↓o_g5_0, ↓o_g5_1, ↓o_g5_2, ↓o_g5_3, ↓o_g5_4, ↓o_g5_5, ↓o_g5_6, ↓o_g5_7, ↓o_g5_8, ↓o_g5_9, ↓o_g5_10, ↓a_ln6, ↓a_ld6, h1, h2]
  | succ k ih =>
    intro i s hk i0 i1 h1 h2 h7 hb
    have hli := hl i i0 (by omega)
    have hbi := hb i (by omega) (by omega)
    have ep : mm_lor (mm_lshl (pk b F (i - F).toNat) 8) (b i) = pk b F (i + 1 - F).toNat := by
      rw [show (i + 1 - F).toNat = (i - F).toNat + 1 by omega]
      show _ = mm_lor (mm_lshl (pk b F (i - F).toNat) 8) (b (F + ((i - F).toNat : Int)))
      rw [show F + ((i - F).toNat : Int) = i by omega]
    obtain ⟨s', e, f2, f7, ag⟩ := ih (i + 1) (uF (uF s 5 7 (pk b F (i + 1 - F).toNat)) 5 2 (i + 1)) (by omega) (by omega) (by omega) (by rw [uF_1, if_neg (by omega), uF_1, if_neg (by omega)]; exact h1) (by rw [uF_1, if_pos ⟨rfl, rfl⟩]) (by rw [uF_1, if_neg (by omega), uF_1, if_pos ⟨rfl, rfl⟩]) hb
    refine ⟨s', ?_, f2, f7, Ag_trans (Ag_uF (F := txG) (Ag_uF (F := txG) (Ag_refl _ _ _) (by unfold txG; omega) _) (by unfold txG; omega) _) ag⟩
    have q2 : (uF s 5 7 (pk b F (i + 1 - F).toNat)).1 5 2 = i := by rw [uF_1, if_neg (by omega)]; exact h2
    rw [B_X7_scanWord_5]
    simp (disch := first | assumption | omega) only [↓sm, ↓reduceIte, ↓if_pos, ↓if_neg, kI, kJ, kR, kV, w32_eq, w64_eq, reduceCtorEq, Int.reduceAdd, Int.reduceMul, Int.reduceSub, o_c5, ↓o_g5_0, ↓o_g5_1, ↓o_g5_2, ↓o_g5_3, ↓o_g5_4, ↓o_g5_5, ↓o_g5_6, ↓o_g5_7, ↓o_g5_8, ↓o_g5_9, ↓o_g5_10, ↓a_ln6, ↓a_ld6, g_6 Z, h1, h2, h7, hbi, c_lt_t Z, ep, ↓o_p5_7, o_p5_7, q2, ↓o_p5_2, o_p5_2]
    rw [show i - F + 1 = i + 1 - F by omega]
    exact e
theorem c_digits (Z : mX) {b : Int → Int} {n F E : Int} (n9 : n ≤ 900) (hE : E ≤ n) (hF : 0 ≤ F) (hl : ∀ j, F ≤ j → j < E → isDg (b j)) (hn : E < n → ¬ isDg (b E)) : ∀ k : Nat, ∀ (i : Int) (s : mS), (E - i).toNat = k → F ≤ i → i ≤ E → s.1 5 1 = n → s.1 5 2 = i → (i - F ≤ 4 → s.1 5 6 = dv b F (i - F).toNat) → (∀ j, 0 ≤ j → j < n → s.2 6 j = b j) →
    ∃ s', mm_at (zP Z) 97 5 [some (.inr (.inr (some 5))), some (.inl ((i - F)))] [] (mk s) = mm_at (zP Z) 97 42 [some (.inr (.inr (some 5))), some (.inl ((E - F)))] [] (mk s') ∧ s'.1 5 2 = E ∧ (E - F ≤ 4 → s'.1 5 6 = dv b F (E - F).toNat) ∧ Ag txA txG s s' := by
  intro k
  induction k with
  | zero =>
    intro i s hk i0 i1 h1 h2 h6 hb
    have : i = E := by omega
    subst this
    refine ⟨s, ?_, h2, h6, Ag_refl _ _ _⟩
    by_cases hi : i < n
    · have hn := hn hi
      have hbi := hb i (by omega) hi
      rw [B_X7_scanNumber_5]
      simp (disch := first | assumption | omega) only [↓sm, ↓reduceIte, ↓if_pos, ↓if_neg, kI, kJ, kR, kV, w32_eq, w64_eq, reduceCtorEq, Int.reduceAdd, Int.reduceMul, Int.reduceSub, o_c5, ↓o_g5_0, ↓o_g5_1, ↓o_g5_2, ↓o_g5_3, ↓o_g5_4, ↓o_g5_5, ↓o_g5_6, ↓o_g5_7, ↓o_g5_8, ↓o_g5_9, ↓o_g5_10, ↓a_ln6, ↓a_ld6, g_6 Z, h1, h2, hbi, c_dg_f Z]
    · rw [B_X7_scanNumber_5]
      simp (disch := first | assumption | omega) only [↓sm, ↓reduceIte, ↓if_pos, ↓if_neg, kI, kJ, kR, kV, w32_eq, w64_eq, reduceCtorEq, Int.reduceAdd, Int.reduceMul, Int.reduceSub, o_c5, ↓o_g5_0, ↓o_g5_1, ↓o_g5_2, ↓o_g5_3, ↓o_g5_4, ↓o_g5_5, ↓o_g5_6, ↓o_g5_7, ↓o_g5_8, ↓o_g5_9, ↓o_g5_10, ↓a_ln6, ↓a_ld6, h1, h2]
  | succ k ih =>
    intro i s hk i0 i1 h1 h2 h6 hb
    have hli := hl i i0 (by omega)
    have hbi := hb i (by omega) (by omega)
    have w1 : mm_w32 (i - F + 1) = i + 1 - F := by rw [w32_eq (by omega) (by omega)]; omega
    by_cases h4 : i + 1 - F ≤ 4
    · have h6 := h6 (by omega)
      have dr := dv_r (b := b) (F := F) (i - F).toNat (fun j j0 j1 => hl j j0 (by omega))
      have d4 : dv b F (i - F).toNat < 1000 := by
        have key : ∀ k : Nat, k < 4 → (10 : Int) ^ k ≤ 1000 := by decide
        have := key (i - F).toNat (by omega)
        omega
      have hd := hli
      unfold isDg at hd
      have ep : dv b F (i - F).toNat * 10 + b i - 48 = dv b F (i + 1 - F).toNat := by
        rw [show (i + 1 - F).toNat = (i - F).toNat + 1 by omega]
        show _ = dv b F (i - F).toNat * 10 + b (F + ((i - F).toNat : Int)) - 48
        rw [show F + ((i - F).toNat : Int) = i by omega]
      obtain ⟨s', e, f2, f6, ag⟩ := ih (i + 1) (uF (uF s 5 6 (dv b F (i + 1 - F).toNat)) 5 2 (i + 1)) (by omega) (by omega) (by omega) (by rw [uF_1, if_neg (by omega), uF_1, if_neg (by omega)]; exact h1) (by rw [uF_1, if_pos ⟨rfl, rfl⟩]) (fun _ => by rw [uF_1, if_neg (by omega), uF_1, if_pos ⟨rfl, rfl⟩]) hb
      refine ⟨s', ?_, f2, f6, Ag_trans (Ag_uF (F := txG) (Ag_uF (F := txG) (Ag_refl _ _ _) (by unfold txG; omega) _) (by unfold txG; omega) _) ag⟩
      have q2 : (uF s 5 6 (dv b F (i + 1 - F).toNat)).1 5 2 = i := by rw [uF_1, if_neg (by omega)]; exact h2
      have n4 : ¬ 4 < i + 1 - F := by omega
      rw [B_X7_scanNumber_5, w1]
      simp (disch := first | assumption | omega) only [↓sm, ↓reduceIte, ↓if_pos, ↓if_neg, kI, kJ, kR, kV, w32_eq, w64_eq, reduceCtorEq, Int.reduceAdd, Int.reduceMul, Int.reduceSub, o_c5, ↓o_g5_0, ↓o_g5_1, ↓o_g5_2, ↓o_g5_3, ↓o_g5_4, ↓o_g5_5, ↓o_g5_6, ↓o_g5_7, ↓o_g5_8, ↓o_g5_9, ↓o_g5_10, ↓a_ln6, ↓a_ld6, g_6 Z, h1, h2, h6, hbi, c_dg_t Z, n4, ep, ↓o_p5_6, o_p5_6, B_X7_scanNumber_35 Z, q2, ↓o_p5_2, o_p5_2]
      exact e
    · obtain ⟨s', e, f2, f6, ag⟩ := ih (i + 1) (uF s 5 2 (i + 1)) (by omega) (by omega) (by omega) (by rw [uF_1, if_neg (by omega)]; exact h1) (by rw [uF_1, if_pos ⟨rfl, rfl⟩]) (fun h => by omega) hb
      refine ⟨s', ?_, f2, f6, Ag_trans (Ag_uF (F := txG) (Ag_refl _ _ _) (by unfold txG; omega) _) ag⟩
      have n4 : 4 < i + 1 - F := by omega
      rw [B_X7_scanNumber_5, w1]
      simp (disch := first | assumption | omega) only [↓sm, ↓reduceIte, ↓if_pos, ↓if_neg, kI, kJ, kR, kV, w32_eq, w64_eq, reduceCtorEq, Int.reduceAdd, Int.reduceMul, Int.reduceSub, o_c5, ↓o_g5_0, ↓o_g5_1, ↓o_g5_2, ↓o_g5_3, ↓o_g5_4, ↓o_g5_5, ↓o_g5_6, ↓o_g5_7, ↓o_g5_8, ↓o_g5_9, ↓o_g5_10, ↓a_ln6, ↓a_ld6, g_6 Z, h1, h2, hbi, c_dg_t Z, n4, B_X7_scanNumber_35 Z, ↓o_p5_2, o_p5_2]
      exact e
/-! which word it is -/
theorem c_wn_in (Z : mX) (s : mS) {m : Nat} (hm : m < 27) : ∀ k : Nat, wsN m + k < wsN (m + 1) → mm_at (zP Z) 96 6 [some (.inr (.inr (some 5))), some (.inl ((m : Int))), some (.inr (.inl 0)), none, some (.inl ((wsN m : Int))), none] [] (mk s) = mm_at (zP Z) 96 6 [some (.inr (.inr (some 5))), some (.inl ((m : Int))), some (.inr (.inl ((pk gC (wsN m) k)))), none, some (.inl (((wsN m : Int) + (k : Int)))), none] [] (mk s)
  | 0, _ => by
    rw [show ((wsN m : Int) + ((0 : Nat) : Int)) = (wsN m : Int) by omega]
    rfl
  | k + 1, h => by
    obtain ⟨l1, l2, l3, l4, l5⟩ := ltC m hm
    have h5 := l5 k (by omega) (by omega)
    have hlen := lenC
    rw [c_wn_in Z s hm k (by omega), B_X7_wordNumber_6]
    have hg : (z_strs 0).getD (Int.toNat ((wsN m : Int) + (k : Int))) 0 = gC ((wsN m : Int) + (k : Int)) := rfl
    have hc : ((wsN m + k : Nat) : Int) = (wsN m : Int) + (k : Int) := by omega
    rw [hc] at h5
    have n32 : ¬ gC ((wsN m : Int) + (k : Int)) = 32 := by omega
    have w1 : mm_w32 ((wsN m : Int) + (k : Int) + 1) = (wsN m : Int) + ((k + 1 : Nat) : Int) := by rw [w32_eq (by omega) (by omega)]; omega
    have ep : mm_lor (mm_lshl (pk gC (wsN m) k) 8) (gC ((wsN m : Int) + (k : Int))) = pk gC (wsN m) (k + 1) := rfl
    rw [hg, w1, ep]
    simp (disch := first | assumption | omega) only [↓sm, ↓reduceIte, ↓if_pos, ↓if_neg, kI, kJ, kR, kV, w32_eq, w64_eq, reduceCtorEq, Int.reduceAdd, Int.reduceMul, Int.reduceSub, n32]
theorem c_wn (Z : mX) (s : mS) {N : Int} (h7 : s.1 5 7 = N) : ∀ r : Nat, ∀ m : Nat, m + r = 27 → mm_at (zP Z) 96 6 [some (.inr (.inr (some 5))), some (.inl ((m : Int))), some (.inr (.inl 0)), none, some (.inl ((wsN m : Int))), none] [] (mk s) = some (some (.inl (fn pC N r)), mk s)
  | 0, m, hm => by
    have : m = 27 := by omega
    subst this
    have hlen := lenC
    have e : ((wsN 27 : Nat) : Int) = 142 := by decide
    rw [B_X7_wordNumber_6, e]
    simp (disch := first | assumption | omega) only [↓sm, ↓reduceIte, ↓if_pos, ↓if_neg, kI, kJ, kR, kV, w32_eq, w64_eq, reduceCtorEq, Int.reduceAdd, Int.reduceMul, Int.reduceSub]
    rfl
  | r + 1, m, hm => by
    have hm' : m < 27 := by omega
    have em : 26 - r = m := by omega
    obtain ⟨l1, l2, l3, l4, l5⟩ := ltC m hm'
    have hlen := lenC
    have ek : (wsN m : Int) + ((wsN (m + 1) - 1 - wsN m : Nat) : Int) = (wsN (m + 1) : Int) - 1 := by omega
    have hp : pk gC (wsN m) (wsN (m + 1) - 1 - wsN m) = pC m := pk_nv _ (by omega) (fun j j0 j1 => by
      have := l5 (j - wsN m).toNat (by omega) (by omega)
      rw [show ((wsN m + (j - wsN m).toNat : Nat) : Int) = j by omega] at this
      exact this)
    rw [c_wn_in Z s hm' (wsN (m + 1) - 1 - wsN m) (by omega), B_X7_wordNumber_6, ek, hp]
    have hg : (z_strs 0).getD (Int.toNat ((wsN (m + 1) : Int) - 1)) 0 = 32 := l4
    have w1 : mm_w32 ((wsN (m + 1) : Int) - 1 + 1) = (wsN (m + 1) : Int) := by rw [w32_eq (by omega) (by omega)]; omega
    have w2 : mm_w32 ((m : Int) + 1) = ((m + 1 : Nat) : Int) := by rw [w32_eq (by omega) (by omega)]; omega
    rw [hg, w1, w2]
    have ef : fn pC N (r + 1) = if N = pC m then (m : Int) else fn pC N r := by
      show (if N = pC (26 - r) then ((26 - r : Nat) : Int) else fn pC N r) = _
      rw [em]
    rw [ef]
    by_cases hN : N = pC m
    · simp (disch := first | assumption | omega) only [↓sm, ↓reduceIte, ↓if_pos, ↓if_neg, kI, kJ, kR, kV, w32_eq, w64_eq, reduceCtorEq, Int.reduceAdd, Int.reduceMul, Int.reduceSub, o_c5, ↓o_g5_0, ↓o_g5_1, ↓o_g5_2, ↓o_g5_3, ↓o_g5_4, ↓o_g5_5, ↓o_g5_6, ↓o_g5_7, ↓o_g5_8, ↓o_g5_9, ↓o_g5_10, ↓a_ln6, ↓a_ld6, h7, lcmp0, hN]
    · have hN' : ¬ pC m = N := fun x => hN x.symm
      simp (disch := first | assumption | omega) only [↓sm, ↓reduceIte, ↓if_pos, ↓if_neg, kI, kJ, kR, kV, w32_eq, w64_eq, reduceCtorEq, Int.reduceAdd, Int.reduceMul, Int.reduceSub, o_c5, ↓o_g5_0, ↓o_g5_1, ↓o_g5_2, ↓o_g5_3, ↓o_g5_4, ↓o_g5_5, ↓o_g5_6, ↓o_g5_7, ↓o_g5_8, ↓o_g5_9, ↓o_g5_10, ↓a_ln6, ↓a_ld6, h7, lcmp0, hN, hN']
      exact c_wn Z s h7 r (m + 1) (by omega)
theorem c_wordNumber (Z : mX) (s : mS) {N : Int} (h7 : s.1 5 7 = N) (f : Int → mW → mO) : mm_kI (mm_run (zP Z) 96 [.inr (.inr (some 5))] (mk s)) f = f (fn pC N 27) (mk s) := by
  have h := c_wn Z s h7 27 0 rfl
  have e : ((wsN 0 : Nat) : Int) = 0 := by decide
  rw [e] at h
  rw [B_X7_wordNumber]
  exact (congrArg (fun o => mm_kI o f) h).trans rfl
theorem CX_of {b : Int → Int} {n F E K V W : Int} {s s' : mS} (h1 : s.1 5 1 = n) (hb : ∀ j, 0 ≤ j → j < n → s.2 6 j = b j) (ag : Ag txA txF s s') (h2 : s'.1 5 2 = E) (h3 : s'.1 5 3 = F) (h5 : s'.1 5 5 = K) (h6 : K = 2 ∨ K = 5 ∨ K = 6 → s'.1 5 6 = V) (h7 : K = 3 → s'.1 5 7 = W) : CX b n F E K V W s' :=
  ⟨(ag.2 5 1 (by unfold txF; omega)).trans h1, fun j j0 j1 => by rw [ag.1 6 (fun x => x)]; exact hb j j0 j1, h2, h3, h5, h6, h7⟩
theorem tx_uF {s t : mS} (h : Ag txA txF s t) {k : Nat} (hk : k = 2 ∨ k = 3 ∨ k = 5 ∨ k = 6 ∨ k = 7) (v : Int) : Ag txA txF s (uF t 5 k v) := Ag_uF (F := txF) h ⟨rfl, hk⟩ v
theorem c_adv0 (Z : mX) {b : Int → Int} {n F E K V W : Int} {s1 : mS} (n9 : n ≤ 900) (F0 : 0 ≤ F) (FE : F ≤ E) (En : E ≤ n) (hK : K = 0) (hF0 : F = n) (hE0 : E = n) (g1 : s1.1 5 1 = n) (f2 : s1.1 5 2 = F) (gb : ∀ j, 0 ≤ j → j < n → s1.2 6 j = b j) :
    ∃ s', (∀ f : mW → mO, mm_kV (mm_at (zP Z) 94 19 [some (.inr (.inr (some 5))), none] [] (mk s1)) f = f (mk s')) ∧ CX b n F E K V W s' ∧ Ag txA txF s1 s' := by
  have q1 : (uF s1 5 3 F).1 5 1 = n := by rw [uF_1, if_neg (by omega)]; exact g1
  have q2 : (uF s1 5 3 F).1 5 2 = F := by rw [uF_1, if_neg (by omega)]; exact f2
  have ag2 : Ag txA txF s1 (uF s1 5 3 F) := tx_uF (Ag_refl _ _ _) (by omega) _
  subst hK
  refine ⟨uF (uF s1 5 3 F) 5 5 0, fun f => ?_, CX_of g1 gb (tx_uF ag2 (by omega) _) (by rw [uF_1, if_neg (by omega), q2]; omega) (by rw [uF_1, if_neg (by omega), uF_1, if_pos ⟨rfl, rfl⟩]) (by rw [uF_1, if_pos ⟨rfl, rfl⟩]) (fun h => by omega) (fun h => by omega), tx_uF ag2 (by omega) _⟩
  rw [B_X7_advance_19]
  by_cases hF : F < 900
  · simp (disch := first | assumption | omega) only [↓sm, ↓reduceIte, ↓if_pos, ↓if_neg, kI, kJ, kR, kV, w32_eq, w64_eq, reduceCtorEq, Int.reduceAdd, Int.reduceMul, Int.reduceSub, o_c5, ↓o_g5_0, ↓o_g5_1, ↓o_g5_2, ↓o_g5_3, ↓o_g5_4, ↓o_g5_5, ↓o_g5_6, ↓o_g5_7, ↓o_g5_8, ↓o_g5_9, ↓o_g5_10, ↓a_ln6, ↓a_ld6, f2, ↓o_p5_3, o_p5_3, g_6 Z, q2, q1, o_p5_5]
  · simp (disch := first | assumption | omega) only [↓sm, ↓reduceIte, ↓if_pos, ↓if_neg, kI, kJ, kR, kV, w32_eq, w64_eq, reduceCtorEq, Int.reduceAdd, Int.reduceMul, Int.reduceSub, o_c5, ↓o_g5_0, ↓o_g5_1, ↓o_g5_2, ↓o_g5_3, ↓o_g5_4, ↓o_g5_5, ↓o_g5_6, ↓o_g5_7, ↓o_g5_8, ↓o_g5_9, ↓o_g5_10, ↓a_ln6, ↓a_ld6, f2, ↓o_p5_3, o_p5_3, k_get_hi Z (uF s1 5 3 F) (q := 6) (n := 900) rfl, q2, q1, o_p5_5]
theorem c_advW (Z : mX) {b : Int → Int} {n F E K V W : Int} {s1 : mS} (n9 : n ≤ 900) (F0 : 0 ≤ F) (FE : F ≤ E) (En : E ≤ n) (hFE : F < E) (hl : ∀ j, F ≤ j → j < E → isLt (b j)) (hn : E < n → ¬ isLt (b E)) (hW : W = pk b F (E - F).toNat) (hK : (8 < E - F ∧ K = 4) ∨ (E - F ≤ 8 ∧ fn pC W 27 = -1 ∧ K = 3) ∨ (E - F ≤ 8 ∧ fn pC W 27 ≠ -1 ∧ K = 2 ∧ V = fn pC W 27)) (g1 : s1.1 5 1 = n) (f2 : s1.1 5 2 = F) (gb : ∀ j, 0 ≤ j → j < n → s1.2 6 j = b j) :
    ∃ s', (∀ f : mW → mO, mm_kV (mm_at (zP Z) 94 19 [some (.inr (.inr (some 5))), none] [] (mk s1)) f = f (mk s')) ∧ CX b n F E K V W s' ∧ Ag txA txF s1 s' := by
  have q1 : (uF s1 5 3 F).1 5 1 = n := by rw [uF_1, if_neg (by omega)]; exact g1
  have q2 : (uF s1 5 3 F).1 5 2 = F := by rw [uF_1, if_neg (by omega)]; exact f2
  have ag2 : Ag txA txF s1 (uF s1 5 3 F) := tx_uF (Ag_refl _ _ _) (by omega) _
  have hlF := hl F (by omega) (by omega)
  have hbF : (uF s1 5 3 F).2 6 F = b F := gb F F0 (by omega)
  have ps : (uF (uF s1 5 3 F) 5 7 0).1 5 7 = pk b F (F - F).toNat := by
    rw [uF_1, if_pos ⟨rfl, rfl⟩, show (F - F).toNat = 0 by omega]
    rfl
  obtain ⟨s2, e2, k2, k7, ag3⟩ := c_scan Z n9 En F0 hl hn _ F (uF (uF s1 5 3 F) 5 7 0) rfl (by omega) FE (by rw [uF_1, if_neg (by omega)]; exact q1) (by rw [uF_1, if_neg (by omega)]; exact q2) ps gb
  rw [show F - F = (0 : Int) by omega] at e2
  have ag4 : Ag txA txF s1 s2 := Ag_trans (tx_uF ag2 (by omega) _) (txG_F ag3)
  have k3 : s2.1 5 3 = F := by rw [ag3.2 5 3 (by unfold txG; omega), uF_1, if_neg (by omega), uF_1, if_pos ⟨rfl, rfl⟩]
  have k7' : s2.1 5 7 = W := k7.trans hW.symm
  have hlt : F < n := by omega
  rcases hK with ⟨h8, rfl⟩ | ⟨h8, hw, rfl⟩ | ⟨h8, hw, rfl, rfl⟩
  · have cw : ∀ f : mW → mO, mm_kV (mm_run (zP Z) 95 [.inr (.inr (some 5))] (mk (uF s1 5 3 F))) f = f (mk (uF s2 5 5 4)) := by
      intro f
      rw [B_X7_scanWord]
      simp (disch := first | assumption | omega) only [↓sm, ↓reduceIte, ↓if_pos, ↓if_neg, kI, kJ, kR, kV, w32_eq, w64_eq, reduceCtorEq, Int.reduceAdd, Int.reduceMul, Int.reduceSub, ↓o_p5_7]
      rw [e2, B_X7_scanWord_38]
      simp (disch := first | assumption | omega) only [↓sm, ↓reduceIte, ↓if_pos, ↓if_neg, kI, kJ, kR, kV, w32_eq, w64_eq, reduceCtorEq, Int.reduceAdd, Int.reduceMul, Int.reduceSub, o_p5_5]
    have q5 : (uF s2 5 5 4).1 5 5 = 4 := by rw [uF_1, if_pos ⟨rfl, rfl⟩]
    have q6 : (uF (uF s2 5 5 4) 5 6 (-1)).1 5 6 = -1 := by rw [uF_1, if_pos ⟨rfl, rfl⟩]
    refine ⟨uF (uF s2 5 5 4) 5 6 (-1), fun f => ?_, CX_of g1 gb (tx_uF (tx_uF ag4 (by omega) _) (by omega) _) (by rw [uF_1, if_neg (by omega), uF_1, if_neg (by omega)]; exact k2) (by rw [uF_1, if_neg (by omega), uF_1, if_neg (by omega)]; exact k3) (by rw [uF_1, if_neg (by omega), uF_1, if_pos ⟨rfl, rfl⟩]) (fun h => by omega) (fun h => by omega), tx_uF (tx_uF ag4 (by omega) _) (by omega) _⟩
    rw [B_X7_advance_19]
    simp (disch := first | assumption | omega) only [↓sm, ↓reduceIte, ↓if_pos, ↓if_neg, kI, kJ, kR, kV, w32_eq, w64_eq, reduceCtorEq, Int.reduceAdd, Int.reduceMul, Int.reduceSub, o_c5, ↓o_g5_0, ↓o_g5_1, ↓o_g5_2, ↓o_g5_3, ↓o_g5_4, ↓o_g5_5, ↓o_g5_6, ↓o_g5_7, ↓o_g5_8, ↓o_g5_9, ↓o_g5_10, ↓a_ln6, ↓a_ld6, f2, ↓o_p5_3, o_p5_3, g_6 Z, q2, q1, hbF, c_lt_t Z, ↓cw, cw, q5, B_X7_advance_52 Z, o_p5_6, q6]
  · have cw : ∀ f : mW → mO, mm_kV (mm_run (zP Z) 95 [.inr (.inr (some 5))] (mk (uF s1 5 3 F))) f = f (mk (uF s2 5 5 3)) := by
      intro f
      rw [B_X7_scanWord]
      simp (disch := first | assumption | omega) only [↓sm, ↓reduceIte, ↓if_pos, ↓if_neg, kI, kJ, kR, kV, w32_eq, w64_eq, reduceCtorEq, Int.reduceAdd, Int.reduceMul, Int.reduceSub, ↓o_p5_7]
      rw [e2, B_X7_scanWord_38]
      simp (disch := first | assumption | omega) only [↓sm, ↓reduceIte, ↓if_pos, ↓if_neg, kI, kJ, kR, kV, w32_eq, w64_eq, reduceCtorEq, Int.reduceAdd, Int.reduceMul, Int.reduceSub, o_p5_5]
    have q5 : (uF s2 5 5 3).1 5 5 = 3 := by rw [uF_1, if_pos ⟨rfl, rfl⟩]
    have q7 : (uF s2 5 5 3).1 5 7 = W := by rw [uF_1, if_neg (by omega)]; exact k7'
    have q6 : (uF (uF s2 5 5 3) 5 6 (-1)).1 5 6 = -1 := by rw [uF_1, if_pos ⟨rfl, rfl⟩]
    have hc := c_wordNumber Z (uF s2 5 5 3) q7
    rw [hw] at hc
    refine ⟨uF (uF s2 5 5 3) 5 6 (-1), fun f => ?_, CX_of g1 gb (tx_uF (tx_uF ag4 (by omega) _) (by omega) _) (by rw [uF_1, if_neg (by omega), uF_1, if_neg (by omega)]; exact k2) (by rw [uF_1, if_neg (by omega), uF_1, if_neg (by omega)]; exact k3) (by rw [uF_1, if_neg (by omega), uF_1, if_pos ⟨rfl, rfl⟩]) (fun h => by omega) (fun _ => by rw [uF_1, if_neg (by omega)]; exact q7), tx_uF (tx_uF ag4 (by omega) _) (by omega) _⟩
    rw [B_X7_advance_19]
    simp (disch := first | assumption | omega) only [↓sm, ↓reduceIte, ↓if_pos, ↓if_neg, kI, kJ, kR, kV, w32_eq, w64_eq, reduceCtorEq, Int.reduceAdd, Int.reduceMul, Int.reduceSub, o_c5, ↓o_g5_0, ↓o_g5_1, ↓o_g5_2, ↓o_g5_3, ↓o_g5_4, ↓o_g5_5, ↓o_g5_6, ↓o_g5_7, ↓o_g5_8, ↓o_g5_9, ↓o_g5_10, ↓a_ln6, ↓a_ld6, f2, ↓o_p5_3, o_p5_3, g_6 Z, q2, q1, hbF, c_lt_t Z, ↓cw, cw, q5, ↓hc, hc, B_X7_advance_52 Z, o_p5_6, q6]
  · have cw : ∀ f : mW → mO, mm_kV (mm_run (zP Z) 95 [.inr (.inr (some 5))] (mk (uF s1 5 3 F))) f = f (mk (uF s2 5 5 3)) := by
      intro f
      rw [B_X7_scanWord]
      simp (disch := first | assumption | omega) only [↓sm, ↓reduceIte, ↓if_pos, ↓if_neg, kI, kJ, kR, kV, w32_eq, w64_eq, reduceCtorEq, Int.reduceAdd, Int.reduceMul, Int.reduceSub, ↓o_p5_7]
      rw [e2, B_X7_scanWord_38]
      simp (disch := first | assumption | omega) only [↓sm, ↓reduceIte, ↓if_pos, ↓if_neg, kI, kJ, kR, kV, w32_eq, w64_eq, reduceCtorEq, Int.reduceAdd, Int.reduceMul, Int.reduceSub, o_p5_5]
    have q5 : (uF s2 5 5 3).1 5 5 = 3 := by rw [uF_1, if_pos ⟨rfl, rfl⟩]
    have q7 : (uF s2 5 5 3).1 5 7 = W := by rw [uF_1, if_neg (by omega)]; exact k7'
    have hc := c_wordNumber Z (uF s2 5 5 3) q7
    generalize fn pC W 27 = N at hc hw ⊢
    have q6 : (uF (uF s2 5 5 3) 5 6 N).1 5 6 = N := by rw [uF_1, if_pos ⟨rfl, rfl⟩]
    refine ⟨uF (uF (uF s2 5 5 3) 5 6 N) 5 5 2, fun f => ?_, CX_of g1 gb (tx_uF (tx_uF (tx_uF ag4 (by omega) _) (by omega) _) (by omega) _) (by rw [uF_1, if_neg (by omega), uF_1, if_neg (by omega), uF_1, if_neg (by omega)]; exact k2) (by rw [uF_1, if_neg (by omega), uF_1, if_neg (by omega), uF_1, if_neg (by omega)]; exact k3) (by rw [uF_1, if_pos ⟨rfl, rfl⟩]) (fun _ => by rw [uF_1, if_neg (by omega)]; exact q6) (fun h => by omega), tx_uF (tx_uF (tx_uF ag4 (by omega) _) (by omega) _) (by omega) _⟩
    rw [B_X7_advance_19]
    simp (disch := first | assumption | omega) only [↓sm, ↓reduceIte, ↓if_pos, ↓if_neg, kI, kJ, kR, kV, w32_eq, w64_eq, reduceCtorEq, Int.reduceAdd, Int.reduceMul, Int.reduceSub, o_c5, ↓o_g5_0, ↓o_g5_1, ↓o_g5_2, ↓o_g5_3, ↓o_g5_4, ↓o_g5_5, ↓o_g5_6, ↓o_g5_7, ↓o_g5_8, ↓o_g5_9, ↓o_g5_10, ↓a_ln6, ↓a_ld6, f2, ↓o_p5_3, o_p5_3, g_6 Z, q2, q1, hbF, c_lt_t Z, ↓cw, cw, q5, ↓hc, hc, B_X7_advance_52 Z, o_p5_6, q6, hw, o_p5_5]
theorem c_advD (Z : mX) {b : Int → Int} {n F E K V W : Int} {s1 : mS} (n9 : n ≤ 900) (F0 : 0 ≤ F) (FE : F ≤ E) (En : E ≤ n) (hFE : F < E) (hl : ∀ j, F ≤ j → j < E → isDg (b j)) (hn : E < n → ¬ isDg (b E)) (hK : (4 < E - F ∧ K = 1) ∨ (E - F ≤ 4 ∧ K = 5 ∧ V = dv b F (E - F).toNat)) (g1 : s1.1 5 1 = n) (f2 : s1.1 5 2 = F) (gb : ∀ j, 0 ≤ j → j < n → s1.2 6 j = b j) :
    ∃ s', (∀ f : mW → mO, mm_kV (mm_at (zP Z) 94 19 [some (.inr (.inr (some 5))), none] [] (mk s1)) f = f (mk s')) ∧ CX b n F E K V W s' ∧ Ag txA txF s1 s' := by
  have q1 : (uF s1 5 3 F).1 5 1 = n := by rw [uF_1, if_neg (by omega)]; exact g1
  have q2 : (uF s1 5 3 F).1 5 2 = F := by rw [uF_1, if_neg (by omega)]; exact f2
  have ag2 : Ag txA txF s1 (uF s1 5 3 F) := tx_uF (Ag_refl _ _ _) (by omega) _
  have hdF := hl F (by omega) (by omega)
  have hnl : ¬ isLt (b F) := by
    unfold isDg at hdF
    unfold isLt
    omega
  have hbF : (uF s1 5 3 F).2 6 F = b F := gb F F0 (by omega)
  have hlt : F < n := by omega
  have ps : F - F ≤ 4 → (uF (uF s1 5 3 F) 5 6 0).1 5 6 = dv b F (F - F).toNat := by
    intro _
    rw [uF_1, if_pos ⟨rfl, rfl⟩, show (F - F).toNat = 0 by omega]
    rfl
  obtain ⟨s2, e2, k2, k6, ag3⟩ := c_digits Z n9 En F0 hl hn _ F (uF (uF s1 5 3 F) 5 6 0) rfl (by omega) FE (by rw [uF_1, if_neg (by omega)]; exact q1) (by rw [uF_1, if_neg (by omega)]; exact q2) ps gb
  rw [show F - F = (0 : Int) by omega] at e2
  have ag4 : Ag txA txF s1 s2 := Ag_trans (tx_uF ag2 (by omega) _) (txG_F ag3)
  have k3 : s2.1 5 3 = F := by rw [ag3.2 5 3 (by unfold txG; omega), uF_1, if_neg (by omega), uF_1, if_pos ⟨rfl, rfl⟩]
  rcases hK with ⟨h4, rfl⟩ | ⟨h4, rfl, rfl⟩
  · have cw : ∀ f : mW → mO, mm_kV (mm_run (zP Z) 97 [.inr (.inr (some 5))] (mk (uF s1 5 3 F))) f = f (mk (uF s2 5 5 1)) := by
      intro f
      rw [B_X7_scanNumber]
      simp (disch := first | assumption | omega) only [↓sm, ↓reduceIte, ↓if_pos, ↓if_neg, kI, kJ, kR, kV, w32_eq, w64_eq, reduceCtorEq, Int.reduceAdd, Int.reduceMul, Int.reduceSub, ↓o_p5_6]
      rw [e2, B_X7_scanNumber_42]
      simp (disch := first | assumption | omega) only [↓sm, ↓reduceIte, ↓if_pos, ↓if_neg, kI, kJ, kR, kV, w32_eq, w64_eq, reduceCtorEq, Int.reduceAdd, Int.reduceMul, Int.reduceSub, o_p5_5]
    refine ⟨uF s2 5 5 1, fun f => ?_, CX_of g1 gb (tx_uF ag4 (by omega) _) (by rw [uF_1, if_neg (by omega)]; exact k2) (by rw [uF_1, if_neg (by omega)]; exact k3) (by rw [uF_1, if_pos ⟨rfl, rfl⟩]) (fun h => by omega) (fun h => by omega), tx_uF ag4 (by omega) _⟩
    rw [B_X7_advance_19]
    simp (disch := first | assumption | omega) only [↓sm, ↓reduceIte, ↓if_pos, ↓if_neg, kI, kJ, kR, kV, w32_eq, w64_eq, reduceCtorEq, Int.reduceAdd, Int.reduceMul, Int.reduceSub, o_c5, ↓o_g5_0, ↓o_g5_1, ↓o_g5_2, ↓o_g5_3, ↓o_g5_4, ↓o_g5_5, ↓o_g5_6, ↓o_g5_7, ↓o_g5_8, ↓o_g5_9, ↓o_g5_10, ↓a_ln6, ↓a_ld6, f2, ↓o_p5_3, o_p5_3, g_6 Z, q2, q1, hbF, c_lt_f Z, c_dg_t Z, ↓cw, cw]
  · have cw : ∀ f : mW → mO, mm_kV (mm_run (zP Z) 97 [.inr (.inr (some 5))] (mk (uF s1 5 3 F))) f = f (mk (uF s2 5 5 5)) := by
      intro f
      rw [B_X7_scanNumber]
      simp (disch := first | assumption | omega) only [↓sm, ↓reduceIte, ↓if_pos, ↓if_neg, kI, kJ, kR, kV, w32_eq, w64_eq, reduceCtorEq, Int.reduceAdd, Int.reduceMul, Int.reduceSub, ↓o_p5_6]
      rw [e2, B_X7_scanNumber_42]
      simp (disch := first | assumption | omega) only [↓sm, ↓reduceIte, ↓if_pos, ↓if_neg, kI, kJ, kR, kV, w32_eq, w64_eq, reduceCtorEq, Int.reduceAdd, Int.reduceMul, Int.reduceSub, o_p5_5]
    refine ⟨uF s2 5 5 5, fun f => ?_, CX_of g1 gb (tx_uF ag4 (by omega) _) (by rw [uF_1, if_neg (by omega)]; exact k2) (by rw [uF_1, if_neg (by omega)]; exact k3) (by rw [uF_1, if_pos ⟨rfl, rfl⟩]) (fun _ => by rw [uF_1, if_neg (by omega)]; exact k6 h4) (fun h => by omega), tx_uF ag4 (by omega) _⟩
    rw [B_X7_advance_19]
    simp (disch := first | assumption | omega) only [↓sm, ↓reduceIte, ↓if_pos, ↓if_neg, kI, kJ, kR, kV, w32_eq, w64_eq, reduceCtorEq, Int.reduceAdd, Int.reduceMul, Int.reduceSub, o_c5, ↓o_g5_0, ↓o_g5_1, ↓o_g5_2, ↓o_g5_3, ↓o_g5_4, ↓o_g5_5, ↓o_g5_6, ↓o_g5_7, ↓o_g5_8, ↓o_g5_9, ↓o_g5_10, ↓a_ln6, ↓a_ld6, f2, ↓o_p5_3, o_p5_3, g_6 Z, q2, q1, hbF, c_lt_f Z, c_dg_t Z, ↓cw, cw]
theorem c_advS (Z : mX) {b : Int → Int} {n F E K V W : Int} {s1 : mS} (n9 : n ≤ 900) (F0 : 0 ≤ F) (FE : F ≤ E) (En : E ≤ n) (hE : E = F + 1) (hnl : ¬ isLt (b F)) (hnd : ¬ isDg (b F)) (hV : V = b F) (hK : (K = 6 ∧ isSg (b F)) ∨ (K = 1 ∧ ¬ isSg (b F))) (g1 : s1.1 5 1 = n) (f2 : s1.1 5 2 = F) (gb : ∀ j, 0 ≤ j → j < n → s1.2 6 j = b j) :
    ∃ s', (∀ f : mW → mO, mm_kV (mm_at (zP Z) 94 19 [some (.inr (.inr (some 5))), none] [] (mk s1)) f = f (mk s')) ∧ CX b n F E K V W s' ∧ Ag txA txF s1 s' := by
  have q1 : (uF s1 5 3 F).1 5 1 = n := by rw [uF_1, if_neg (by omega)]; exact g1
  have q2 : (uF s1 5 3 F).1 5 2 = F := by rw [uF_1, if_neg (by omega)]; exact f2
  have ag2 : Ag txA txF s1 (uF s1 5 3 F) := tx_uF (Ag_refl _ _ _) (by omega) _
  subst hE
  subst hV
  have hbF : (uF s1 5 3 F).2 6 F = b F := gb F F0 (by omega)
  have hlt : F < n := by omega
  generalize hc : b F = c at *
  have fin : ∀ (k : Int) (f : mW → mO), mm_kV (mm_at (zP Z) 94 77 [some (.inr (.inr (some 5))), some (.inl c)] [.inl k, .inr (.inr (some 5))] (mk (uF s1 5 3 F))) f = f (mk (uF (uF (uF (uF s1 5 3 F) 5 5 k) 5 6 c) 5 2 (F + 1))) := by
    intro k f
    have q3 : (uF (uF (uF s1 5 3 F) 5 5 k) 5 6 c).1 5 2 = F := by rw [uF_1, if_neg (by omega), uF_1, if_neg (by omega)]; exact q2
    rw [B_X7_advance_77]
    simp (disch := first | assumption | omega) only [↓sm, ↓reduceIte, ↓if_pos, ↓if_neg, kI, kJ, kR, kV, w32_eq, w64_eq, reduceCtorEq, Int.reduceAdd, Int.reduceMul, Int.reduceSub, o_c5, ↓o_g5_0, ↓o_g5_1, ↓o_g5_2, ↓o_g5_3, ↓o_g5_4, ↓o_g5_5, ↓o_g5_6, ↓o_g5_7, ↓o_g5_8, ↓o_g5_9, ↓o_g5_10, ↓a_ln6, ↓a_ld6, ↓o_p5_5, ↓o_p5_6, q3, o_p5_2]
  have agk : ∀ k : Int, Ag txA txF s1 (uF (uF (uF (uF s1 5 3 F) 5 5 k) 5 6 c) 5 2 (F + 1)) := fun k => tx_uF (tx_uF (tx_uF ag2 (by omega) _) (by omega) _) (by omega) _
  have cxk : ∀ k : Int, k ≠ 3 → CX b n F (F + 1) k c W (uF (uF (uF (uF s1 5 3 F) 5 5 k) 5 6 c) 5 2 (F + 1)) := fun k hk => CX_of g1 gb (agk k) (by simp [uF_1]) (by simp [uF_1]) (by simp [uF_1]) (fun _ => by simp [uF_1]) (fun h => absurd h hk)
  rcases hK with ⟨rfl, hs⟩ | ⟨rfl, hs⟩
  · refine ⟨_, fun f => ?_, cxk 6 (by omega), agk 6⟩
    rw [← fin 6 f, B_X7_advance_19]
    unfold isSg at hs
    rcases hs with hs | hs | hs | hs
    · subst hs
      simp (disch := first | assumption | omega) only [↓sm, ↓reduceIte, ↓if_pos, ↓if_neg, kI, kJ, kR, kV, w32_eq, w64_eq, reduceCtorEq, Int.reduceAdd, Int.reduceMul, Int.reduceSub, o_c5, ↓o_g5_0, ↓o_g5_1, ↓o_g5_2, ↓o_g5_3, ↓o_g5_4, ↓o_g5_5, ↓o_g5_6, ↓o_g5_7, ↓o_g5_8, ↓o_g5_9, ↓o_g5_10, ↓a_ln6, ↓a_ld6, f2, ↓o_p5_3, o_p5_3, g_6 Z, q2, q1, hbF, c_lt_f Z, c_dg_f Z, B_X7_advance_74 Z]
    · subst hs
      simp (disch := first | assumption | omega) only [↓sm, ↓reduceIte, ↓if_pos, ↓if_neg, kI, kJ, kR, kV, w32_eq, w64_eq, reduceCtorEq, Int.reduceAdd, Int.reduceMul, Int.reduceSub, o_c5, ↓o_g5_0, ↓o_g5_1, ↓o_g5_2, ↓o_g5_3, ↓o_g5_4, ↓o_g5_5, ↓o_g5_6, ↓o_g5_7, ↓o_g5_8, ↓o_g5_9, ↓o_g5_10, ↓a_ln6, ↓a_ld6, f2, ↓o_p5_3, o_p5_3, g_6 Z, q2, q1, hbF, c_lt_f Z, c_dg_f Z, B_X7_isCompare Z, B_X7_advance_74 Z]
    · subst hs
      simp (disch := first | assumption | omega) only [↓sm, ↓reduceIte, ↓if_pos, ↓if_neg, kI, kJ, kR, kV, w32_eq, w64_eq, reduceCtorEq, Int.reduceAdd, Int.reduceMul, Int.reduceSub, o_c5, ↓o_g5_0, ↓o_g5_1, ↓o_g5_2, ↓o_g5_3, ↓o_g5_4, ↓o_g5_5, ↓o_g5_6, ↓o_g5_7, ↓o_g5_8, ↓o_g5_9, ↓o_g5_10, ↓a_ln6, ↓a_ld6, f2, ↓o_p5_3, o_p5_3, g_6 Z, q2, q1, hbF, c_lt_f Z, c_dg_f Z, B_X7_isCompare Z, B_X7_advance_74 Z]
    · subst hs
      simp (disch := first | assumption | omega) only [↓sm, ↓reduceIte, ↓if_pos, ↓if_neg, kI, kJ, kR, kV, w32_eq, w64_eq, reduceCtorEq, Int.reduceAdd, Int.reduceMul, Int.reduceSub, o_c5, ↓o_g5_0, ↓o_g5_1, ↓o_g5_2, ↓o_g5_3, ↓o_g5_4, ↓o_g5_5, ↓o_g5_6, ↓o_g5_7, ↓o_g5_8, ↓o_g5_9, ↓o_g5_10, ↓a_ln6, ↓a_ld6, f2, ↓o_p5_3, o_p5_3, g_6 Z, q2, q1, hbF, c_lt_f Z, c_dg_f Z, B_X7_isCompare Z, B_X7_advance_74 Z]
  · refine ⟨_, fun f => ?_, cxk 1 (by omega), agk 1⟩
    rw [← fin 1 f, B_X7_advance_19]
    unfold isSg at hs
    simp (disch := first | assumption | omega) only [↓sm, ↓reduceIte, ↓if_pos, ↓if_neg, kI, kJ, kR, kV, w32_eq, w64_eq, reduceCtorEq, Int.reduceAdd, Int.reduceMul, Int.reduceSub, o_c5, ↓o_g5_0, ↓o_g5_1, ↓o_g5_2, ↓o_g5_3, ↓o_g5_4, ↓o_g5_5, ↓o_g5_6, ↓o_g5_7, ↓o_g5_8, ↓o_g5_9, ↓o_g5_10, ↓a_ln6, ↓a_ld6, f2, ↓o_p5_3, o_p5_3, g_6 Z, q2, q1, hbF, c_lt_f Z, c_dg_f Z, B_X7_isCompare Z]
theorem c_advance (Z : mX) {b : Int → Int} {n i F E K V W : Int} {s : mS} (hT : TB0 b n) (i0 : 0 ≤ i) (i1 : i ≤ F) (hbl : ∀ j, i ≤ j → j < F → isBl (b j)) (hnb : F < n → ¬ isBl (b F)) (hk : Tk b n F E K V W) (h1 : s.1 5 1 = n) (h2 : s.1 5 2 = i) (hb : ∀ j, 0 ≤ j → j < n → s.2 6 j = b j) :
    ∃ s', (∀ f : mW → mO, mm_kV (mm_run (zP Z) 94 [.inr (.inr (some 5))] (mk s)) f = f (mk s')) ∧ CX b n F E K V W s' ∧ Ag txA txF s s' := by
  obtain ⟨n0, n9, hT⟩ := hT
  obtain ⟨F0, FE, En, hk⟩ := hk
  obtain ⟨s1, e1, f2, ag1⟩ := c_skip Z n9 (by omega) _ i s rfl i0 i1 h1 h2 hb hbl hnb
  have g1 : s1.1 5 1 = n := (ag1.2 5 1 (by unfold txF; omega)).trans h1
  have gb : ∀ j, 0 ≤ j → j < n → s1.2 6 j = b j := fun j j0 j1 => by rw [ag1.1 6 (fun x => x)]; exact hb j j0 j1
  have fin : (∃ s', (∀ f : mW → mO, mm_kV (mm_at (zP Z) 94 19 [some (.inr (.inr (some 5))), none] [] (mk s1)) f = f (mk s')) ∧ CX b n F E K V W s' ∧ Ag txA txF s1 s') → ∃ s', (∀ f : mW → mO, mm_kV (mm_run (zP Z) 94 [.inr (.inr (some 5))] (mk s)) f = f (mk s')) ∧ CX b n F E K V W s' ∧ Ag txA txF s s' := by
    intro ⟨s', a, x, g⟩
    exact ⟨s', fun f => by rw [e1]; exact a f, x, Ag_trans ag1 g⟩
  rcases hk with ⟨hK, hF0, hE0⟩ | ⟨hFE, hl, hn, hW, hK⟩ | ⟨hFE, hl, hn, hK⟩ | ⟨hE, hnl, hnd, hnb, hV, hK⟩
  · exact fin (c_adv0 Z n9 F0 FE En hK hF0 hE0 g1 f2 gb)
  · exact fin (c_advW Z n9 F0 FE En hFE hl hn hW hK g1 f2 gb)
  · exact fin (c_advD Z n9 F0 FE En hFE hl hn hK g1 f2 gb)
  · exact fin (c_advS Z n9 F0 FE En hE hnl hnd hV hK g1 f2 gb)
