/-! tokens in a row, and what is done with one: both sides -/
abbrev mT : Type := Int × Int × Int × Int × Int
def tF (T : mT) : Int := T.1
def tE (T : mT) : Int := T.2.1
def tK (T : mT) : Int := T.2.2.1
def tV (T : mT) : Int := T.2.2.2.1
def tW (T : mT) : Int := T.2.2.2.2
def TT (b : Int → Int) (n : Int) (T : mT) : Prop := Tk b n (tF T) (tE T) (tK T) (tV T) (tW T)
def CT (b : Int → Int) (n : Int) (T : mT) (s : mS) : Prop := CX b n (tF T) (tE T) (tK T) (tV T) (tW T) s
def RT1 (b : Int → Int) (n : Int) (T : mT) (t : mS) : Prop := RX b n (tF T) (tE T) (tK T) (tV T) t
def NC (Z : mX) (b : Int → Int) (n : Int) (T T' : mT) : Prop := ∀ s, CT b n T s → ∃ s', (∀ f : mW → mO, mm_kV (mm_run (zP Z) 94 [.inr (.inr (some 5))] (mk s)) f = f (mk s')) ∧ CT b n T' s' ∧ Ag txA txF s s'
def NR (Z : mX) (b : Int → Int) (n : Int) (T T' : mT) : Prop := ∀ t, RT1 b n T t → ∃ t', (∀ f : mW → mO, mm_kV (mm_run (zP Z) 233 [.inr (.inr (some 141))] (mk t)) f = f (mk t')) ∧ RT1 b n T' t' ∧ Ag ryA ryF t t'
theorem nxt (Z : mX) {b : Int → Int} {n : Int} (hT : TB0 b n) {T : mT} (hk : TT b n T) : ∃ T', tE T ≤ tF T' ∧ TT b n T' ∧ NC Z b n T T' ∧ NR Z b n T T' := by
  obtain ⟨k0, k1, k2, k3, k4, k5, f0, f1, f2⟩ := tk_k hk
  obtain ⟨F, E, K, V, W, h1, h2, h3, h4⟩ := tk_ex b n (tE T) (by omega) f2
  refine ⟨(F, E, K, V, W), h1, h4, fun s h => ?_, fun t h => ?_⟩
  · exact c_advance Z hT (by omega) h1 h2 h3 h4 h.1 h.2.2.1 h.2.1
  · exact r_ahead Z hT (by omega) h1 h2 h3 h4 h.1 h.2.1
/-- the kind of a fault where a token can't stand; where a number must -/
def fkd (T : mT) : Int := if tK T = 1 then 1 else 2
def nkd (T : mT) : Int := if tK T = 5 then 4 else fkd T
theorem fkd_1 (T : mT) : 1 ≤ fkd T := by unfold fkd; split <;> omega
theorem nkd_1 (T : mT) : 1 ≤ nkd T := by unfold nkd; have := fkd_1 T; split <;> omega
/-! the class -/
/-- what a token changes -/
def tyF (q k : Nat) : Prop := q = 5 ∧ 2 ≤ k ∧ k ≠ 4 ∧ k ≤ 8
theorem tx_ty {s s' : mS} (h : Ag txA txF s s') : Ag txA tyF s s' := Ag_mono h (fun q h => h) (fun q k h => by unfold txF at h; unfold tyF; omega)
def pcA (q : Nat) : Prop := 41 ≤ q ∧ q ≤ 60
def pcF (q k : Nat) : Prop := (q = 5 ∧ 2 ≤ k ∧ k ≠ 4) ∨ q = 39 ∨ q = 40 ∨ q = 53 ∨ q = 54
def pcG (q k : Nat) : Prop := (q = 5 ∧ 2 ≤ k ∧ k ≠ 4 ∧ k ≤ 8) ∨ q = 39 ∨ q = 40 ∨ q = 53 ∨ q = 54
/-- a fault told -/
def CFl (s0 : mS) (kd pl : Int) (s : mS) : Prop := s.1 5 9 = kd ∧ s.1 5 10 = pl ∧ Ag pcA pcF s0 s
theorem ty_pc {s s' : mS} (h : Ag txA tyF s s') : Ag pcA pcG s s' := Ag_mono h (fun q h => h.elim) (fun q k h => by unfold tyF at h; unfold pcG; omega)
theorem CT_fr {b : Int → Int} {n : Int} {T : mT} {s s' : mS} (h : CT b n T s) (h1 : ∀ k, k = 1 ∨ k = 2 ∨ k = 3 ∨ k = 5 ∨ k = 6 ∨ k = 7 → s'.1 5 k = s.1 5 k) (h2 : s'.2 6 = s.2 6) : CT b n T s' := by
  unfold CT CX at *
  rw [h1 1 (by omega), h1 2 (by omega), h1 3 (by omega), h1 5 (by omega), h1 6 (by omega), h1 7 (by omega), h2]
  exact h
theorem c_fails (Z : mX) {b : Int → Int} {n : Int} {T : mT} {s : mS} (h : CT b n T s) (k : Int) (f : Int → mW → mO) : mm_kI (mm_run (zP Z) 103 [.inr (.inr (some 5)), .inl k] (mk s)) f = f 0 (mk (uF (uF s 5 9 k) 5 10 (tF T))) := by
  have e : (uF s 5 9 k).1 5 3 = tF T := by rw [uF_1, if_neg (by omega)]; exact h.2.2.2.1
  rw [B_X7_fails]
  simp (disch := first | assumption | omega) only [↓sm, ↓reduceIte, ↓if_pos, ↓if_neg, kI, kJ, kR, kV, w32_eq, w64_eq, reduceCtorEq, Int.reduceAdd, Int.reduceMul, Int.reduceSub, ↓o_p5_9, o_g5_3, e, o_p5_10]
theorem c_strays (Z : mX) {b : Int → Int} {n : Int} {T : mT} {s : mS} (h : CT b n T s) (f : Int → mW → mO) : mm_kI (mm_run (zP Z) 104 [.inr (.inr (some 5))] (mk s)) f = f 0 (mk (uF (uF s 5 9 (fkd T)) 5 10 (tF T))) := by
  have e : s.1 5 5 = tK T := h.2.2.2.2.1
  rw [B_X7_strays]
  unfold fkd
  by_cases h1 : tK T = 1
  · simp (disch := first | assumption | omega) only [↓sm, ↓reduceIte, ↓if_pos, ↓if_neg, kI, kJ, kR, kV, w32_eq, w64_eq, reduceCtorEq, Int.reduceAdd, Int.reduceMul, Int.reduceSub, o_c5, ↓o_g5_0, ↓o_g5_1, ↓o_g5_2, ↓o_g5_3, ↓o_g5_4, ↓o_g5_5, ↓o_g5_6, ↓o_g5_7, ↓o_g5_8, ↓o_g5_9, ↓o_g5_10, ↓a_ln6, ↓a_ld6, e, h1, ↓c_fails Z h]
  · simp (disch := first | assumption | omega) only [↓sm, ↓reduceIte, ↓if_pos, ↓if_neg, kI, kJ, kR, kV, w32_eq, w64_eq, reduceCtorEq, Int.reduceAdd, Int.reduceMul, Int.reduceSub, o_c5, ↓o_g5_0, ↓o_g5_1, ↓o_g5_2, ↓o_g5_3, ↓o_g5_4, ↓o_g5_5, ↓o_g5_6, ↓o_g5_7, ↓o_g5_8, ↓o_g5_9, ↓o_g5_10, ↓a_ln6, ↓a_ld6, e, h1, ↓c_fails Z h]
theorem CFl_mk {s0 s : mS} (g : Ag pcA pcG s0 s) (k p : Int) : CFl s0 k p (uF (uF s 5 9 k) 5 10 p) :=
  ⟨by rw [uF_1, if_neg (by omega), uF_1, if_pos ⟨rfl, rfl⟩], by rw [uF_1, if_pos ⟨rfl, rfl⟩], Ag_uF (F := pcF) (Ag_uF (F := pcF) (Ag_mono (B := pcA) (G := pcF) g (fun q h => h) (fun q k h => by unfold pcG at h; unfold pcF; omega)) (by unfold pcF; omega) _) (by unfold pcF; omega) _⟩
theorem c_isWord (Z : mX) {b : Int → Int} {n : Int} {T : mT} {s : mS} (h : CT b n T s) (w : Int) (f : Int → mW → mO) : mm_kI (mm_run (zP Z) 102 [.inr (.inr (some 5)), .inl w] (mk s)) f = f (if tK T = 2 ∧ tV T = w then 1 else 0) (mk s) := by
  have e : s.1 5 5 = tK T := h.2.2.2.2.1
  rw [B_X7_isWord]
  by_cases h1 : tK T = 2
  · have e6 : s.1 5 6 = tV T := h.2.2.2.2.2.1 (Or.inl h1)
    by_cases h2 : tV T = w
    · rw [if_pos ⟨h1, h2⟩]
      simp (disch := first | assumption | omega) only [↓sm, ↓reduceIte, ↓if_pos, ↓if_neg, kI, kJ, kR, kV, w32_eq, w64_eq, reduceCtorEq, Int.reduceAdd, Int.reduceMul, Int.reduceSub, o_c5, ↓o_g5_0, ↓o_g5_1, ↓o_g5_2, ↓o_g5_3, ↓o_g5_4, ↓o_g5_5, ↓o_g5_6, ↓o_g5_7, ↓o_g5_8, ↓o_g5_9, ↓o_g5_10, ↓a_ln6, ↓a_ld6, e, h1, e6, h2]
    · rw [if_neg (fun x => h2 x.2)]
      simp (disch := first | assumption | omega) only [↓sm, ↓reduceIte, ↓if_pos, ↓if_neg, kI, kJ, kR, kV, w32_eq, w64_eq, reduceCtorEq, Int.reduceAdd, Int.reduceMul, Int.reduceSub, o_c5, ↓o_g5_0, ↓o_g5_1, ↓o_g5_2, ↓o_g5_3, ↓o_g5_4, ↓o_g5_5, ↓o_g5_6, ↓o_g5_7, ↓o_g5_8, ↓o_g5_9, ↓o_g5_10, ↓a_ln6, ↓a_ld6, e, h1, e6, h2]
  · rw [if_neg (fun x => h1 x.1)]
    simp (disch := first | assumption | omega) only [↓sm, ↓reduceIte, ↓if_pos, ↓if_neg, kI, kJ, kR, kV, w32_eq, w64_eq, reduceCtorEq, Int.reduceAdd, Int.reduceMul, Int.reduceSub, o_c5, ↓o_g5_0, ↓o_g5_1, ↓o_g5_2, ↓o_g5_3, ↓o_g5_4, ↓o_g5_5, ↓o_g5_6, ↓o_g5_7, ↓o_g5_8, ↓o_g5_9, ↓o_g5_10, ↓a_ln6, ↓a_ld6, e, h1]
theorem c_word_t (Z : mX) {b : Int → Int} {n : Int} {T T' : mT} (hN : NC Z b n T T') {s : mS} (h : CT b n T s) {w : Int} (h1 : tK T = 2) (h2 : tV T = w) : ∃ s', (∀ f : Int → mW → mO, mm_kI (mm_run (zP Z) 105 [.inr (.inr (some 5)), .inl w] (mk s)) f = f 1 (mk s')) ∧ CT b n T' s' ∧ Ag txA txF s s' := by
  obtain ⟨s', a, x, g⟩ := hN s h
  refine ⟨s', fun f => ?_, x, g⟩
  have c := c_isWord Z h w
  rw [if_pos ⟨h1, h2⟩] at c
  rw [B_X7_takesWord]
  simp (disch := first | assumption | omega) only [↓sm, ↓reduceIte, ↓if_pos, ↓if_neg, kI, kJ, kR, kV, w32_eq, w64_eq, reduceCtorEq, Int.reduceAdd, Int.reduceMul, Int.reduceSub, o_c5, ↓c, ↓a]
theorem c_word_f (Z : mX) {b : Int → Int} {n : Int} {T : mT} {s : mS} (h : CT b n T s) {w : Int} (hn : ¬ (tK T = 2 ∧ tV T = w)) (f : Int → mW → mO) : mm_kI (mm_run (zP Z) 105 [.inr (.inr (some 5)), .inl w] (mk s)) f = f 0 (mk (uF (uF s 5 9 (fkd T)) 5 10 (tF T))) := by
  have c := c_isWord Z h w
  rw [if_neg hn] at c
  rw [B_X7_takesWord]
  simp (disch := first | assumption | omega) only [↓sm, ↓reduceIte, ↓if_pos, ↓if_neg, kI, kJ, kR, kV, w32_eq, w64_eq, reduceCtorEq, Int.reduceAdd, Int.reduceMul, Int.reduceSub, o_c5, ↓c, ↓c_strays Z h]
theorem c_semi_t (Z : mX) {b : Int → Int} {n : Int} {T T' : mT} (hN : NC Z b n T T') {s : mS} (h : CT b n T s) (h1 : tK T = 6) (h2 : tV T = 59) : ∃ s', (∀ f : Int → mW → mO, mm_kI (mm_run (zP Z) 106 [.inr (.inr (some 5))] (mk s)) f = f 1 (mk s')) ∧ CT b n T' s' ∧ Ag txA txF s s' := by
  obtain ⟨s', a, x, g⟩ := hN s h
  refine ⟨s', fun f => ?_, x, g⟩
  have e : s.1 5 5 = tK T := h.2.2.2.2.1
  have e6 : s.1 5 6 = tV T := h.2.2.2.2.2.1 (Or.inr (Or.inr h1))
  rw [B_X7_takesSemicolon]
  simp (disch := first | assumption | omega) only [↓sm, ↓reduceIte, ↓if_pos, ↓if_neg, kI, kJ, kR, kV, w32_eq, w64_eq, reduceCtorEq, Int.reduceAdd, Int.reduceMul, Int.reduceSub, o_c5, ↓o_g5_0, ↓o_g5_1, ↓o_g5_2, ↓o_g5_3, ↓o_g5_4, ↓o_g5_5, ↓o_g5_6, ↓o_g5_7, ↓o_g5_8, ↓o_g5_9, ↓o_g5_10, ↓a_ln6, ↓a_ld6, e, h1, e6, h2, ↓a]
theorem c_semi_f (Z : mX) {b : Int → Int} {n : Int} {T : mT} {s : mS} (h : CT b n T s) (hn : ¬ (tK T = 6 ∧ tV T = 59)) (f : Int → mW → mO) : mm_kI (mm_run (zP Z) 106 [.inr (.inr (some 5))] (mk s)) f = f 0 (mk (uF (uF s 5 9 (fkd T)) 5 10 (tF T))) := by
  have e : s.1 5 5 = tK T := h.2.2.2.2.1
  rw [B_X7_takesSemicolon]
  by_cases h1 : tK T = 6
  · have e6 : s.1 5 6 = tV T := h.2.2.2.2.2.1 (Or.inr (Or.inr h1))
    have h2 : ¬ tV T = 59 := fun x => hn ⟨h1, x⟩
    simp (disch := first | assumption | omega) only [↓sm, ↓reduceIte, ↓if_pos, ↓if_neg, kI, kJ, kR, kV, w32_eq, w64_eq, reduceCtorEq, Int.reduceAdd, Int.reduceMul, Int.reduceSub, o_c5, ↓o_g5_0, ↓o_g5_1, ↓o_g5_2, ↓o_g5_3, ↓o_g5_4, ↓o_g5_5, ↓o_g5_6, ↓o_g5_7, ↓o_g5_8, ↓o_g5_9, ↓o_g5_10, ↓a_ln6, ↓a_ld6, e, h1, e6, h2, ↓c_strays Z h]
  · simp (disch := first | assumption | omega) only [↓sm, ↓reduceIte, ↓if_pos, ↓if_neg, kI, kJ, kR, kV, w32_eq, w64_eq, reduceCtorEq, Int.reduceAdd, Int.reduceMul, Int.reduceSub, o_c5, ↓o_g5_0, ↓o_g5_1, ↓o_g5_2, ↓o_g5_3, ↓o_g5_4, ↓o_g5_5, ↓o_g5_6, ↓o_g5_7, ↓o_g5_8, ↓o_g5_9, ↓o_g5_10, ↓a_ln6, ↓a_ld6, e, h1, ↓c_strays Z h]
theorem c_num_t (Z : mX) {b : Int → Int} {n : Int} {T T' : mT} (hN : NC Z b n T T') {s : mS} (h : CT b n T s) {l m : Int} (h1 : tK T = 5) (h2 : l ≤ tV T) (h3 : tV T ≤ m) : ∃ s', (∀ f : Int → mW → mO, mm_kI (mm_run (zP Z) 107 [.inr (.inr (some 5)), .inl l, .inl m] (mk s)) f = f 1 (mk s')) ∧ CT b n T' s' ∧ s'.1 5 8 = tV T ∧ Ag txA tyF s s' := by
  have e : s.1 5 5 = tK T := h.2.2.2.2.1
  have e6 : s.1 5 6 = tV T := h.2.2.2.2.2.1 (Or.inr (Or.inl h1))
  have h8 : CT b n T (uF s 5 8 (tV T)) := CT_fr h (fun k hk => by rw [uF_1, if_neg (by omega)]) rfl
  obtain ⟨s', a, x, g⟩ := hN _ h8
  refine ⟨s', fun f => ?_, x, by rw [g.2 5 8 (by unfold txF; omega), uF_1, if_pos ⟨rfl, rfl⟩], Ag_trans (Ag_uF (F := tyF) (Ag_refl _ _ _) (by unfold tyF; omega) _) (tx_ty g)⟩
  rw [B_X7_takesNumber]
  simp (disch := first | assumption | omega) only [↓sm, ↓reduceIte, ↓if_pos, ↓if_neg, kI, kJ, kR, kV, w32_eq, w64_eq, reduceCtorEq, Int.reduceAdd, Int.reduceMul, Int.reduceSub, o_c5, ↓o_g5_0, ↓o_g5_1, ↓o_g5_2, ↓o_g5_3, ↓o_g5_4, ↓o_g5_5, ↓o_g5_6, ↓o_g5_7, ↓o_g5_8, ↓o_g5_9, ↓o_g5_10, ↓a_ln6, ↓a_ld6, e, h1, e6, k_isIn_t Z, o_p5_8, a]
theorem c_num_f (Z : mX) {b : Int → Int} {n : Int} {T : mT} {s : mS} (h : CT b n T s) {l m : Int} (hn : ¬ (tK T = 5 ∧ l ≤ tV T ∧ tV T ≤ m)) (f : Int → mW → mO) : mm_kI (mm_run (zP Z) 107 [.inr (.inr (some 5)), .inl l, .inl m] (mk s)) f = f 0 (mk (uF (uF s 5 9 (nkd T)) 5 10 (tF T))) := by
  have e : s.1 5 5 = tK T := h.2.2.2.2.1
  rw [B_X7_takesNumber]
  unfold nkd
  by_cases h1 : tK T = 5
  · have e6 : s.1 5 6 = tV T := h.2.2.2.2.2.1 (Or.inr (Or.inl h1))
    have h2 : ¬ (l ≤ tV T ∧ tV T ≤ m) := fun x => hn ⟨h1, x⟩
    simp (disch := first | assumption | omega) only [↓sm, ↓reduceIte, ↓if_pos, ↓if_neg, kI, kJ, kR, kV, w32_eq, w64_eq, reduceCtorEq, Int.reduceAdd, Int.reduceMul, Int.reduceSub, o_c5, ↓o_g5_0, ↓o_g5_1, ↓o_g5_2, ↓o_g5_3, ↓o_g5_4, ↓o_g5_5, ↓o_g5_6, ↓o_g5_7, ↓o_g5_8, ↓o_g5_9, ↓o_g5_10, ↓a_ln6, ↓a_ld6, e, h1, e6, k_isIn_f Z, c_fails Z h]
  · simp (disch := first | assumption | omega) only [↓sm, ↓reduceIte, ↓if_pos, ↓if_neg, kI, kJ, kR, kV, w32_eq, w64_eq, reduceCtorEq, Int.reduceAdd, Int.reduceMul, Int.reduceSub, o_c5, ↓o_g5_0, ↓o_g5_1, ↓o_g5_2, ↓o_g5_3, ↓o_g5_4, ↓o_g5_5, ↓o_g5_6, ↓o_g5_7, ↓o_g5_8, ↓o_g5_9, ↓o_g5_10, ↓a_ln6, ↓a_ld6, e, h1, ↓c_strays Z h]
/-! the reference -/
def prA (q : Nat) : Prop := q = 142 ∨ q = 143 ∨ q = 149
def prF (q k : Nat) : Prop := q = 141 ∧ 12 ≤ k ∧ k ≤ 23 ∧ k ≠ 16
def prG (q k : Nat) : Prop := q = 141 ∧ 12 ≤ k ∧ k ≤ 23 ∧ k ≠ 16 ∧ k ≠ 17 ∧ k ≠ 18
theorem ry_pr {s s' : mS} (h : Ag ryA ryF s s') : Ag prA prG s s' := Ag_mono h (fun q h => h.elim) (fun q k h => by unfold ryF at h; unfold prG; omega)
theorem RT_fr1 {b : Int → Int} {n : Int} {T : mT} {t t' : mS} (h : RT1 b n T t) (h1 : ∀ k, 11 ≤ k → k ≤ 15 → t'.1 141 k = t.1 141 k) (h2 : t'.2 148 = t.2 148) : RT1 b n T t' := by
  unfold RT1 RX RB at *
  rw [h1 11 (by omega) (by omega), h1 12 (by omega) (by omega), h1 13 (by omega) (by omega), h1 14 (by omega) (by omega), h1 15 (by omega) (by omega), h2]
  exact h
theorem tkr_1 {K : Int} (k0 : 0 ≤ K) (k1 : K ≤ 6) : tkr K = 1 ↔ K = 1 := by
  have h : K = 0 ∨ K = 1 ∨ K = 2 ∨ K = 3 ∨ K = 4 ∨ K = 5 ∨ K = 6 := by omega
  rcases h with rfl | rfl | rfl | rfl | rfl | rfl | rfl <;> decide
theorem tkr_3 {K : Int} (k0 : 0 ≤ K) (k1 : K ≤ 6) : tkr K = 3 ↔ K = 5 := by
  have h : K = 0 ∨ K = 1 ∨ K = 2 ∨ K = 3 ∨ K = 4 ∨ K = 5 ∨ K = 6 := by omega
  rcases h with rfl | rfl | rfl | rfl | rfl | rfl | rfl <;> decide
theorem tkr_4 {K : Int} (k0 : 0 ≤ K) (k1 : K ≤ 6) : tkr K = 4 ↔ K = 6 := by
  have h : K = 0 ∨ K = 1 ∨ K = 2 ∨ K = 3 ∨ K = 4 ∨ K = 5 ∨ K = 6 := by omega
  rcases h with rfl | rfl | rfl | rfl | rfl | rfl | rfl <;> decide
theorem tkr_0 {K : Int} (k0 : 0 ≤ K) (k1 : K ≤ 6) : tkr K = 0 ↔ K = 0 := by
  have h : K = 0 ∨ K = 1 ∨ K = 2 ∨ K = 3 ∨ K = 4 ∨ K = 5 ∨ K = 6 := by omega
  rcases h with rfl | rfl | rfl | rfl | rfl | rfl | rfl <;> decide
/-- k where the token isn't one that nothing begins so -/
def rk (T : mT) (k : Int) : Int := if tK T = 1 then 1 else k
theorem r_fails (Z : mX) {b : Int → Int} {n : Int} {T : mT} (hk : TT b n T) {t : mS} (h : RT1 b n T t) (h18 : t.1 141 18 = 0) (k : Int) (f : Int → mW → mO) : mm_kI (mm_run (zP Z) 236 [.inr (.inr (some 141)), .inl k] (mk t)) f = f 0 (mk (uF (uF t 141 18 (rk T k)) 141 17 (tF T))) := by
  obtain ⟨k0, k1, -⟩ := tk_k hk
  have e : t.1 141 12 = tkr (tK T) := h.2.2.2.1
  have e3 : ∀ v, (uF t 141 18 v).1 141 13 = tF T := fun v => by rw [uF_1, if_neg (by omega)]; exact h.2.2.1
  rw [B_X12_fails]
  unfold rk
  by_cases h1 : tK T = 1
  · have e1 : tkr (tK T) = 1 := (tkr_1 k0 k1).mpr h1
    simp (disch := first | assumption | omega) only [↓sm, ↓reduceIte, ↓if_pos, ↓if_neg, kI, kJ, kR, kV, w32_eq, w64_eq, reduceCtorEq, Int.reduceAdd, Int.reduceMul, Int.reduceSub, o_c141, ↓o_g141_0, ↓o_g141_1, ↓o_g141_5, ↓o_g141_6, ↓o_g141_7, ↓o_g141_8, ↓o_g141_9, ↓o_g141_21, ↓o_g141_25, ↓o_g141_26, ↓o_g141_27, ↓o_g141_28, ↓o_g141_29, ↓o_g141_30, ↓o_g141_31, ↓o_g141_34, ↓o_g141_35, ↓o_g141_36, ↓o_g141_18, h18, ↓o_g141_12, e, e1, h1, B_X12_fails_11 Z, ↓o_p141_18, o_g141_13, e3, o_p141_17]
  · have e1 : ¬ tkr (tK T) = 1 := fun x => h1 ((tkr_1 k0 k1).mp x)
    simp (disch := first | assumption | omega) only [↓sm, ↓reduceIte, ↓if_pos, ↓if_neg, kI, kJ, kR, kV, w32_eq, w64_eq, reduceCtorEq, Int.reduceAdd, Int.reduceMul, Int.reduceSub, o_c141, ↓o_g141_0, ↓o_g141_1, ↓o_g141_5, ↓o_g141_6, ↓o_g141_7, ↓o_g141_8, ↓o_g141_9, ↓o_g141_21, ↓o_g141_25, ↓o_g141_26, ↓o_g141_27, ↓o_g141_28, ↓o_g141_29, ↓o_g141_30, ↓o_g141_31, ↓o_g141_34, ↓o_g141_35, ↓o_g141_36, ↓o_g141_18, h18, ↓o_g141_12, e, e1, h1, B_X12_fails_11 Z, ↓o_p141_18, o_g141_13, e3, o_p141_17]
theorem rk_2 (T : mT) : rk T 2 = fkd T := rfl
theorem rk_5 {T : mT} (h : tK T ≠ 1) (k : Int) : rk T k = k := if_neg h
theorem r_inW (Z : mX) {b : Int → Int} {n : Int} (hT : TB0 b n) {T : mT} (hk : TT b n T) {t : mS} (h : RT1 b n T t) (f : Int → mW → mO) : mm_kI (mm_run (zP Z) 235 [.inr (.inr (some 141)), .inr (.inr (some 1))] (mk t)) f = f (wn (tK T) (tV T)) (mk t) := r_inWords Z hT hk h f
theorem wn_eq {b : Int → Int} {n : Int} {T : mT} (hk : TT b n T) {w : Int} (w0 : 0 ≤ w) (w1 : w < 27) : wn (tK T) (tV T) = km w ↔ tK T = 2 ∧ tV T = w := by
  obtain ⟨k0, k1, k2, -⟩ := tk_k hk
  unfold wn
  by_cases h : tK T = 2
  · have h2 := k2 h
    rw [if_pos h, km_inj h2.1 h2.2 w0 w1]
    exact ⟨fun x => ⟨h, x⟩, fun x => x.2⟩
  · rw [if_neg h]
    constructor
    · intro x
      exact absurd x.symm (fun y => by have := (km_m1 (by omega) w1).mp y; omega)
    · intro x
      exact absurd x.1 h
theorem r_wword_t (Z : mX) {b : Int → Int} {n : Int} (hT : TB0 b n) {T T' : mT} (hk : TT b n T) (hN : NR Z b n T T') {t : mS} (h : RT1 b n T t) {w k : Int} (hw : km w = k) (w0 : 0 ≤ w) (w1 : w < 27) (h1 : tK T = 2) (h2 : tV T = w) : ∃ t', (∀ f : Int → mW → mO, mm_kI (mm_run (zP Z) 239 [.inr (.inr (some 141)), .inr (.inr (some 1)), .inl k] (mk t)) f = f 1 (mk t')) ∧ RT1 b n T' t' ∧ Ag ryA ryF t t' := by
  obtain ⟨t', a, x, g⟩ := hN t h
  have e : wn (tK T) (tV T) = k := by rw [← hw]; exact (wn_eq hk w0 w1).mpr ⟨h1, h2⟩
  refine ⟨t', fun f => ?_, x, g⟩
  rw [B_X12_wantWord]
  simp (disch := first | assumption | omega) only [↓sm, ↓reduceIte, ↓if_pos, ↓if_neg, kI, kJ, kR, kV, w32_eq, w64_eq, reduceCtorEq, Int.reduceAdd, Int.reduceMul, Int.reduceSub, o_c141, ↓r_inW Z hT hk h, e, ↓a]
theorem r_wword_f (Z : mX) {b : Int → Int} {n : Int} (hT : TB0 b n) {T : mT} (hk : TT b n T) {t : mS} (h : RT1 b n T t) (h18 : t.1 141 18 = 0) {w k : Int} (hw : km w = k) (w0 : 0 ≤ w) (w1 : w < 27) (hn : ¬ (tK T = 2 ∧ tV T = w)) (f : Int → mW → mO) : mm_kI (mm_run (zP Z) 239 [.inr (.inr (some 141)), .inr (.inr (some 1)), .inl k] (mk t)) f = f 0 (mk (uF (uF t 141 18 (fkd T)) 141 17 (tF T))) := by
  have e : ¬ wn (tK T) (tV T) = k := by rw [← hw]; exact fun x => hn ((wn_eq hk w0 w1).mp x)
  rw [B_X12_wantWord]
  simp (disch := first | assumption | omega) only [↓sm, ↓reduceIte, ↓if_pos, ↓if_neg, kI, kJ, kR, kV, w32_eq, w64_eq, reduceCtorEq, Int.reduceAdd, Int.reduceMul, Int.reduceSub, o_c141, ↓r_inW Z hT hk h, e, ↓r_fails Z hk h h18, rk_2]
theorem r_there_t (Z : mX) {b : Int → Int} {n : Int} (hT : TB0 b n) {T T' : mT} (hk : TT b n T) (hN : NR Z b n T T') {t : mS} (h : RT1 b n T t) {w k : Int} (hw : km w = k) (w0 : 0 ≤ w) (w1 : w < 27) (h1 : tK T = 2) (h2 : tV T = w) : ∃ t', (∀ f : Int → mW → mO, mm_kI (mm_run (zP Z) 250 [.inr (.inr (some 141)), .inl k] (mk t)) f = f 1 (mk t')) ∧ RT1 b n T' t' ∧ Ag ryA ryF t t' := by
  obtain ⟨t', a, x, g⟩ := hN t h
  have e : wn (tK T) (tV T) = k := by rw [← hw]; exact (wn_eq hk w0 w1).mpr ⟨h1, h2⟩
  refine ⟨t', fun f => ?_, x, g⟩
  rw [B_X12_isThere]
  simp (disch := first | assumption | omega) only [↓sm, ↓reduceIte, ↓if_pos, ↓if_neg, kI, kJ, kR, kV, w32_eq, w64_eq, reduceCtorEq, Int.reduceAdd, Int.reduceMul, Int.reduceSub, o_c141, ↓r_inW Z hT hk h, e, ↓a]
theorem r_there_f (Z : mX) {b : Int → Int} {n : Int} (hT : TB0 b n) {T : mT} (hk : TT b n T) {t : mS} (h : RT1 b n T t) {w k : Int} (hw : km w = k) (w0 : 0 ≤ w) (w1 : w < 27) (hn : ¬ (tK T = 2 ∧ tV T = w)) (f : Int → mW → mO) : mm_kI (mm_run (zP Z) 250 [.inr (.inr (some 141)), .inl k] (mk t)) f = f 0 (mk t) := by
  have e : ¬ wn (tK T) (tV T) = k := by rw [← hw]; exact fun x => hn ((wn_eq hk w0 w1).mp x)
  rw [B_X12_isThere]
  simp (disch := first | assumption | omega) only [↓sm, ↓reduceIte, ↓if_pos, ↓if_neg, kI, kJ, kR, kV, w32_eq, w64_eq, reduceCtorEq, Int.reduceAdd, Int.reduceMul, Int.reduceSub, o_c141, ↓r_inW Z hT hk h, e]
theorem r_isSign (Z : mX) {b : Int → Int} {n : Int} {T : mT} (hk : TT b n T) {t : mS} (h : RT1 b n T t) (c : Int) (f : Int → mW → mO) : mm_kI (mm_run (zP Z) 234 [.inr (.inr (some 141)), .inl c] (mk t)) f = f (if tK T = 6 ∧ tV T = c then 1 else 0) (mk t) := by
  obtain ⟨k0, k1, -⟩ := tk_k hk
  have e : t.1 141 12 = tkr (tK T) := h.2.2.2.1
  rw [B_X12_isSign]
  by_cases h1 : tK T = 6
  · have e1 : tkr (tK T) = 4 := (tkr_4 k0 k1).mpr h1
    have e6 : t.1 141 15 = tV T := h.2.2.2.2 (Or.inr h1)
    by_cases h2 : tV T = c
    · rw [if_pos ⟨h1, h2⟩]
      simp (disch := first | assumption | omega) only [↓sm, ↓reduceIte, ↓if_pos, ↓if_neg, kI, kJ, kR, kV, w32_eq, w64_eq, reduceCtorEq, Int.reduceAdd, Int.reduceMul, Int.reduceSub, ↓o_g141_12, e, e1, ↓o_g141_15, e6, h2]
    · rw [if_neg (fun x => h2 x.2)]
      simp (disch := first | assumption | omega) only [↓sm, ↓reduceIte, ↓if_pos, ↓if_neg, kI, kJ, kR, kV, w32_eq, w64_eq, reduceCtorEq, Int.reduceAdd, Int.reduceMul, Int.reduceSub, ↓o_g141_12, e, e1, ↓o_g141_15, e6, h2]
  · have e1 : ¬ tkr (tK T) = 4 := fun x => h1 ((tkr_4 k0 k1).mp x)
    rw [if_neg (fun x => h1 x.1)]
    simp (disch := first | assumption | omega) only [↓sm, ↓reduceIte, ↓if_pos, ↓if_neg, kI, kJ, kR, kV, w32_eq, w64_eq, reduceCtorEq, Int.reduceAdd, Int.reduceMul, Int.reduceSub, ↓o_g141_12, e, e1]
theorem r_semi_t (Z : mX) {b : Int → Int} {n : Int} {T T' : mT} (hk : TT b n T) (hN : NR Z b n T T') {t : mS} (h : RT1 b n T t) (h1 : tK T = 6) (h2 : tV T = 59) : ∃ t', (∀ f : Int → mW → mO, mm_kI (mm_run (zP Z) 238 [.inr (.inr (some 141)), .inl 59] (mk t)) f = f 1 (mk t')) ∧ RT1 b n T' t' ∧ Ag ryA ryF t t' := by
  obtain ⟨t', a, x, g⟩ := hN t h
  have c := r_isSign Z hk h 59
  rw [if_pos ⟨h1, h2⟩] at c
  refine ⟨t', fun f => ?_, x, g⟩
  rw [B_X12_wantSign]
  simp (disch := first | assumption | omega) only [↓sm, ↓reduceIte, ↓if_pos, ↓if_neg, kI, kJ, kR, kV, w32_eq, w64_eq, reduceCtorEq, Int.reduceAdd, Int.reduceMul, Int.reduceSub, o_c141, ↓c, ↓a]
theorem r_semi_f (Z : mX) {b : Int → Int} {n : Int} {T : mT} (hk : TT b n T) {t : mS} (h : RT1 b n T t) (h18 : t.1 141 18 = 0) (hn : ¬ (tK T = 6 ∧ tV T = 59)) (f : Int → mW → mO) : mm_kI (mm_run (zP Z) 238 [.inr (.inr (some 141)), .inl 59] (mk t)) f = f 0 (mk (uF (uF t 141 18 (fkd T)) 141 17 (tF T))) := by
  have c := r_isSign Z hk h 59
  rw [if_neg hn] at c
  rw [B_X12_wantSign]
  simp (disch := first | assumption | omega) only [↓sm, ↓reduceIte, ↓if_pos, ↓if_neg, kI, kJ, kR, kV, w32_eq, w64_eq, reduceCtorEq, Int.reduceAdd, Int.reduceMul, Int.reduceSub, o_c141, ↓c, ↓r_fails Z hk h h18, rk_2]
theorem r_num_t (Z : mX) {b : Int → Int} {n : Int} {T T' : mT} (hk : TT b n T) (hN : NR Z b n T T') {t : mS} (h : RT1 b n T t) {G : Int → Int} (e : t.2 142 = G) {to l m : Int} (t0 : 0 ≤ to) (t1 : to < 2464) (h1 : tK T = 5) (h2 : l ≤ tV T) (h3 : tV T ≤ m) : ∃ t', (∀ f : Int → mW → mO, mm_kI (mm_run (zP Z) 240 [.inr (.inr (some 141)), .inl to, .inl l, .inl m] (mk t)) f = f 1 (mk t')) ∧ RT1 b n T' t' ∧ t'.2 142 = mm_upd G to (tV T) ∧ Ag prA prG t t' ∧ (∀ k, 16 ≤ k → t'.1 141 k = t.1 141 k) ∧ t'.2 143 = t.2 143 := by
  obtain ⟨k0, k1, -⟩ := tk_k hk
  have e12 : t.1 141 12 = tkr (tK T) := h.2.2.2.1
  have e1 : tkr (tK T) = 3 := (tkr_3 k0 k1).mpr h1
  have e6 : t.1 141 15 = tV T := h.2.2.2.2 (Or.inl h1)
  obtain ⟨t', a, x, g⟩ := hN (uA t 142 to (tV T)) (RT_fr1 h (fun k _ _ => rfl) (uA_n _ (by decide) _ _))
  refine ⟨t', fun f => ?_, x, by rw [g.1 142 (fun x => x), uA_s, e], Ag_trans (Ag_uA (Ag_refl _ _ _) (by unfold prA; omega) _ _) (ry_pr g), fun k hk => g.2 141 k (by unfold ryF; omega), by rw [g.1 143 (fun x => x), uA_n _ (by decide)]⟩
  rw [B_X12_number]
  simp (disch := first | assumption | omega) only [↓sm, ↓reduceIte, ↓if_pos, ↓if_neg, kI, kJ, kR, kV, w32_eq, w64_eq, reduceCtorEq, Int.reduceAdd, Int.reduceMul, Int.reduceSub, o_c141, ↓o_g141_0, ↓o_g141_1, ↓o_g141_5, ↓o_g141_6, ↓o_g141_7, ↓o_g141_8, ↓o_g141_9, ↓o_g141_21, ↓o_g141_25, ↓o_g141_26, ↓o_g141_27, ↓o_g141_28, ↓o_g141_29, ↓o_g141_30, ↓o_g141_31, ↓o_g141_34, ↓o_g141_35, ↓o_g141_36, ↓o_g141_12, e12, e1, ↓o_g141_15, e6, ↓a_st142, ↓a]
theorem r_num_f (Z : mX) {b : Int → Int} {n : Int} {T : mT} (hk : TT b n T) {t : mS} (h : RT1 b n T t) (h18 : t.1 141 18 = 0) {to l m : Int} (hn : ¬ (tK T = 5 ∧ l ≤ tV T ∧ tV T ≤ m)) (f : Int → mW → mO) : mm_kI (mm_run (zP Z) 240 [.inr (.inr (some 141)), .inl to, .inl l, .inl m] (mk t)) f = f 0 (mk (uF (uF t 141 18 (nkd T)) 141 17 (tF T))) := by
  obtain ⟨k0, k1, -⟩ := tk_k hk
  have e12 : t.1 141 12 = tkr (tK T) := h.2.2.2.1
  rw [B_X12_number]
  unfold nkd
  by_cases h1 : tK T = 5
  · have e1 : tkr (tK T) = 3 := (tkr_3 k0 k1).mpr h1
    have e6 : t.1 141 15 = tV T := h.2.2.2.2 (Or.inl h1)
    have e4 : rk T 4 = 4 := rk_5 (by omega) 4
    have h2 : ¬ (l ≤ tV T ∧ tV T ≤ m) := fun x => hn ⟨h1, x⟩
    rw [if_pos h1]
    by_cases hl : tV T < l
    · simp (disch := first | assumption | omega) only [↓sm, ↓reduceIte, ↓if_pos, ↓if_neg, kI, kJ, kR, kV, w32_eq, w64_eq, reduceCtorEq, Int.reduceAdd, Int.reduceMul, Int.reduceSub, o_c141, ↓o_g141_0, ↓o_g141_1, ↓o_g141_5, ↓o_g141_6, ↓o_g141_7, ↓o_g141_8, ↓o_g141_9, ↓o_g141_21, ↓o_g141_25, ↓o_g141_26, ↓o_g141_27, ↓o_g141_28, ↓o_g141_29, ↓o_g141_30, ↓o_g141_31, ↓o_g141_34, ↓o_g141_35, ↓o_g141_36, ↓o_g141_12, e12, e1, ↓o_g141_15, e6, ↓r_fails Z hk h h18, e4]
    · simp (disch := first | assumption | omega) only [↓sm, ↓reduceIte, ↓if_pos, ↓if_neg, kI, kJ, kR, kV, w32_eq, w64_eq, reduceCtorEq, Int.reduceAdd, Int.reduceMul, Int.reduceSub, o_c141, ↓o_g141_0, ↓o_g141_1, ↓o_g141_5, ↓o_g141_6, ↓o_g141_7, ↓o_g141_8, ↓o_g141_9, ↓o_g141_21, ↓o_g141_25, ↓o_g141_26, ↓o_g141_27, ↓o_g141_28, ↓o_g141_29, ↓o_g141_30, ↓o_g141_31, ↓o_g141_34, ↓o_g141_35, ↓o_g141_36, ↓o_g141_12, e12, e1, ↓o_g141_15, e6, ↓r_fails Z hk h h18, e4]
  · have e1 : ¬ tkr (tK T) = 3 := fun x => h1 ((tkr_3 k0 k1).mp x)
    rw [if_neg h1]
    simp (disch := first | assumption | omega) only [↓sm, ↓reduceIte, ↓if_pos, ↓if_neg, kI, kJ, kR, kV, w32_eq, w64_eq, reduceCtorEq, Int.reduceAdd, Int.reduceMul, Int.reduceSub, o_c141, ↓o_g141_0, ↓o_g141_1, ↓o_g141_5, ↓o_g141_6, ↓o_g141_7, ↓o_g141_8, ↓o_g141_9, ↓o_g141_21, ↓o_g141_25, ↓o_g141_26, ↓o_g141_27, ↓o_g141_28, ↓o_g141_29, ↓o_g141_30, ↓o_g141_31, ↓o_g141_34, ↓o_g141_35, ↓o_g141_36, ↓o_g141_12, e12, e1, ↓r_fails Z hk h h18, rk_2]
