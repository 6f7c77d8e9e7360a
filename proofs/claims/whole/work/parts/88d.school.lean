/-! school() -/
def plD (j : Int) : Int := if j = 0 then 4 else if j = 1 then 4 else if j = 4 then 2 else if j = 7 then -1 else 0
theorem plD_DI {D : Int → Int} (e : ∀ j, 0 ≤ j → j < 472 → D j = plD j) : DrI D 0 0 0 := by
  have z : ∀ j, 8 ≤ j → j < 472 → D j = 0 := fun j j0 j1 => by
    rw [e j (by omega) j1]
    unfold plD
    rw [if_neg (by omega), if_neg (by omega), if_neg (by omega), if_neg (by omega)]
  have e0 : D 0 = 4 := e 0 (by omega) (by omega)
  have e1 : D 1 = 4 := e 1 (by omega) (by omega)
  have e2 : D 2 = 0 := e 2 (by omega) (by omega)
  have e3 : D 3 = 0 := e 3 (by omega) (by omega)
  have e4 : D 4 = 2 := e 4 (by omega) (by omega)
  have e5 : D 5 = 0 := e 5 (by omega) (by omega)
  have e7 : D 7 = -1 := e 7 (by omega) (by omega)
  refine ⟨⟨by omega, fun c c0 c1 => ?_, fun k k0 k1 => by omega, fun p p0 p1 => by omega⟩, e7, Or.inl rfl, Or.inl rfl, Or.inl rfl, fun _ => ⟨e3, fun c c0 c1 => ⟨z _ (by omega) (by omega), z _ (by omega) (by omega)⟩⟩, fun p p0 p1 => ⟨z _ (by omega) (by omega), z _ (by omega) (by omega), z _ (by omega) (by omega)⟩⟩
  rw [z _ (by omega) (by omega), z _ (by omega) (by omega)]
  exact ⟨by omega, by omega, by omega, by omega, fun _ => ⟨rfl, rfl⟩⟩
/-- the class's draft cleared -/
def clS (s : mS) : mS := fA (fA (fA (fA (uF (uF (uF (uF (uF (uF s 40 0 4) 40 1 4) 40 2 2) 40 3 0) 40 6 0) 40 10 0) 41 25 0) 42 25 0) 50 5 0) 51 5 0
theorem c_clear40 (Z : mX) (s : mS) (f : mW → mO) : mm_kV (mm_run (zP Z) 46 [.inr (.inr (some 40))] (mk s)) f = f (mk (clS s)) := by
  rw [B_X5_clear]
  unfold clS
  simp (disch := first | with_reducible assumption | omega) only [↓sm, ↓reduceIte, ↓if_pos, ↓if_neg, kI, kJ, kR, kV, w32_eq, w64_eq, reduceCtorEq, Int.reduceAdd, Int.reduceMul, Int.reduceSub, o_c40, ↓o_p40_0, ↓o_p40_1, ↓o_p40_2, ↓o_p40_3, ↓o_p40_6, ↓o_p40_10, ↓o_g40_4, ↓o_g40_5, ↓o_g40_15, ↓o_g40_16, ↓k_fill Z _ (q := 41) (n := 25) rfl, ↓k_fill Z _ (q := 42) (n := 25) rfl, ↓k_fill Z _ (q := 50) (n := 5) rfl, ↓k_fill Z _ (q := 51) (n := 5) rfl]
  rfl
theorem fA_hit (s : mS) (q : Nat) (n v i : Int) (h0 : 0 ≤ i) (h1 : i < n) : (fA s q n v).2 q i = v := if_pos ⟨rfl, h0, h1⟩
theorem fA_miss (s : mS) {q r : Nat} (h : r ≠ q) (n v : Int) : (fA s q n v).2 r = s.2 r := by
  funext j
  show (if r = q ∧ _ then _ else _) = _
  rw [if_neg (fun x => h x.1)]
theorem clS_Ag (s : mS) : Ag (fun q => 41 ≤ q ∧ q ≤ 52) (fun q _ => q = 40) s (clS s) := by
  unfold clS
  refine Ag_fA (Ag_fA (Ag_fA (Ag_fA (Ag_uF (F := fun q _ => q = 40) (Ag_uF (F := fun q _ => q = 40) (Ag_uF (F := fun q _ => q = 40) (Ag_uF (F := fun q _ => q = 40) (Ag_uF (F := fun q _ => q = 40) (Ag_uF (F := fun q _ => q = 40) (Ag_refl _ _ _) rfl _) rfl _) rfl _) rfl _) rfl _) rfl _) ?_ _ _) ?_ _ _) ?_ _ _) ?_ _ _ <;> omega
theorem clS_CS (s : mS) {D N : Int → Int} (e : ∀ j, 0 ≤ j → j < 472 → D j = plD j) : CS (clS s) 40 D N := by
  have e0 : D 0 = 4 := e 0 (by omega) (by omega)
  have e1 : D 1 = 4 := e 1 (by omega) (by omega)
  have e2 : D 2 = 0 := e 2 (by omega) (by omega)
  have e3 : D 3 = 0 := e 3 (by omega) (by omega)
  have e4 : D 4 = 2 := e 4 (by omega) (by omega)
  have e5 : D 5 = 0 := e 5 (by omega) (by omega)
  have z : ∀ j, 8 ≤ j → j < 472 → D j = 0 := fun j j0 j1 => by
    rw [e j (by omega) j1]
    unfold plD
    rw [if_neg (by omega), if_neg (by omega), if_neg (by omega), if_neg (by omega)]
  refine ⟨?_, fun c c0 c1 => ⟨?_, ?_⟩, fun k k0 k1 => by omega, fun p p0 p1 => by omega, fun p p0 p1 => ⟨?_, ?_⟩⟩
  · rw [e0, e1, e2, e3, e4, e5]
    unfold clS
    simp [fA, uF_1]
  · rw [z _ (by omega) (by omega)]
    unfold clS
    rw [fA_miss _ (by omega), fA_miss _ (by omega), fA_miss _ (by omega), fA_hit _ _ _ _ _ c0 c1]
  · rw [z _ (by omega) (by omega)]
    unfold clS
    rw [fA_miss _ (by omega), fA_miss _ (by omega), fA_hit _ _ _ _ _ c0 c1]
  · unfold clS
    rw [fA_miss _ (by omega), fA_hit _ _ _ _ _ (by omega) p1]
  · unfold clS
    rw [fA_hit _ _ _ _ _ (by omega) p1]
/-! the reference begins -/
def cpB (s : mS) (i : Int) : mS := (s.1, fun q j => if q = 148 ∧ 0 ≤ j ∧ j < i then mm_i2b (s.2 147 j) else s.2 q j)
theorem cpB_0 (s : mS) : cpB s 0 = s := by
  refine Prod.ext rfl (funext fun q => funext fun j => ?_)
  show (if _ then _ else _) = _
  rw [if_neg (by omega)]
theorem cpB_s (s : mS) (i : Int) (h : 0 ≤ i) : uA (cpB s i) 148 i (mm_i2b (s.2 147 i)) = cpB s (i + 1) := by
  refine Prod.ext rfl (funext fun q => funext fun j => ?_)
  show (if q = 148 ∧ j = i then mm_i2b (s.2 147 i) else if q = 148 ∧ 0 ≤ j ∧ j < i then mm_i2b (s.2 147 j) else s.2 q j) = if q = 148 ∧ 0 ≤ j ∧ j < i + 1 then mm_i2b (s.2 147 j) else s.2 q j
  by_cases hq : q = 148
  · by_cases h1 : j = i
    · rw [if_pos ⟨hq, h1⟩, if_pos ⟨hq, by omega, by omega⟩, h1]
    · rw [if_neg (by omega)]
      by_cases h2 : 0 ≤ j ∧ j < i
      · rw [if_pos ⟨hq, h2⟩, if_pos ⟨hq, by omega⟩]
      · rw [if_neg (by omega), if_neg (by omega)]
  · simp [hq]
theorem cpB_n (s : mS) (i : Int) {q : Nat} (h : q ≠ 148) : (cpB s i).2 q = s.2 q := by
  funext j
  show (if q = 148 ∧ _ then _ else _) = _
  rw [if_neg (fun x => h x.1)]
/-- where the reference stands ahead of its first token -/
def beR (t : mS) (a : Int) : mS := uF (uF (uF (uF (uF (cpB (uF t 141 11 a) a) 141 10 0) 141 18 0) 141 17 (-1)) 141 14 0) 141 19 0
theorem lp_cpB (Z : mX) (t : mS) (a : Int) (a9 : a ≤ 900) : ∀ i : Int, i ≤ a → 0 ≤ i → mm_at (zP Z) 237 16 [some (.inr (.inr (some 141))), some (.inl a), none, some (.inl i)] [] (mk (cpB t i)) = mm_at (zP Z) 237 16 [some (.inr (.inr (some 141))), some (.inl a), none, some (.inl a)] [] (mk (cpB t a)) := by
  refine up ?_ ?_
  · intro h0
    rfl
  · intro i hi ih h0
    have e1 : (cpB t i).2 147 i = t.2 147 i := by rw [cpB_n _ _ (by decide)]
    have e2 := cpB_s t i h0
    conv => lhs; rw [B_X12_begins_16]
    simp (disch := first | with_reducible assumption | omega) only [↓sm, ↓reduceIte, ↓if_pos, ↓if_neg, kI, kJ, kR, kV, w32_eq, w64_eq, reduceCtorEq, Int.reduceAdd, Int.reduceMul, Int.reduceSub, o_c141, ↓o_g141_0, ↓o_g141_1, ↓o_g141_5, ↓o_g141_6, ↓o_g141_7, ↓o_g141_8, ↓o_g141_9, ↓o_g141_21, ↓o_g141_25, ↓o_g141_26, ↓o_g141_27, ↓o_g141_28, ↓o_g141_29, ↓o_g141_30, ↓o_g141_31, ↓o_g141_34, ↓o_g141_35, ↓o_g141_36, ↓a_ld147, e1, ↓a_st148, e2, w32_eq]
    exact ih (by omega)
theorem i2b2 (x : Int) : mm_i2b (mm_i2b x) = mm_i2b x := by
  unfold mm_i2b
  have h1 := Int.bmod_lt (x := x) (m := 256) (by omega)
  have h2 := Int.le_bmod (x := x) (m := 256) (by omega)
  exact Int.bmod_eq_of_le (by omega) (by omega)
theorem r_begins (Z : mX) {b : Int → Int} {n F E K V W : Int} {t : mS} (hT : TB0 b n) (l : Int) (hl : n ≤ l) (h10 : n ≤ t.1 141 10) (hb : ∀ j, 0 ≤ j → j < n → t.2 147 j = mm_i2b (b j)) (i1 : 0 ≤ F) (hbl : ∀ j, 0 ≤ j → j < F → isBl (b j)) (hnb : F < n → ¬ isBl (b F)) (hk : Tk b n F E K V W) :
    ∃ t', (∀ f : Int → mW → mO, mm_kI (mm_run (zP Z) 237 [.inr (.inr (some 141)), .inl n, .inl l] (mk t)) f = f 1 (mk t')) ∧ RX b n F E K V t' ∧ Ag ryA ryF (beR t n) t' := by
  obtain ⟨n0, n9, hT2⟩ := id hT
  have hR : RB b n (beR t n) := ⟨by simp [beR, uF_1, cpB], fun j j0 j1 => by
    have : (beR t n).2 148 j = mm_i2b (t.2 147 j) := if_pos ⟨rfl, j0, j1⟩
    rw [this, hb j j0 j1, i2b2]⟩
  obtain ⟨t', a, x, g⟩ := r_ahead Z hT (i := 0) (by omega) i1 hbl hnb hk hR (by simp [beR, uF_1])
  refine ⟨t', fun f => ?_, x, g⟩
  have lp := lp_cpB Z (uF t 141 11 n) n n9 0 (by omega) (by omega)
  rw [cpB_0] at lp
  have a : ∀ f : mW → mO, mm_kV (mm_run (zP Z) 233 [.inr (.inr (some 141))] (mk (uF (uF (uF (uF (uF (cpB (uF t 141 11 n) n) 141 10 0) 141 18 0) 141 17 (-1)) 141 14 0) 141 19 0))) f = f (mk t') := a
  rw [B_X12_begins]
  simp (disch := first | with_reducible assumption | omega) only [↓sm, ↓reduceIte, ↓if_pos, ↓if_neg, kI, kJ, kR, kV, w32_eq, w64_eq, reduceCtorEq, Int.reduceAdd, Int.reduceMul, Int.reduceSub, o_c141, ↓o_g141_0, ↓o_g141_1, ↓o_g141_5, ↓o_g141_6, ↓o_g141_7, ↓o_g141_8, ↓o_g141_9, ↓o_g141_21, ↓o_g141_25, ↓o_g141_26, ↓o_g141_27, ↓o_g141_28, ↓o_g141_29, ↓o_g141_30, ↓o_g141_31, ↓o_g141_34, ↓o_g141_35, ↓o_g141_36, ↓o_g141_10, ↓o_p141_11]
  rw [lp, B_X12_begins_16]
  simp (disch := first | with_reducible assumption | omega) only [↓sm, ↓reduceIte, ↓if_pos, ↓if_neg, kI, kJ, kR, kV, w32_eq, w64_eq, reduceCtorEq, Int.reduceAdd, Int.reduceMul, Int.reduceSub, o_c141, ↓o_g141_0, ↓o_g141_1, ↓o_g141_5, ↓o_g141_6, ↓o_g141_7, ↓o_g141_8, ↓o_g141_9, ↓o_g141_21, ↓o_g141_25, ↓o_g141_26, ↓o_g141_27, ↓o_g141_28, ↓o_g141_29, ↓o_g141_30, ↓o_g141_31, ↓o_g141_34, ↓o_g141_35, ↓o_g141_36, ↓o_p141_10, ↓o_p141_18, ↓o_p141_17, ↓o_p141_14, ↓o_p141_19, ↓a]
theorem r_begins_f (Z : mX) {t : mS} {n l : Int} (hn : ¬ (0 ≤ n ∧ n ≤ t.1 141 10 ∧ n ≤ l)) (f : Int → mW → mO) : mm_kI (mm_run (zP Z) 237 [.inr (.inr (some 141)), .inl n, .inl l] (mk t)) f = f 0 (mk t) := by
  rw [B_X12_begins]
  by_cases h0 : n < 0
  · simp (disch := first | with_reducible assumption | omega) only [↓sm, ↓reduceIte, ↓if_pos, ↓if_neg, kI, kJ, kR, kV, w32_eq, w64_eq, reduceCtorEq, Int.reduceAdd, Int.reduceMul, Int.reduceSub]
  · by_cases h1 : t.1 141 10 < n
    · simp (disch := first | with_reducible assumption | omega) only [↓sm, ↓reduceIte, ↓if_pos, ↓if_neg, kI, kJ, kR, kV, w32_eq, w64_eq, reduceCtorEq, Int.reduceAdd, Int.reduceMul, Int.reduceSub, ↓o_g141_10]
    · simp (disch := first | with_reducible assumption | omega) only [↓sm, ↓reduceIte, ↓if_pos, ↓if_neg, kI, kJ, kR, kV, w32_eq, w64_eq, reduceCtorEq, Int.reduceAdd, Int.reduceMul, Int.reduceSub, ↓o_g141_10]
/-- a plain school at the reference's draft -/
def plR (t : mS) (i : Int) : mS := (t.1, fun q j => if q = 142 ∧ 1888 ≤ j ∧ j < 1888 + i then 0 else t.2 q j)
theorem plR_0 (s : mS) : plR s 0 = s := by
  refine Prod.ext rfl (funext fun q => funext fun j => ?_)
  show (if _ then _ else _) = _
  rw [if_neg (by omega)]
theorem plR_s (s : mS) (i : Int) (h : 0 ≤ i) : uA (plR s i) 142 (1888 + i) 0 = plR s (i + 1) := by
  refine Prod.ext rfl (funext fun q => funext fun j => ?_)
  show (if q = 142 ∧ j = 1888 + i then 0 else if q = 142 ∧ 1888 ≤ j ∧ j < 1888 + i then 0 else s.2 q j) = if q = 142 ∧ 1888 ≤ j ∧ j < 1888 + (i + 1) then 0 else s.2 q j
  by_cases hq : q = 142
  · by_cases h1 : j = 1888 + i
    · rw [if_pos ⟨hq, h1⟩, if_pos ⟨hq, by omega, by omega⟩]
    · rw [if_neg (by omega)]
      by_cases h2 : 1888 ≤ j ∧ j < 1888 + i
      · rw [if_pos ⟨hq, h2⟩, if_pos ⟨hq, by omega⟩]
      · rw [if_neg (by omega), if_neg (by omega)]
  · simp [hq]
def plE (t : mS) : mS := uA (uA (uA (uA (plR t 472) 142 1888 4) 142 1889 4) 142 1892 2) 142 1895 (-1)
theorem lp_plR (Z : mX) (t : mS) : ∀ i : Int, i ≤ 472 → 0 ≤ i → mm_at (zP Z) 211 2 [some (.inr (.inr (some 141))), some (.inl 1888), some (.inl i)] [] (mk (plR t i)) = some (none, mk (plE t)) := by
  refine up ?_ ?_
  · intro h0
    have w0 : mm_w32 (1888 + 0) = 1888 := w32_eq (by omega) (by omega)
    have w1 : mm_w32 (1888 + 1) = 1889 := w32_eq (by omega) (by omega)
    have w4 : mm_w32 (1888 + 4) = 1892 := w32_eq (by omega) (by omega)
    have w7 : mm_w32 (1888 + 7) = 1895 := w32_eq (by omega) (by omega)
    rw [B_X12_plain_2, w0, w1, w4, w7]
    simp (disch := first | with_reducible assumption | omega) only [↓sm, ↓reduceIte, ↓if_pos, ↓if_neg, kI, kJ, kR, kV, w32_eq, w64_eq, reduceCtorEq, Int.reduceAdd, Int.reduceMul, Int.reduceSub, o_c141, ↓o_g141_0, ↓o_g141_1, ↓o_g141_5, ↓o_g141_6, ↓o_g141_7, ↓o_g141_8, ↓o_g141_9, ↓o_g141_21, ↓o_g141_25, ↓o_g141_26, ↓o_g141_27, ↓o_g141_28, ↓o_g141_29, ↓o_g141_30, ↓o_g141_31, ↓o_g141_34, ↓o_g141_35, ↓o_g141_36, ↓a_st142]
    rfl
  · intro i hi ih h0
    have e2 := plR_s t i h0
    have w0 : mm_w32 (1888 + i) = 1888 + i := w32_eq (by omega) (by omega)
    rw [B_X12_plain_2, w0]
    simp (disch := first | with_reducible assumption | omega) only [↓sm, ↓reduceIte, ↓if_pos, ↓if_neg, kI, kJ, kR, kV, w32_eq, w64_eq, reduceCtorEq, Int.reduceAdd, Int.reduceMul, Int.reduceSub, o_c141, ↓o_g141_0, ↓o_g141_1, ↓o_g141_5, ↓o_g141_6, ↓o_g141_7, ↓o_g141_8, ↓o_g141_9, ↓o_g141_21, ↓o_g141_25, ↓o_g141_26, ↓o_g141_27, ↓o_g141_28, ↓o_g141_29, ↓o_g141_30, ↓o_g141_31, ↓o_g141_34, ↓o_g141_35, ↓o_g141_36, ↓a_st142, e2]
    exact ih (by omega)
theorem r_plain (Z : mX) (t : mS) (f : mW → mO) : mm_kV (mm_run (zP Z) 211 [.inr (.inr (some 141)), .inl 1888] (mk t)) f = f (mk (plE t)) := by
  have g := lp_plR Z t 0 (by omega) (by omega)
  rw [plR_0] at g
  rw [B_X12_plain, g, kV]
theorem plE_d (t : mS) (j : Int) (j0 : 0 ≤ j) (j1 : j < 472) : shG ((plE t).2 142) j = plD j := by
  unfold shG plE plD
  rw [uA_s, uA_s, uA_s, uA_s]
  unfold mm_upd
  by_cases h7 : j = 7
  · subst h7; rfl
  · by_cases h4 : j = 4
    · subst h4; rfl
    · by_cases h1 : j = 1
      · subst h1; rfl
      · by_cases h0 : j = 0
        · subst h0; rfl
        · rw [if_neg (by omega), if_neg (by omega), if_neg (by omega), if_neg (by omega), if_neg h0, if_neg h1, if_neg h4, if_neg h7]
          exact if_pos ⟨rfl, by omega, by omega⟩
theorem plE_lo (t : mS) (j : Int) (j1 : j < 1888) : (plE t).2 142 j = t.2 142 j := by
  unfold plE
  rw [uA_s, uA_s, uA_s, uA_s, up_ne (by omega), up_ne (by omega), up_ne (by omega), up_ne (by omega)]
  exact if_neg (by omega)
theorem plE_n (t : mS) {q : Nat} (h : q ≠ 142) : (plE t).2 q = t.2 q := by
  unfold plE
  rw [uA_n _ h, uA_n _ h, uA_n _ h, uA_n _ h]
  funext j
  exact if_neg (fun x => h x.1)
