/-! school(), both sides -/
def wiA (q : Nat) : Prop := pcA q ∨ scl q ∨ (34 ≤ q ∧ q ≤ 38) ∨ q = 142 ∨ q = 143 ∨ q = 148 ∨ q = 149
def wiF (q k : Nat) : Prop := q = 5 ∨ q = 39 ∨ q = 40 ∨ q = 53 ∨ q = 54 ∨ q = 7 ∨ q = 33 ∨ (q = 3 ∧ k = 15) ∨ (q = 141 ∧ (k = 2 ∨ (10 ≤ k ∧ k ≤ 23)))
theorem inv_tok {s t : mS} (h : Inv s) (g : Ag wiA wiF s t) (hs : t.1 3 15 = t.1 141 2) (hx : TTx t) (hc : TSc t) (hu : AU t 33 (t.2 142)) (k1 : ∀ j, 472 ≤ j → j < 1888 → t.2 142 j = s.2 142 j) (k2 : ∀ j, 12 ≤ j → j < 48 → t.2 143 j = s.2 143 j) : Inv t := by
  obtain ⟨i1, i2, i3, i4, i5, i6, i7, i8⟩ := h
  have f1 := g.2
  have f2 := g.1
  unfold wiA pcA scl at f2
  unfold wiF at f1
  refine ⟨hs, ⟨?_, ?_⟩, hc, ?_, hx, hu, ?_, ?_⟩
  · rw [f1 3 16 (by omega), f1 141 3 (by omega)]; exact i2.1
  · rw [f1 3 17 (by omega), f1 141 4 (by omega)]; exact i2.2
  · exact TTr_fr i4 (fun q k q0 q1 => f1 q k (by omega)) (fun q hq => f2 q (by omega))
  · exact TMk_fr i7 (f1 3 14 (by omega)) (f1 141 38 (by omega)) (fun q k q0 q1 => f1 q k (by omega)) (fun q q0 q1 => f2 q (by omega)) k1 k2
  · exact TLv_fr i8 (f1 63 4 (by omega)) (f1 141 37 (by omega)) (f2 65 (by omega)) (f2 159 (by omega))
def sbC (s : mS) (a : Int) : mS := uF (uF (uF (uF (uF s 5 1 a) 5 2 0) 5 4 0) 5 9 0) 5 10 (-1)
theorem sbC_wi (s : mS) (a : Int) : Ag wiA wiF s (sbC s a) := by
  unfold sbC
  refine Ag_uF (F := wiF) (Ag_uF (F := wiF) (Ag_uF (F := wiF) (Ag_uF (F := wiF) (Ag_uF (F := wiF) (Ag_refl _ _ _) ?_ _) ?_ _) ?_ _) ?_ _) ?_ _ <;> (unfold wiF; omega)
theorem cpB_wi (t : mS) (a : Int) : Ag wiA wiF t (cpB t a) := ⟨fun q hq => cpB_n _ _ (fun x => hq (by unfold wiA; omega)), fun _ _ _ => rfl⟩
theorem beR_wi (t : mS) (a : Int) : Ag wiA wiF t (beR t a) := by
  have g1 : Ag wiA wiF t (uF t 141 11 a) := Ag_uF (F := wiF) (Ag_refl _ _ _) (by unfold wiF; omega) _
  unfold beR
  refine Ag_uF (F := wiF) (Ag_uF (F := wiF) (Ag_uF (F := wiF) (Ag_uF (F := wiF) (Ag_uF (F := wiF) (Ag_trans g1 (cpB_wi _ a)) ?_ _) ?_ _) ?_ _) ?_ _) ?_ _ <;> (unfold wiF; omega)
theorem beR_wi_n (t : mS) (a : Int) (q : Nat) (h : q ≠ 148) : (beR t a).2 q = t.2 q := by
  unfold beR
  rw [uF_2, uF_2, uF_2, uF_2, uF_2, cpB_n _ _ h, uF_2]
theorem pc_wi {s t : mS} (h : Ag pcA pcF s t) : Ag wiA wiF s t := Ag_mono h (fun q hq => Or.inl hq) (fun q k hq => by unfold pcF at hq; unfold wiF; omega)
theorem pg_pf {s t : mS} (h : Ag pcA pcG s t) : Ag pcA pcF s t := Ag_mono h (fun q hq => hq) (fun q k hq => by unfold pcG at hq; unfold pcF; omega)
theorem pr_wi {s t : mS} (h : Ag prA prF s t) : Ag wiA wiF s t := Ag_mono h (fun q hq => by unfold prA at hq; unfold wiA; omega) (fun q k hq => by unfold prF at hq; unfold wiF; omega)
theorem prg_f {s t : mS} (h : Ag prA prG s t) : Ag prA prF s t := Ag_mono h (fun q hq => hq) (fun q k hq => by unfold prG at hq; unfold prF; omega)
theorem plE_c {s t : mS} (h : t.2 142 = s.2 142) : (plE t).2 142 = (plE s).2 142 := by
  unfold plE
  rw [uA_s, uA_s, uA_s, uA_s, uA_s, uA_s, uA_s, uA_s]
  have e : (plR t 472).2 142 = (plR s 472).2 142 := by
    funext j
    show (if 142 = 142 ∧ _ then 0 else t.2 142 j) = (if 142 = 142 ∧ _ then 0 else s.2 142 j)
    rw [h]
  rw [e]
/-- the class has begun; its first token -/
theorem c_begin (Z : mX) {b : Int → Int} {n F E K V W : Int} {s : mS} (hT : TB0 b n) (hb : ∀ j, 0 ≤ j → j < n → s.2 6 j = b j) (i1 : 0 ≤ F) (hbl : ∀ j, 0 ≤ j → j < F → isBl (b j)) (hnb : F < n → ¬ isBl (b F)) (hk : Tk b n F E K V W) :
    ∃ s', (∀ f : mW → mO, mm_kV (mm_run (zP Z) 93 [.inr (.inr (some 5)), .inl n] (mk s)) f = f (mk s')) ∧ CX b n F E K V W s' ∧ Ag txA txF (sbC s n) s' := by
  obtain ⟨s', a, x, g⟩ := c_advance Z (i := 0) (s := sbC s n) hT (by omega) i1 hbl hnb hk (by simp [sbC, uF_1]) (by simp [sbC, uF_1]) hb
  refine ⟨s', fun f => ?_, x, g⟩
  have a : ∀ f : mW → mO, mm_kV (mm_run (zP Z) 94 [.inr (.inr (some 5))] (mk (uF (uF (uF (uF (uF s 5 1 n) 5 2 0) 5 4 0) 5 9 0) 5 10 (-1)))) f = f (mk s') := a
  rw [B_X7_begin]
  simp (disch := first | with_reducible assumption | omega) only [↓sm, ↓reduceIte, ↓if_pos, ↓if_neg, kI, kJ, kR, kV, w32_eq, w64_eq, reduceCtorEq, Int.reduceAdd, Int.reduceMul, Int.reduceSub, o_c5, ↓o_p5_1, ↓o_p5_2, ↓o_p5_4, ↓o_p5_9, ↓o_p5_10, ↓a]
/-- the reader of a school begins -/
def rdC (s : mS) : mS := uF (uF (uF (clS s) 39 2 0) 39 3 0) 39 4 0
theorem c_readAll (Z : mX) (s : mS) (f : Int → mW → mO) : mm_kI (mm_run (zP Z) 81 [.inr (.inr (some 39))] (mk s)) f = mm_kI (mm_at (zP Z) 81 14 [some (.inr (.inr (some 39))), some (.inl 0)] [] (mk (rdC s))) f := by
  rw [B_X6_readAll]
  simp (disch := first | with_reducible assumption | omega) only [↓sm, ↓reduceIte, ↓if_pos, ↓if_neg, kI, kJ, kR, kV, w32_eq, w64_eq, reduceCtorEq, Int.reduceAdd, Int.reduceMul, Int.reduceSub, o_c40, ↓o_g39_1, ↓c_clear40 Z, ↓o_p39_2, ↓o_p39_3, ↓o_p39_4]
  rfl
theorem rdC_CP {s0 s : mS} {b : Int → Int} {n : Int} {T : mT} {G H : Int → Int} (h : CT b n T s) (g : Ag txA txF s0 s) (e : ∀ j, 0 ≤ j → j < 472 → shG G j = plD j) : CP s0 b n T G H 0 0 0 (rdC s) := by
  have ga := clS_Ag s
  have f : ∀ q k, q ≠ 39 → (rdC s).1 q k = (clS s).1 q k := fun q k hq => by
    unfold rdC
    rw [uF_1, if_neg (fun x => hq x.1), uF_1, if_neg (fun x => hq x.1), uF_1, if_neg (fun x => hq x.1)]
  refine ⟨CT_fr h (fun k _ => by rw [f 5 k (by omega)]; exact ga.2 5 k (by omega)) (ga.1 6 (by omega)), CS_fr (clS_CS s e) (fun k => f 40 k (by omega)) (fun j _ _ => rfl), by simp [rdC, uF_1], by simp [rdC, uF_1], by simp [rdC, uF_1], ?_⟩
  refine Ag_uF (F := pcG) (Ag_uF (F := pcG) (Ag_uF (F := pcG) (Ag_trans (ty_pc (tx_ty g)) (Ag_mono ga (fun q hq => by unfold pcA; omega) (fun q k hq => by unfold pcG; omega))) ?_ _) ?_ _) ?_ _ <;> (unfold pcG; omega)
/-- the reference's draft taken -/
def cG (s : mS) (i : Int) : mS := (s.1, fun q j => if q = 142 ∧ 0 ≤ j ∧ j < i then s.2 142 (1888 + j) else s.2 q j)
def cH (s : mS) (i : Int) : mS := (s.1, fun q j => if q = 143 ∧ 0 ≤ j ∧ j < i then s.2 143 (48 + j) else s.2 q j)
theorem cG_0 (s : mS) : cG s 0 = s := by
  refine Prod.ext rfl (funext fun q => funext fun j => ?_)
  exact if_neg (by omega)
theorem cH_0 (s : mS) : cH s 0 = s := by
  refine Prod.ext rfl (funext fun q => funext fun j => ?_)
  exact if_neg (by omega)
theorem cG_s (s : mS) (i : Int) (h0 : 0 ≤ i) : uA (cG s i) 142 i (s.2 142 (1888 + i)) = cG s (i + 1) := by
  refine Prod.ext rfl (funext fun q => funext fun j => ?_)
  show (if q = 142 ∧ j = i then s.2 142 (1888 + i) else if q = 142 ∧ 0 ≤ j ∧ j < i then s.2 142 (1888 + j) else s.2 q j) = if q = 142 ∧ 0 ≤ j ∧ j < i + 1 then s.2 142 (1888 + j) else s.2 q j
  by_cases hq : q = 142
  · by_cases h1 : j = i
    · rw [if_pos ⟨hq, h1⟩, if_pos ⟨hq, by omega, by omega⟩, h1]
    · rw [if_neg (by omega)]
      by_cases h2 : 0 ≤ j ∧ j < i
      · rw [if_pos ⟨hq, h2⟩, if_pos ⟨hq, by omega⟩]
      · rw [if_neg (by omega), if_neg (by omega)]
  · simp [hq]
theorem cH_s (s : mS) (i : Int) (h0 : 0 ≤ i) : uA (cH s i) 143 i (s.2 143 (48 + i)) = cH s (i + 1) := by
  refine Prod.ext rfl (funext fun q => funext fun j => ?_)
  show (if q = 143 ∧ j = i then s.2 143 (48 + i) else if q = 143 ∧ 0 ≤ j ∧ j < i then s.2 143 (48 + j) else s.2 q j) = if q = 143 ∧ 0 ≤ j ∧ j < i + 1 then s.2 143 (48 + j) else s.2 q j
  by_cases hq : q = 143
  · by_cases h1 : j = i
    · rw [if_pos ⟨hq, h1⟩, if_pos ⟨hq, by omega, by omega⟩, h1]
    · rw [if_neg (by omega)]
      by_cases h2 : 0 ≤ j ∧ j < i
      · rw [if_pos ⟨hq, h2⟩, if_pos ⟨hq, by omega⟩]
      · rw [if_neg (by omega), if_neg (by omega)]
  · simp [hq]
theorem cG_r (s : mS) (i j : Int) (h : ¬ (0 ≤ j ∧ j < i)) : (cG s i).2 142 j = s.2 142 j := if_neg (by omega)
theorem cH_r (s : mS) (i j : Int) (h : ¬ (0 ≤ j ∧ j < i)) : (cH s i).2 143 j = s.2 143 j := if_neg (by omega)
theorem lp_cG (Z : mX) (t : mS) : ∀ i : Int, i ≤ 472 → 0 ≤ i → mm_at (zP Z) 262 31 [some (.inr (.inr (some 141))), none, none, some (.inl i)] [] (mk (cG t i)) = mm_at (zP Z) 262 48 [some (.inr (.inr (some 141))), none, none, some (.inl 0)] [] (mk (cG t 472)) := by
  refine up ?_ ?_
  · intro h0
    rw [B_X12_school_31]
    simp (disch := first | with_reducible assumption | omega) only [↓sm, ↓reduceIte, ↓if_pos, ↓if_neg, kI, kJ, kR, kV, w32_eq, w64_eq, reduceCtorEq, Int.reduceAdd, Int.reduceMul, Int.reduceSub]
  · intro i hi ih h0
    have e1 := cG_r t i (1888 + i) (by omega)
    have e2 := cG_s t i h0
    have w0 : mm_w32 (1888 + i) = 1888 + i := w32_eq (by omega) (by omega)
    rw [B_X12_school_31, w0]
    simp (disch := first | with_reducible assumption | omega) only [↓sm, ↓reduceIte, ↓if_pos, ↓if_neg, kI, kJ, kR, kV, w32_eq, w64_eq, reduceCtorEq, Int.reduceAdd, Int.reduceMul, Int.reduceSub, o_c141, ↓o_g141_0, ↓o_g141_1, ↓o_g141_5, ↓o_g141_6, ↓o_g141_7, ↓o_g141_8, ↓o_g141_9, ↓o_g141_21, ↓o_g141_25, ↓o_g141_26, ↓o_g141_27, ↓o_g141_28, ↓o_g141_29, ↓o_g141_30, ↓o_g141_31, ↓o_g141_34, ↓o_g141_35, ↓o_g141_36, ↓a_ld142, e1, a_st142, e2]
    exact ih (by omega)
theorem lp_cH (Z : mX) (t : mS) : ∀ i : Int, i ≤ 12 → 0 ≤ i → mm_at (zP Z) 262 48 [some (.inr (.inr (some 141))), none, none, some (.inl i)] [] (mk (cH t i)) = mm_at (zP Z) 262 63 [some (.inr (.inr (some 141))), none, none, none] [] (mk (cH t 12)) := by
  refine up ?_ ?_
  · intro h0
    rw [B_X12_school_48]
    simp (disch := first | with_reducible assumption | omega) only [↓sm, ↓reduceIte, ↓if_pos, ↓if_neg, kI, kJ, kR, kV, w32_eq, w64_eq, reduceCtorEq, Int.reduceAdd, Int.reduceMul, Int.reduceSub]
  · intro i hi ih h0
    have e1 := cH_r t i (48 + i) (by omega)
    have e2 := cH_s t i h0
    have w0 : mm_w32 (48 + i) = 48 + i := w32_eq (by omega) (by omega)
    rw [B_X12_school_48, w0]
    simp (disch := first | with_reducible assumption | omega) only [↓sm, ↓reduceIte, ↓if_pos, ↓if_neg, kI, kJ, kR, kV, w32_eq, w64_eq, reduceCtorEq, Int.reduceAdd, Int.reduceMul, Int.reduceSub, o_c141, ↓o_g141_1, ↓a_ld143, e1, a_st143, e2]
    exact ih (by omega)
/-- both sides have begun a text of n bytes -/
theorem begun (Z : mX) {s : mS} (hI : Inv s) {n : Int} (n0 : 0 ≤ n) (n1 : n ≤ s.1 5 4) : ∃ T, TB0 (s.2 6) n ∧ TT (s.2 6) n T ∧ (∃ s1, (∀ f : mW → mO, mm_kV (mm_run (zP Z) 93 [.inr (.inr (some 5)), .inl n] (mk s)) f = f (mk s1)) ∧ CT (s.2 6) n T s1 ∧ Ag txA txF (sbC s n) s1) ∧
    ∀ t : mS, t.2 147 = s.2 147 → t.1 141 10 = s.1 141 10 → ∀ l, n ≤ l → ∃ t1, (∀ f : Int → mW → mO, mm_kI (mm_run (zP Z) 237 [.inr (.inr (some 141)), .inl n, .inl l] (mk t)) f = f 1 (mk t1)) ∧ RT1 (s.2 6) n T t1 ∧ Ag ryA ryF (beR t n) t1 := by
  obtain ⟨x1, x2, x3, x4, x5, x6⟩ := hI.2.2.2.2.1
  have hT : TB0 (s.2 6) n := ⟨n0, by omega, fun j j0 j1 => by have := x4 j j0 (by omega); omega⟩
  obtain ⟨F, E, K, V, W, h1, h2, h3, h4⟩ := tk_ex (s.2 6) n 0 (by omega) n0
  refine ⟨(F, E, K, V, W), hT, h4, c_begin Z hT (fun _ _ _ => rfl) h1 h2 h3 h4, fun t e e10 l hl => ?_⟩
  exact r_begins Z hT l hl (by omega) (fun j j0 j1 => by rw [e]; exact (x4 j j0 (by omega)).2.2) h1 h2 h3 h4
