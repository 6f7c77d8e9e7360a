/-! the call autumns() -/
theorem PR_x {S S' : Int → Int} {m : Int} (h : PR S m) (e : ∀ j, j < 104 + 6 * m → j ≠ 7 → S' j = S j) : PR S' m := by
  intro i i0 i1
  have en : ncl S' = ncl S := ncl_e (fun j hj => e j (by omega) (by omega))
  rw [e (104 + 6 * i) (by omega) (by omega), e (104 + 6 * i + 1) (by omega) (by omega), e (104 + 6 * i + 2) (by omega) (by omega), e 3 (by omega) (by omega), en]
  exact h i i0 i1
theorem PM_x {S S' : Int → Int} {m : Int} {op : Int → Prop} (h : PM S m op) (ho : ∀ i, ¬ op i) (e : ∀ j, j < 104 + 6 * m → j ≠ 7 → S' j = S j) : PM S' m (fun _ => False) := by
  obtain ⟨p1, p2, p3, p4⟩ := h
  have g0 : ∀ i : Int, 0 ≤ i → i < m → S' (104 + 6 * i) = S (104 + 6 * i) := fun i _ _ => e _ (by omega) (by omega)
  have g4 : ∀ i : Int, 0 ≤ i → i < m → S' (104 + 6 * i + 4) = S (104 + 6 * i + 4) := fun i _ _ => e _ (by omega) (by omega)
  refine ⟨fun i x => x.elim, fun i i0 i1 hi => ?_, fun i i0 i1 hi _ => ?_, fun i j i0 ij j1 hi _ hj _ hl => ?_⟩
  · rw [g0 i i0 i1] at hi
    obtain ⟨a, b, c, d, f⟩ := p2 i i0 i1 hi
    rw [g4 i i0 i1, g0 _ a (by omega), g4 _ a (by omega), g0 _ (by omega) (by omega)]
    exact ⟨a, b, c, d, f⟩
  · rw [g0 i i0 i1] at hi
    obtain ⟨a, b, c⟩ := p3 i i0 i1 hi (ho i)
    rw [g4 i i0 i1, g0 _ (by omega) b]
    exact ⟨a, b, c⟩
  · rw [g0 i i0 (by omega)] at hi
    rw [g0 j (by omega) j1] at hj
    rw [g4 i i0 (by omega)] at hl ⊢
    rw [g4 j (by omega) j1]
    exact p4 i j i0 ij j1 hi (ho i) hj (ho j) hl
theorem opS_0 {O : Int → Int} (i : Int) : ¬ opS O 0 i := fun ⟨k, k0, k1, _⟩ => by omega
/-- autumns at their end -/
theorem AU_done {s0 s : mS} {b : Int → Int} {n : Int} {T : mT} {S S' O : Int → Int} {m cnt : Int} (hU : UI S O m cnt 0) (h : CU s0 b n T S O (opS O 0) m cnt 0 s) (e : ∀ j, j < 104 + 6 * m → j ≠ 7 → S' j = S j) (e7 : S' 7 = m) : AU s 54 S' := by
  obtain ⟨h1, h2, h3, h4, h5, h6, h7, h8⟩ := h
  obtain ⟨m0, mc, c30, d0, d3⟩ := ui_c hU
  refine ⟨Or.inr ⟨by omega, by omega, h2, by rw [h4, e7]⟩, ?_, ?_, ?_⟩
  · rw [e7]; exact PR_x hU.2.2.2.2.1 e
  · rw [e7]; exact PM_x hU.2.2.2.2.2.1 opS_0 e
  · rw [e7]
    intro i i0 i1
    obtain ⟨a, b, c, d, f⟩ := h6 i i0 i1
    rw [e (104 + 6 * i) (by omega) (by omega), e (104 + 6 * i + 1) (by omega) (by omega), e (104 + 6 * i + 2) (by omega) (by omega), e (104 + 6 * i + 5) (by omega) (by omega), e (104 + 6 * i + 4) (by omega) (by omega)]
    exact ⟨a, b, c, d, fun x => f (x.elim Or.inl (fun y => Or.inr ⟨y.1, opS_0 i⟩))⟩
/-- the class begins -/
def aiC (s : mS) : mS := uF (uF (uF (uF (uF s 54 0 0) 54 1 0) 54 2 0) 54 0 1) 53 4 0
theorem c_readA (Z : mX) (s : mS) (f : Int → mW → mO) : mm_kI (mm_run (zP Z) 6 [.inr (.inr (some 53))] (mk s)) f = mm_kI (mm_at (zP Z) 6 12 [some (.inr (.inr (some 53))), some (.inl 0)] [] (mk (aiC s))) f := by
  rw [B_X1_readAll]
  simp (disch := first | with_reducible assumption | omega) only [↓sm, ↓reduceIte, ↓if_pos, ↓if_neg, kI, kJ, kR, kV, w32_eq, w64_eq, reduceCtorEq, Int.reduceAdd, Int.reduceMul, Int.reduceSub, o_c54, ↓o_g53_2, ↓B_X0_clear Z, ↓o_p54_0, ↓o_p54_1, ↓o_p54_2, ↓o_p53_4]
  rfl
theorem aiC_CU {s0 s : mS} {b : Int → Int} {n : Int} {T : mT} {S O : Int → Int} {op : Int → Prop} (h : CT b n T s) (g : Ag txA txF s0 s) : CU s0 b n T S O op 0 0 0 (aiC s) := by
  unfold aiC
  refine ⟨CT_fr h (fun k _ => by simp [uF_1]) rfl, by simp [uF_1], by simp [uF_1], by simp [uF_1], by simp [uF_1], fun i i0 i1 => by omega, fun k k0 k1 => by omega, ?_⟩
  refine Ag_uF (F := pcG) (Ag_uF (F := pcG) (Ag_uF (F := pcG) (Ag_uF (F := pcG) (Ag_uF (F := pcG) (ty_pc (tx_ty g)) ?_ _) ?_ _) ?_ _) ?_ _) ?_ _ <;> (unfold pcG; omega)
theorem UI_0 (S : Int → Int) : UI S (fun _ => 0) 0 0 0 := ⟨by omega, by omega, by omega, ⟨by omega, by omega, fun k k0 k1 => by omega, fun k l k0 kl l1 => by omega⟩, fun i i0 i1 => by omega, ⟨fun i hi => absurd hi (opS_0 i), fun i i0 i1 => by omega, fun i i0 i1 => by omega, fun i j i0 ij j1 => by omega⟩, fun i j i0 ij hi hn hj => absurd hj (opS_0 j), fun i hi => absurd hi (opS_0 i)⟩
theorem aut_r0 {s u : mS} {n : Int} {T : mT} {t1 : mS} (e142 : u.2 142 = s.2 142) (e143 : u.2 143 = s.2 143) (x : RT1 (s.2 6) n T t1) (g : Ag ryA ryF (beR u n) t1) : RU (beR u n) (s.2 6) n T (mm_upd (s.2 142) 1895 0) (s.2 143) (fun _ => 0) 0 0 0 (uF (uF (uA t1 142 1895 0) 141 22 0) 141 23 0) := by
  have b142 : t1.2 142 = s.2 142 := by
    rw [g.1 142 (fun x => x)]
    exact (beR_wi_n u n 142 (by omega)).trans e142
  have b143 : t1.2 143 = s.2 143 := by
    rw [g.1 143 (fun x => x)]
    exact (beR_wi_n u n 143 (by omega)).trans e143
  have b18 : t1.1 141 18 = 0 := by
    rw [g.2 141 18 (by unfold ryF; omega)]
    simp [beR, uF_1]
  refine ⟨RT_fr1 x (fun k k0 k1 => by rw [uF_1, if_neg (by omega), uF_1, if_neg (by omega)]; rfl) (by rw [uF_2, uF_2, uA_n _ (by decide)]), by rw [uF_2, uF_2, uA_s, b142], by rw [uF_2, uF_2, uA_n _ (by decide)]; exact b143, by rw [uF_1, if_neg (by omega), uF_1, if_neg (by omega)]; exact b18, by rw [uF_1, if_neg (by omega), uF_1, if_pos ⟨rfl, rfl⟩], by rw [uF_1, if_pos ⟨rfl, rfl⟩], up_eq rfl, fun k k0 k1 => by omega, ?_⟩
  exact Ag_uF (F := prG) (Ag_uF (F := prG) (Ag_uA (ry_pr g) (by unfold prA; omega) _ _) (by unfold prG; omega) _) (by unfold prG; omega) _
/-- the reference's steps taken -/
def cS (s : mS) (i : Int) : mS := (s.1, fun q j => if q = 142 ∧ 104 ≤ j ∧ j < i then s.2 142 (1888 + j) else s.2 q j)
theorem cS_0 (s : mS) : cS s 104 = s := by
  refine Prod.ext rfl (funext fun q => funext fun j => ?_)
  exact if_neg (by omega)
theorem cS_s (s : mS) (i : Int) (h0 : 104 ≤ i) : uA (cS s i) 142 i (s.2 142 (1888 + i)) = cS s (i + 1) := by
  refine Prod.ext rfl (funext fun q => funext fun j => ?_)
  show (if q = 142 ∧ j = i then s.2 142 (1888 + i) else if q = 142 ∧ 104 ≤ j ∧ j < i then s.2 142 (1888 + j) else s.2 q j) = if q = 142 ∧ 104 ≤ j ∧ j < i + 1 then s.2 142 (1888 + j) else s.2 q j
  by_cases hq : q = 142
  · by_cases h1 : j = i
    · rw [if_pos ⟨hq, h1⟩, if_pos ⟨hq, by omega, by omega⟩, h1]
    · rw [if_neg (by omega)]
      by_cases h2 : 104 ≤ j ∧ j < i
      · rw [if_pos ⟨hq, h2⟩, if_pos ⟨hq, by omega⟩]
      · rw [if_neg (by omega), if_neg (by omega)]
  · simp [hq]
theorem cS_r (s : mS) (i j : Int) (h : ¬ (104 ≤ j ∧ j < i)) : (cS s i).2 142 j = s.2 142 j := if_neg (by omega)
theorem cS_in (s : mS) (i j : Int) (h0 : 104 ≤ j) (h1 : j < i) : (cS s i).2 142 j = s.2 142 (1888 + j) := if_pos ⟨rfl, h0, h1⟩
theorem cS_n (s : mS) (i : Int) {q : Nat} (h : q ≠ 142) : (cS s i).2 q = s.2 q := by
  funext j
  exact if_neg (fun x => h x.1)
theorem lp_cS (Z : mX) (t : mS) {c : Int} (h18 : t.1 141 18 = 0) (h23 : t.1 141 23 = c) : ∀ i : Int, i ≤ 464 → 104 ≤ i → mm_at (zP Z) 269 54 [some (.inr (.inr (some 141))), none, none, some (.inl i)] [] (mk (cS t i)) = some (some (.inl c), mk (uF (uF (cS t 464) 141 16 0) 141 2 0)) := by
  refine up ?_ ?_
  · intro h0
    have e23 : (cS t 464).1 141 23 = c := h23
    have e18 : (cS t 464).1 141 18 = 0 := h18
    rw [B_X12_autumns_54]
    simp (disch := first | with_reducible assumption | omega) only [↓sm, ↓reduceIte, ↓if_pos, ↓if_neg, kI, kJ, kR, kV, w32_eq, w64_eq, reduceCtorEq, Int.reduceAdd, Int.reduceMul, Int.reduceSub, o_c141, ↓rI141_23 e23, ↓r_taken_t Z e18]
  · intro i hi ih h0
    have e1 := cS_r t i (1888 + i) (by omega)
    have e2 := cS_s t i h0
    have w0 : mm_w32 (1888 + i) = 1888 + i := w32_eq (by omega) (by omega)
    rw [B_X12_autumns_54, w0]
    simp (disch := first | with_reducible assumption | omega) only [↓sm, ↓reduceIte, ↓if_pos, ↓if_neg, kI, kJ, kR, kV, w32_eq, w64_eq, reduceCtorEq, Int.reduceAdd, Int.reduceMul, Int.reduceSub, o_c141, ↓o_g141_0, ↓o_g141_1, ↓o_g141_5, ↓o_g141_6, ↓o_g141_7, ↓o_g141_8, ↓o_g141_9, ↓o_g141_21, ↓o_g141_25, ↓o_g141_26, ↓o_g141_27, ↓o_g141_28, ↓o_g141_29, ↓o_g141_30, ↓o_g141_31, ↓o_g141_34, ↓o_g141_35, ↓o_g141_36, ↓a_ld142, e1, a_st142, e2]
    exact ih (by omega)
