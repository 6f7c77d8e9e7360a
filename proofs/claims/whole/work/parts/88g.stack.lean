/-! the steps of autumns as they are read: which are open -/
def opS (O : Int → Int) (dep i : Int) : Prop := ∃ k, 0 ≤ k ∧ k < dep ∧ O k = i
def Stk (O : Int → Int) (dep m : Int) : Prop := 0 ≤ dep ∧ dep ≤ 3 ∧ (∀ k, 0 ≤ k → k < dep → 0 ≤ O k ∧ O k < m) ∧ (∀ k l, 0 ≤ k → k < l → l < dep → O k < O l)
/-- what a step at place i must be -/
def PR1 (S : Int → Int) (i : Int) : Prop :=
  (S (104 + 6 * i) = 16 ∨ S (104 + 6 * i) = 17 ∨ S (104 + 6 * i) = 18 ∨ S (104 + 6 * i) = 19 ∨ S (104 + 6 * i) = 20 ∨ S (104 + 6 * i) = 21 ∨ S (104 + 6 * i) = 23 ∨ S (104 + 6 * i) = 24 ∨ S (104 + 6 * i) = 25 ∨
    S (104 + 6 * i) = 2202 ∨ S (104 + 6 * i) = 2209 ∨ S (104 + 6 * i) = 2211 ∨ S (104 + 6 * i) = 2226) ∧
  ((S (104 + 6 * i) = 16 ∨ S (104 + 6 * i) = 17 ∨ S (104 + 6 * i) = 18 ∨ S (104 + 6 * i) = 19 ∨ S (104 + 6 * i) = 2209 ∨ S (104 + 6 * i) = 2211 ∨ S (104 + 6 * i) = 2226) → 0 ≤ S (104 + 6 * i + 1) ∧ S (104 + 6 * i + 1) < S 3) ∧
  (S (104 + 6 * i) = 16 → 0 ≤ S (104 + 6 * i + 2) ∧ S (104 + 6 * i + 2) < 4) ∧
  (S (104 + 6 * i) = 17 → 0 ≤ S (104 + 6 * i + 2) ∧ S (104 + 6 * i + 2) < S 3) ∧
  (S (104 + 6 * i) = 20 → 1 ≤ S (104 + 6 * i + 1) ∧ S (104 + 6 * i + 1) ≤ 20) ∧
  (S (104 + 6 * i) = 23 → 1 ≤ S (104 + 6 * i + 1) ∧ S (104 + 6 * i + 1) ≤ 99) ∧
  (S (104 + 6 * i) = 2202 → 0 ≤ S (104 + 6 * i + 1) ∧ S (104 + 6 * i + 1) < ncl S)
theorem PR_s {S S' : Int → Int} {m : Int} (h : PR S m) (e : ∀ j, j < 104 + 6 * m → (∃ i, 0 ≤ i ∧ i < m ∧ j = 104 + 6 * i + 4) ∨ S' j = S j) (m0 : 0 ≤ m) (h1 : PR1 S' m) : PR S' (m + 1) := by
  have e3 : S' 3 = S 3 := (e 3 (by omega)).elim (fun ⟨i, i0, i1, i2⟩ => by omega) id
  have e0 : S' 0 = S 0 := (e 0 (by omega)).elim (fun ⟨i, i0, i1, i2⟩ => by omega) id
  have e1 : S' 1 = S 1 := (e 1 (by omega)).elim (fun ⟨i, i0, i1, i2⟩ => by omega) id
  have en : ncl S' = ncl S := by unfold ncl; rw [e0, e1]
  intro i i0 i1
  by_cases hi : i = m
  · rw [hi]
    exact h1
  · have x0 : S' (104 + 6 * i) = S (104 + 6 * i) := (e _ (by omega)).elim (fun ⟨i, i0, i1, i2⟩ => by omega) id
    have x1 : S' (104 + 6 * i + 1) = S (104 + 6 * i + 1) := (e _ (by omega)).elim (fun ⟨i, i0, i1, i2⟩ => by omega) id
    have x2 : S' (104 + 6 * i + 2) = S (104 + 6 * i + 2) := (e _ (by omega)).elim (fun ⟨i, i0, i1, i2⟩ => by omega) id
    rw [x0, x1, x2, e3, en]
    exact h i i0 (by omega)
def UI (S O : Int → Int) (m cnt dep : Int) : Prop := 0 ≤ m ∧ m + dep ≤ 2 * cnt ∧ cnt ≤ 30 ∧ Stk O dep m ∧ PR S m ∧ PM S m (opS O dep) ∧
  (∀ i j, 0 ≤ i → i < j → opn (S (104 + 6 * i)) → ¬ opS O dep i → opS O dep j → S (104 + 6 * i + 4) < j) ∧ (∀ i, opS O dep i → S (104 + 6 * i + 4) = 0)
theorem opS_r {O : Int → Int} {dep m i : Int} (h : Stk O dep m) (x : opS O dep i) : 0 ≤ i ∧ i < m := by
  obtain ⟨k, k0, k1, rfl⟩ := x
  exact h.2.2.1 k k0 k1
theorem Stk_up {O : Int → Int} {dep m : Int} (h : Stk O dep m) : Stk O dep (m + 1) := ⟨h.1, h.2.1, fun k k0 k1 => by have := h.2.2.1 k k0 k1; omega, h.2.2.2⟩
/-- a step that opens nothing -/
theorem UI_plain {S S' O : Int → Int} {m cnt dep : Int} (h : UI S O m cnt dep) (hc : cnt < 30) (e : ∀ j, j < 104 + 6 * m → S' j = S j) (h1 : PR1 S' m) (h24 : S' (104 + 6 * m) ≠ 24) (ho : ¬ opn (S' (104 + 6 * m))) : UI S' O (m + 1) (cnt + 1) dep := by
  obtain ⟨m0, mc, c30, st, pr, ⟨p1, p2, p3, p4⟩, x, z⟩ := h
  have g : ∀ i k : Int, i < m → k < 6 → S' (104 + 6 * i + k) = S (104 + 6 * i + k) := fun i k _ _ => e _ (by omega)
  have g0 : ∀ i : Int, i < m → S' (104 + 6 * i) = S (104 + 6 * i) := fun i _ => e _ (by omega)
  refine ⟨by omega, by omega, by omega, Stk_up st, PR_s pr (fun j hj => Or.inr (e j hj)) m0 h1, ⟨fun i hi => ?_, fun i i0 i1 hi => ?_, fun i i0 i1 hi hn => ?_, fun i j i0 ij j1 hi hn hj hm hl => ?_⟩, fun i j i0 ij hi hn hj => ?_, fun i hi => ?_⟩
  · obtain ⟨a, b, c, d⟩ := p1 i hi
    refine ⟨a, by omega, by rw [g0 i b]; exact c, fun hlt => ?_⟩
    by_cases hx : i + 1 = m
    · rw [hx]; exact h24
    · rw [g0 (i + 1) (by omega)]; exact d (by omega)
  · have im : i ≠ m := fun x => h24 (by rw [← x]; exact hi)
    rw [g0 i (by omega)] at hi
    obtain ⟨a, b, c, d, f⟩ := p2 i i0 (by omega) hi
    rw [g i 4 (by omega) (by omega), g0 _ (by omega), g _ 4 (by omega) (by omega), g0 _ (by omega)]
    exact ⟨a, b, c, d, f⟩
  · have im : i ≠ m := fun x => ho (by rw [← x]; exact hi)
    rw [g0 i (by omega)] at hi
    obtain ⟨a, b, c⟩ := p3 i i0 (by omega) hi hn
    rw [g i 4 (by omega) (by omega), g0 _ (by omega)]
    exact ⟨a, by omega, c⟩
  · have im : j ≠ m := fun x => ho (by rw [← x]; exact hj)
    rw [g0 i (by omega)] at hi
    rw [g0 j (by omega)] at hj
    rw [g i 4 (by omega) (by omega)] at hl ⊢
    rw [g j 4 (by omega) (by omega)]
    exact p4 i j i0 ij (by omega) hi hn hj hm hl
  · have jr := opS_r st hj
    rw [g0 i (by omega)] at hi
    rw [g i 4 (by omega) (by omega)]
    exact x i j i0 ij hi hn hj
  · have ir := opS_r st hi
    rw [g i 4 (by omega) (by omega)]
    exact z i hi
/-- a step that opens -/
theorem opS_push {O : Int → Int} {dep m i : Int} (d0 : 0 ≤ dep) : opS (mm_upd O dep m) (dep + 1) i ↔ i = m ∨ opS O dep i := by
  constructor
  · intro ⟨k, k0, k1, hk⟩
    by_cases h : k = dep
    · rw [up_eq h] at hk
      exact Or.inl hk.symm
    · rw [up_ne h] at hk
      exact Or.inr ⟨k, k0, by omega, hk⟩
  · intro h
    rcases h with h | ⟨k, k0, k1, hk⟩
    · exact ⟨dep, d0, by omega, by rw [up_eq rfl]; exact h.symm⟩
    · exact ⟨k, k0, by omega, by rw [up_ne (by omega)]; exact hk⟩
theorem UI_open {S S' O : Int → Int} {m cnt dep : Int} (h : UI S O m cnt dep) (hc : cnt < 30) (hd : dep < 3) (e : ∀ j, j < 104 + 6 * m → S' j = S j) (h1 : PR1 S' m) (h24 : S' (104 + 6 * m) ≠ 24) (ho : opn (S' (104 + 6 * m))) (h4 : S' (104 + 6 * m + 4) = 0) : UI S' (mm_upd O dep m) (m + 1) (cnt + 1) (dep + 1) := by
  obtain ⟨m0, mc, c30, st, pr, ⟨p1, p2, p3, p4⟩, x, z⟩ := h
  obtain ⟨d0, d3, s1, s2⟩ := id st
  have g : ∀ i k : Int, i < m → k < 6 → S' (104 + 6 * i + k) = S (104 + 6 * i + k) := fun i k _ _ => e _ (by omega)
  have g0 : ∀ i : Int, i < m → S' (104 + 6 * i) = S (104 + 6 * i) := fun i _ => e _ (by omega)
  have nop : ∀ i, ¬ opS (mm_upd O dep m) (dep + 1) i → i ≠ m ∧ ¬ opS O dep i := fun i hi => ⟨fun y => hi ((opS_push d0).mpr (Or.inl y)), fun y => hi ((opS_push d0).mpr (Or.inr y))⟩
  refine ⟨by omega, by omega, by omega, ⟨by omega, by omega, fun k k0 k1 => ?_, fun k l k0 kl l1 => ?_⟩, PR_s pr (fun j hj => Or.inr (e j hj)) m0 h1, ⟨fun i hi => ?_, fun i i0 i1 hi => ?_, fun i i0 i1 hi hn => ?_, fun i j i0 ij j1 hi hn hj hm hl => ?_⟩, fun i j i0 ij hi hn hj => ?_, fun i hi => ?_⟩
  · by_cases hk : k = dep
    · rw [up_eq hk]; omega
    · rw [up_ne hk]
      have := s1 k k0 (by omega)
      omega
  · rw [up_ne (show k ≠ dep by omega)]
    by_cases hl : l = dep
    · rw [up_eq hl]
      exact (s1 k k0 (by omega)).2
    · rw [up_ne hl]
      exact s2 k l k0 kl (by omega)
  · rcases (opS_push d0).mp hi with hi | hi
    · rw [hi]
      exact ⟨m0, by omega, ho, fun hlt => by omega⟩
    · obtain ⟨a, b, c, d⟩ := p1 i hi
      refine ⟨a, by omega, by rw [g0 i b]; exact c, fun hlt => ?_⟩
      by_cases hx : i + 1 = m
      · rw [hx]; exact h24
      · rw [g0 (i + 1) (by omega)]; exact d (by omega)
  · have im : i ≠ m := fun x => h24 (by rw [← x]; exact hi)
    rw [g0 i (by omega)] at hi
    obtain ⟨a, b, c, d, f⟩ := p2 i i0 (by omega) hi
    rw [g i 4 (by omega) (by omega), g0 _ (by omega), g _ 4 (by omega) (by omega), g0 _ (by omega)]
    exact ⟨a, b, c, d, f⟩
  · obtain ⟨im, hn⟩ := nop i hn
    rw [g0 i (by omega)] at hi
    obtain ⟨a, b, c⟩ := p3 i i0 (by omega) hi hn
    rw [g i 4 (by omega) (by omega), g0 _ (by omega)]
    exact ⟨a, by omega, c⟩
  · obtain ⟨im, hn⟩ := nop i hn
    obtain ⟨jm, hm⟩ := nop j hm
    rw [g0 i (by omega)] at hi
    rw [g0 j (by omega)] at hj
    rw [g i 4 (by omega) (by omega)] at hl ⊢
    rw [g j 4 (by omega) (by omega)]
    exact p4 i j i0 ij (by omega) hi hn hj hm hl
  · obtain ⟨im, hn⟩ := nop i hn
    rcases (opS_push d0).mp hj with hj | hj
    · rw [g0 i (by omega)] at hi
      rw [g i 4 (by omega) (by omega)]
      have := p3 i i0 (by omega) hi hn
      omega
    · have jr := opS_r st hj
      rw [g0 i (by omega)] at hi
      rw [g i 4 (by omega) (by omega)]
      exact x i j i0 ij hi hn hj
  · rcases (opS_push d0).mp hi with hi | hi
    · rw [hi]; exact h4
    · have ir := opS_r st hi
      rw [g i 4 (by omega) (by omega)]
      exact z i hi
/-- an end: the innermost is closed -/
theorem opS_pop {O : Int → Int} {dep m i : Int} (st : Stk O dep m) (hd : 1 ≤ dep) : opS O dep i ↔ i = O (dep - 1) ∨ opS O (dep - 1) i := by
  constructor
  · intro ⟨k, k0, k1, hk⟩
    by_cases h : k = dep - 1
    · rw [h] at hk
      exact Or.inl hk.symm
    · exact Or.inr ⟨k, k0, by omega, hk⟩
  · intro h
    rcases h with h | ⟨k, k0, k1, hk⟩
    · exact ⟨dep - 1, by omega, by omega, h.symm⟩
    · exact ⟨k, k0, by omega, hk⟩
theorem UI_end {S S' O : Int → Int} {m cnt dep o : Int} (h : UI S O m cnt dep) (hd : 1 ≤ dep) (hoo : O (dep - 1) = o) (e : ∀ j, j < 104 + 6 * m → j ≠ 104 + 6 * o + 4 → S' j = S j) (h24 : S' (104 + 6 * m) = 24) (hm4 : S' (104 + 6 * m + 4) = o) (ho4 : S' (104 + 6 * o + 4) = m) : UI S' O (m + 1) cnt (dep - 1) := by
  obtain ⟨m0, mc, c30, st, pr, ⟨p1, p2, p3, p4⟩, x, z⟩ := h
  obtain ⟨d0, d3, s1, s2⟩ := id st
  have oo : opS O dep o := ⟨dep - 1, by omega, by omega, hoo⟩
  have orr := opS_r st oo
  obtain ⟨-, -, oc, od⟩ := p1 o oo
  have big : ∀ i, opS O (dep - 1) i → i < o := fun i ⟨k, k0, k1, hk⟩ => by rw [← hk, ← hoo]; exact s2 k (dep - 1) k0 k1 (by omega)
  have opx : ∀ i, opS O (dep - 1) i → opS O dep i := fun i hi => (opS_pop st hd).mpr (Or.inr hi)
  have g0 : ∀ i : Int, i < m → S' (104 + 6 * i) = S (104 + 6 * i) := fun i _ => e _ (by omega) (by omega)
  have g4 : ∀ i : Int, i < m → i ≠ o → S' (104 + 6 * i + 4) = S (104 + 6 * i + 4) := fun i _ _ => e _ (by omega) (by omega)
  have nop : ∀ i, i ≠ o → ¬ opS O (dep - 1) i → ¬ opS O dep i := fun i h1 h2 h3 => (opS_pop st hd).mp h3 |>.elim (fun y => h1 (y.trans hoo)) h2
  have n24 : ¬ opn (24 : Int) := by unfold opn; omega
  have o24 : S (104 + 6 * o) ≠ 24 := fun y => by rw [y] at oc; exact n24 oc
  refine ⟨by omega, by omega, by omega, ⟨by omega, by omega, fun k k0 k1 => by have := s1 k k0 (by omega); omega, fun k l k0 kl l1 => s2 k l k0 kl (by omega)⟩, PR_s pr (fun j hj => ?_) m0 ?_, ⟨fun i hi => ?_, fun i i0 i1 hi => ?_, fun i i0 i1 hi hn => ?_, fun i j i0 ij j1 hi hn hj hm hl => ?_⟩, fun i j i0 ij hi hn hj => ?_, fun i hi => ?_⟩
  · by_cases hj4 : j = 104 + 6 * o + 4
    · exact Or.inl ⟨o, orr.1, orr.2, hj4⟩
    · exact Or.inr (e j hj hj4)
  · unfold PR1
    rw [h24]
    omega
  · have hb := big i hi
    obtain ⟨a, b, c, d⟩ := p1 i (opx i hi)
    exact ⟨a, by omega, by rw [g0 i b]; exact c, fun hlt => by rw [g0 (i + 1) (by omega)]; exact d (by omega)⟩
  · by_cases im : i = m
    · subst im
      rw [hm4, g0 o orr.2, ho4]
      refine ⟨orr.1, orr.2, oc, rfl, fun hx => ?_⟩
      by_cases hy : o + 1 < i
      · rw [g0 _ hy] at hx
        exact absurd hx (od hy)
      · omega
    · rw [g0 i (by omega)] at hi
      obtain ⟨a, b, c, d, f⟩ := p2 i i0 (by omega) hi
      have io : i ≠ o := fun y => o24 (by rw [← y]; exact hi)
      have jo : S (104 + 6 * i + 4) ≠ o := fun y => by
        rw [y, z o oo] at d
        omega
      rw [g4 i (by omega) io, g0 _ (by omega), g4 _ (by omega) jo, g0 _ (by omega)]
      exact ⟨a, b, c, d, f⟩
  · by_cases io : i = o
    · rw [io, ho4, h24]
      exact ⟨orr.2, by omega, rfl⟩
    · have im : i ≠ m := fun y => by rw [y, h24] at hi; exact n24 hi
      rw [g0 i (by omega)] at hi
      obtain ⟨a, b, c⟩ := p3 i i0 (by omega) hi (nop i io hn)
      rw [g4 i (by omega) io, g0 _ (by omega)]
      exact ⟨a, by omega, c⟩
  · have jm : j ≠ m := fun y => by rw [y, h24] at hj; exact n24 hj
    rw [g0 i (by omega)] at hi
    rw [g0 j (by omega)] at hj
    by_cases io : i = o
    · have jo : j ≠ o := by omega
      rw [io, ho4]
      rw [g4 j (by omega) jo]
      exact (p3 j (by omega) (by omega) hj (nop j jo hm)).2.1
    · rw [g4 i (by omega) io] at hl ⊢
      by_cases jo : j = o
      · have := x i o i0 (by omega) hi (nop i io hn) oo
        omega
      · rw [g4 j (by omega) jo]
        exact p4 i j i0 ij (by omega) hi (nop i io hn) hj (nop j jo hm) hl
  · have hb := big j hj
    rw [g0 i (by omega)] at hi
    rw [g4 i (by omega) (by omega)]
    exact x i j i0 ij hi (nop i (by omega) hn) (opx j hj)
  · have hb := big i hi
    rw [g4 i (by omega) (by omega)]
    exact z i (opx i hi)
