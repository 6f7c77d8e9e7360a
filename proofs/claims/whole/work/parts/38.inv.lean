/-! what holds ahead of each call, and what a call may change -/
def Ag (A : Nat → Prop) (F : Nat → Nat → Prop) (s t : mS) : Prop := (∀ q, ¬ A q → t.2 q = s.2 q) ∧ (∀ q k, ¬ F q k → t.1 q k = s.1 q k)
theorem Ag_refl (A : Nat → Prop) (F : Nat → Nat → Prop) (s : mS) : Ag A F s s := ⟨fun _ _ => rfl, fun _ _ _ => rfl⟩
theorem Ag_trans {A : Nat → Prop} {F : Nat → Nat → Prop} {s t u : mS} (h1 : Ag A F s t) (h2 : Ag A F t u) : Ag A F s u :=
  ⟨fun q h => (h2.1 q h).trans (h1.1 q h), fun q k h => (h2.2 q k h).trans (h1.2 q k h)⟩
theorem Ag_mono {A B : Nat → Prop} {F G : Nat → Nat → Prop} {s t : mS} (h : Ag A F s t) (h1 : ∀ q, A q → B q) (h2 : ∀ q k, F q k → G q k) : Ag B G s t :=
  ⟨fun q n => h.1 q (fun a => n (h1 q a)), fun q k n => h.2 q k (fun a => n (h2 q k a))⟩
theorem Ag_uF {A : Nat → Prop} {F : Nat → Nat → Prop} {s t : mS} (h : Ag A F s t) {q k : Nat} (hF : F q k) (v : Int) : Ag A F s (uF t q k v) :=
  ⟨h.1, fun q' k' n => by
    rw [uF_1, if_neg (fun e => n (by rw [e.1, e.2]; exact hF))]
    exact h.2 q' k' n⟩
theorem Ag_uA {A : Nat → Prop} {F : Nat → Nat → Prop} {s t : mS} (h : Ag A F s t) {q : Nat} (hA : A q) (i v : Int) : Ag A F s (uA t q i v) :=
  ⟨fun q' n => by
    funext j
    rw [uA_2, if_neg (fun e => n (by rw [e.1]; exact hA))]
    rw [h.1 q' n], h.2⟩
theorem Ag_fA {A : Nat → Prop} {F : Nat → Nat → Prop} {s t : mS} (h : Ag A F s t) {q : Nat} (hA : A q) (n v : Int) : Ag A F s (fA t q n v) :=
  ⟨fun q' n' => by
    funext j
    show (if q' = q ∧ 0 ≤ j ∧ j < n then v else t.2 q' j) = _
    rw [if_neg (fun e => n' (by rw [e.1]; exact hA))]
    rw [h.1 q' n'], h.2⟩
theorem Ag_cA {A : Nat → Prop} {F : Nat → Nat → Prop} {s t : mS} (h : Ag A F s t) {b : Nat} (hA : A b) (a : Nat) (n : Int) : Ag A F s (cA t a b n) :=
  ⟨fun q' n' => by
    funext j
    show (if q' = b ∧ 0 ≤ j ∧ j < n then t.2 a j else t.2 q' j) = _
    rw [if_neg (fun e => n' (by rw [e.1]; exact hA))]
    rw [h.1 q' n'], h.2⟩
/-- scratch rows and fields of the class, of the reference -/
def scA (q : Nat) : Prop := (20 ≤ q ∧ q < 33) ∨ (40 ≤ q ∧ q < 53) ∨ (54 ≤ q ∧ q < 61) ∨ q = 64 ∨ q = 67 ∨ q = 69 ∨ q = 70 ∨ q = 72 ∨ q = 73 ∨ q = 75
def scF (q k : Nat) : Prop := (q = 3 ∧ k = 15) ∨ (q = 5 ∧ k ≠ 4 ∧ k ≠ 9 ∧ k ≠ 10) ∨ q = 20 ∨ q = 39 ∨ q = 40 ∨ q = 53 ∨ q = 54 ∨ (q = 63 ∧ k ≠ 4)
def srA (q : Nat) : Prop := 148 ≤ q ∧ q < 159
def srF (q k : Nat) : Prop := q = 141 ∧ (k = 2 ∨ (11 ≤ k ∧ k ≤ 15) ∨ (18 ≤ k ∧ k ≤ 20) ∨ (22 ≤ k ∧ k ≤ 24) ∨ k = 32 ∨ k = 33)
def csc : mS → mS → Prop := Ag scA scF
def rsc : mS → mS → Prop := Ag srA srF
/-! the autumns -/
/-- the class's number of a step's word -/
def wmap (r : Int) : Int := if r = 16 then 12 else if r = 23 then 24 else if r = 24 then 25 else if r = 25 then 26 else if r = 2226 then 23 else if r = 2202 then 3 else if 2200 ≤ r then r - 2200 else r
def opn (r : Int) : Prop := r = 23 ∨ 2200 ≤ r
/-- the steps of the reference: n places, some of which (st) are still open -/
def PR (S : Int → Int) (n : Int) : Prop := ∀ i, 0 ≤ i → i < n →
  (S (104 + 6 * i) = 16 ∨ S (104 + 6 * i) = 17 ∨ S (104 + 6 * i) = 18 ∨ S (104 + 6 * i) = 19 ∨ S (104 + 6 * i) = 20 ∨ S (104 + 6 * i) = 21 ∨ S (104 + 6 * i) = 23 ∨ S (104 + 6 * i) = 24 ∨ S (104 + 6 * i) = 25 ∨
    S (104 + 6 * i) = 2202 ∨ S (104 + 6 * i) = 2209 ∨ S (104 + 6 * i) = 2211 ∨ S (104 + 6 * i) = 2226) ∧
  ((S (104 + 6 * i) = 16 ∨ S (104 + 6 * i) = 17 ∨ S (104 + 6 * i) = 18 ∨ S (104 + 6 * i) = 19 ∨ S (104 + 6 * i) = 2209 ∨ S (104 + 6 * i) = 2211 ∨ S (104 + 6 * i) = 2226) → 0 ≤ S (104 + 6 * i + 1) ∧ S (104 + 6 * i + 1) < S 3) ∧
  (S (104 + 6 * i) = 16 → 0 ≤ S (104 + 6 * i + 2) ∧ S (104 + 6 * i + 2) < 4) ∧
  (S (104 + 6 * i) = 17 → 0 ≤ S (104 + 6 * i + 2) ∧ S (104 + 6 * i + 2) < S 3) ∧
  (S (104 + 6 * i) = 20 → 1 ≤ S (104 + 6 * i + 1) ∧ S (104 + 6 * i + 1) ≤ 20) ∧
  (S (104 + 6 * i) = 23 → 1 ≤ S (104 + 6 * i + 1) ∧ S (104 + 6 * i + 1) ≤ 99) ∧
  (S (104 + 6 * i) = 2202 → 0 ≤ S (104 + 6 * i + 1) ∧ S (104 + 6 * i + 1) < ncl S)
def PM (S : Int → Int) (n : Int) (op : Int → Prop) : Prop := (∀ i, op i → 0 ≤ i ∧ i < n ∧ opn (S (104 + 6 * i)) ∧ (i + 1 < n → S (104 + 6 * (i + 1)) ≠ 24)) ∧
  (∀ i, 0 ≤ i → i < n → S (104 + 6 * i) = 24 → 0 ≤ S (104 + 6 * i + 4) ∧ S (104 + 6 * i + 4) < i ∧ opn (S (104 + 6 * S (104 + 6 * i + 4))) ∧ S (104 + 6 * S (104 + 6 * i + 4) + 4) = i ∧
    (S (104 + 6 * (S (104 + 6 * i + 4) + 1)) = 24 → i = S (104 + 6 * i + 4) + 1)) ∧
  (∀ i, 0 ≤ i → i < n → opn (S (104 + 6 * i)) → ¬ op i → i < S (104 + 6 * i + 4) ∧ S (104 + 6 * i + 4) < n ∧ S (104 + 6 * S (104 + 6 * i + 4)) = 24) ∧
  (∀ i j, 0 ≤ i → i < j → j < n → opn (S (104 + 6 * i)) → ¬ op i → opn (S (104 + 6 * j)) → ¬ op j → j < S (104 + 6 * i + 4) → S (104 + 6 * j + 4) < S (104 + 6 * i + 4))
/-- the class's object o has the same -/
def AC (s : mS) (o : Nat) (S : Int → Int) (n : Int) (op : Int → Prop) : Prop := ∀ i, 0 ≤ i → i < n →
  s.2 (o + 1) i = wmap (S (104 + 6 * i)) ∧ (S (104 + 6 * i) ≠ 24 → s.2 (o + 2) i = S (104 + 6 * i + 1)) ∧
  (S (104 + 6 * i) = 16 ∨ S (104 + 6 * i) = 17 → s.2 (o + 3) i = S (104 + 6 * i + 2)) ∧
  (2200 ≤ S (104 + 6 * i) → s.2 (o + 3) i = S (104 + 6 * i + 5) ∧ s.2 (o + 4) i = S (104 + 6 * i + 2)) ∧
  (S (104 + 6 * i) = 24 ∨ opn (S (104 + 6 * i)) ∧ ¬ op i → s.2 (o + 5) i = S (104 + 6 * i + 4))
def AU (s : mS) (o : Nat) (S : Int → Int) : Prop :=
  (S 7 = -1 ∧ s.1 o 0 = 0 ∧ s.1 o 2 = 0 ∨ 0 ≤ S 7 ∧ S 7 ≤ 60 ∧ s.1 o 0 = 1 ∧ s.1 o 2 = S 7) ∧ PR S (S 7) ∧ PM S (S 7) (fun _ => False) ∧ AC s o S (S 7) (fun _ => False)
/-! the parts of the state -/
def TFr (s : mS) : Prop := s.1 3 16 = s.1 141 3 ∧ s.1 3 17 = s.1 141 4
def TSc (s : mS) : Prop := WF (s.2 142) ∧ CS s 7 (s.2 142) (s.2 143)
def cutI (o v : Int) : Int := if o = 0 then mm_i2b (mm_w32 v) else if o = 1 then mm_i2s (mm_w32 v) else if o = 2 then mm_w32 v else v
/-- the class's trays (world s) are the reference's (world t) -/
def RT (s t : mS) : Prop := ∀ k : Nat, k < 4 → s.1 (76 + 2 * k) 1 = t.2 144 k ∧ s.1 (76 + 2 * k) 2 = t.2 145 k ∧ 0 ≤ t.2 144 k ∧ t.2 144 k ≤ 3 ∧ -1 ≤ t.2 145 k ∧ t.2 145 k ≤ 60 ∧
  ∀ j, 0 ≤ j → j < t.2 145 k → s.2 (77 + 2 * k) j = t.2 146 (60 * k + j) ∧ cutI (t.2 144 k) (t.2 146 (60 * k + j)) = t.2 146 (60 * k + j)
def TTr (s : mS) : Prop := RT s s
def TTx (s : mS) : Prop := s.1 5 4 = s.1 141 10 ∧ 0 ≤ s.1 5 4 ∧ s.1 5 4 ≤ 900 ∧ (∀ j, 0 ≤ j → j < s.1 5 4 → 0 ≤ s.2 6 j ∧ s.2 6 j < 256 ∧ s.2 147 j = mm_i2b (s.2 6 j)) ∧ s.1 5 9 = s.1 141 16 ∧ s.1 5 10 = s.1 141 17
def slS (s : mS) (i : Nat) : Int → Int := fun j => s.2 142 (472 * (i + 1) + j)
def slN (s : mS) (i : Nat) : Int → Int := fun j => s.2 143 (12 * (i + 1) + j)
def TMk (s : mS) : Prop := s.1 3 14 = s.1 141 38 ∧ 0 ≤ s.1 3 14 ∧ s.1 3 14 ≤ 3 ∧ ∀ i : Nat, (i : Int) < s.1 3 14 → WF (slS s i) ∧ CS s (84 + 13 * i) (slS s i) (slN s i) ∧ AU s (123 + 6 * i) (slS s i)
def TLv (s : mS) : Prop := s.1 63 4 = s.1 141 37 ∧ (s.1 63 4 = 0 ∨ s.1 63 4 = 1) ∧ ∀ i, 0 ≤ i → i < 5 → s.2 65 i = s.2 159 i
def Inv (s : mS) : Prop := s.1 3 15 = s.1 141 2 ∧ TFr s ∧ TSc s ∧ TTr s ∧ TTx s ∧ AU s 33 (s.2 142) ∧ TMk s ∧ TLv s
theorem CS_fr {s t : mS} {o : Nat} {S N : Int → Int} (h : CS s o S N) (h1 : ∀ k, t.1 o k = s.1 o k) (h2 : ∀ j, 1 ≤ j → j ≤ 12 → t.2 (o + j) = s.2 (o + j)) : CS t o S N := by
  unfold CS at *
  rw [h1, h1, h1, h1, h1, h1, h2 1 (by omega) (by omega), h2 2 (by omega) (by omega), h2 3 (by omega) (by omega), h2 4 (by omega) (by omega), h2 5 (by omega) (by omega), h2 6 (by omega) (by omega), h2 7 (by omega) (by omega), h2 8 (by omega) (by omega), h2 9 (by omega) (by omega), h2 10 (by omega) (by omega), h2 11 (by omega) (by omega), h2 12 (by omega) (by omega)]
  exact h
theorem AU_fr {s t : mS} {o : Nat} {S : Int → Int} (h : AU s o S) (h1 : ∀ k, t.1 o k = s.1 o k) (h2 : ∀ j, 1 ≤ j → j ≤ 5 → t.2 (o + j) = s.2 (o + j)) : AU t o S := by
  unfold AU AC at *
  rw [h1, h1, h2 1 (by omega) (by omega), h2 2 (by omega) (by omega), h2 3 (by omega) (by omega), h2 4 (by omega) (by omega), h2 5 (by omega) (by omega)]
  exact h
/-- the autumns keep, when the school changes only in its numbers -/
theorem AU_S {s : mS} {o : Nat} {S S' : Int → Int} (h : AU s o S) (h1 : ∀ j, 104 ≤ j → j < 472 → S' j = S j) (h7 : S' 7 = S 7) (hn : ncl S' = ncl S) (h3 : S 3 ≤ S' 3) : AU s o S' := by
  obtain ⟨a, b, c, d⟩ := h
  have e : ∀ i k : Int, 0 ≤ i → i < S 7 → 0 ≤ k → k < 6 → S 7 ≤ 60 → S' (104 + 6 * i + k) = S (104 + 6 * i + k) := fun i k _ _ _ _ _ => h1 _ (by omega) (by omega)
  have hs : S 7 ≤ 60 := by omega
  have e0 : ∀ i : Int, 0 ≤ i → i < S 7 → S' (104 + 6 * i) = S (104 + 6 * i) := fun i _ _ => h1 _ (by omega) (by omega)
  refine ⟨by rw [h7]; exact a, ?_, ?_, ?_⟩
  · intro i i0 i1
    rw [h7] at i1
    obtain ⟨b0, b1, b2, b3, b4, b5, b6⟩ := b i i0 i1
    rw [e0 i i0 i1, e i 1 i0 i1 (by omega) (by omega) hs, e i 2 i0 i1 (by omega) (by omega) hs, hn]
    exact ⟨b0, fun x => ⟨(b1 x).1, Int.lt_of_lt_of_le (b1 x).2 h3⟩, b2, fun x => ⟨(b3 x).1, Int.lt_of_lt_of_le (b3 x).2 h3⟩, b4, b5, b6⟩
  · rw [h7]
    refine ⟨fun i x => x.elim, ?_, ?_, ?_⟩
    · intro i i0 i1 x
      rw [e0 i i0 i1] at x
      obtain ⟨c1, c2, c3, c4, c5⟩ := c.2.1 i i0 i1 x
      rw [e i 4 i0 i1 (by omega) (by omega) hs, e0 _ c1 (by omega), e _ 4 c1 (by omega) (by omega) (by omega) hs, e0 _ (by omega) (by omega)]
      exact ⟨c1, c2, c3, c4, c5⟩
    · intro i i0 i1 x n
      rw [e0 i i0 i1] at x
      obtain ⟨c1, c2, c3⟩ := c.2.2.1 i i0 i1 x n
      rw [e i 4 i0 i1 (by omega) (by omega) hs, e0 _ (by omega) c2]
      exact ⟨c1, c2, c3⟩
    · intro i j i0 i1 j1 x n y m z
      rw [e0 i i0 (by omega)] at x
      rw [e0 j (by omega) j1] at y
      rw [e i 4 i0 (by omega) (by omega) (by omega) hs] at z ⊢
      rw [e j 4 (by omega) j1 (by omega) (by omega) hs]
      exact c.2.2.2 i j i0 i1 j1 x n y m z
  · rw [h7]
    intro i i0 i1
    rw [e0 i i0 i1, e i 1 i0 i1 (by omega) (by omega) hs, e i 2 i0 i1 (by omega) (by omega) hs, e i 4 i0 i1 (by omega) (by omega) hs, e i 5 i0 i1 (by omega) (by omega) hs]
    exact d i i0 i1
/-- rows and fields that the parts below the school speak of -/
theorem RT_fr {s t u v : mS} (h : RT s t) (h1 : ∀ q k, 76 ≤ q → q < 84 → u.1 q k = s.1 q k) (h2 : ∀ q, 76 ≤ q → q < 84 → u.2 q = s.2 q) (h3 : ∀ q, 144 ≤ q → q < 147 → v.2 q = t.2 q) : RT u v := by
  intro k hk
  have := h k hk
  rw [h1 _ _ (by omega) (by omega), h1 _ _ (by omega) (by omega), h3 144 (by omega) (by omega), h3 145 (by omega) (by omega), h3 146 (by omega) (by omega), h2 (77 + 2 * k) (by omega) (by omega)]
  exact this
theorem TTr_fr {s t : mS} (h : TTr s) (h1 : ∀ q k, 76 ≤ q → q < 84 → t.1 q k = s.1 q k) (h2 : ∀ q, (76 ≤ q ∧ q < 84) ∨ (144 ≤ q ∧ q < 147) → t.2 q = s.2 q) : TTr t :=
  RT_fr h h1 (fun q q0 q1 => h2 q (Or.inl ⟨q0, q1⟩)) (fun q q0 q1 => h2 q (Or.inr ⟨q0, q1⟩))
theorem TTx_fr {s t : mS} (h : TTx s) (h1 : t.1 5 4 = s.1 5 4 ∧ t.1 5 9 = s.1 5 9 ∧ t.1 5 10 = s.1 5 10) (h2 : t.1 141 10 = s.1 141 10 ∧ t.1 141 16 = s.1 141 16 ∧ t.1 141 17 = s.1 141 17) (h3 : t.2 6 = s.2 6) (h4 : t.2 147 = s.2 147) : TTx t := by
  unfold TTx at *
  rw [h1.1, h1.2.1, h1.2.2, h2.1, h2.2.1, h2.2.2, h3, h4]
  exact h
theorem TMk_fr {s t : mS} (h : TMk s) (h1 : t.1 3 14 = s.1 3 14) (h2 : t.1 141 38 = s.1 141 38) (h3 : ∀ q k, 84 ≤ q → q < 141 → t.1 q k = s.1 q k) (h4 : ∀ q, 84 ≤ q → q < 141 → t.2 q = s.2 q)
    (h5 : ∀ j, 472 ≤ j → j < 1888 → t.2 142 j = s.2 142 j) (h6 : ∀ j, 12 ≤ j → j < 48 → t.2 143 j = s.2 143 j) : TMk t := by
  obtain ⟨a, b, c, d⟩ := h
  refine ⟨by rw [h1, h2]; exact a, by rw [h1]; exact b, by rw [h1]; exact c, ?_⟩
  intro i hi
  rw [h1] at hi
  obtain ⟨d1, d2, d3⟩ := d i hi
  have eS : ∀ j, 0 ≤ j → j < 472 → slS t i j = slS s i j := fun j j0 j1 => h5 _ (by omega) (by omega)
  have eN : ∀ j, 0 ≤ j → j < 12 → slN t i j = slN s i j := fun j j0 j1 => h6 _ (by omega) (by omega)
  have en : ncl (slS t i) = ncl (slS s i) := by unfold ncl; rw [eS 0 (by omega) (by omega), eS 1 (by omega) (by omega)]
  have w := wf0 d1
  refine ⟨?_, ?_, ?_⟩
  · unfold WF at *
    rw [en, eS 0 (by omega) (by omega), eS 1 (by omega) (by omega), eS 2 (by omega) (by omega), eS 3 (by omega) (by omega), eS 4 (by omega) (by omega), eS 5 (by omega) (by omega)]
    refine ⟨d1.1, fun c c0 c1 => ?_, fun k k0 k1 => ?_, fun p p0 p1 => ?_⟩
    · rw [eS _ (by omega) (by omega), eS _ (by omega) (by omega)]
      exact d1.2.1 c c0 c1
    · rw [eS _ (by omega) (by omega), eS _ (by omega) (by omega)]
      exact d1.2.2.1 k k0 k1
    · rw [eS _ (by omega) (by omega), eS _ (by omega) (by omega), eS _ (by omega) (by omega), eS _ (by omega) (by omega), eS _ (by omega) (by omega), eS _ (by omega) (by omega)]
      exact d1.2.2.2 p p0 p1
  · refine CS_fr ?_ (fun k => h3 _ k (by omega) (by omega)) (fun j j0 j1 => h4 _ (by omega) (by omega))
    unfold CS at *
    rw [eS 0 (by omega) (by omega), eS 1 (by omega) (by omega), eS 2 (by omega) (by omega), eS 3 (by omega) (by omega), eS 4 (by omega) (by omega), eS 5 (by omega) (by omega)]
    refine ⟨d2.1, fun c c0 c1 => ?_, fun k k0 k1 => ?_, fun p p0 p1 => ?_, d2.2.2.2.2⟩
    · rw [eS _ (by omega) (by omega), eS _ (by omega) (by omega)]
      exact d2.2.1 c c0 c1
    · rw [eS _ (by omega) (by omega), eS _ (by omega) (by omega), eN _ (by omega) (by omega)]
      exact d2.2.2.1 k k0 k1
    · rw [eS _ (by omega) (by omega), eS _ (by omega) (by omega), eS _ (by omega) (by omega), eS _ (by omega) (by omega), eS _ (by omega) (by omega), eS _ (by omega) (by omega), eN _ (by omega) (by omega)]
      exact d2.2.2.2.1 p p0 p1
  · exact AU_S (AU_fr d3 (fun k => h3 _ k (by omega) (by omega)) (fun j j0 j1 => h4 _ (by omega) (by omega))) (fun j j0 j1 => eS j (by omega) j1) (eS 7 (by omega) (by omega)) en (by rw [eS 3 (by omega) (by omega)]; omega)
theorem TLv_fr {s t : mS} (h : TLv s) (h1 : t.1 63 4 = s.1 63 4) (h2 : t.1 141 37 = s.1 141 37) (h3 : t.2 65 = s.2 65) (h4 : t.2 159 = s.2 159) : TLv t := by
  unfold TLv at *
  rw [h1, h2, h3, h4]
  exact h
def scl (q : Nat) : Prop := 7 ≤ q ∧ q < 20
/-- one call: the class changes its school and scratch, the reference its own -/
theorem inv_school {s s1 s2 : mS} {S' N' : Int → Int} {x : Int} (h : Inv s)
    (a1 : Ag (fun q => scA q ∨ scl q) (fun q k => scF q k ∨ q = 7) s s1) (c1 : CS s1 7 S' N') (x1 : s1.1 3 15 = x)
    (a2 : Ag (fun q => srA q ∨ q = 142 ∨ q = 143) srF s1 s2) (e1 : s2.2 142 = S') (e2 : s2.2 143 = N') (x2 : s2.1 141 2 = x)
    (w : WF S') (k1 : ∀ j, 104 ≤ j → j < 1888 → S' j = s.2 142 j) (k7 : S' 7 = s.2 142 7) (k2 : ∀ j, 12 ≤ j → j < 48 → N' j = s.2 143 j) (kn : ncl S' = ncl (s.2 142)) (k3 : s.2 142 3 ≤ S' 3) : Inv s2 := by
  obtain ⟨i1, i2, i3, i4, i5, i6, i7, i8⟩ := h
  have f1 : ∀ q k, ¬ (scF q k ∨ q = 7) → q ≠ 141 → s2.1 q k = s.1 q k := fun q k h h2 => (a2.2 q k (fun e => h2 e.1)).trans (a1.2 q k h)
  have f2 : ∀ q, ¬ (scA q ∨ scl q) → ¬ (srA q ∨ q = 142 ∨ q = 143) → s2.2 q = s.2 q := fun q h h2 => (a2.1 q h2).trans (a1.1 q h)
  have f3 : ∀ k, ¬ srF 141 k → s2.1 141 k = s.1 141 k := fun k h2 => (a2.2 141 k h2).trans (a1.2 141 k (by unfold scF; omega))
  have g1 : ∀ q k, ¬ (q = 141) → s2.1 q k = s1.1 q k := fun q k h => a2.2 q k (fun e => h e.1)
  unfold scA srA scl at f2
  unfold scF at f1
  unfold srF at f3
  refine ⟨?_, ?_, ?_, ?_, ?_, ?_, ?_, ?_⟩
  · rw [g1 3 15 (by omega), x1, x2]
  · unfold TFr
    rw [f1 3 16 (by omega) (by omega), f1 3 17 (by omega) (by omega), f3 3 (by omega), f3 4 (by omega)]
    exact i2
  · unfold TSc
    rw [e1, e2]
    exact ⟨w, CS_fr c1 (fun k => g1 7 k (by omega)) (fun j j0 j1 => a2.1 _ (by unfold srA; omega))⟩
  · exact TTr_fr i4 (fun q k q0 q1 => f1 q k (by omega) (by omega)) (fun q hq => f2 q (by omega) (by omega))
  · exact TTx_fr i5 ⟨f1 5 4 (by omega) (by omega), f1 5 9 (by omega) (by omega), f1 5 10 (by omega) (by omega)⟩ ⟨f3 10 (by omega), f3 16 (by omega), f3 17 (by omega)⟩ (f2 6 (by omega) (by omega)) (f2 147 (by omega) (by omega))
  · rw [e1]
    exact AU_S (AU_fr i6 (fun k => f1 33 k (by omega) (by omega)) (fun j j0 j1 => f2 _ (by omega) (by omega))) (fun j j0 j1 => k1 j j0 (by omega)) k7 kn k3
  · exact TMk_fr i7 (f1 3 14 (by omega) (by omega)) (f3 38 (by omega)) (fun q k q0 q1 => f1 q k (by omega) (by omega)) (fun q q0 q1 => f2 q (by omega) (by omega)) (fun j j0 j1 => by rw [e1]; exact k1 j (by omega) j1) (fun j j0 j1 => by rw [e2]; exact k2 j j0 j1)
  · exact TLv_fr i8 (f1 63 4 (by omega) (by omega)) (f3 37 (by omega)) (f2 65 (by omega) (by omega)) (f2 159 (by omega) (by omega))
/-- one call that reads -/
theorem inv_read {s s1 s2 : mS} {x : Int} (h : Inv s) (a1 : csc s s1) (x1 : s1.1 3 15 = x) (a2 : rsc s1 s2) (x2 : s2.1 141 2 = x) : Inv s2 := by
  have e1 : s2.2 142 = s.2 142 := (a2.1 142 (by unfold srA; omega)).trans (a1.1 142 (by unfold scA; omega))
  have e2 : s2.2 143 = s.2 143 := (a2.1 143 (by unfold srA; omega)).trans (a1.1 143 (by unfold scA; omega))
  refine inv_school h (Ag_mono a1 (fun q a => Or.inl a) (fun q k a => Or.inl a)) ?_ x1 (Ag_mono a2 (fun q a => Or.inl a) (fun q k a => a)) e1 e2 x2 h.2.2.1.1 (fun _ _ _ => rfl) rfl (fun _ _ _ => rfl) rfl (Int.le_refl _)
  exact CS_fr h.2.2.1.2 (fun k => a1.2 7 k (by unfold scF; omega)) (fun j j0 j1 => a1.1 _ (by unfold scA; omega))
/-! a call of the law: both sides answer alike, and what must hold holds -/
def OpI (Z : mX) (s : mS) (a b : Nat) (as : List mV) : Prop := ∃ v s1 s2, (∀ f : Int → mW → mO, mm_kI (mm_run (zP Z) a (.inr (.inr (some 3)) :: as) (mk s)) f = f v (mk s1)) ∧
  (∀ f : Int → mW → mO, mm_kI (mm_run (zP Z) b (.inr (.inr (some 141)) :: as) (mk s1)) f = f v (mk s2)) ∧ Inv s2
def OpJ (Z : mX) (s : mS) (a b : Nat) (as : List mV) : Prop := ∃ v s1 s2, (∀ f : Int → mW → mO, mm_kJ (mm_run (zP Z) a (.inr (.inr (some 3)) :: as) (mk s)) f = f v (mk s1)) ∧
  (∀ f : Int → mW → mO, mm_kJ (mm_run (zP Z) b (.inr (.inr (some 141)) :: as) (mk s1)) f = f v (mk s2)) ∧ Inv s2
