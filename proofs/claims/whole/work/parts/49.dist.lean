/-! steps between cells: walks, distances, sets that grow -/
def Bs (S : Int → Int) (a d : Int) : Prop := ∃ k : Int, 0 ≤ k ∧ k ≤ 3 ∧ sd S a k = d ∧ d ≠ -1
theorem Bs_r {S : Int → Int} (hw : WF S) {a d : Int} (a0 : 0 ≤ a) (a1 : a < ncl S) (h : Bs S a d) : 0 ≤ d ∧ d < ncl S := by
  obtain ⟨k, k0, k1, e, hn⟩ := h
  have := sd_r hw a0 a1 k0 k1 (by rw [e]; exact hn)
  rwa [e] at this
theorem sd_0 (S : Int → Int) (c : Int) : sd S c 0 = if 0 < c % S 0 then c - 1 else -1 := by unfold sd; rw [if_pos rfl]
theorem sd_1 (S : Int → Int) (c : Int) : sd S c 1 = if c % S 0 < S 0 - 1 then c + 1 else -1 := by unfold sd; rw [if_neg (by decide), if_pos rfl]
theorem sd_2 (S : Int → Int) (c : Int) : sd S c 2 = if c < S 0 then -1 else c - S 0 := by unfold sd; rw [if_neg (by decide), if_neg (by decide), if_pos rfl]
theorem sd_3 (S : Int → Int) (c : Int) : sd S c 3 = if c + S 0 < ncl S then c + S 0 else -1 := by unfold sd; rw [if_neg (by decide), if_neg (by decide), if_neg (by decide)]
theorem Bs_sym {S : Int → Int} (hw : WF S) {a d : Int} (a0 : 0 ≤ a) (a1 : a < ncl S) (h : Bs S a d) : Bs S d a := by
  have r := Bs_r hw a0 a1 h
  have w := wf0 hw
  obtain ⟨k, k0, k1, e, hn⟩ := h
  have hk : k = 0 ∨ k = 1 ∨ k = 2 ∨ k = 3 := by omega
  rcases hk with rfl | rfl | rfl | rfl
  · rw [sd_0] at e
    refine ⟨1, by omega, by omega, ?_, by omega⟩
    rw [sd_1]
    by_cases h1 : 0 < a % S 0
    · rw [if_pos h1] at e
      have h2 : d % S 0 < S 0 - 1 := by
        rw [← e]
        generalize S 0 = b at *
        have hd : b = 1 ∨ b = 2 ∨ b = 3 ∨ b = 4 ∨ b = 5 := by omega
        rcases hd with rfl | rfl | rfl | rfl | rfl <;> omega
      rw [if_pos h2]
      omega
    · rw [if_neg h1] at e
      exact absurd e.symm hn
  · rw [sd_1] at e
    refine ⟨0, by omega, by omega, ?_, by omega⟩
    rw [sd_0]
    by_cases h1 : a % S 0 < S 0 - 1
    · rw [if_pos h1] at e
      have h2 : 0 < d % S 0 := by
        rw [← e]
        generalize S 0 = b at *
        have hd : b = 1 ∨ b = 2 ∨ b = 3 ∨ b = 4 ∨ b = 5 := by omega
        rcases hd with rfl | rfl | rfl | rfl | rfl <;> omega
      rw [if_pos h2]
      omega
    · rw [if_neg h1] at e
      exact absurd e.symm hn
  · rw [sd_2] at e
    refine ⟨3, by omega, by omega, ?_, by omega⟩
    rw [sd_3]
    by_cases h1 : a < S 0
    · rw [if_pos h1] at e
      exact absurd e.symm hn
    · rw [if_neg h1] at e
      rw [if_pos (by omega)]
      omega
  · rw [sd_3] at e
    refine ⟨2, by omega, by omega, ?_, by omega⟩
    rw [sd_2]
    by_cases h1 : a + S 0 < ncl S
    · rw [if_pos h1] at e
      rw [if_neg (by omega)]
      omega
    · rw [if_neg h1] at e
      exact absurd e.symm hn
theorem tbz_neg (x : Int) : tbz x (-1) = false := by unfold tbz; simp
theorem arB_iff {S : Int → Int} (x d : Int) : arB S x d = true ↔ ∃ c, Bs S d c ∧ tbz x c = true := by
  have g : ∀ c, tbz x c = true → c ≠ -1 := fun c h e => by rw [e, tbz_neg] at h; cases h
  unfold arB
  simp only [Bool.or_eq_true]
  constructor
  · rintro (((h | h) | h) | h)
    · exact ⟨_, ⟨0, by omega, by omega, rfl, g _ h⟩, h⟩
    · exact ⟨_, ⟨1, by omega, by omega, rfl, g _ h⟩, h⟩
    · exact ⟨_, ⟨2, by omega, by omega, rfl, g _ h⟩, h⟩
    · exact ⟨_, ⟨3, by omega, by omega, rfl, g _ h⟩, h⟩
  · rintro ⟨c, ⟨k, k0, k1, e, _⟩, h⟩
    have hk : k = 0 ∨ k = 1 ∨ k = 2 ∨ k = 3 := by omega
    rw [← e] at h
    rcases hk with rfl | rfl | rfl | rfl
    · exact Or.inl (Or.inl (Or.inl h))
    · exact Or.inl (Or.inl (Or.inr h))
    · exact Or.inl (Or.inr h)
    · exact Or.inr h
def Wk (S : Int → Int) (K : Int → Bool) : Nat → Int → Int → Prop
  | 0, a, d => a = d
  | k + 1, a, d => ∃ c, Bs S a c ∧ K c = true ∧ Wk S K k c d
theorem Wk_snoc {S : Int → Int} {K : Int → Bool} : ∀ {k : Nat} {a c d : Int}, Wk S K k a c → Bs S c d → K d = true → Wk S K (k + 1) a d
  | 0, _, _, _, h, b, hk => by cases h; exact ⟨_, b, hk, rfl⟩
  | k + 1, _, _, _, ⟨c', b', k', h'⟩, b, hk => ⟨c', b', k', Wk_snoc h' b hk⟩
theorem Wk_last {S : Int → Int} {K : Int → Bool} : ∀ {k : Nat} {a d : Int}, Wk S K (k + 1) a d → ∃ c, Wk S K k a c ∧ Bs S c d ∧ K d = true
  | 0, a, _, ⟨_, b, hk, h⟩ => by cases h; exact ⟨a, rfl, b, hk⟩
  | k + 1, _, _, ⟨c, b, hk, h⟩ => by
    obtain ⟨c', h1, h2, h3⟩ := Wk_last h
    exact ⟨c', ⟨c, b, hk, h1⟩, h2, h3⟩
theorem Wk_r {S : Int → Int} (hw : WF S) {K : Int → Bool} : ∀ {k : Nat} {a d : Int}, 0 ≤ a → a < ncl S → Wk S K k a d → 0 ≤ d ∧ d < ncl S
  | 0, _, _, h0, h1, h => by cases h; exact ⟨h0, h1⟩
  | k + 1, _, _, h0, h1, ⟨_, b, _, h⟩ => by
    have r := Bs_r hw h0 h1 b
    exact Wk_r hw r.1 r.2 h
/-- a walk backwards, where its beginning may be stepped on too -/
theorem Wk_rev {S : Int → Int} (hw : WF S) {K : Int → Bool} : ∀ {k : Nat} {a d : Int}, 0 ≤ a → a < ncl S → K a = true → Wk S K k a d → Wk S K k d a
  | 0, _, _, _, _, _, h => Eq.symm h
  | k + 1, _, _, h0, h1, ha, ⟨_, b, hk, h⟩ => by
    have r := Bs_r hw h0 h1 b
    exact Wk_snoc (Wk_rev hw r.1 r.2 hk h) (Bs_sym hw h0 h1 b) ha
theorem tbz_bit {a : Int} (a0 : 0 ≤ a) (a1 : a < 31) (d : Int) : tbz (mm_ishl 1 a) d = decide (d = a) := by
  unfold tbz
  rw [tb_shl1 a0 a1]
  by_cases h : d = a
  · subst h
    simp [a0]
  · by_cases h2 : 0 ≤ d
    · have : ¬ d.toNat = a.toNat := by omega
      simp [h, this]
    · simp [h, h2]
/-- where one comes within k steps: the class's set -/
theorem itn_iff {S : Int → Int} (hw : WF S) (K : Int → Bool) {a : Int} (a0 : 0 ≤ a) (a1 : a < ncl S) : ∀ (k : Nat) (d : Int), 0 ≤ d → d < ncl S → (tbz (itn (nx S (bz K (ncl S))) k (mm_ishl 1 a)) d = true ↔ ∃ j, j ≤ k ∧ Wk S K j a d) := by
  have n := wf_n hw
  intro k
  induction k with
  | zero =>
    intro d d0 d1
    show tbz (mm_ishl 1 a) d = true ↔ _
    rw [tbz_bit a0 (by omega), decide_eq_true_eq]
    constructor
    · intro e; exact ⟨0, Nat.le_refl _, e.symm⟩
    · rintro ⟨j, hj, h⟩
      have : j = 0 := by omega
      subst this
      exact h.symm
  | succ k ih =>
    intro d d0 d1
    rw [itn_s]
    have e : tbz (nx S (bz K (ncl S)) (itn (nx S (bz K (ncl S))) k (mm_ishl 1 a))) d = (tbz (itn (nx S (bz K (ncl S))) k (mm_ishl 1 a)) d || (arB S (itn (nx S (bz K (ncl S))) k (mm_ishl 1 a)) d && K d)) := by
      unfold nx tbz
      rw [tb_or, tb_and, tb_ar hw, tb_bz _ (by omega), Int.toNat_of_nonneg d0]
      simp [d0, d1]
    rw [e, Bool.or_eq_true, Bool.and_eq_true, ih d d0 d1, arB_iff]
    constructor
    · rintro (⟨j, hj, h⟩ | ⟨⟨c, b, h⟩, hk⟩)
      · exact ⟨j, by omega, h⟩
      · have r := Bs_r hw d0 d1 b
        obtain ⟨j, hj, h⟩ := (ih c r.1 r.2).mp h
        exact ⟨j + 1, by omega, Wk_snoc h (Bs_sym hw d0 d1 b) hk⟩
    · rintro ⟨j, hj, h⟩
      by_cases hj2 : j ≤ k
      · exact Or.inl ⟨j, hj2, h⟩
      · have : j = k + 1 := by omega
        subst this
        obtain ⟨c, h1, h2, h3⟩ := Wk_last h
        have r := Wk_r hw a0 a1 h1
        exact Or.inr ⟨⟨c, Bs_sym hw r.1 r.2 h2, (ih c r.1 r.2).mpr ⟨k, Nat.le_refl _, h1⟩⟩, h3⟩
/-! a set that only grows stands still after n - 1 times -/
def cd (x : Int) : Nat → Nat
  | 0 => 0
  | n + 1 => cd x n + (if tb x n then 1 else 0)
theorem cd_le (x : Int) : ∀ n, cd x n ≤ n
  | 0 => Nat.le_refl _
  | n + 1 => by
    have := cd_le x n
    unfold cd
    split <;> omega
theorem cd_mono {x y : Int} (h : ∀ i, tb x i = true → tb y i = true) : ∀ n, cd x n ≤ cd y n
  | 0 => Nat.le_refl _
  | n + 1 => by
    have ih := cd_mono h n
    unfold cd
    by_cases hx : tb x n = true
    · rw [if_pos hx, if_pos (h n hx)]; omega
    · rw [if_neg hx]; split <;> omega
theorem cd_lt {x y : Int} (h : ∀ i, tb x i = true → tb y i = true) {j : Nat} (hy : tb y j = true) (hx : tb x j = false) : ∀ n, j < n → cd x n + 1 ≤ cd y n
  | 0, hj => by omega
  | n + 1, hj => by
    unfold cd
    by_cases e : j = n
    · subst e
      have := cd_mono h j
      rw [hy, hx]
      simp
      omega
    · have ih := cd_lt h hy hx n (by omega)
      by_cases hx' : tb x n = true
      · rw [if_pos hx', if_pos (h n hx')]; omega
      · rw [if_neg hx']; split <;> omega
theorem cd_pos {x : Int} {j : Nat} (hx : tb x j = true) : ∀ n, j < n → 1 ≤ cd x n
  | 0, hj => by omega
  | n + 1, hj => by
    unfold cd
    by_cases e : j = n
    · subst e; rw [if_pos hx]; omega
    · have := cd_pos hx n (by omega); omega
theorem cd_full {x : Int} : ∀ n, cd x n = n → ∀ i, i < n → tb x i = true
  | 0, _, i, hi => by omega
  | n + 1, h, i, hi => by
    unfold cd at h
    have := cd_le x n
    by_cases hx : tb x n = true
    · rw [if_pos hx] at h
      by_cases e : i = n
      · subst e; exact hx
      · exact cd_full n (by omega) i (by omega)
    · rw [if_neg hx] at h
      omega
theorem itn_mono {g : Int → Int} {I : Int → Prop} (hI : ∀ x, I x → I (g x)) (hm : ∀ x i, I x → tb x i = true → tb (g x) i = true) : ∀ (k : Nat) {x : Int}, I x → I (itn g k x) ∧ ∀ i, tb x i = true → tb (itn g k x) i = true
  | 0, _, h => ⟨h, fun _ h => h⟩
  | k + 1, _, h => by
    obtain ⟨h1, h2⟩ := itn_mono hI hm k (hI _ h)
    exact ⟨h1, fun i hi => h2 i (hm _ i h hi)⟩
theorem grow {n : Nat} {g : Int → Int} {I : Int → Prop} (hI : ∀ x, I x → I (g x)) (hm : ∀ x i, I x → tb x i = true → tb (g x) i = true) (hs : ∀ x, I x → zR32 x ∧ ∀ i : Nat, tb x i = true → i < n)
    {x : Int} (hx : I x) {a : Nat} (ha : tb x a = true) (m : Nat) (hnm : n ≤ m + 1) : g (itn g m x) = itn g m x := by
  have key : ∀ j : Nat, (∃ i, i ≤ j ∧ g (itn g i x) = itn g i x) ∨ j + 1 ≤ cd (itn g j x) n := by
    intro j
    induction j with
    | zero => exact Or.inr (cd_pos ha n ((hs x hx).2 a ha))
    | succ j ih =>
      rcases ih with ⟨i, hi, h⟩ | h
      · exact Or.inl ⟨i, by omega, h⟩
      · by_cases e : g (itn g j x) = itn g j x
        · exact Or.inl ⟨j, by omega, e⟩
        · right
          have hy := (itn_mono hI hm j hx).1
          have hg := hI _ hy
          have : ∃ i, i < 32 ∧ tb (g (itn g j x)) i = true ∧ tb (itn g j x) i = false := by
            apply Classical.byContradiction
            intro hno
            apply e
            refine tb_ext (hs _ hg).1 (hs _ hy).1 (fun i hi => ?_)
            cases h1 : tb (itn g j x) i
            · cases h2 : tb (g (itn g j x)) i
              · rfl
              · exact absurd ⟨i, hi, h2, h1⟩ hno
            · exact hm _ i hy h1
          obtain ⟨i, _, h1, h2⟩ := this
          have := cd_lt (fun i => hm _ i hy) h1 h2 n ((hs _ hg).2 i h1)
          rw [itn_s]
          omega
  have fixed : ∃ i, i ≤ m ∧ g (itn g i x) = itn g i x := by
    rcases key m with h | h
    · exact h
    · have hy := (itn_mono hI hm m hx).1
      have hg := hI _ hy
      have hc := cd_le (itn g m x) n
      have hfull := cd_full n (by omega : cd (itn g m x) n = n)
      refine ⟨m, Nat.le_refl _, tb_ext (hs _ hg).1 (hs _ hy).1 (fun i hi => ?_)⟩
      cases h1 : tb (itn g m x) i
      · cases h2 : tb (g (itn g m x)) i
        · rfl
        · rw [hfull i ((hs _ hg).2 i h2)] at h1
          cases h1
      · exact hm _ i hy h1
  obtain ⟨i, hi, h⟩ := fixed
  have e : itn g m x = itn g i x := by
    rw [show m = i + (m - i) by omega, itn_add, itn_fix h]
  rw [e, h]
theorem grow_le {n : Nat} {g : Int → Int} {I : Int → Prop} (hI : ∀ x, I x → I (g x)) (hm : ∀ x i, I x → tb x i = true → tb (g x) i = true) (hs : ∀ x, I x → zR32 x ∧ ∀ i : Nat, tb x i = true → i < n)
    {x : Int} (hx : I x) {a : Nat} (ha : tb x a = true) (m : Nat) (hnm : n ≤ m + 1) (k : Nat) (i : Nat) (h : tb (itn g k x) i = true) : tb (itn g m x) i = true := by
  by_cases hk : k ≤ m
  · rw [show m = k + (m - k) by omega, itn_add]
    exact (itn_mono hI hm (m - k) (itn_mono hI hm k hx).1).2 i h
  · rw [show k = m + (k - m) by omega, itn_add, itn_fix (grow hI hm hs hx ha m hnm)] at h
    exact h
theorem nx_mono {S : Int → Int} (K x : Int) (i : Nat) (h : tb x i = true) : tb (nx S K x) i = true := by
  unfold nx
  rw [tb_or, h, Bool.true_or]
theorem sub_lt {S : Int → Int} (hw : WF S) (x : Int) (h : sub S x) : zR32 x ∧ ∀ i : Nat, tb x i = true → i < (ncl S).toNat := ⟨h.1, fun i hi => by have := h.2 i hi; omega⟩
/-- a walk, if there is one, is there within 24 steps -/
theorem Wk_24 {S : Int → Int} (hw : WF S) (K : Int → Bool) {a d : Int} (a0 : 0 ≤ a) (a1 : a < ncl S) {k : Nat} (h : Wk S K k a d) : ∃ j, j ≤ 24 ∧ Wk S K j a d := by
  have n := wf_n hw
  have r := Wk_r hw a0 a1 h
  have h1 := (itn_iff hw K a0 a1 k d r.1 r.2).mpr ⟨k, Nat.le_refl _, h⟩
  have hb : tb (mm_ishl 1 a) a.toNat = true := by rw [tb_shl1 a0 (by omega)]; simp
  have h2 : tb (itn (nx S (bz K (ncl S))) k (mm_ishl 1 a)) d.toNat = true := by
    unfold tbz at h1
    simp at h1
    exact h1.2
  have h3 := grow_le (n := (ncl S).toNat) (I := sub S) (fun x hx => sub_nx hw (bz K (ncl S)) hx) (fun x i _ => nx_mono (bz K (ncl S)) x i) (sub_lt hw) (sub_bit hw a0 a1) hb 24 (by omega) k d.toNat h2
  exact (itn_iff hw K a0 a1 24 d r.1 r.2).mp (by unfold tbz; simp [r.1, h3])
/-- the distance to a cell, as the reference lays it out -/
def FD (S : Int → Int) (K : Int → Bool) (to : Int) (F : Int → Int) : Prop := ∀ c, 0 ≤ c → c < ncl S → 0 ≤ F c ∧ F c ≤ 1000000 ∧ (F c < 1000000 → Wk S K (F c).toNat c to) ∧ ∀ k, Wk S K k c to → F c ≤ k
theorem FD_24 {S : Int → Int} (hw : WF S) {K : Int → Bool} {to : Int} {F : Int → Int} (h : FD S K to F) {c : Int} (c0 : 0 ≤ c) (c1 : c < ncl S) : F c ≤ 24 ∨ F c = 1000000 := by
  obtain ⟨h1, h2, h3, h4⟩ := h c c0 c1
  by_cases hf : F c < 1000000
  · obtain ⟨j, hj, hW⟩ := Wk_24 hw K c0 c1 (h3 hf)
    have := h4 j hW
    omega
  · omega
theorem stf_spec (g : Int → Int) (c : Int) : ∀ (n : Nat) (i x : Int), (stf g c n i x = -1 ∧ ∀ j, j < n → tb (itn g j x) c.toNat = false) ∨ ∃ j, j < n ∧ stf g c n i x = i + j ∧ tb (itn g j x) c.toNat = true ∧ ∀ j', j' < j → tb (itn g j' x) c.toNat = false
  | 0, _, _ => Or.inl ⟨rfl, fun j hj => by omega⟩
  | n + 1, i, x => by
    unfold stf
    by_cases ht : tb x c.toNat = true
    · rw [if_pos ht]
      exact Or.inr ⟨0, by omega, by omega, ht, fun j hj => by omega⟩
    · rw [if_neg ht]
      have ht' : tb x c.toNat = false := by simpa using ht
      rcases stf_spec g c n (i + 1) (g x) with ⟨h1, h2⟩ | ⟨j, h1, h2, h3, h4⟩
      · refine Or.inl ⟨h1, fun j hj => ?_⟩
        cases j with
        | zero => exact ht'
        | succ j => exact h2 j (by omega)
      · refine Or.inr ⟨j + 1, by omega, by omega, h3, fun j' hj' => ?_⟩
        cases j' with
        | zero => exact ht'
        | succ j' => exact h4 j' (by omega)
theorem stf_FD {S : Int → Int} (hw : WF S) {K : Int → Bool} {to : Int} {F : Int → Int} (h : FD S K to F) {a : Int} (a0 : 0 ≤ a) (a1 : a < ncl S) (t0 : 0 ≤ to) (t1 : to < ncl S) :
    stf (nx S (bz K (ncl S))) to 25 0 (mm_ishl 1 a) = if F a < 1000000 then F a else -1 := by
  obtain ⟨h1, h2, h3, h4⟩ := h a a0 a1
  have e : ∀ k, tb (itn (nx S (bz K (ncl S))) k (mm_ishl 1 a)) to.toNat = true ↔ ∃ j, j ≤ k ∧ Wk S K j a to := fun k => by
    rw [← itn_iff hw K a0 a1 k to t0 t1]
    unfold tbz
    simp [t0]
  have h24 := FD_24 hw h a0 a1
  rcases stf_spec (nx S (bz K (ncl S))) to 25 0 (mm_ishl 1 a) with ⟨g1, g2⟩ | ⟨j, g1, g2, g3, g4⟩
  · rw [g1, if_neg]
    intro hf
    have := g2 (F a).toNat (by omega)
    rw [(e (F a).toNat).mpr ⟨_, Nat.le_refl _, h3 hf⟩] at this
    cases this
  · obtain ⟨i, i1, i2⟩ := (e j).mp g3
    have := h4 i i2
    rw [if_pos (by omega), g2]
    by_cases hlt : (F a).toNat < j
    · have h5 := g4 (F a).toNat hlt
      rw [(e (F a).toNat).mpr ⟨_, Nat.le_refl _, h3 (by omega)⟩] at h5
      cases h5
    · omega
theorem itn25_FD {S : Int → Int} (hw : WF S) {K : Int → Bool} {to : Int} {F : Int → Int} (h : FD S K to F) {a : Int} (a0 : 0 ≤ a) (a1 : a < ncl S) (t0 : 0 ≤ to) (t1 : to < ncl S) :
    tb (itn (nx S (bz K (ncl S))) 25 (mm_ishl 1 a)) to.toNat = decide (F a < 1000000) := by
  obtain ⟨h1, h2, h3, h4⟩ := h a a0 a1
  have h24 := FD_24 hw h a0 a1
  rw [Bool.eq_iff_iff, decide_eq_true_eq]
  have e := itn_iff hw K a0 a1 25 to t0 t1
  unfold tbz at e
  simp only [t0, decide_true, Bool.true_and] at e
  rw [e]
  constructor
  · rintro ⟨j, hj, hW⟩
    have := h4 j hW
    omega
  · intro hf
    exact ⟨(F a).toNat, by omega, h3 hf⟩
