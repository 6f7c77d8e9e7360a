/-! the tokens of a text: b its bytes, n how many -/
def isBl (c : Int) : Prop := c = 32 ∨ c = 10
def isLt (c : Int) : Prop := 97 ≤ c ∧ c ≤ 122
def isDg (c : Int) : Prop := 48 ≤ c ∧ c ≤ 57
def isSg (c : Int) : Prop := c = 59 ∨ c = 60 ∨ c = 62 ∨ c = 61
theorem run_ex (P : Int → Prop) (n : Int) : ∀ k : Nat, ∀ i : Int, (n - i).toNat = k → i ≤ n → ∃ e, i ≤ e ∧ e ≤ n ∧ (∀ j, i ≤ j → j < e → P j) ∧ (e < n → ¬ P e) := by
  intro k
  induction k with
  | zero =>
    intro i hk hi
    exact ⟨i, by omega, by omega, fun j _ _ => by omega, fun h => by omega⟩
  | succ k ih =>
    intro i hk hi
    by_cases h : P i
    · obtain ⟨e, e0, e1, e2, e3⟩ := ih (i + 1) (by omega) (by omega)
      refine ⟨e, by omega, e1, fun j j0 j1 => ?_, e3⟩
      by_cases hj : j = i
      · rw [hj]; exact h
      · exact e2 j (by omega) j1
    · exact ⟨i, by omega, hi, fun j _ _ => by omega, fun _ => h⟩
/-- letters packed into a long, as both sides do it -/
def pk (b : Int → Int) (F : Int) : Nat → Int
  | 0 => 0
  | k + 1 => mm_lor (mm_lshl (pk b F k) 8) (b (F + k))
/-- the same as a number -/
def nv (b : Int → Int) (F : Int) : Nat → Int
  | 0 => 0
  | k + 1 => nv b F k * 256 + b (F + k)
theorem lorshl {x c : Int} (x0 : 0 ≤ x) (x1 : x < 36028797018963968) (c0 : 0 ≤ c) (c1 : c < 256) : mm_lor (mm_lshl x 8) c = x * 256 + c := by
  have hs : ((Int32.ofInt 8).toInt64 &&& 63).toBitVec.smod 64 = 8#64 := by decide +kernel
  have bx : (Int64.ofInt x).toBitVec = BitVec.ofNat 64 x.toNat := by
    apply BitVec.eq_of_toNat_eq
    rw [Int64.toBitVec_ofInt, BitVec.toNat_ofInt, BitVec.toNat_ofNat]
    omega
  have bc : (Int64.ofInt c).toBitVec = BitVec.ofNat 64 c.toNat := by
    apply BitVec.eq_of_toNat_eq
    rw [Int64.toBitVec_ofInt, BitVec.toNat_ofInt, BitVec.toNat_ofNat]
    omega
  have e1 : (Int64.ofInt (mm_lshl x 8)).toBitVec = BitVec.ofNat 64 (x.toNat * 256) := by
    unfold mm_lshl
    rw [Int64.ofInt_toInt, Int64.toBitVec_shiftLeft, hs, bx]
    apply BitVec.eq_of_toNat_eq
    rw [BitVec.shiftLeft_eq', BitVec.toNat_shiftLeft, BitVec.toNat_ofNat, BitVec.toNat_ofNat, Nat.shiftLeft_eq, BitVec.toNat_ofNat]
    have : 2 ^ (8 % 2 ^ 64) = 256 := by decide
    rw [this]
    omega
  have e2 : (Int64.ofInt (mm_lshl x 8) ||| Int64.ofInt c).toBitVec = BitVec.ofNat 64 (x.toNat * 256 + c.toNat) := by
    rw [Int64.toBitVec_or, e1, bc]
    apply BitVec.eq_of_toNat_eq
    rw [BitVec.toNat_or, BitVec.toNat_ofNat, BitVec.toNat_ofNat, BitVec.toNat_ofNat, Nat.mod_eq_of_lt (by omega), Nat.mod_eq_of_lt (by omega), Nat.mod_eq_of_lt (by omega)]
    rw [Nat.mul_comm x.toNat 256]
    exact (Nat.two_pow_add_eq_or_of_lt (i := 8) (show c.toNat < 2 ^ 8 by omega) x.toNat).symm
  unfold mm_lor
  show (Int64.ofInt (mm_lshl x 8) ||| Int64.ofInt c).toBitVec.toInt = _
  rw [e2, BitVec.toInt_eq_toNat_of_lt]
  · rw [BitVec.toNat_ofNat, Nat.mod_eq_of_lt (by omega)]
    omega
  · rw [BitVec.toNat_ofNat, Nat.mod_eq_of_lt (by omega)]
    omega
theorem nv_r {b : Int → Int} {F : Int} : ∀ k : Nat, (∀ j : Int, F ≤ j → j < F + k → isLt (b j)) → 0 ≤ nv b F k ∧ nv b F (k + 1 - 1) = nv b F k ∧ (1 ≤ k → nv b F k < 128 * 256 ^ (k - 1))
  | 0, _ => by simp [nv]
  | k + 1, h => by
    obtain ⟨h1, -, h2⟩ := nv_r k (fun j j0 j1 => h j j0 (by omega))
    have hc := h (F + k) (by omega) (by omega)
    unfold isLt at hc
    refine ⟨?_, rfl, fun _ => ?_⟩
    · show 0 ≤ nv b F k * 256 + b (F + k)
      omega
    · show nv b F k * 256 + b (F + k) < 128 * 256 ^ k
      by_cases hk : k = 0
      · subst hk
        simp [nv] at *
        omega
      · have h3 := h2 (by omega)
        have e : (256 : Int) ^ k = 256 ^ (k - 1) * 256 := by
          rw [← Int.pow_succ]
          congr 1
          omega
        rw [e]
        generalize (256 : Int) ^ (k - 1) = p at h3
        omega
theorem pk_nv {b : Int → Int} {F : Int} : ∀ k : Nat, k ≤ 8 → (∀ j : Int, F ≤ j → j < F + k → isLt (b j)) → pk b F k = nv b F k
  | 0, _, _ => rfl
  | k + 1, hk, h => by
    have hr := nv_r k (fun j j0 j1 => h j j0 (by omega))
    have hc := h (F + k) (by omega) (by omega)
    unfold isLt at hc
    have ih := pk_nv k (by omega) (fun j j0 j1 => h j j0 (by omega))
    show mm_lor (mm_lshl (pk b F k) 8) (b (F + k)) = nv b F k * 256 + b (F + k)
    rw [ih]
    refine lorshl hr.1 ?_ (by omega) (by omega)
    by_cases h0 : k = 0
    · subst h0
      simp [nv]
    · have h2 := hr.2.2 (by omega)
      have key : ∀ k : Nat, k < 7 → (128 : Int) * 256 ^ k ≤ 36028797018963968 := by decide +kernel
      have := key (k - 1) (by omega)
      omega
theorem nv_inj {f g : Int → Int} {F G : Int} : ∀ k l : Nat, (∀ j : Int, F ≤ j → j < F + k → isLt (f j)) → (∀ j : Int, G ≤ j → j < G + l → isLt (g j)) → nv f F k = nv g G l → k = l ∧ ∀ j : Nat, j < k → f (F + j) = g (G + j)
  | 0, 0, _, _, _ => ⟨rfl, fun j h => by omega⟩
  | 0, l + 1, _, hg, e => by
    have hr := nv_r l (fun j j0 j1 => hg j j0 (by omega))
    have hc := hg (G + l) (by omega) (by omega)
    unfold isLt at hc
    have e : 0 = nv g G l * 256 + g (G + l) := e
    omega
  | k + 1, 0, hf, _, e => by
    have hr := nv_r k (fun j j0 j1 => hf j j0 (by omega))
    have hc := hf (F + k) (by omega) (by omega)
    unfold isLt at hc
    have e : nv f F k * 256 + f (F + k) = 0 := e
    omega
  | k + 1, l + 1, hf, hg, e => by
    have hc := hf (F + k) (by omega) (by omega)
    have hd := hg (G + l) (by omega) (by omega)
    unfold isLt at hc hd
    have e : nv f F k * 256 + f (F + k) = nv g G l * 256 + g (G + l) := e
    obtain ⟨h1, h2⟩ := nv_inj k l (fun j j0 j1 => hf j j0 (by omega)) (fun j j0 j1 => hg j j0 (by omega)) (by omega)
    subst h1
    refine ⟨rfl, fun j hj => ?_⟩
    by_cases hjk : j = k
    · subst hjk
      omega
    · exact h2 j (by omega)
/-! the words that no name is: the class's and the reference's -/
def wsL : List Nat := [0, 8, 11, 16, 23, 31, 38, 44, 50, 56, 59, 64, 70, 73, 78, 84, 87, 92, 97, 102, 107, 112, 116, 121, 128, 133, 137, 142]
def ksL : List Nat := [1, 9, 14, 21, 29, 36, 42, 45, 51, 57, 60, 65, 71, 76, 82, 85, 90, 93, 98, 103, 108, 113, 117, 122, 127, 131, 136, 143]
def wsN (m : Nat) : Nat := wsL.getD m 0
def ksN (m : Nat) : Nat := ksL.getD m 0
def gC (j : Int) : Int := (z_strs 0).getD j.toNat 0
def gR (j : Int) : Int := (z_strs 1).getD j.toNat 0
def pC (m : Nat) : Int := nv gC (wsN m) (wsN (m + 1) - 1 - wsN m)
def pR (m : Nat) : Int := nv gR (ksN m) (ksN (m + 1) - 1 - ksN m)
theorem lenC : (z_strs 0).length = 142 := by decide +kernel
theorem lenR : (z_strs 1).length = 143 := by decide +kernel
theorem ltC : ∀ m, m < 27 → wsN m + 1 < wsN (m + 1) ∧ wsN (m + 1) ≤ wsN m + 8 ∧ wsN (m + 1) ≤ 142 ∧ gC ((wsN (m + 1) : Int) - 1) = 32 ∧ ∀ k, k < 8 → wsN m + k + 1 < wsN (m + 1) → 97 ≤ gC ((wsN m + k : Nat) : Int) ∧ gC ((wsN m + k : Nat) : Int) ≤ 122 := by decide +kernel
theorem ltR : ∀ m, m < 27 → ksN m + 1 < ksN (m + 1) ∧ ksN (m + 1) ≤ ksN m + 8 ∧ ksN (m + 1) ≤ 143 ∧ gR ((ksN (m + 1) : Int) - 1) = 32 ∧ ∀ k, k < 8 → ksN m + k + 1 < ksN (m + 1) → 97 ≤ gR ((ksN m + k : Nat) : Int) ∧ gR ((ksN m + k : Nat) : Int) ≤ 122 := by decide +kernel
/-- the first of the last r words that is N -/
def fn (P : Nat → Int) (N : Int) : Nat → Int
  | 0 => -1
  | r + 1 => if N = P (26 - r) then ((26 - r : Nat) : Int) else fn P N r
def kmL : List Int := [0, 6, 1, 2, 3, 4, 7, 8, 5, 9, 10, 11, 16, 12, 13, 14, 15, 17, 18, 19, 20, 21, 22, 26, 23, 24, 25]
/-- the class's number of a word to the reference's -/
def km (v : Int) : Int := if v = -1 then -1 else kmL.getD v.toNat 0
theorem fn_none (P : Nat → Int) (N : Int) : ∀ r : Nat, (∀ m, m < 27 → N ≠ P m) → fn P N r = -1
  | 0, _ => rfl
  | r + 1, h => by
    show (if N = P (26 - r) then _ else _) = _
    rw [if_neg (h _ (by omega))]
    exact fn_none P N r h
theorem fn_r (P : Nat → Int) (N : Int) : ∀ r : Nat, -1 ≤ fn P N r ∧ fn P N r < 27
  | 0 => by simp [fn]
  | r + 1 => by
    show -1 ≤ (if N = P (26 - r) then ((26 - r : Nat) : Int) else fn P N r) ∧ (if N = P (26 - r) then ((26 - r : Nat) : Int) else fn P N r) < 27
    have := fn_r P N r
    split <;> omega
theorem fn_km (N : Int) : km (fn pC N 27) = fn pR N 27 := by
  have k1 : ∀ m, m < 27 → km (fn pC (pC m) 27) = fn pR (pC m) 27 := by decide +kernel
  have k2 : ∀ m, m < 27 → ∃ l, l < 27 ∧ pR m = pC l := by decide +kernel
  by_cases h : ∃ m, m < 27 ∧ N = pC m
  · obtain ⟨m, hm, e⟩ := h
    rw [e]
    exact k1 m hm
  · have h1 : ∀ m, m < 27 → N ≠ pC m := fun m hm e => h ⟨m, hm, e⟩
    have h2 : ∀ m, m < 27 → N ≠ pR m := fun m hm e => by
      obtain ⟨l, hl, e2⟩ := k2 m hm
      exact h1 l hl (e.trans e2)
    rw [fn_none pC N 27 h1, fn_none pR N 27 h2]
    rfl
theorem km_m1 {v : Int} (h0 : -1 ≤ v) (h1 : v < 27) : km v = -1 ↔ v = -1 := by
  have key : ∀ k : Nat, k < 27 → km (k : Int) ≠ -1 := by decide +kernel
  constructor
  · intro h
    by_cases hv : v = -1
    · exact hv
    · have := key v.toNat (by omega)
      rw [Int.toNat_of_nonneg (by omega)] at this
      exact absurd h this
  · intro h
    rw [h]
    rfl
theorem km_inj {v : Int} (h0 : 0 ≤ v) (h1 : v < 27) {w : Int} (hw0 : 0 ≤ w) (hw1 : w < 27) : km v = km w ↔ v = w := by
  have key : ∀ k : Nat, k < 27 → ∀ l : Nat, l < 27 → km (k : Int) = km (l : Int) → k = l := by decide +kernel
  constructor
  · intro h
    have := key v.toNat (by omega) w.toNat (by omega) (by rw [Int.toNat_of_nonneg h0, Int.toNat_of_nonneg hw0]; exact h)
    omega
  · intro h
    rw [h]
/-! a token: F where it begins, E where it ends, K the class's kind, V its value, W its name -/
def dv (b : Int → Int) (F : Int) : Nat → Int
  | 0 => 0
  | k + 1 => dv b F k * 10 + b (F + k) - 48
theorem dv_r {b : Int → Int} {F : Int} : ∀ k : Nat, (∀ j : Int, F ≤ j → j < F + k → isDg (b j)) → 0 ≤ dv b F k ∧ dv b F k < 10 ^ k
  | 0, _ => by simp [dv]
  | k + 1, h => by
    have ih := dv_r k (fun j j0 j1 => h j j0 (by omega))
    have hc := h (F + k) (by omega) (by omega)
    unfold isDg at hc
    have e : (10 : Int) ^ (k + 1) = 10 ^ k * 10 := Int.pow_succ _ _
    show 0 ≤ dv b F k * 10 + b (F + k) - 48 ∧ dv b F k * 10 + b (F + k) - 48 < 10 ^ (k + 1)
    rw [e]
    omega
def Tk (b : Int → Int) (n F E K V W : Int) : Prop := 0 ≤ F ∧ F ≤ E ∧ E ≤ n ∧
  ((K = 0 ∧ F = n ∧ E = n) ∨
   (F < E ∧ (∀ j, F ≤ j → j < E → isLt (b j)) ∧ (E < n → ¬ isLt (b E)) ∧ W = pk b F (E - F).toNat ∧
     ((8 < E - F ∧ K = 4) ∨ (E - F ≤ 8 ∧ fn pC W 27 = -1 ∧ K = 3) ∨ (E - F ≤ 8 ∧ fn pC W 27 ≠ -1 ∧ K = 2 ∧ V = fn pC W 27))) ∨
   (F < E ∧ (∀ j, F ≤ j → j < E → isDg (b j)) ∧ (E < n → ¬ isDg (b E)) ∧ ((4 < E - F ∧ K = 1) ∨ (E - F ≤ 4 ∧ K = 5 ∧ V = dv b F (E - F).toNat))) ∨
   (E = F + 1 ∧ ¬ isLt (b F) ∧ ¬ isDg (b F) ∧ ¬ isBl (b F) ∧ V = b F ∧ ((K = 6 ∧ isSg (b F)) ∨ (K = 1 ∧ ¬ isSg (b F)))))
theorem tk_ex (b : Int → Int) (n i : Int) (i0 : 0 ≤ i) (i1 : i ≤ n) : ∃ F E K V W, i ≤ F ∧ (∀ j, i ≤ j → j < F → isBl (b j)) ∧ (F < n → ¬ isBl (b F)) ∧ Tk b n F E K V W := by
  obtain ⟨F, f0, f1, f2, f3⟩ := run_ex (fun j => isBl (b j)) n _ i rfl i1
  by_cases hF : F = n
  · exact ⟨F, n, 0, 0, 0, f0, f2, f3, by omega, by omega, by omega, Or.inl ⟨rfl, hF, rfl⟩⟩
  · by_cases hl : isLt (b F)
    · obtain ⟨E, e0, e1, e2, e3⟩ := run_ex (fun j => isLt (b j)) n _ F rfl f1
      have hE : F < E := by
        by_cases x : E = F
        · exact absurd hl (by rw [← x]; exact e3 (by omega))
        · omega
      by_cases h8 : 8 < E - F
      · exact ⟨F, E, 4, 0, pk b F (E - F).toNat, f0, f2, f3, by omega, e0, e1, Or.inr (Or.inl ⟨hE, e2, e3, rfl, Or.inl ⟨h8, rfl⟩⟩)⟩
      · by_cases hw : fn pC (pk b F (E - F).toNat) 27 = -1
        · exact ⟨F, E, 3, 0, pk b F (E - F).toNat, f0, f2, f3, by omega, e0, e1, Or.inr (Or.inl ⟨hE, e2, e3, rfl, Or.inr (Or.inl ⟨by omega, hw, rfl⟩)⟩)⟩
        · exact ⟨F, E, 2, _, pk b F (E - F).toNat, f0, f2, f3, by omega, e0, e1, Or.inr (Or.inl ⟨hE, e2, e3, rfl, Or.inr (Or.inr ⟨by omega, hw, rfl, rfl⟩)⟩)⟩
    · by_cases hd : isDg (b F)
      · obtain ⟨E, e0, e1, e2, e3⟩ := run_ex (fun j => isDg (b j)) n _ F rfl f1
        have hE : F < E := by
          by_cases x : E = F
          · exact absurd hd (by rw [← x]; exact e3 (by omega))
          · omega
        by_cases h4 : 4 < E - F
        · exact ⟨F, E, 1, 0, 0, f0, f2, f3, by omega, e0, e1, Or.inr (Or.inr (Or.inl ⟨hE, e2, e3, Or.inl ⟨h4, rfl⟩⟩))⟩
        · exact ⟨F, E, 5, _, 0, f0, f2, f3, by omega, e0, e1, Or.inr (Or.inr (Or.inl ⟨hE, e2, e3, Or.inr ⟨by omega, rfl, rfl⟩⟩))⟩
      · by_cases hs : isSg (b F)
        · exact ⟨F, F + 1, 6, _, 0, f0, f2, f3, by omega, by omega, by omega, Or.inr (Or.inr (Or.inr ⟨rfl, hl, hd, f3 (by omega), rfl, Or.inl ⟨rfl, hs⟩⟩))⟩
        · exact ⟨F, F + 1, 1, _, 0, f0, f2, f3, by omega, by omega, by omega, Or.inr (Or.inr (Or.inr ⟨rfl, hl, hd, f3 (by omega), rfl, Or.inr ⟨rfl, hs⟩⟩))⟩
