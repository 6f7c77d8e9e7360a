/-! the state behind the two constructors: what lies where; reading and writing by place -/
abbrev mS : Type := (Nat → Nat → Int) × (Nat → Int → Int)
abbrev sT : Type := (Nat × List Nat) ⊕ ((Nat × Nat) ⊕ (Nat × Nat × Int × Int))
def shTab : List sT := [
  .inl (11, [6, 7, 9, 22, 35, 41, 55, 63, 64, 65, 68, 70, 73, 76, 0, 0, 1, 1]),
  .inr (.inr (18, 4, 76, 2)),
  .inl (7, [8, 0, 0, 0, 0, 0, 0, 1, 0, 0, 0]),
  .inr (.inl (0, 900)),
  .inl (5, [0, 0, 0, 0, 10, 11, 0, 12, 13, 14, 0, 15, 16, 17, 18, 19, 20, 21]),
  .inr (.inl (0, 25)),
  .inr (.inl (0, 25)),
  .inr (.inl (0, 7)),
  .inr (.inl (0, 7)),
  .inr (.inl (3, 7)),
  .inr (.inl (0, 5)),
  .inr (.inl (0, 5)),
  .inr (.inl (0, 5)),
  .inr (.inl (0, 5)),
  .inr (.inl (0, 5)),
  .inr (.inl (0, 5)),
  .inr (.inl (3, 5)),
  .inl (5, [0, 0, 0, 0, 23, 24, 0, 25, 26, 27, 0, 28, 29, 30, 31, 32, 33, 34]),
  .inr (.inl (0, 25)),
  .inr (.inl (0, 25)),
  .inr (.inl (0, 7)),
  .inr (.inl (0, 7)),
  .inr (.inl (3, 7)),
  .inr (.inl (0, 5)),
  .inr (.inl (0, 5)),
  .inr (.inl (0, 5)),
  .inr (.inl (0, 5)),
  .inr (.inl (0, 5)),
  .inr (.inl (0, 5)),
  .inr (.inl (3, 5)),
  .inl (0, [0, 0, 0, 36, 37, 38, 39, 40]),
  .inr (.inl (0, 60)),
  .inr (.inl (0, 60)),
  .inr (.inl (0, 60)),
  .inr (.inl (0, 60)),
  .inr (.inl (0, 60)),
  .inl (6, [7, 42, 0, 0, 0, 1, 0]),
  .inl (5, [0, 0, 0, 0, 43, 44, 0, 45, 46, 47, 0, 48, 49, 50, 51, 52, 53, 54]),
  .inr (.inl (0, 25)),
  .inr (.inl (0, 25)),
  .inr (.inl (0, 7)),
  .inr (.inl (0, 7)),
  .inr (.inl (3, 7)),
  .inr (.inl (0, 5)),
  .inr (.inl (0, 5)),
  .inr (.inl (0, 5)),
  .inr (.inl (0, 5)),
  .inr (.inl (0, 5)),
  .inr (.inl (0, 5)),
  .inr (.inl (3, 5)),
  .inl (1, [7, 9, 56, 62, 0, 0]),
  .inl (0, [0, 0, 0, 57, 58, 59, 60, 61]),
  .inr (.inl (0, 60)),
  .inr (.inl (0, 60)),
  .inr (.inl (0, 60)),
  .inr (.inl (0, 60)),
  .inr (.inl (0, 60)),
  .inr (.inl (0, 3)),
  .inr (.inr (15, 3, 84, 13)),
  .inr (.inr (10, 3, 123, 6)),
  .inl (4, [9, 35, 66, 67, 0, 0, 0, 0, 0, 0, 0, 0]),
  .inr (.inl (0, 60)),
  .inr (.inl (0, 5)),
  .inl (9, [9, 69]),
  .inr (.inl (0, 25)),
  .inl (3, [9, 71, 72]),
  .inr (.inl (0, 7)),
  .inr (.inl (0, 128)),
  .inl (2, [9, 74, 75]),
  .inr (.inl (0, 25)),
  .inr (.inl (0, 25)),
  .inl (10, [9, 77]),
  .inr (.inl (0, 19)),
  .inl (8, [79, 0, 0]),
  .inr (.inl (3, 60)),
  .inl (8, [81, 0, 0]),
  .inr (.inl (3, 60)),
  .inl (8, [83, 0, 0]),
  .inr (.inl (3, 60)),
  .inl (8, [85, 0, 0]),
  .inr (.inl (3, 60)),
  .inl (5, [0, 0, 0, 0, 87, 88, 0, 89, 90, 91, 0, 92, 93, 94, 95, 96, 97, 98]),
  .inr (.inl (0, 25)),
  .inr (.inl (0, 25)),
  .inr (.inl (0, 7)),
  .inr (.inl (0, 7)),
  .inr (.inl (3, 7)),
  .inr (.inl (0, 5)),
  .inr (.inl (0, 5)),
  .inr (.inl (0, 5)),
  .inr (.inl (0, 5)),
  .inr (.inl (0, 5)),
  .inr (.inl (0, 5)),
  .inr (.inl (3, 5)),
  .inl (5, [0, 0, 0, 0, 100, 101, 0, 102, 103, 104, 0, 105, 106, 107, 108, 109, 110, 111]),
  .inr (.inl (0, 25)),
  .inr (.inl (0, 25)),
  .inr (.inl (0, 7)),
  .inr (.inl (0, 7)),
  .inr (.inl (3, 7)),
  .inr (.inl (0, 5)),
  .inr (.inl (0, 5)),
  .inr (.inl (0, 5)),
  .inr (.inl (0, 5)),
  .inr (.inl (0, 5)),
  .inr (.inl (0, 5)),
  .inr (.inl (3, 5)),
  .inl (5, [0, 0, 0, 0, 113, 114, 0, 115, 116, 117, 0, 118, 119, 120, 121, 122, 123, 124]),
  .inr (.inl (0, 25)),
  .inr (.inl (0, 25)),
  .inr (.inl (0, 7)),
  .inr (.inl (0, 7)),
  .inr (.inl (3, 7)),
  .inr (.inl (0, 5)),
  .inr (.inl (0, 5)),
  .inr (.inl (0, 5)),
  .inr (.inl (0, 5)),
  .inr (.inl (0, 5)),
  .inr (.inl (0, 5)),
  .inr (.inl (3, 5)),
  .inl (0, [0, 0, 0, 126, 127, 128, 129, 130]),
  .inr (.inl (0, 60)),
  .inr (.inl (0, 60)),
  .inr (.inl (0, 60)),
  .inr (.inl (0, 60)),
  .inr (.inl (0, 60)),
  .inl (0, [0, 0, 0, 132, 133, 134, 135, 136]),
  .inr (.inl (0, 60)),
  .inr (.inl (0, 60)),
  .inr (.inl (0, 60)),
  .inr (.inl (0, 60)),
  .inr (.inl (0, 60)),
  .inl (0, [0, 0, 0, 138, 139, 140, 141, 142]),
  .inr (.inl (0, 60)),
  .inr (.inl (0, 60)),
  .inr (.inl (0, 60)),
  .inr (.inl (0, 60)),
  .inr (.inl (0, 60)),
  .inl (12, [144, 145, 0, 1, 1, 146, 147, 148, 149, 150, 0, 0, 0, 0, 0, 0, 0, 0, 0, 0, 0, 151, 0, 0, 0, 152, 153, 154, 155, 156, 157, 158, 0, 0, 159, 160, 161, 0, 0]),
  .inr (.inl (0, 2464)),
  .inr (.inl (3, 72)),
  .inr (.inl (0, 4)),
  .inr (.inl (0, 4)),
  .inr (.inl (3, 240)),
  .inr (.inl (1, 900)),
  .inr (.inl (1, 900)),
  .inr (.inl (0, 3)),
  .inr (.inl (0, 25)),
  .inr (.inl (0, 25)),
  .inr (.inl (0, 7)),
  .inr (.inl (0, 128)),
  .inr (.inl (2, 10)),
  .inr (.inl (2, 3125)),
  .inr (.inl (3, 13)),
  .inr (.inl (0, 80)),
  .inr (.inl (0, 5)),
  .inr (.inl (0, 5))]
def sh (q : Nat) : Option sT := if q < 3 then none else shTab[q - 3]?
/-- 0 an int, 1 a long, n + 2 the reference n -/
def mkfs (g : Nat → Int) : Nat → List Nat → List mV
  | _, [] => []
  | k, 0 :: r => .inl (g k) :: mkfs g (k + 1) r
  | k, 1 :: r => .inr (.inl (g k)) :: mkfs g (k + 1) r
  | k, (n + 2) :: r => .inr (.inr (some n)) :: mkfs g (k + 1) r
def rfa (n : Nat) (b m : Int) : Int → Int := match n with
  | 0 => fun _ => -1
  | k + 1 => mm_upd (rfa k b m) k (b + m * k)
def mkc (s : mS) (q : Nat) : mC := match sh q with
  | some (.inl a) => .inl (a.1, mkfs (s.1 q) 0 a.2)
  | some (.inr (.inl a)) => .inr (a.1, a.2, s.2 q)
  | some (.inr (.inr a)) => .inr (a.1, a.2.1, rfa a.2.1 a.2.2.1 a.2.2.2)
  | none => .inr (99, 0, fun _ => 0)
def mk (s : mS) : mW := (mkc s, 160, 11856)
def uF (s : mS) (q k : Nat) (v : Int) : mS := (fun q' k' => if q' = q ∧ k' = k then v else s.1 q' k', s.2)
def uA (s : mS) (q : Nat) (i v : Int) : mS := (s.1, fun q' j => if q' = q ∧ j = i then v else s.2 q' j)
theorem uF_1 (s : mS) (q k : Nat) (v : Int) (q' k' : Nat) : (uF s q k v).1 q' k' = if q' = q ∧ k' = k then v else s.1 q' k' := rfl
theorem uF_2 (s : mS) (q k : Nat) (v : Int) : (uF s q k v).2 = s.2 := rfl
theorem uA_1 (s : mS) (q : Nat) (i v : Int) : (uA s q i v).1 = s.1 := rfl
theorem uA_2 (s : mS) (q : Nat) (i v : Int) (q' : Nat) (j : Int) : (uA s q i v).2 q' j = if q' = q ∧ j = i then v else s.2 q' j := rfl
def kdOf (q c k : Nat) : Option Nat := match sh q with
  | some (.inl a) => if a.1 = c then a.2[k]? else none
  | _ => none
def arOf (q : Nat) : Option (Nat × Nat) := match sh q with
  | some (.inr (.inl a)) => some a
  | _ => none
theorem mkfs_get (g : Nat → Int) : ∀ (l : List Nat) (b k : Nat), (mkfs g b l)[k]? = (l[k]?).map fun t => match t with | 0 => .inl (g (b + k)) | 1 => .inr (.inl (g (b + k))) | n + 2 => .inr (.inr (some n))
  | [], _, _ => by simp [mkfs]
  | t :: r, b, 0 => by rcases t with _ | _ | n <;> simp [mkfs]
  | t :: r, b, k + 1 => by
    have ih := mkfs_get g r (b + 1) k
    rw [show b + 1 + k = b + (k + 1) by omega] at ih
    rcases t with _ | _ | n <;> simpa [mkfs] using ih
theorem mkfs_len (g : Nat → Int) : ∀ (l : List Nat) (b : Nat), (mkfs g b l).length = l.length
  | [], _ => rfl
  | t :: r, b => by rcases t with _ | _ | n <;> simp [mkfs, mkfs_len g r]
theorem mkfs_ext (g g' : Nat → Int) : ∀ (l : List Nat) (b : Nat), (∀ k, b ≤ k → g k = g' k) → mkfs g b l = mkfs g' b l
  | [], _, _ => rfl
  | t :: r, b, h => by
    have ih := mkfs_ext g g' r (b + 1) (fun k hk => h k (by omega))
    rcases t with _ | _ | n <;> simp [mkfs, ih, h b (Nat.le_refl b)]
theorem mkfs_set (g g' : Nat → Int) (v : mV) : ∀ (l : List Nat) (b k : Nat), (∀ j, j ≠ b + k → g' j = g j) → (l[k]? = some 0 ∧ v = .inl (g' (b + k)) ∨ l[k]? = some 1 ∧ v = .inr (.inl (g' (b + k)))) → (mkfs g b l).set k v = mkfs g' b l
  | [], _, _, _, h => by simp at h
  | t :: r, b, 0, hg, h => by
    have e := mkfs_ext g g' r (b + 1) (fun k hk => (hg k (by omega)).symm)
    rcases h with ⟨h1, h2⟩ | ⟨h1, h2⟩ <;> simp at h1 <;> subst h1 <;> subst h2 <;> simp [mkfs, e]
  | t :: r, b, k + 1, hg, h => by
    have ih := mkfs_set g g' v r (b + 1) k (fun j hj => hg j (by omega)) (by rw [show b + 1 + k = b + (k + 1) by omega]; simpa using h)
    have e := hg b (by omega)
    rcases t with _ | _ | n <;> simp [mkfs, ih, e]
theorem kdOf_sh {q c k t : Nat} (h : kdOf q c k = some t) : ∃ l, sh q = some (.inl (c, l)) ∧ l[k]? = some t := by
  unfold kdOf at h
  split at h
  · rename_i a ha
    split at h
    · rename_i hc
      obtain ⟨x, y⟩ := a
      simp only at hc h
      subst hc
      exact ⟨y, ha, h⟩
    · cases h
  · cases h
theorem arOf_sh {q kd n : Nat} (h : arOf q = some (kd, n)) : sh q = some (.inr (.inl (kd, n))) := by
  unfold arOf at h
  split at h
  · rename_i a ha
    cases h
    exact ha
  · cases h
theorem mk_gI (s : mS) {q c k : Nat} (h : kdOf q c k = some 0) : mm_gI (mk s) q c k = some (s.1 q k) := by
  obtain ⟨l, h1, h2⟩ := kdOf_sh h
  have e : (mk s).1 q = .inl (c, mkfs (s.1 q) 0 l) := by show mkc s q = _; unfold mkc; rw [h1]
  unfold mm_gI
  rw [e]
  simp [mkfs_get, h2]
theorem mk_gJ (s : mS) {q c k : Nat} (h : kdOf q c k = some 1) : mm_gJ (mk s) q c k = some (s.1 q k) := by
  obtain ⟨l, h1, h2⟩ := kdOf_sh h
  have e : (mk s).1 q = .inl (c, mkfs (s.1 q) 0 l) := by show mkc s q = _; unfold mkc; rw [h1]
  unfold mm_gJ
  rw [e]
  simp [mkfs_get, h2]
theorem mk_gR (s : mS) {q c k n : Nat} (h : kdOf q c k = some (n + 2)) : mm_gR (mk s) q c k = some (some n) := by
  obtain ⟨l, h1, h2⟩ := kdOf_sh h
  have e : (mk s).1 q = .inl (c, mkfs (s.1 q) 0 l) := by show mkc s q = _; unfold mkc; rw [h1]
  unfold mm_gR
  rw [e]
  simp [mkfs_get, h2]
theorem mk_cls (s : mS) {q c k t : Nat} (h : kdOf q c k = some t) : mm_cls (mk s) q = c := by
  obtain ⟨l, h1, h2⟩ := kdOf_sh h
  have e : (mk s).1 q = .inl (c, mkfs (s.1 q) 0 l) := by show mkc s q = _; unfold mkc; rw [h1]
  unfold mm_cls
  rw [e]
theorem mk_ext {s : mS} {w : mW} (h1 : ∀ q, w.1 q = mkc s q) (h2 : w.2 = (mk s).2) : w = mk s := by
  obtain ⟨f, n⟩ := w
  simp only at h1 h2
  subst h2
  have : f = mkc s := funext h1
  subst this
  rfl
theorem mk_pI (s : mS) {q c k : Nat} (h : kdOf q c k = some 0) (v : Int) : mm_p (mk s) q c k (.inl v) = some (mk (uF s q k v)) := by
  obtain ⟨l, h1, h2⟩ := kdOf_sh h
  have e : (mk s).1 q = .inl (c, mkfs (s.1 q) 0 l) := by show mkc s q = _; unfold mkc; rw [h1]
  have hl : k < l.length := (List.getElem?_eq_some_iff.mp h2).1
  unfold mm_p
  rw [e]
  simp only [mkfs_len, hl, and_self, if_true, Option.some.injEq]
  apply mk_ext
  · intro q'
    show (if q' = q then _ else mkc s q') = _
    by_cases hq : q' = q
    · subst hq
      rw [if_pos rfl]
      unfold mkc
      rw [h1]
      simp only
      rw [mkfs_set (s.1 q') ((uF s q' k v).1 q') (.inl v) l 0 k (fun j hj => by simp [uF_1]; omega) (Or.inl ⟨h2, by simp [uF_1]⟩)]
    · rw [if_neg hq]
      have : (uF s q k v).1 q' = s.1 q' := by funext k'; simp [uF_1, hq]
      unfold mkc
      rw [this]
      rfl
  · rfl
theorem mk_pJ (s : mS) {q c k : Nat} (h : kdOf q c k = some 1) (v : Int) : mm_p (mk s) q c k (.inr (.inl v)) = some (mk (uF s q k v)) := by
  obtain ⟨l, h1, h2⟩ := kdOf_sh h
  have e : (mk s).1 q = .inl (c, mkfs (s.1 q) 0 l) := by show mkc s q = _; unfold mkc; rw [h1]
  have hl : k < l.length := (List.getElem?_eq_some_iff.mp h2).1
  unfold mm_p
  rw [e]
  simp only [mkfs_len, hl, and_self, if_true, Option.some.injEq]
  apply mk_ext
  · intro q'
    show (if q' = q then _ else mkc s q') = _
    by_cases hq : q' = q
    · subst hq
      rw [if_pos rfl]
      unfold mkc
      rw [h1]
      simp only
      rw [mkfs_set (s.1 q') ((uF s q' k v).1 q') (.inr (.inl v)) l 0 k (fun j hj => by simp [uF_1]; omega) (Or.inr ⟨h2, by simp [uF_1]⟩)]
    · rw [if_neg hq]
      have : (uF s q k v).1 q' = s.1 q' := by funext k'; simp [uF_1, hq]
      unfold mkc
      rw [this]
      rfl
  · rfl
theorem mk_ln (s : mS) {q kd n : Nat} (h : arOf q = some (kd, n)) (hk : kd < 90) : mm_ln (mk s) q = some (n : Int) := by
  have h1 := arOf_sh h
  have e : (mk s).1 q = .inr (kd, n, s.2 q) := by show mkc s q = _; unfold mkc; rw [h1]
  unfold mm_ln
  rw [e]
  simp [hk]
theorem mk_ld (s : mS) {q kd n : Nat} (h : arOf q = some (kd, n)) {i : Int} (h0 : 0 ≤ i) (h2 : i < n) : mm_ld kd (mk s) q i = some (s.2 q i) := by
  have h1 := arOf_sh h
  have e : (mk s).1 q = .inr (kd, n, s.2 q) := by show mkc s q = _; unfold mkc; rw [h1]
  unfold mm_ld
  rw [e]
  simp [h0, h2]
theorem mk_st (s : mS) {q kd n : Nat} (h : arOf q = some (kd, n)) {i : Int} (h0 : 0 ≤ i) (h2 : i < n) (v : Int) : mm_st kd (mk s) q i v = some (mk (uA s q i v)) := by
  have h1 := arOf_sh h
  have e : (mk s).1 q = .inr (kd, n, s.2 q) := by show mkc s q = _; unfold mkc; rw [h1]
  unfold mm_st
  rw [e]
  simp only [h0, h2, and_self, if_true, Option.some.injEq]
  apply mk_ext
  · intro q'
    show (if q' = q then _ else mkc s q') = _
    by_cases hq : q' = q
    · subst hq
      rw [if_pos rfl]
      unfold mkc
      rw [h1]
      have : mm_upd (s.2 q') i v = (uA s q' i v).2 q' := by funext j; simp [uA_2, mm_upd]
      simp only [this]
    · rw [if_neg hq]
      have : (uA s q i v).2 q' = s.2 q' := by funext k'; simp [uA_2, hq]
      unfold mkc
      rw [this]
      rfl
  · rfl
theorem mk_ldR (s : mS) {q kd n : Nat} {b m : Int} (h : sh q = some (.inr (.inr (kd, n, b, m)))) {i : Int} (h0 : 0 ≤ i) (h2 : i < n) : mm_ld kd (mk s) q i = some (b + m * i) := by
  have e : (mk s).1 q = .inr (kd, n, rfa n b m) := by show mkc s q = _; unfold mkc; rw [h]
  unfold mm_ld
  rw [e]
  simp only [h0, h2, and_self, if_true, Option.some.injEq]
  clear h e
  induction n with
  | zero => omega
  | succ n ih =>
    show (if i = (n : Int) then _ else _) = _
    by_cases hi : i = n
    · rw [if_pos hi, hi]
    · rw [if_neg hi]
      exact ih (by omega)
theorem mk_lnR (s : mS) {q kd n : Nat} {b m : Int} (h : sh q = some (.inr (.inr (kd, n, b, m)))) (hk : kd < 90) : mm_ln (mk s) q = some (n : Int) := by
  have e : (mk s).1 q = .inr (kd, n, rfa n b m) := by show mkc s q = _; unfold mkc; rw [h]
  unfold mm_ln
  rw [e]
  simp [hk]
theorem o_c3 (s : mS) : mm_cls (mk s) 3 = 11 := mk_cls s (k := 0) (t := 6) rfl
theorem o_g3_0 (s : mS) (f : Option Nat → mO) : (mm_gR (mk s) 3 11 0).bind f = f (some 4) := by rw [mk_gR s (q := 3) rfl]; rfl
theorem o_g3_1 (s : mS) (f : Option Nat → mO) : (mm_gR (mk s) 3 11 1).bind f = f (some 5) := by rw [mk_gR s (q := 3) rfl]; rfl
theorem o_g3_2 (s : mS) (f : Option Nat → mO) : (mm_gR (mk s) 3 11 2).bind f = f (some 7) := by rw [mk_gR s (q := 3) rfl]; rfl
theorem o_g3_3 (s : mS) (f : Option Nat → mO) : (mm_gR (mk s) 3 11 3).bind f = f (some 20) := by rw [mk_gR s (q := 3) rfl]; rfl
theorem o_g3_4 (s : mS) (f : Option Nat → mO) : (mm_gR (mk s) 3 11 4).bind f = f (some 33) := by rw [mk_gR s (q := 3) rfl]; rfl
theorem o_g3_5 (s : mS) (f : Option Nat → mO) : (mm_gR (mk s) 3 11 5).bind f = f (some 39) := by rw [mk_gR s (q := 3) rfl]; rfl
theorem o_g3_6 (s : mS) (f : Option Nat → mO) : (mm_gR (mk s) 3 11 6).bind f = f (some 53) := by rw [mk_gR s (q := 3) rfl]; rfl
theorem o_g3_7 (s : mS) (f : Option Nat → mO) : (mm_gR (mk s) 3 11 7).bind f = f (some 61) := by rw [mk_gR s (q := 3) rfl]; rfl
theorem o_g3_8 (s : mS) (f : Option Nat → mO) : (mm_gR (mk s) 3 11 8).bind f = f (some 62) := by rw [mk_gR s (q := 3) rfl]; rfl
theorem o_g3_9 (s : mS) (f : Option Nat → mO) : (mm_gR (mk s) 3 11 9).bind f = f (some 63) := by rw [mk_gR s (q := 3) rfl]; rfl
theorem o_g3_10 (s : mS) (f : Option Nat → mO) : (mm_gR (mk s) 3 11 10).bind f = f (some 66) := by rw [mk_gR s (q := 3) rfl]; rfl
theorem o_g3_11 (s : mS) (f : Option Nat → mO) : (mm_gR (mk s) 3 11 11).bind f = f (some 68) := by rw [mk_gR s (q := 3) rfl]; rfl
theorem o_g3_12 (s : mS) (f : Option Nat → mO) : (mm_gR (mk s) 3 11 12).bind f = f (some 71) := by rw [mk_gR s (q := 3) rfl]; rfl
theorem o_g3_13 (s : mS) (f : Option Nat → mO) : (mm_gR (mk s) 3 11 13).bind f = f (some 74) := by rw [mk_gR s (q := 3) rfl]; rfl
theorem o_g3_14 (s : mS) (f : Int → mO) : (mm_gI (mk s) 3 11 14).bind f = f (s.1 3 14) := by rw [mk_gI s (q := 3) rfl]; rfl
theorem o_p3_14 (s : mS) (f : mW → mO) (v : Int) : (mm_p (mk s) 3 11 14 (.inl v)).bind f = f (mk (uF s 3 14 v)) := by rw [mk_pI s (q := 3) rfl]; rfl
theorem o_g3_15 (s : mS) (f : Int → mO) : (mm_gI (mk s) 3 11 15).bind f = f (s.1 3 15) := by rw [mk_gI s (q := 3) rfl]; rfl
theorem o_p3_15 (s : mS) (f : mW → mO) (v : Int) : (mm_p (mk s) 3 11 15 (.inl v)).bind f = f (mk (uF s 3 15 v)) := by rw [mk_pI s (q := 3) rfl]; rfl
theorem o_g3_16 (s : mS) (f : Int → mO) : (mm_gJ (mk s) 3 11 16).bind f = f (s.1 3 16) := by rw [mk_gJ s (q := 3) rfl]; rfl
theorem o_p3_16 (s : mS) (f : mW → mO) (v : Int) : (mm_p (mk s) 3 11 16 (.inr (.inl v))).bind f = f (mk (uF s 3 16 v)) := by rw [mk_pJ s (q := 3) rfl]; rfl
theorem o_g3_17 (s : mS) (f : Int → mO) : (mm_gJ (mk s) 3 11 17).bind f = f (s.1 3 17) := by rw [mk_gJ s (q := 3) rfl]; rfl
theorem o_p3_17 (s : mS) (f : mW → mO) (v : Int) : (mm_p (mk s) 3 11 17 (.inr (.inl v))).bind f = f (mk (uF s 3 17 v)) := by rw [mk_pJ s (q := 3) rfl]; rfl
theorem a_ln4 (s : mS) (f : Int → mO) : (mm_ln (mk s) 4).bind f = f 4 := by rw [mk_lnR s (q := 4) rfl (by decide)]; rfl
theorem a_ld4 (s : mS) (f : Int → mO) (i : Int) (h0 : 0 ≤ i) (h1 : i < 4) : (mm_ld 18 (mk s) 4 i).bind f = f (76 + 2 * i) := by rw [mk_ldR s (q := 4) rfl h0 h1]; rfl
theorem a_ln61 (s : mS) (f : Int → mO) : (mm_ln (mk s) 61).bind f = f 3 := by rw [mk_lnR s (q := 61) rfl (by decide)]; rfl
theorem a_ld61 (s : mS) (f : Int → mO) (i : Int) (h0 : 0 ≤ i) (h1 : i < 3) : (mm_ld 15 (mk s) 61 i).bind f = f (84 + 13 * i) := by rw [mk_ldR s (q := 61) rfl h0 h1]; rfl
theorem a_ln62 (s : mS) (f : Int → mO) : (mm_ln (mk s) 62).bind f = f 3 := by rw [mk_lnR s (q := 62) rfl (by decide)]; rfl
theorem a_ld62 (s : mS) (f : Int → mO) (i : Int) (h0 : 0 ≤ i) (h1 : i < 3) : (mm_ld 10 (mk s) 62 i).bind f = f (123 + 6 * i) := by rw [mk_ldR s (q := 62) rfl h0 h1]; rfl
theorem o_c5 (s : mS) : mm_cls (mk s) 5 = 7 := mk_cls s (k := 0) (t := 8) rfl
theorem o_g5_0 (s : mS) (f : Option Nat → mO) : (mm_gR (mk s) 5 7 0).bind f = f (some 6) := by rw [mk_gR s (q := 5) rfl]; rfl
theorem o_g5_1 (s : mS) (f : Int → mO) : (mm_gI (mk s) 5 7 1).bind f = f (s.1 5 1) := by rw [mk_gI s (q := 5) rfl]; rfl
theorem o_p5_1 (s : mS) (f : mW → mO) (v : Int) : (mm_p (mk s) 5 7 1 (.inl v)).bind f = f (mk (uF s 5 1 v)) := by rw [mk_pI s (q := 5) rfl]; rfl
theorem o_g5_2 (s : mS) (f : Int → mO) : (mm_gI (mk s) 5 7 2).bind f = f (s.1 5 2) := by rw [mk_gI s (q := 5) rfl]; rfl
theorem o_p5_2 (s : mS) (f : mW → mO) (v : Int) : (mm_p (mk s) 5 7 2 (.inl v)).bind f = f (mk (uF s 5 2 v)) := by rw [mk_pI s (q := 5) rfl]; rfl
theorem o_g5_3 (s : mS) (f : Int → mO) : (mm_gI (mk s) 5 7 3).bind f = f (s.1 5 3) := by rw [mk_gI s (q := 5) rfl]; rfl
theorem o_p5_3 (s : mS) (f : mW → mO) (v : Int) : (mm_p (mk s) 5 7 3 (.inl v)).bind f = f (mk (uF s 5 3 v)) := by rw [mk_pI s (q := 5) rfl]; rfl
theorem o_g5_4 (s : mS) (f : Int → mO) : (mm_gI (mk s) 5 7 4).bind f = f (s.1 5 4) := by rw [mk_gI s (q := 5) rfl]; rfl
theorem o_p5_4 (s : mS) (f : mW → mO) (v : Int) : (mm_p (mk s) 5 7 4 (.inl v)).bind f = f (mk (uF s 5 4 v)) := by rw [mk_pI s (q := 5) rfl]; rfl
theorem o_g5_5 (s : mS) (f : Int → mO) : (mm_gI (mk s) 5 7 5).bind f = f (s.1 5 5) := by rw [mk_gI s (q := 5) rfl]; rfl
theorem o_p5_5 (s : mS) (f : mW → mO) (v : Int) : (mm_p (mk s) 5 7 5 (.inl v)).bind f = f (mk (uF s 5 5 v)) := by rw [mk_pI s (q := 5) rfl]; rfl
theorem o_g5_6 (s : mS) (f : Int → mO) : (mm_gI (mk s) 5 7 6).bind f = f (s.1 5 6) := by rw [mk_gI s (q := 5) rfl]; rfl
theorem o_p5_6 (s : mS) (f : mW → mO) (v : Int) : (mm_p (mk s) 5 7 6 (.inl v)).bind f = f (mk (uF s 5 6 v)) := by rw [mk_pI s (q := 5) rfl]; rfl
theorem o_g5_7 (s : mS) (f : Int → mO) : (mm_gJ (mk s) 5 7 7).bind f = f (s.1 5 7) := by rw [mk_gJ s (q := 5) rfl]; rfl
theorem o_p5_7 (s : mS) (f : mW → mO) (v : Int) : (mm_p (mk s) 5 7 7 (.inr (.inl v))).bind f = f (mk (uF s 5 7 v)) := by rw [mk_pJ s (q := 5) rfl]; rfl
theorem o_g5_8 (s : mS) (f : Int → mO) : (mm_gI (mk s) 5 7 8).bind f = f (s.1 5 8) := by rw [mk_gI s (q := 5) rfl]; rfl
theorem o_p5_8 (s : mS) (f : mW → mO) (v : Int) : (mm_p (mk s) 5 7 8 (.inl v)).bind f = f (mk (uF s 5 8 v)) := by rw [mk_pI s (q := 5) rfl]; rfl
theorem o_g5_9 (s : mS) (f : Int → mO) : (mm_gI (mk s) 5 7 9).bind f = f (s.1 5 9) := by rw [mk_gI s (q := 5) rfl]; rfl
theorem o_p5_9 (s : mS) (f : mW → mO) (v : Int) : (mm_p (mk s) 5 7 9 (.inl v)).bind f = f (mk (uF s 5 9 v)) := by rw [mk_pI s (q := 5) rfl]; rfl
theorem o_g5_10 (s : mS) (f : Int → mO) : (mm_gI (mk s) 5 7 10).bind f = f (s.1 5 10) := by rw [mk_gI s (q := 5) rfl]; rfl
theorem o_p5_10 (s : mS) (f : mW → mO) (v : Int) : (mm_p (mk s) 5 7 10 (.inl v)).bind f = f (mk (uF s 5 10 v)) := by rw [mk_pI s (q := 5) rfl]; rfl
theorem a_ln6 (s : mS) (f : Int → mO) : (mm_ln (mk s) 6).bind f = f 900 := by rw [mk_ln s (q := 6) rfl (by decide)]; rfl
theorem a_ld6 (s : mS) (f : Int → mO) (i : Int) (h0 : 0 ≤ i) (h1 : i < 900) : (mm_ld 0 (mk s) 6 i).bind f = f (s.2 6 i) := by rw [mk_ld s (q := 6) rfl h0 h1]; rfl
theorem a_st6 (s : mS) (f : mW → mO) (i v : Int) (h0 : 0 ≤ i) (h1 : i < 900) : (mm_st 0 (mk s) 6 i v).bind f = f (mk (uA s 6 i v)) := by rw [mk_st s (q := 6) rfl h0 h1]; rfl
theorem o_c33 (s : mS) : mm_cls (mk s) 33 = 0 := mk_cls s (k := 0) (t := 0) rfl
theorem o_g33_0 (s : mS) (f : Int → mO) : (mm_gI (mk s) 33 0 0).bind f = f (s.1 33 0) := by rw [mk_gI s (q := 33) rfl]; rfl
theorem o_p33_0 (s : mS) (f : mW → mO) (v : Int) : (mm_p (mk s) 33 0 0 (.inl v)).bind f = f (mk (uF s 33 0 v)) := by rw [mk_pI s (q := 33) rfl]; rfl
theorem o_g33_1 (s : mS) (f : Int → mO) : (mm_gI (mk s) 33 0 1).bind f = f (s.1 33 1) := by rw [mk_gI s (q := 33) rfl]; rfl
theorem o_p33_1 (s : mS) (f : mW → mO) (v : Int) : (mm_p (mk s) 33 0 1 (.inl v)).bind f = f (mk (uF s 33 1 v)) := by rw [mk_pI s (q := 33) rfl]; rfl
theorem o_g33_2 (s : mS) (f : Int → mO) : (mm_gI (mk s) 33 0 2).bind f = f (s.1 33 2) := by rw [mk_gI s (q := 33) rfl]; rfl
theorem o_p33_2 (s : mS) (f : mW → mO) (v : Int) : (mm_p (mk s) 33 0 2 (.inl v)).bind f = f (mk (uF s 33 2 v)) := by rw [mk_pI s (q := 33) rfl]; rfl
theorem o_g33_3 (s : mS) (f : Option Nat → mO) : (mm_gR (mk s) 33 0 3).bind f = f (some 34) := by rw [mk_gR s (q := 33) rfl]; rfl
theorem o_g33_4 (s : mS) (f : Option Nat → mO) : (mm_gR (mk s) 33 0 4).bind f = f (some 35) := by rw [mk_gR s (q := 33) rfl]; rfl
theorem o_g33_5 (s : mS) (f : Option Nat → mO) : (mm_gR (mk s) 33 0 5).bind f = f (some 36) := by rw [mk_gR s (q := 33) rfl]; rfl
theorem o_g33_6 (s : mS) (f : Option Nat → mO) : (mm_gR (mk s) 33 0 6).bind f = f (some 37) := by rw [mk_gR s (q := 33) rfl]; rfl
theorem o_g33_7 (s : mS) (f : Option Nat → mO) : (mm_gR (mk s) 33 0 7).bind f = f (some 38) := by rw [mk_gR s (q := 33) rfl]; rfl
theorem a_ln34 (s : mS) (f : Int → mO) : (mm_ln (mk s) 34).bind f = f 60 := by rw [mk_ln s (q := 34) rfl (by decide)]; rfl
theorem a_ld34 (s : mS) (f : Int → mO) (i : Int) (h0 : 0 ≤ i) (h1 : i < 60) : (mm_ld 0 (mk s) 34 i).bind f = f (s.2 34 i) := by rw [mk_ld s (q := 34) rfl h0 h1]; rfl
theorem a_st34 (s : mS) (f : mW → mO) (i v : Int) (h0 : 0 ≤ i) (h1 : i < 60) : (mm_st 0 (mk s) 34 i v).bind f = f (mk (uA s 34 i v)) := by rw [mk_st s (q := 34) rfl h0 h1]; rfl
theorem a_ln35 (s : mS) (f : Int → mO) : (mm_ln (mk s) 35).bind f = f 60 := by rw [mk_ln s (q := 35) rfl (by decide)]; rfl
theorem a_ld35 (s : mS) (f : Int → mO) (i : Int) (h0 : 0 ≤ i) (h1 : i < 60) : (mm_ld 0 (mk s) 35 i).bind f = f (s.2 35 i) := by rw [mk_ld s (q := 35) rfl h0 h1]; rfl
theorem a_st35 (s : mS) (f : mW → mO) (i v : Int) (h0 : 0 ≤ i) (h1 : i < 60) : (mm_st 0 (mk s) 35 i v).bind f = f (mk (uA s 35 i v)) := by rw [mk_st s (q := 35) rfl h0 h1]; rfl
theorem a_ln36 (s : mS) (f : Int → mO) : (mm_ln (mk s) 36).bind f = f 60 := by rw [mk_ln s (q := 36) rfl (by decide)]; rfl
theorem a_ld36 (s : mS) (f : Int → mO) (i : Int) (h0 : 0 ≤ i) (h1 : i < 60) : (mm_ld 0 (mk s) 36 i).bind f = f (s.2 36 i) := by rw [mk_ld s (q := 36) rfl h0 h1]; rfl
theorem a_st36 (s : mS) (f : mW → mO) (i v : Int) (h0 : 0 ≤ i) (h1 : i < 60) : (mm_st 0 (mk s) 36 i v).bind f = f (mk (uA s 36 i v)) := by rw [mk_st s (q := 36) rfl h0 h1]; rfl
theorem a_ln37 (s : mS) (f : Int → mO) : (mm_ln (mk s) 37).bind f = f 60 := by rw [mk_ln s (q := 37) rfl (by decide)]; rfl
theorem a_ld37 (s : mS) (f : Int → mO) (i : Int) (h0 : 0 ≤ i) (h1 : i < 60) : (mm_ld 0 (mk s) 37 i).bind f = f (s.2 37 i) := by rw [mk_ld s (q := 37) rfl h0 h1]; rfl
theorem a_st37 (s : mS) (f : mW → mO) (i v : Int) (h0 : 0 ≤ i) (h1 : i < 60) : (mm_st 0 (mk s) 37 i v).bind f = f (mk (uA s 37 i v)) := by rw [mk_st s (q := 37) rfl h0 h1]; rfl
theorem a_ln38 (s : mS) (f : Int → mO) : (mm_ln (mk s) 38).bind f = f 60 := by rw [mk_ln s (q := 38) rfl (by decide)]; rfl
theorem a_ld38 (s : mS) (f : Int → mO) (i : Int) (h0 : 0 ≤ i) (h1 : i < 60) : (mm_ld 0 (mk s) 38 i).bind f = f (s.2 38 i) := by rw [mk_ld s (q := 38) rfl h0 h1]; rfl
theorem a_st38 (s : mS) (f : mW → mO) (i v : Int) (h0 : 0 ≤ i) (h1 : i < 60) : (mm_st 0 (mk s) 38 i v).bind f = f (mk (uA s 38 i v)) := by rw [mk_st s (q := 38) rfl h0 h1]; rfl
theorem o_c39 (s : mS) : mm_cls (mk s) 39 = 6 := mk_cls s (k := 0) (t := 7) rfl
theorem o_g39_0 (s : mS) (f : Option Nat → mO) : (mm_gR (mk s) 39 6 0).bind f = f (some 5) := by rw [mk_gR s (q := 39) rfl]; rfl
theorem o_g39_1 (s : mS) (f : Option Nat → mO) : (mm_gR (mk s) 39 6 1).bind f = f (some 40) := by rw [mk_gR s (q := 39) rfl]; rfl
theorem o_g39_2 (s : mS) (f : Int → mO) : (mm_gI (mk s) 39 6 2).bind f = f (s.1 39 2) := by rw [mk_gI s (q := 39) rfl]; rfl
theorem o_p39_2 (s : mS) (f : mW → mO) (v : Int) : (mm_p (mk s) 39 6 2 (.inl v)).bind f = f (mk (uF s 39 2 v)) := by rw [mk_pI s (q := 39) rfl]; rfl
theorem o_g39_3 (s : mS) (f : Int → mO) : (mm_gI (mk s) 39 6 3).bind f = f (s.1 39 3) := by rw [mk_gI s (q := 39) rfl]; rfl
theorem o_p39_3 (s : mS) (f : mW → mO) (v : Int) : (mm_p (mk s) 39 6 3 (.inl v)).bind f = f (mk (uF s 39 3 v)) := by rw [mk_pI s (q := 39) rfl]; rfl
theorem o_g39_4 (s : mS) (f : Int → mO) : (mm_gI (mk s) 39 6 4).bind f = f (s.1 39 4) := by rw [mk_gI s (q := 39) rfl]; rfl
theorem o_p39_4 (s : mS) (f : mW → mO) (v : Int) : (mm_p (mk s) 39 6 4 (.inl v)).bind f = f (mk (uF s 39 4 v)) := by rw [mk_pI s (q := 39) rfl]; rfl
theorem o_g39_5 (s : mS) (f : Int → mO) : (mm_gJ (mk s) 39 6 5).bind f = f (s.1 39 5) := by rw [mk_gJ s (q := 39) rfl]; rfl
theorem o_p39_5 (s : mS) (f : mW → mO) (v : Int) : (mm_p (mk s) 39 6 5 (.inr (.inl v))).bind f = f (mk (uF s 39 5 v)) := by rw [mk_pJ s (q := 39) rfl]; rfl
theorem o_g39_6 (s : mS) (f : Int → mO) : (mm_gI (mk s) 39 6 6).bind f = f (s.1 39 6) := by rw [mk_gI s (q := 39) rfl]; rfl
theorem o_p39_6 (s : mS) (f : mW → mO) (v : Int) : (mm_p (mk s) 39 6 6 (.inl v)).bind f = f (mk (uF s 39 6 v)) := by rw [mk_pI s (q := 39) rfl]; rfl
theorem o_c53 (s : mS) : mm_cls (mk s) 53 = 1 := mk_cls s (k := 0) (t := 7) rfl
theorem o_g53_0 (s : mS) (f : Option Nat → mO) : (mm_gR (mk s) 53 1 0).bind f = f (some 5) := by rw [mk_gR s (q := 53) rfl]; rfl
theorem o_g53_1 (s : mS) (f : Option Nat → mO) : (mm_gR (mk s) 53 1 1).bind f = f (some 7) := by rw [mk_gR s (q := 53) rfl]; rfl
theorem o_g53_2 (s : mS) (f : Option Nat → mO) : (mm_gR (mk s) 53 1 2).bind f = f (some 54) := by rw [mk_gR s (q := 53) rfl]; rfl
theorem o_g53_3 (s : mS) (f : Option Nat → mO) : (mm_gR (mk s) 53 1 3).bind f = f (some 60) := by rw [mk_gR s (q := 53) rfl]; rfl
theorem o_g53_4 (s : mS) (f : Int → mO) : (mm_gI (mk s) 53 1 4).bind f = f (s.1 53 4) := by rw [mk_gI s (q := 53) rfl]; rfl
theorem o_p53_4 (s : mS) (f : mW → mO) (v : Int) : (mm_p (mk s) 53 1 4 (.inl v)).bind f = f (mk (uF s 53 4 v)) := by rw [mk_pI s (q := 53) rfl]; rfl
theorem o_g53_5 (s : mS) (f : Int → mO) : (mm_gI (mk s) 53 1 5).bind f = f (s.1 53 5) := by rw [mk_gI s (q := 53) rfl]; rfl
theorem o_p53_5 (s : mS) (f : mW → mO) (v : Int) : (mm_p (mk s) 53 1 5 (.inl v)).bind f = f (mk (uF s 53 5 v)) := by rw [mk_pI s (q := 53) rfl]; rfl
theorem a_ln60 (s : mS) (f : Int → mO) : (mm_ln (mk s) 60).bind f = f 3 := by rw [mk_ln s (q := 60) rfl (by decide)]; rfl
theorem a_ld60 (s : mS) (f : Int → mO) (i : Int) (h0 : 0 ≤ i) (h1 : i < 3) : (mm_ld 0 (mk s) 60 i).bind f = f (s.2 60 i) := by rw [mk_ld s (q := 60) rfl h0 h1]; rfl
theorem a_st60 (s : mS) (f : mW → mO) (i v : Int) (h0 : 0 ≤ i) (h1 : i < 3) : (mm_st 0 (mk s) 60 i v).bind f = f (mk (uA s 60 i v)) := by rw [mk_st s (q := 60) rfl h0 h1]; rfl
theorem o_c63 (s : mS) : mm_cls (mk s) 63 = 4 := mk_cls s (k := 0) (t := 9) rfl
theorem o_g63_0 (s : mS) (f : Option Nat → mO) : (mm_gR (mk s) 63 4 0).bind f = f (some 7) := by rw [mk_gR s (q := 63) rfl]; rfl
theorem o_g63_1 (s : mS) (f : Option Nat → mO) : (mm_gR (mk s) 63 4 1).bind f = f (some 33) := by rw [mk_gR s (q := 63) rfl]; rfl
theorem o_g63_2 (s : mS) (f : Option Nat → mO) : (mm_gR (mk s) 63 4 2).bind f = f (some 64) := by rw [mk_gR s (q := 63) rfl]; rfl
theorem o_g63_3 (s : mS) (f : Option Nat → mO) : (mm_gR (mk s) 63 4 3).bind f = f (some 65) := by rw [mk_gR s (q := 63) rfl]; rfl
theorem o_g63_4 (s : mS) (f : Int → mO) : (mm_gI (mk s) 63 4 4).bind f = f (s.1 63 4) := by rw [mk_gI s (q := 63) rfl]; rfl
theorem o_p63_4 (s : mS) (f : mW → mO) (v : Int) : (mm_p (mk s) 63 4 4 (.inl v)).bind f = f (mk (uF s 63 4 v)) := by rw [mk_pI s (q := 63) rfl]; rfl
theorem o_g63_5 (s : mS) (f : Int → mO) : (mm_gI (mk s) 63 4 5).bind f = f (s.1 63 5) := by rw [mk_gI s (q := 63) rfl]; rfl
theorem o_p63_5 (s : mS) (f : mW → mO) (v : Int) : (mm_p (mk s) 63 4 5 (.inl v)).bind f = f (mk (uF s 63 5 v)) := by rw [mk_pI s (q := 63) rfl]; rfl
theorem o_g63_6 (s : mS) (f : Int → mO) : (mm_gI (mk s) 63 4 6).bind f = f (s.1 63 6) := by rw [mk_gI s (q := 63) rfl]; rfl
theorem o_p63_6 (s : mS) (f : mW → mO) (v : Int) : (mm_p (mk s) 63 4 6 (.inl v)).bind f = f (mk (uF s 63 6 v)) := by rw [mk_pI s (q := 63) rfl]; rfl
theorem o_g63_7 (s : mS) (f : Int → mO) : (mm_gI (mk s) 63 4 7).bind f = f (s.1 63 7) := by rw [mk_gI s (q := 63) rfl]; rfl
theorem o_p63_7 (s : mS) (f : mW → mO) (v : Int) : (mm_p (mk s) 63 4 7 (.inl v)).bind f = f (mk (uF s 63 7 v)) := by rw [mk_pI s (q := 63) rfl]; rfl
theorem o_g63_8 (s : mS) (f : Int → mO) : (mm_gI (mk s) 63 4 8).bind f = f (s.1 63 8) := by rw [mk_gI s (q := 63) rfl]; rfl
theorem o_p63_8 (s : mS) (f : mW → mO) (v : Int) : (mm_p (mk s) 63 4 8 (.inl v)).bind f = f (mk (uF s 63 8 v)) := by rw [mk_pI s (q := 63) rfl]; rfl
theorem o_g63_9 (s : mS) (f : Int → mO) : (mm_gI (mk s) 63 4 9).bind f = f (s.1 63 9) := by rw [mk_gI s (q := 63) rfl]; rfl
theorem o_p63_9 (s : mS) (f : mW → mO) (v : Int) : (mm_p (mk s) 63 4 9 (.inl v)).bind f = f (mk (uF s 63 9 v)) := by rw [mk_pI s (q := 63) rfl]; rfl
theorem o_g63_10 (s : mS) (f : Int → mO) : (mm_gI (mk s) 63 4 10).bind f = f (s.1 63 10) := by rw [mk_gI s (q := 63) rfl]; rfl
theorem o_p63_10 (s : mS) (f : mW → mO) (v : Int) : (mm_p (mk s) 63 4 10 (.inl v)).bind f = f (mk (uF s 63 10 v)) := by rw [mk_pI s (q := 63) rfl]; rfl
theorem o_g63_11 (s : mS) (f : Int → mO) : (mm_gI (mk s) 63 4 11).bind f = f (s.1 63 11) := by rw [mk_gI s (q := 63) rfl]; rfl
theorem o_p63_11 (s : mS) (f : mW → mO) (v : Int) : (mm_p (mk s) 63 4 11 (.inl v)).bind f = f (mk (uF s 63 11 v)) := by rw [mk_pI s (q := 63) rfl]; rfl
theorem a_ln64 (s : mS) (f : Int → mO) : (mm_ln (mk s) 64).bind f = f 60 := by rw [mk_ln s (q := 64) rfl (by decide)]; rfl
theorem a_ld64 (s : mS) (f : Int → mO) (i : Int) (h0 : 0 ≤ i) (h1 : i < 60) : (mm_ld 0 (mk s) 64 i).bind f = f (s.2 64 i) := by rw [mk_ld s (q := 64) rfl h0 h1]; rfl
theorem a_st64 (s : mS) (f : mW → mO) (i v : Int) (h0 : 0 ≤ i) (h1 : i < 60) : (mm_st 0 (mk s) 64 i v).bind f = f (mk (uA s 64 i v)) := by rw [mk_st s (q := 64) rfl h0 h1]; rfl
theorem a_ln65 (s : mS) (f : Int → mO) : (mm_ln (mk s) 65).bind f = f 5 := by rw [mk_ln s (q := 65) rfl (by decide)]; rfl
theorem a_ld65 (s : mS) (f : Int → mO) (i : Int) (h0 : 0 ≤ i) (h1 : i < 5) : (mm_ld 0 (mk s) 65 i).bind f = f (s.2 65 i) := by rw [mk_ld s (q := 65) rfl h0 h1]; rfl
theorem a_st65 (s : mS) (f : mW → mO) (i v : Int) (h0 : 0 ≤ i) (h1 : i < 5) : (mm_st 0 (mk s) 65 i v).bind f = f (mk (uA s 65 i v)) := by rw [mk_st s (q := 65) rfl h0 h1]; rfl
theorem o_c66 (s : mS) : mm_cls (mk s) 66 = 9 := mk_cls s (k := 0) (t := 9) rfl
theorem o_g66_0 (s : mS) (f : Option Nat → mO) : (mm_gR (mk s) 66 9 0).bind f = f (some 7) := by rw [mk_gR s (q := 66) rfl]; rfl
theorem o_g66_1 (s : mS) (f : Option Nat → mO) : (mm_gR (mk s) 66 9 1).bind f = f (some 67) := by rw [mk_gR s (q := 66) rfl]; rfl
theorem a_ln67 (s : mS) (f : Int → mO) : (mm_ln (mk s) 67).bind f = f 25 := by rw [mk_ln s (q := 67) rfl (by decide)]; rfl
theorem a_ld67 (s : mS) (f : Int → mO) (i : Int) (h0 : 0 ≤ i) (h1 : i < 25) : (mm_ld 0 (mk s) 67 i).bind f = f (s.2 67 i) := by rw [mk_ld s (q := 67) rfl h0 h1]; rfl
theorem a_st67 (s : mS) (f : mW → mO) (i v : Int) (h0 : 0 ≤ i) (h1 : i < 25) : (mm_st 0 (mk s) 67 i v).bind f = f (mk (uA s 67 i v)) := by rw [mk_st s (q := 67) rfl h0 h1]; rfl
theorem o_c68 (s : mS) : mm_cls (mk s) 68 = 3 := mk_cls s (k := 0) (t := 9) rfl
theorem o_g68_0 (s : mS) (f : Option Nat → mO) : (mm_gR (mk s) 68 3 0).bind f = f (some 7) := by rw [mk_gR s (q := 68) rfl]; rfl
theorem o_g68_1 (s : mS) (f : Option Nat → mO) : (mm_gR (mk s) 68 3 1).bind f = f (some 69) := by rw [mk_gR s (q := 68) rfl]; rfl
theorem o_g68_2 (s : mS) (f : Option Nat → mO) : (mm_gR (mk s) 68 3 2).bind f = f (some 70) := by rw [mk_gR s (q := 68) rfl]; rfl
theorem a_ln69 (s : mS) (f : Int → mO) : (mm_ln (mk s) 69).bind f = f 7 := by rw [mk_ln s (q := 69) rfl (by decide)]; rfl
theorem a_ld69 (s : mS) (f : Int → mO) (i : Int) (h0 : 0 ≤ i) (h1 : i < 7) : (mm_ld 0 (mk s) 69 i).bind f = f (s.2 69 i) := by rw [mk_ld s (q := 69) rfl h0 h1]; rfl
theorem a_st69 (s : mS) (f : mW → mO) (i v : Int) (h0 : 0 ≤ i) (h1 : i < 7) : (mm_st 0 (mk s) 69 i v).bind f = f (mk (uA s 69 i v)) := by rw [mk_st s (q := 69) rfl h0 h1]; rfl
theorem a_ln70 (s : mS) (f : Int → mO) : (mm_ln (mk s) 70).bind f = f 128 := by rw [mk_ln s (q := 70) rfl (by decide)]; rfl
theorem a_ld70 (s : mS) (f : Int → mO) (i : Int) (h0 : 0 ≤ i) (h1 : i < 128) : (mm_ld 0 (mk s) 70 i).bind f = f (s.2 70 i) := by rw [mk_ld s (q := 70) rfl h0 h1]; rfl
theorem a_st70 (s : mS) (f : mW → mO) (i v : Int) (h0 : 0 ≤ i) (h1 : i < 128) : (mm_st 0 (mk s) 70 i v).bind f = f (mk (uA s 70 i v)) := by rw [mk_st s (q := 70) rfl h0 h1]; rfl
theorem o_c71 (s : mS) : mm_cls (mk s) 71 = 2 := mk_cls s (k := 0) (t := 9) rfl
theorem o_g71_0 (s : mS) (f : Option Nat → mO) : (mm_gR (mk s) 71 2 0).bind f = f (some 7) := by rw [mk_gR s (q := 71) rfl]; rfl
theorem o_g71_1 (s : mS) (f : Option Nat → mO) : (mm_gR (mk s) 71 2 1).bind f = f (some 72) := by rw [mk_gR s (q := 71) rfl]; rfl
theorem o_g71_2 (s : mS) (f : Option Nat → mO) : (mm_gR (mk s) 71 2 2).bind f = f (some 73) := by rw [mk_gR s (q := 71) rfl]; rfl
theorem a_ln72 (s : mS) (f : Int → mO) : (mm_ln (mk s) 72).bind f = f 25 := by rw [mk_ln s (q := 72) rfl (by decide)]; rfl
theorem a_ld72 (s : mS) (f : Int → mO) (i : Int) (h0 : 0 ≤ i) (h1 : i < 25) : (mm_ld 0 (mk s) 72 i).bind f = f (s.2 72 i) := by rw [mk_ld s (q := 72) rfl h0 h1]; rfl
theorem a_st72 (s : mS) (f : mW → mO) (i v : Int) (h0 : 0 ≤ i) (h1 : i < 25) : (mm_st 0 (mk s) 72 i v).bind f = f (mk (uA s 72 i v)) := by rw [mk_st s (q := 72) rfl h0 h1]; rfl
theorem a_ln73 (s : mS) (f : Int → mO) : (mm_ln (mk s) 73).bind f = f 25 := by rw [mk_ln s (q := 73) rfl (by decide)]; rfl
theorem a_ld73 (s : mS) (f : Int → mO) (i : Int) (h0 : 0 ≤ i) (h1 : i < 25) : (mm_ld 0 (mk s) 73 i).bind f = f (s.2 73 i) := by rw [mk_ld s (q := 73) rfl h0 h1]; rfl
theorem a_st73 (s : mS) (f : mW → mO) (i v : Int) (h0 : 0 ≤ i) (h1 : i < 25) : (mm_st 0 (mk s) 73 i v).bind f = f (mk (uA s 73 i v)) := by rw [mk_st s (q := 73) rfl h0 h1]; rfl
theorem o_c74 (s : mS) : mm_cls (mk s) 74 = 10 := mk_cls s (k := 0) (t := 9) rfl
theorem o_g74_0 (s : mS) (f : Option Nat → mO) : (mm_gR (mk s) 74 10 0).bind f = f (some 7) := by rw [mk_gR s (q := 74) rfl]; rfl
theorem o_g74_1 (s : mS) (f : Option Nat → mO) : (mm_gR (mk s) 74 10 1).bind f = f (some 75) := by rw [mk_gR s (q := 74) rfl]; rfl
theorem a_ln75 (s : mS) (f : Int → mO) : (mm_ln (mk s) 75).bind f = f 19 := by rw [mk_ln s (q := 75) rfl (by decide)]; rfl
theorem a_ld75 (s : mS) (f : Int → mO) (i : Int) (h0 : 0 ≤ i) (h1 : i < 19) : (mm_ld 0 (mk s) 75 i).bind f = f (s.2 75 i) := by rw [mk_ld s (q := 75) rfl h0 h1]; rfl
theorem a_st75 (s : mS) (f : mW → mO) (i v : Int) (h0 : 0 ≤ i) (h1 : i < 19) : (mm_st 0 (mk s) 75 i v).bind f = f (mk (uA s 75 i v)) := by rw [mk_st s (q := 75) rfl h0 h1]; rfl
theorem o_c7 (s : mS) : mm_cls (mk s) 7 = 5 := mk_cls s (k := 0) (t := 0) rfl
theorem o_g7_0 (s : mS) (f : Int → mO) : (mm_gI (mk s) 7 5 0).bind f = f (s.1 7 0) := by rw [mk_gI s (q := 7) rfl]; rfl
theorem o_p7_0 (s : mS) (f : mW → mO) (v : Int) : (mm_p (mk s) 7 5 0 (.inl v)).bind f = f (mk (uF s 7 0 v)) := by rw [mk_pI s (q := 7) rfl]; rfl
theorem o_g7_1 (s : mS) (f : Int → mO) : (mm_gI (mk s) 7 5 1).bind f = f (s.1 7 1) := by rw [mk_gI s (q := 7) rfl]; rfl
theorem o_p7_1 (s : mS) (f : mW → mO) (v : Int) : (mm_p (mk s) 7 5 1 (.inl v)).bind f = f (mk (uF s 7 1 v)) := by rw [mk_pI s (q := 7) rfl]; rfl
theorem o_g7_2 (s : mS) (f : Int → mO) : (mm_gI (mk s) 7 5 2).bind f = f (s.1 7 2) := by rw [mk_gI s (q := 7) rfl]; rfl
theorem o_p7_2 (s : mS) (f : mW → mO) (v : Int) : (mm_p (mk s) 7 5 2 (.inl v)).bind f = f (mk (uF s 7 2 v)) := by rw [mk_pI s (q := 7) rfl]; rfl
theorem o_g7_3 (s : mS) (f : Int → mO) : (mm_gI (mk s) 7 5 3).bind f = f (s.1 7 3) := by rw [mk_gI s (q := 7) rfl]; rfl
theorem o_p7_3 (s : mS) (f : mW → mO) (v : Int) : (mm_p (mk s) 7 5 3 (.inl v)).bind f = f (mk (uF s 7 3 v)) := by rw [mk_pI s (q := 7) rfl]; rfl
theorem o_g7_4 (s : mS) (f : Option Nat → mO) : (mm_gR (mk s) 7 5 4).bind f = f (some 8) := by rw [mk_gR s (q := 7) rfl]; rfl
theorem o_g7_5 (s : mS) (f : Option Nat → mO) : (mm_gR (mk s) 7 5 5).bind f = f (some 9) := by rw [mk_gR s (q := 7) rfl]; rfl
theorem o_g7_6 (s : mS) (f : Int → mO) : (mm_gI (mk s) 7 5 6).bind f = f (s.1 7 6) := by rw [mk_gI s (q := 7) rfl]; rfl
theorem o_p7_6 (s : mS) (f : mW → mO) (v : Int) : (mm_p (mk s) 7 5 6 (.inl v)).bind f = f (mk (uF s 7 6 v)) := by rw [mk_pI s (q := 7) rfl]; rfl
theorem o_g7_7 (s : mS) (f : Option Nat → mO) : (mm_gR (mk s) 7 5 7).bind f = f (some 10) := by rw [mk_gR s (q := 7) rfl]; rfl
theorem o_g7_8 (s : mS) (f : Option Nat → mO) : (mm_gR (mk s) 7 5 8).bind f = f (some 11) := by rw [mk_gR s (q := 7) rfl]; rfl
theorem o_g7_9 (s : mS) (f : Option Nat → mO) : (mm_gR (mk s) 7 5 9).bind f = f (some 12) := by rw [mk_gR s (q := 7) rfl]; rfl
theorem o_g7_10 (s : mS) (f : Int → mO) : (mm_gI (mk s) 7 5 10).bind f = f (s.1 7 10) := by rw [mk_gI s (q := 7) rfl]; rfl
theorem o_p7_10 (s : mS) (f : mW → mO) (v : Int) : (mm_p (mk s) 7 5 10 (.inl v)).bind f = f (mk (uF s 7 10 v)) := by rw [mk_pI s (q := 7) rfl]; rfl
theorem o_g7_11 (s : mS) (f : Option Nat → mO) : (mm_gR (mk s) 7 5 11).bind f = f (some 13) := by rw [mk_gR s (q := 7) rfl]; rfl
theorem o_g7_12 (s : mS) (f : Option Nat → mO) : (mm_gR (mk s) 7 5 12).bind f = f (some 14) := by rw [mk_gR s (q := 7) rfl]; rfl
theorem o_g7_13 (s : mS) (f : Option Nat → mO) : (mm_gR (mk s) 7 5 13).bind f = f (some 15) := by rw [mk_gR s (q := 7) rfl]; rfl
theorem o_g7_14 (s : mS) (f : Option Nat → mO) : (mm_gR (mk s) 7 5 14).bind f = f (some 16) := by rw [mk_gR s (q := 7) rfl]; rfl
theorem o_g7_15 (s : mS) (f : Option Nat → mO) : (mm_gR (mk s) 7 5 15).bind f = f (some 17) := by rw [mk_gR s (q := 7) rfl]; rfl
theorem o_g7_16 (s : mS) (f : Option Nat → mO) : (mm_gR (mk s) 7 5 16).bind f = f (some 18) := by rw [mk_gR s (q := 7) rfl]; rfl
theorem o_g7_17 (s : mS) (f : Option Nat → mO) : (mm_gR (mk s) 7 5 17).bind f = f (some 19) := by rw [mk_gR s (q := 7) rfl]; rfl
theorem a_ln8 (s : mS) (f : Int → mO) : (mm_ln (mk s) 8).bind f = f 25 := by rw [mk_ln s (q := 8) rfl (by decide)]; rfl
theorem a_ld8 (s : mS) (f : Int → mO) (i : Int) (h0 : 0 ≤ i) (h1 : i < 25) : (mm_ld 0 (mk s) 8 i).bind f = f (s.2 8 i) := by rw [mk_ld s (q := 8) rfl h0 h1]; rfl
theorem a_st8 (s : mS) (f : mW → mO) (i v : Int) (h0 : 0 ≤ i) (h1 : i < 25) : (mm_st 0 (mk s) 8 i v).bind f = f (mk (uA s 8 i v)) := by rw [mk_st s (q := 8) rfl h0 h1]; rfl
theorem a_ln9 (s : mS) (f : Int → mO) : (mm_ln (mk s) 9).bind f = f 25 := by rw [mk_ln s (q := 9) rfl (by decide)]; rfl
theorem a_ld9 (s : mS) (f : Int → mO) (i : Int) (h0 : 0 ≤ i) (h1 : i < 25) : (mm_ld 0 (mk s) 9 i).bind f = f (s.2 9 i) := by rw [mk_ld s (q := 9) rfl h0 h1]; rfl
theorem a_st9 (s : mS) (f : mW → mO) (i v : Int) (h0 : 0 ≤ i) (h1 : i < 25) : (mm_st 0 (mk s) 9 i v).bind f = f (mk (uA s 9 i v)) := by rw [mk_st s (q := 9) rfl h0 h1]; rfl
theorem a_ln10 (s : mS) (f : Int → mO) : (mm_ln (mk s) 10).bind f = f 7 := by rw [mk_ln s (q := 10) rfl (by decide)]; rfl
theorem a_ld10 (s : mS) (f : Int → mO) (i : Int) (h0 : 0 ≤ i) (h1 : i < 7) : (mm_ld 0 (mk s) 10 i).bind f = f (s.2 10 i) := by rw [mk_ld s (q := 10) rfl h0 h1]; rfl
theorem a_st10 (s : mS) (f : mW → mO) (i v : Int) (h0 : 0 ≤ i) (h1 : i < 7) : (mm_st 0 (mk s) 10 i v).bind f = f (mk (uA s 10 i v)) := by rw [mk_st s (q := 10) rfl h0 h1]; rfl
theorem a_ln11 (s : mS) (f : Int → mO) : (mm_ln (mk s) 11).bind f = f 7 := by rw [mk_ln s (q := 11) rfl (by decide)]; rfl
theorem a_ld11 (s : mS) (f : Int → mO) (i : Int) (h0 : 0 ≤ i) (h1 : i < 7) : (mm_ld 0 (mk s) 11 i).bind f = f (s.2 11 i) := by rw [mk_ld s (q := 11) rfl h0 h1]; rfl
theorem a_st11 (s : mS) (f : mW → mO) (i v : Int) (h0 : 0 ≤ i) (h1 : i < 7) : (mm_st 0 (mk s) 11 i v).bind f = f (mk (uA s 11 i v)) := by rw [mk_st s (q := 11) rfl h0 h1]; rfl
theorem a_ln12 (s : mS) (f : Int → mO) : (mm_ln (mk s) 12).bind f = f 7 := by rw [mk_ln s (q := 12) rfl (by decide)]; rfl
theorem a_ld12 (s : mS) (f : Int → mO) (i : Int) (h0 : 0 ≤ i) (h1 : i < 7) : (mm_ld 3 (mk s) 12 i).bind f = f (s.2 12 i) := by rw [mk_ld s (q := 12) rfl h0 h1]; rfl
theorem a_st12 (s : mS) (f : mW → mO) (i v : Int) (h0 : 0 ≤ i) (h1 : i < 7) : (mm_st 3 (mk s) 12 i v).bind f = f (mk (uA s 12 i v)) := by rw [mk_st s (q := 12) rfl h0 h1]; rfl
theorem a_ln13 (s : mS) (f : Int → mO) : (mm_ln (mk s) 13).bind f = f 5 := by rw [mk_ln s (q := 13) rfl (by decide)]; rfl
theorem a_ld13 (s : mS) (f : Int → mO) (i : Int) (h0 : 0 ≤ i) (h1 : i < 5) : (mm_ld 0 (mk s) 13 i).bind f = f (s.2 13 i) := by rw [mk_ld s (q := 13) rfl h0 h1]; rfl
theorem a_st13 (s : mS) (f : mW → mO) (i v : Int) (h0 : 0 ≤ i) (h1 : i < 5) : (mm_st 0 (mk s) 13 i v).bind f = f (mk (uA s 13 i v)) := by rw [mk_st s (q := 13) rfl h0 h1]; rfl
theorem a_ln14 (s : mS) (f : Int → mO) : (mm_ln (mk s) 14).bind f = f 5 := by rw [mk_ln s (q := 14) rfl (by decide)]; rfl
theorem a_ld14 (s : mS) (f : Int → mO) (i : Int) (h0 : 0 ≤ i) (h1 : i < 5) : (mm_ld 0 (mk s) 14 i).bind f = f (s.2 14 i) := by rw [mk_ld s (q := 14) rfl h0 h1]; rfl
theorem a_st14 (s : mS) (f : mW → mO) (i v : Int) (h0 : 0 ≤ i) (h1 : i < 5) : (mm_st 0 (mk s) 14 i v).bind f = f (mk (uA s 14 i v)) := by rw [mk_st s (q := 14) rfl h0 h1]; rfl
theorem a_ln15 (s : mS) (f : Int → mO) : (mm_ln (mk s) 15).bind f = f 5 := by rw [mk_ln s (q := 15) rfl (by decide)]; rfl
theorem a_ld15 (s : mS) (f : Int → mO) (i : Int) (h0 : 0 ≤ i) (h1 : i < 5) : (mm_ld 0 (mk s) 15 i).bind f = f (s.2 15 i) := by rw [mk_ld s (q := 15) rfl h0 h1]; rfl
theorem a_st15 (s : mS) (f : mW → mO) (i v : Int) (h0 : 0 ≤ i) (h1 : i < 5) : (mm_st 0 (mk s) 15 i v).bind f = f (mk (uA s 15 i v)) := by rw [mk_st s (q := 15) rfl h0 h1]; rfl
theorem a_ln16 (s : mS) (f : Int → mO) : (mm_ln (mk s) 16).bind f = f 5 := by rw [mk_ln s (q := 16) rfl (by decide)]; rfl
theorem a_ld16 (s : mS) (f : Int → mO) (i : Int) (h0 : 0 ≤ i) (h1 : i < 5) : (mm_ld 0 (mk s) 16 i).bind f = f (s.2 16 i) := by rw [mk_ld s (q := 16) rfl h0 h1]; rfl
theorem a_st16 (s : mS) (f : mW → mO) (i v : Int) (h0 : 0 ≤ i) (h1 : i < 5) : (mm_st 0 (mk s) 16 i v).bind f = f (mk (uA s 16 i v)) := by rw [mk_st s (q := 16) rfl h0 h1]; rfl
theorem a_ln17 (s : mS) (f : Int → mO) : (mm_ln (mk s) 17).bind f = f 5 := by rw [mk_ln s (q := 17) rfl (by decide)]; rfl
theorem a_ld17 (s : mS) (f : Int → mO) (i : Int) (h0 : 0 ≤ i) (h1 : i < 5) : (mm_ld 0 (mk s) 17 i).bind f = f (s.2 17 i) := by rw [mk_ld s (q := 17) rfl h0 h1]; rfl
theorem a_st17 (s : mS) (f : mW → mO) (i v : Int) (h0 : 0 ≤ i) (h1 : i < 5) : (mm_st 0 (mk s) 17 i v).bind f = f (mk (uA s 17 i v)) := by rw [mk_st s (q := 17) rfl h0 h1]; rfl
theorem a_ln18 (s : mS) (f : Int → mO) : (mm_ln (mk s) 18).bind f = f 5 := by rw [mk_ln s (q := 18) rfl (by decide)]; rfl
theorem a_ld18 (s : mS) (f : Int → mO) (i : Int) (h0 : 0 ≤ i) (h1 : i < 5) : (mm_ld 0 (mk s) 18 i).bind f = f (s.2 18 i) := by rw [mk_ld s (q := 18) rfl h0 h1]; rfl
theorem a_st18 (s : mS) (f : mW → mO) (i v : Int) (h0 : 0 ≤ i) (h1 : i < 5) : (mm_st 0 (mk s) 18 i v).bind f = f (mk (uA s 18 i v)) := by rw [mk_st s (q := 18) rfl h0 h1]; rfl
theorem a_ln19 (s : mS) (f : Int → mO) : (mm_ln (mk s) 19).bind f = f 5 := by rw [mk_ln s (q := 19) rfl (by decide)]; rfl
theorem a_ld19 (s : mS) (f : Int → mO) (i : Int) (h0 : 0 ≤ i) (h1 : i < 5) : (mm_ld 3 (mk s) 19 i).bind f = f (s.2 19 i) := by rw [mk_ld s (q := 19) rfl h0 h1]; rfl
theorem a_st19 (s : mS) (f : mW → mO) (i v : Int) (h0 : 0 ≤ i) (h1 : i < 5) : (mm_st 3 (mk s) 19 i v).bind f = f (mk (uA s 19 i v)) := by rw [mk_st s (q := 19) rfl h0 h1]; rfl
theorem o_c20 (s : mS) : mm_cls (mk s) 20 = 5 := mk_cls s (k := 0) (t := 0) rfl
theorem o_g20_0 (s : mS) (f : Int → mO) : (mm_gI (mk s) 20 5 0).bind f = f (s.1 20 0) := by rw [mk_gI s (q := 20) rfl]; rfl
theorem o_p20_0 (s : mS) (f : mW → mO) (v : Int) : (mm_p (mk s) 20 5 0 (.inl v)).bind f = f (mk (uF s 20 0 v)) := by rw [mk_pI s (q := 20) rfl]; rfl
theorem o_g20_1 (s : mS) (f : Int → mO) : (mm_gI (mk s) 20 5 1).bind f = f (s.1 20 1) := by rw [mk_gI s (q := 20) rfl]; rfl
theorem o_p20_1 (s : mS) (f : mW → mO) (v : Int) : (mm_p (mk s) 20 5 1 (.inl v)).bind f = f (mk (uF s 20 1 v)) := by rw [mk_pI s (q := 20) rfl]; rfl
theorem o_g20_2 (s : mS) (f : Int → mO) : (mm_gI (mk s) 20 5 2).bind f = f (s.1 20 2) := by rw [mk_gI s (q := 20) rfl]; rfl
theorem o_p20_2 (s : mS) (f : mW → mO) (v : Int) : (mm_p (mk s) 20 5 2 (.inl v)).bind f = f (mk (uF s 20 2 v)) := by rw [mk_pI s (q := 20) rfl]; rfl
theorem o_g20_3 (s : mS) (f : Int → mO) : (mm_gI (mk s) 20 5 3).bind f = f (s.1 20 3) := by rw [mk_gI s (q := 20) rfl]; rfl
theorem o_p20_3 (s : mS) (f : mW → mO) (v : Int) : (mm_p (mk s) 20 5 3 (.inl v)).bind f = f (mk (uF s 20 3 v)) := by rw [mk_pI s (q := 20) rfl]; rfl
theorem o_g20_4 (s : mS) (f : Option Nat → mO) : (mm_gR (mk s) 20 5 4).bind f = f (some 21) := by rw [mk_gR s (q := 20) rfl]; rfl
theorem o_g20_5 (s : mS) (f : Option Nat → mO) : (mm_gR (mk s) 20 5 5).bind f = f (some 22) := by rw [mk_gR s (q := 20) rfl]; rfl
theorem o_g20_6 (s : mS) (f : Int → mO) : (mm_gI (mk s) 20 5 6).bind f = f (s.1 20 6) := by rw [mk_gI s (q := 20) rfl]; rfl
theorem o_p20_6 (s : mS) (f : mW → mO) (v : Int) : (mm_p (mk s) 20 5 6 (.inl v)).bind f = f (mk (uF s 20 6 v)) := by rw [mk_pI s (q := 20) rfl]; rfl
theorem o_g20_7 (s : mS) (f : Option Nat → mO) : (mm_gR (mk s) 20 5 7).bind f = f (some 23) := by rw [mk_gR s (q := 20) rfl]; rfl
theorem o_g20_8 (s : mS) (f : Option Nat → mO) : (mm_gR (mk s) 20 5 8).bind f = f (some 24) := by rw [mk_gR s (q := 20) rfl]; rfl
theorem o_g20_9 (s : mS) (f : Option Nat → mO) : (mm_gR (mk s) 20 5 9).bind f = f (some 25) := by rw [mk_gR s (q := 20) rfl]; rfl
theorem o_g20_10 (s : mS) (f : Int → mO) : (mm_gI (mk s) 20 5 10).bind f = f (s.1 20 10) := by rw [mk_gI s (q := 20) rfl]; rfl
theorem o_p20_10 (s : mS) (f : mW → mO) (v : Int) : (mm_p (mk s) 20 5 10 (.inl v)).bind f = f (mk (uF s 20 10 v)) := by rw [mk_pI s (q := 20) rfl]; rfl
theorem o_g20_11 (s : mS) (f : Option Nat → mO) : (mm_gR (mk s) 20 5 11).bind f = f (some 26) := by rw [mk_gR s (q := 20) rfl]; rfl
theorem o_g20_12 (s : mS) (f : Option Nat → mO) : (mm_gR (mk s) 20 5 12).bind f = f (some 27) := by rw [mk_gR s (q := 20) rfl]; rfl
theorem o_g20_13 (s : mS) (f : Option Nat → mO) : (mm_gR (mk s) 20 5 13).bind f = f (some 28) := by rw [mk_gR s (q := 20) rfl]; rfl
theorem o_g20_14 (s : mS) (f : Option Nat → mO) : (mm_gR (mk s) 20 5 14).bind f = f (some 29) := by rw [mk_gR s (q := 20) rfl]; rfl
theorem o_g20_15 (s : mS) (f : Option Nat → mO) : (mm_gR (mk s) 20 5 15).bind f = f (some 30) := by rw [mk_gR s (q := 20) rfl]; rfl
theorem o_g20_16 (s : mS) (f : Option Nat → mO) : (mm_gR (mk s) 20 5 16).bind f = f (some 31) := by rw [mk_gR s (q := 20) rfl]; rfl
theorem o_g20_17 (s : mS) (f : Option Nat → mO) : (mm_gR (mk s) 20 5 17).bind f = f (some 32) := by rw [mk_gR s (q := 20) rfl]; rfl
theorem a_ln21 (s : mS) (f : Int → mO) : (mm_ln (mk s) 21).bind f = f 25 := by rw [mk_ln s (q := 21) rfl (by decide)]; rfl
theorem a_ld21 (s : mS) (f : Int → mO) (i : Int) (h0 : 0 ≤ i) (h1 : i < 25) : (mm_ld 0 (mk s) 21 i).bind f = f (s.2 21 i) := by rw [mk_ld s (q := 21) rfl h0 h1]; rfl
theorem a_st21 (s : mS) (f : mW → mO) (i v : Int) (h0 : 0 ≤ i) (h1 : i < 25) : (mm_st 0 (mk s) 21 i v).bind f = f (mk (uA s 21 i v)) := by rw [mk_st s (q := 21) rfl h0 h1]; rfl
theorem a_ln22 (s : mS) (f : Int → mO) : (mm_ln (mk s) 22).bind f = f 25 := by rw [mk_ln s (q := 22) rfl (by decide)]; rfl
theorem a_ld22 (s : mS) (f : Int → mO) (i : Int) (h0 : 0 ≤ i) (h1 : i < 25) : (mm_ld 0 (mk s) 22 i).bind f = f (s.2 22 i) := by rw [mk_ld s (q := 22) rfl h0 h1]; rfl
theorem a_st22 (s : mS) (f : mW → mO) (i v : Int) (h0 : 0 ≤ i) (h1 : i < 25) : (mm_st 0 (mk s) 22 i v).bind f = f (mk (uA s 22 i v)) := by rw [mk_st s (q := 22) rfl h0 h1]; rfl
theorem a_ln23 (s : mS) (f : Int → mO) : (mm_ln (mk s) 23).bind f = f 7 := by rw [mk_ln s (q := 23) rfl (by decide)]; rfl
theorem a_ld23 (s : mS) (f : Int → mO) (i : Int) (h0 : 0 ≤ i) (h1 : i < 7) : (mm_ld 0 (mk s) 23 i).bind f = f (s.2 23 i) := by rw [mk_ld s (q := 23) rfl h0 h1]; rfl
theorem a_st23 (s : mS) (f : mW → mO) (i v : Int) (h0 : 0 ≤ i) (h1 : i < 7) : (mm_st 0 (mk s) 23 i v).bind f = f (mk (uA s 23 i v)) := by rw [mk_st s (q := 23) rfl h0 h1]; rfl
theorem a_ln24 (s : mS) (f : Int → mO) : (mm_ln (mk s) 24).bind f = f 7 := by rw [mk_ln s (q := 24) rfl (by decide)]; rfl
theorem a_ld24 (s : mS) (f : Int → mO) (i : Int) (h0 : 0 ≤ i) (h1 : i < 7) : (mm_ld 0 (mk s) 24 i).bind f = f (s.2 24 i) := by rw [mk_ld s (q := 24) rfl h0 h1]; rfl
theorem a_st24 (s : mS) (f : mW → mO) (i v : Int) (h0 : 0 ≤ i) (h1 : i < 7) : (mm_st 0 (mk s) 24 i v).bind f = f (mk (uA s 24 i v)) := by rw [mk_st s (q := 24) rfl h0 h1]; rfl
theorem a_ln25 (s : mS) (f : Int → mO) : (mm_ln (mk s) 25).bind f = f 7 := by rw [mk_ln s (q := 25) rfl (by decide)]; rfl
theorem a_ld25 (s : mS) (f : Int → mO) (i : Int) (h0 : 0 ≤ i) (h1 : i < 7) : (mm_ld 3 (mk s) 25 i).bind f = f (s.2 25 i) := by rw [mk_ld s (q := 25) rfl h0 h1]; rfl
theorem a_st25 (s : mS) (f : mW → mO) (i v : Int) (h0 : 0 ≤ i) (h1 : i < 7) : (mm_st 3 (mk s) 25 i v).bind f = f (mk (uA s 25 i v)) := by rw [mk_st s (q := 25) rfl h0 h1]; rfl
theorem a_ln26 (s : mS) (f : Int → mO) : (mm_ln (mk s) 26).bind f = f 5 := by rw [mk_ln s (q := 26) rfl (by decide)]; rfl
theorem a_ld26 (s : mS) (f : Int → mO) (i : Int) (h0 : 0 ≤ i) (h1 : i < 5) : (mm_ld 0 (mk s) 26 i).bind f = f (s.2 26 i) := by rw [mk_ld s (q := 26) rfl h0 h1]; rfl
theorem a_st26 (s : mS) (f : mW → mO) (i v : Int) (h0 : 0 ≤ i) (h1 : i < 5) : (mm_st 0 (mk s) 26 i v).bind f = f (mk (uA s 26 i v)) := by rw [mk_st s (q := 26) rfl h0 h1]; rfl
theorem a_ln27 (s : mS) (f : Int → mO) : (mm_ln (mk s) 27).bind f = f 5 := by rw [mk_ln s (q := 27) rfl (by decide)]; rfl
theorem a_ld27 (s : mS) (f : Int → mO) (i : Int) (h0 : 0 ≤ i) (h1 : i < 5) : (mm_ld 0 (mk s) 27 i).bind f = f (s.2 27 i) := by rw [mk_ld s (q := 27) rfl h0 h1]; rfl
theorem a_st27 (s : mS) (f : mW → mO) (i v : Int) (h0 : 0 ≤ i) (h1 : i < 5) : (mm_st 0 (mk s) 27 i v).bind f = f (mk (uA s 27 i v)) := by rw [mk_st s (q := 27) rfl h0 h1]; rfl
theorem a_ln28 (s : mS) (f : Int → mO) : (mm_ln (mk s) 28).bind f = f 5 := by rw [mk_ln s (q := 28) rfl (by decide)]; rfl
theorem a_ld28 (s : mS) (f : Int → mO) (i : Int) (h0 : 0 ≤ i) (h1 : i < 5) : (mm_ld 0 (mk s) 28 i).bind f = f (s.2 28 i) := by rw [mk_ld s (q := 28) rfl h0 h1]; rfl
theorem a_st28 (s : mS) (f : mW → mO) (i v : Int) (h0 : 0 ≤ i) (h1 : i < 5) : (mm_st 0 (mk s) 28 i v).bind f = f (mk (uA s 28 i v)) := by rw [mk_st s (q := 28) rfl h0 h1]; rfl
theorem a_ln29 (s : mS) (f : Int → mO) : (mm_ln (mk s) 29).bind f = f 5 := by rw [mk_ln s (q := 29) rfl (by decide)]; rfl
theorem a_ld29 (s : mS) (f : Int → mO) (i : Int) (h0 : 0 ≤ i) (h1 : i < 5) : (mm_ld 0 (mk s) 29 i).bind f = f (s.2 29 i) := by rw [mk_ld s (q := 29) rfl h0 h1]; rfl
theorem a_st29 (s : mS) (f : mW → mO) (i v : Int) (h0 : 0 ≤ i) (h1 : i < 5) : (mm_st 0 (mk s) 29 i v).bind f = f (mk (uA s 29 i v)) := by rw [mk_st s (q := 29) rfl h0 h1]; rfl
theorem a_ln30 (s : mS) (f : Int → mO) : (mm_ln (mk s) 30).bind f = f 5 := by rw [mk_ln s (q := 30) rfl (by decide)]; rfl
theorem a_ld30 (s : mS) (f : Int → mO) (i : Int) (h0 : 0 ≤ i) (h1 : i < 5) : (mm_ld 0 (mk s) 30 i).bind f = f (s.2 30 i) := by rw [mk_ld s (q := 30) rfl h0 h1]; rfl
theorem a_st30 (s : mS) (f : mW → mO) (i v : Int) (h0 : 0 ≤ i) (h1 : i < 5) : (mm_st 0 (mk s) 30 i v).bind f = f (mk (uA s 30 i v)) := by rw [mk_st s (q := 30) rfl h0 h1]; rfl
theorem a_ln31 (s : mS) (f : Int → mO) : (mm_ln (mk s) 31).bind f = f 5 := by rw [mk_ln s (q := 31) rfl (by decide)]; rfl
theorem a_ld31 (s : mS) (f : Int → mO) (i : Int) (h0 : 0 ≤ i) (h1 : i < 5) : (mm_ld 0 (mk s) 31 i).bind f = f (s.2 31 i) := by rw [mk_ld s (q := 31) rfl h0 h1]; rfl
theorem a_st31 (s : mS) (f : mW → mO) (i v : Int) (h0 : 0 ≤ i) (h1 : i < 5) : (mm_st 0 (mk s) 31 i v).bind f = f (mk (uA s 31 i v)) := by rw [mk_st s (q := 31) rfl h0 h1]; rfl
theorem a_ln32 (s : mS) (f : Int → mO) : (mm_ln (mk s) 32).bind f = f 5 := by rw [mk_ln s (q := 32) rfl (by decide)]; rfl
theorem a_ld32 (s : mS) (f : Int → mO) (i : Int) (h0 : 0 ≤ i) (h1 : i < 5) : (mm_ld 3 (mk s) 32 i).bind f = f (s.2 32 i) := by rw [mk_ld s (q := 32) rfl h0 h1]; rfl
theorem a_st32 (s : mS) (f : mW → mO) (i v : Int) (h0 : 0 ≤ i) (h1 : i < 5) : (mm_st 3 (mk s) 32 i v).bind f = f (mk (uA s 32 i v)) := by rw [mk_st s (q := 32) rfl h0 h1]; rfl
theorem o_c40 (s : mS) : mm_cls (mk s) 40 = 5 := mk_cls s (k := 0) (t := 0) rfl
theorem o_g40_0 (s : mS) (f : Int → mO) : (mm_gI (mk s) 40 5 0).bind f = f (s.1 40 0) := by rw [mk_gI s (q := 40) rfl]; rfl
theorem o_p40_0 (s : mS) (f : mW → mO) (v : Int) : (mm_p (mk s) 40 5 0 (.inl v)).bind f = f (mk (uF s 40 0 v)) := by rw [mk_pI s (q := 40) rfl]; rfl
theorem o_g40_1 (s : mS) (f : Int → mO) : (mm_gI (mk s) 40 5 1).bind f = f (s.1 40 1) := by rw [mk_gI s (q := 40) rfl]; rfl
theorem o_p40_1 (s : mS) (f : mW → mO) (v : Int) : (mm_p (mk s) 40 5 1 (.inl v)).bind f = f (mk (uF s 40 1 v)) := by rw [mk_pI s (q := 40) rfl]; rfl
theorem o_g40_2 (s : mS) (f : Int → mO) : (mm_gI (mk s) 40 5 2).bind f = f (s.1 40 2) := by rw [mk_gI s (q := 40) rfl]; rfl
theorem o_p40_2 (s : mS) (f : mW → mO) (v : Int) : (mm_p (mk s) 40 5 2 (.inl v)).bind f = f (mk (uF s 40 2 v)) := by rw [mk_pI s (q := 40) rfl]; rfl
theorem o_g40_3 (s : mS) (f : Int → mO) : (mm_gI (mk s) 40 5 3).bind f = f (s.1 40 3) := by rw [mk_gI s (q := 40) rfl]; rfl
theorem o_p40_3 (s : mS) (f : mW → mO) (v : Int) : (mm_p (mk s) 40 5 3 (.inl v)).bind f = f (mk (uF s 40 3 v)) := by rw [mk_pI s (q := 40) rfl]; rfl
theorem o_g40_4 (s : mS) (f : Option Nat → mO) : (mm_gR (mk s) 40 5 4).bind f = f (some 41) := by rw [mk_gR s (q := 40) rfl]; rfl
theorem o_g40_5 (s : mS) (f : Option Nat → mO) : (mm_gR (mk s) 40 5 5).bind f = f (some 42) := by rw [mk_gR s (q := 40) rfl]; rfl
theorem o_g40_6 (s : mS) (f : Int → mO) : (mm_gI (mk s) 40 5 6).bind f = f (s.1 40 6) := by rw [mk_gI s (q := 40) rfl]; rfl
theorem o_p40_6 (s : mS) (f : mW → mO) (v : Int) : (mm_p (mk s) 40 5 6 (.inl v)).bind f = f (mk (uF s 40 6 v)) := by rw [mk_pI s (q := 40) rfl]; rfl
theorem o_g40_7 (s : mS) (f : Option Nat → mO) : (mm_gR (mk s) 40 5 7).bind f = f (some 43) := by rw [mk_gR s (q := 40) rfl]; rfl
theorem o_g40_8 (s : mS) (f : Option Nat → mO) : (mm_gR (mk s) 40 5 8).bind f = f (some 44) := by rw [mk_gR s (q := 40) rfl]; rfl
theorem o_g40_9 (s : mS) (f : Option Nat → mO) : (mm_gR (mk s) 40 5 9).bind f = f (some 45) := by rw [mk_gR s (q := 40) rfl]; rfl
theorem o_g40_10 (s : mS) (f : Int → mO) : (mm_gI (mk s) 40 5 10).bind f = f (s.1 40 10) := by rw [mk_gI s (q := 40) rfl]; rfl
theorem o_p40_10 (s : mS) (f : mW → mO) (v : Int) : (mm_p (mk s) 40 5 10 (.inl v)).bind f = f (mk (uF s 40 10 v)) := by rw [mk_pI s (q := 40) rfl]; rfl
theorem o_g40_11 (s : mS) (f : Option Nat → mO) : (mm_gR (mk s) 40 5 11).bind f = f (some 46) := by rw [mk_gR s (q := 40) rfl]; rfl
theorem o_g40_12 (s : mS) (f : Option Nat → mO) : (mm_gR (mk s) 40 5 12).bind f = f (some 47) := by rw [mk_gR s (q := 40) rfl]; rfl
theorem o_g40_13 (s : mS) (f : Option Nat → mO) : (mm_gR (mk s) 40 5 13).bind f = f (some 48) := by rw [mk_gR s (q := 40) rfl]; rfl
theorem o_g40_14 (s : mS) (f : Option Nat → mO) : (mm_gR (mk s) 40 5 14).bind f = f (some 49) := by rw [mk_gR s (q := 40) rfl]; rfl
theorem o_g40_15 (s : mS) (f : Option Nat → mO) : (mm_gR (mk s) 40 5 15).bind f = f (some 50) := by rw [mk_gR s (q := 40) rfl]; rfl
theorem o_g40_16 (s : mS) (f : Option Nat → mO) : (mm_gR (mk s) 40 5 16).bind f = f (some 51) := by rw [mk_gR s (q := 40) rfl]; rfl
theorem o_g40_17 (s : mS) (f : Option Nat → mO) : (mm_gR (mk s) 40 5 17).bind f = f (some 52) := by rw [mk_gR s (q := 40) rfl]; rfl
theorem a_ln41 (s : mS) (f : Int → mO) : (mm_ln (mk s) 41).bind f = f 25 := by rw [mk_ln s (q := 41) rfl (by decide)]; rfl
theorem a_ld41 (s : mS) (f : Int → mO) (i : Int) (h0 : 0 ≤ i) (h1 : i < 25) : (mm_ld 0 (mk s) 41 i).bind f = f (s.2 41 i) := by rw [mk_ld s (q := 41) rfl h0 h1]; rfl
theorem a_st41 (s : mS) (f : mW → mO) (i v : Int) (h0 : 0 ≤ i) (h1 : i < 25) : (mm_st 0 (mk s) 41 i v).bind f = f (mk (uA s 41 i v)) := by rw [mk_st s (q := 41) rfl h0 h1]; rfl
theorem a_ln42 (s : mS) (f : Int → mO) : (mm_ln (mk s) 42).bind f = f 25 := by rw [mk_ln s (q := 42) rfl (by decide)]; rfl
theorem a_ld42 (s : mS) (f : Int → mO) (i : Int) (h0 : 0 ≤ i) (h1 : i < 25) : (mm_ld 0 (mk s) 42 i).bind f = f (s.2 42 i) := by rw [mk_ld s (q := 42) rfl h0 h1]; rfl
theorem a_st42 (s : mS) (f : mW → mO) (i v : Int) (h0 : 0 ≤ i) (h1 : i < 25) : (mm_st 0 (mk s) 42 i v).bind f = f (mk (uA s 42 i v)) := by rw [mk_st s (q := 42) rfl h0 h1]; rfl
theorem a_ln43 (s : mS) (f : Int → mO) : (mm_ln (mk s) 43).bind f = f 7 := by rw [mk_ln s (q := 43) rfl (by decide)]; rfl
theorem a_ld43 (s : mS) (f : Int → mO) (i : Int) (h0 : 0 ≤ i) (h1 : i < 7) : (mm_ld 0 (mk s) 43 i).bind f = f (s.2 43 i) := by rw [mk_ld s (q := 43) rfl h0 h1]; rfl
theorem a_st43 (s : mS) (f : mW → mO) (i v : Int) (h0 : 0 ≤ i) (h1 : i < 7) : (mm_st 0 (mk s) 43 i v).bind f = f (mk (uA s 43 i v)) := by rw [mk_st s (q := 43) rfl h0 h1]; rfl
theorem a_ln44 (s : mS) (f : Int → mO) : (mm_ln (mk s) 44).bind f = f 7 := by rw [mk_ln s (q := 44) rfl (by decide)]; rfl
theorem a_ld44 (s : mS) (f : Int → mO) (i : Int) (h0 : 0 ≤ i) (h1 : i < 7) : (mm_ld 0 (mk s) 44 i).bind f = f (s.2 44 i) := by rw [mk_ld s (q := 44) rfl h0 h1]; rfl
theorem a_st44 (s : mS) (f : mW → mO) (i v : Int) (h0 : 0 ≤ i) (h1 : i < 7) : (mm_st 0 (mk s) 44 i v).bind f = f (mk (uA s 44 i v)) := by rw [mk_st s (q := 44) rfl h0 h1]; rfl
theorem a_ln45 (s : mS) (f : Int → mO) : (mm_ln (mk s) 45).bind f = f 7 := by rw [mk_ln s (q := 45) rfl (by decide)]; rfl
theorem a_ld45 (s : mS) (f : Int → mO) (i : Int) (h0 : 0 ≤ i) (h1 : i < 7) : (mm_ld 3 (mk s) 45 i).bind f = f (s.2 45 i) := by rw [mk_ld s (q := 45) rfl h0 h1]; rfl
theorem a_st45 (s : mS) (f : mW → mO) (i v : Int) (h0 : 0 ≤ i) (h1 : i < 7) : (mm_st 3 (mk s) 45 i v).bind f = f (mk (uA s 45 i v)) := by rw [mk_st s (q := 45) rfl h0 h1]; rfl
theorem a_ln46 (s : mS) (f : Int → mO) : (mm_ln (mk s) 46).bind f = f 5 := by rw [mk_ln s (q := 46) rfl (by decide)]; rfl
theorem a_ld46 (s : mS) (f : Int → mO) (i : Int) (h0 : 0 ≤ i) (h1 : i < 5) : (mm_ld 0 (mk s) 46 i).bind f = f (s.2 46 i) := by rw [mk_ld s (q := 46) rfl h0 h1]; rfl
theorem a_st46 (s : mS) (f : mW → mO) (i v : Int) (h0 : 0 ≤ i) (h1 : i < 5) : (mm_st 0 (mk s) 46 i v).bind f = f (mk (uA s 46 i v)) := by rw [mk_st s (q := 46) rfl h0 h1]; rfl
theorem a_ln47 (s : mS) (f : Int → mO) : (mm_ln (mk s) 47).bind f = f 5 := by rw [mk_ln s (q := 47) rfl (by decide)]; rfl
theorem a_ld47 (s : mS) (f : Int → mO) (i : Int) (h0 : 0 ≤ i) (h1 : i < 5) : (mm_ld 0 (mk s) 47 i).bind f = f (s.2 47 i) := by rw [mk_ld s (q := 47) rfl h0 h1]; rfl
theorem a_st47 (s : mS) (f : mW → mO) (i v : Int) (h0 : 0 ≤ i) (h1 : i < 5) : (mm_st 0 (mk s) 47 i v).bind f = f (mk (uA s 47 i v)) := by rw [mk_st s (q := 47) rfl h0 h1]; rfl
theorem a_ln48 (s : mS) (f : Int → mO) : (mm_ln (mk s) 48).bind f = f 5 := by rw [mk_ln s (q := 48) rfl (by decide)]; rfl
theorem a_ld48 (s : mS) (f : Int → mO) (i : Int) (h0 : 0 ≤ i) (h1 : i < 5) : (mm_ld 0 (mk s) 48 i).bind f = f (s.2 48 i) := by rw [mk_ld s (q := 48) rfl h0 h1]; rfl
theorem a_st48 (s : mS) (f : mW → mO) (i v : Int) (h0 : 0 ≤ i) (h1 : i < 5) : (mm_st 0 (mk s) 48 i v).bind f = f (mk (uA s 48 i v)) := by rw [mk_st s (q := 48) rfl h0 h1]; rfl
theorem a_ln49 (s : mS) (f : Int → mO) : (mm_ln (mk s) 49).bind f = f 5 := by rw [mk_ln s (q := 49) rfl (by decide)]; rfl
theorem a_ld49 (s : mS) (f : Int → mO) (i : Int) (h0 : 0 ≤ i) (h1 : i < 5) : (mm_ld 0 (mk s) 49 i).bind f = f (s.2 49 i) := by rw [mk_ld s (q := 49) rfl h0 h1]; rfl
theorem a_st49 (s : mS) (f : mW → mO) (i v : Int) (h0 : 0 ≤ i) (h1 : i < 5) : (mm_st 0 (mk s) 49 i v).bind f = f (mk (uA s 49 i v)) := by rw [mk_st s (q := 49) rfl h0 h1]; rfl
theorem a_ln50 (s : mS) (f : Int → mO) : (mm_ln (mk s) 50).bind f = f 5 := by rw [mk_ln s (q := 50) rfl (by decide)]; rfl
theorem a_ld50 (s : mS) (f : Int → mO) (i : Int) (h0 : 0 ≤ i) (h1 : i < 5) : (mm_ld 0 (mk s) 50 i).bind f = f (s.2 50 i) := by rw [mk_ld s (q := 50) rfl h0 h1]; rfl
theorem a_st50 (s : mS) (f : mW → mO) (i v : Int) (h0 : 0 ≤ i) (h1 : i < 5) : (mm_st 0 (mk s) 50 i v).bind f = f (mk (uA s 50 i v)) := by rw [mk_st s (q := 50) rfl h0 h1]; rfl
theorem a_ln51 (s : mS) (f : Int → mO) : (mm_ln (mk s) 51).bind f = f 5 := by rw [mk_ln s (q := 51) rfl (by decide)]; rfl
theorem a_ld51 (s : mS) (f : Int → mO) (i : Int) (h0 : 0 ≤ i) (h1 : i < 5) : (mm_ld 0 (mk s) 51 i).bind f = f (s.2 51 i) := by rw [mk_ld s (q := 51) rfl h0 h1]; rfl
theorem a_st51 (s : mS) (f : mW → mO) (i v : Int) (h0 : 0 ≤ i) (h1 : i < 5) : (mm_st 0 (mk s) 51 i v).bind f = f (mk (uA s 51 i v)) := by rw [mk_st s (q := 51) rfl h0 h1]; rfl
theorem a_ln52 (s : mS) (f : Int → mO) : (mm_ln (mk s) 52).bind f = f 5 := by rw [mk_ln s (q := 52) rfl (by decide)]; rfl
theorem a_ld52 (s : mS) (f : Int → mO) (i : Int) (h0 : 0 ≤ i) (h1 : i < 5) : (mm_ld 3 (mk s) 52 i).bind f = f (s.2 52 i) := by rw [mk_ld s (q := 52) rfl h0 h1]; rfl
theorem a_st52 (s : mS) (f : mW → mO) (i v : Int) (h0 : 0 ≤ i) (h1 : i < 5) : (mm_st 3 (mk s) 52 i v).bind f = f (mk (uA s 52 i v)) := by rw [mk_st s (q := 52) rfl h0 h1]; rfl
theorem o_c84 (s : mS) : mm_cls (mk s) 84 = 5 := mk_cls s (k := 0) (t := 0) rfl
theorem o_g84_0 (s : mS) (f : Int → mO) : (mm_gI (mk s) 84 5 0).bind f = f (s.1 84 0) := by rw [mk_gI s (q := 84) rfl]; rfl
theorem o_p84_0 (s : mS) (f : mW → mO) (v : Int) : (mm_p (mk s) 84 5 0 (.inl v)).bind f = f (mk (uF s 84 0 v)) := by rw [mk_pI s (q := 84) rfl]; rfl
theorem o_g84_1 (s : mS) (f : Int → mO) : (mm_gI (mk s) 84 5 1).bind f = f (s.1 84 1) := by rw [mk_gI s (q := 84) rfl]; rfl
theorem o_p84_1 (s : mS) (f : mW → mO) (v : Int) : (mm_p (mk s) 84 5 1 (.inl v)).bind f = f (mk (uF s 84 1 v)) := by rw [mk_pI s (q := 84) rfl]; rfl
theorem o_g84_2 (s : mS) (f : Int → mO) : (mm_gI (mk s) 84 5 2).bind f = f (s.1 84 2) := by rw [mk_gI s (q := 84) rfl]; rfl
theorem o_p84_2 (s : mS) (f : mW → mO) (v : Int) : (mm_p (mk s) 84 5 2 (.inl v)).bind f = f (mk (uF s 84 2 v)) := by rw [mk_pI s (q := 84) rfl]; rfl
theorem o_g84_3 (s : mS) (f : Int → mO) : (mm_gI (mk s) 84 5 3).bind f = f (s.1 84 3) := by rw [mk_gI s (q := 84) rfl]; rfl
theorem o_p84_3 (s : mS) (f : mW → mO) (v : Int) : (mm_p (mk s) 84 5 3 (.inl v)).bind f = f (mk (uF s 84 3 v)) := by rw [mk_pI s (q := 84) rfl]; rfl
theorem o_g84_4 (s : mS) (f : Option Nat → mO) : (mm_gR (mk s) 84 5 4).bind f = f (some 85) := by rw [mk_gR s (q := 84) rfl]; rfl
theorem o_g84_5 (s : mS) (f : Option Nat → mO) : (mm_gR (mk s) 84 5 5).bind f = f (some 86) := by rw [mk_gR s (q := 84) rfl]; rfl
theorem o_g84_6 (s : mS) (f : Int → mO) : (mm_gI (mk s) 84 5 6).bind f = f (s.1 84 6) := by rw [mk_gI s (q := 84) rfl]; rfl
theorem o_p84_6 (s : mS) (f : mW → mO) (v : Int) : (mm_p (mk s) 84 5 6 (.inl v)).bind f = f (mk (uF s 84 6 v)) := by rw [mk_pI s (q := 84) rfl]; rfl
theorem o_g84_7 (s : mS) (f : Option Nat → mO) : (mm_gR (mk s) 84 5 7).bind f = f (some 87) := by rw [mk_gR s (q := 84) rfl]; rfl
theorem o_g84_8 (s : mS) (f : Option Nat → mO) : (mm_gR (mk s) 84 5 8).bind f = f (some 88) := by rw [mk_gR s (q := 84) rfl]; rfl
theorem o_g84_9 (s : mS) (f : Option Nat → mO) : (mm_gR (mk s) 84 5 9).bind f = f (some 89) := by rw [mk_gR s (q := 84) rfl]; rfl
theorem o_g84_10 (s : mS) (f : Int → mO) : (mm_gI (mk s) 84 5 10).bind f = f (s.1 84 10) := by rw [mk_gI s (q := 84) rfl]; rfl
theorem o_p84_10 (s : mS) (f : mW → mO) (v : Int) : (mm_p (mk s) 84 5 10 (.inl v)).bind f = f (mk (uF s 84 10 v)) := by rw [mk_pI s (q := 84) rfl]; rfl
theorem o_g84_11 (s : mS) (f : Option Nat → mO) : (mm_gR (mk s) 84 5 11).bind f = f (some 90) := by rw [mk_gR s (q := 84) rfl]; rfl
theorem o_g84_12 (s : mS) (f : Option Nat → mO) : (mm_gR (mk s) 84 5 12).bind f = f (some 91) := by rw [mk_gR s (q := 84) rfl]; rfl
theorem o_g84_13 (s : mS) (f : Option Nat → mO) : (mm_gR (mk s) 84 5 13).bind f = f (some 92) := by rw [mk_gR s (q := 84) rfl]; rfl
theorem o_g84_14 (s : mS) (f : Option Nat → mO) : (mm_gR (mk s) 84 5 14).bind f = f (some 93) := by rw [mk_gR s (q := 84) rfl]; rfl
theorem o_g84_15 (s : mS) (f : Option Nat → mO) : (mm_gR (mk s) 84 5 15).bind f = f (some 94) := by rw [mk_gR s (q := 84) rfl]; rfl
theorem o_g84_16 (s : mS) (f : Option Nat → mO) : (mm_gR (mk s) 84 5 16).bind f = f (some 95) := by rw [mk_gR s (q := 84) rfl]; rfl
theorem o_g84_17 (s : mS) (f : Option Nat → mO) : (mm_gR (mk s) 84 5 17).bind f = f (some 96) := by rw [mk_gR s (q := 84) rfl]; rfl
theorem a_ln85 (s : mS) (f : Int → mO) : (mm_ln (mk s) 85).bind f = f 25 := by rw [mk_ln s (q := 85) rfl (by decide)]; rfl
theorem a_ld85 (s : mS) (f : Int → mO) (i : Int) (h0 : 0 ≤ i) (h1 : i < 25) : (mm_ld 0 (mk s) 85 i).bind f = f (s.2 85 i) := by rw [mk_ld s (q := 85) rfl h0 h1]; rfl
theorem a_st85 (s : mS) (f : mW → mO) (i v : Int) (h0 : 0 ≤ i) (h1 : i < 25) : (mm_st 0 (mk s) 85 i v).bind f = f (mk (uA s 85 i v)) := by rw [mk_st s (q := 85) rfl h0 h1]; rfl
theorem a_ln86 (s : mS) (f : Int → mO) : (mm_ln (mk s) 86).bind f = f 25 := by rw [mk_ln s (q := 86) rfl (by decide)]; rfl
theorem a_ld86 (s : mS) (f : Int → mO) (i : Int) (h0 : 0 ≤ i) (h1 : i < 25) : (mm_ld 0 (mk s) 86 i).bind f = f (s.2 86 i) := by rw [mk_ld s (q := 86) rfl h0 h1]; rfl
theorem a_st86 (s : mS) (f : mW → mO) (i v : Int) (h0 : 0 ≤ i) (h1 : i < 25) : (mm_st 0 (mk s) 86 i v).bind f = f (mk (uA s 86 i v)) := by rw [mk_st s (q := 86) rfl h0 h1]; rfl
theorem a_ln87 (s : mS) (f : Int → mO) : (mm_ln (mk s) 87).bind f = f 7 := by rw [mk_ln s (q := 87) rfl (by decide)]; rfl
theorem a_ld87 (s : mS) (f : Int → mO) (i : Int) (h0 : 0 ≤ i) (h1 : i < 7) : (mm_ld 0 (mk s) 87 i).bind f = f (s.2 87 i) := by rw [mk_ld s (q := 87) rfl h0 h1]; rfl
theorem a_st87 (s : mS) (f : mW → mO) (i v : Int) (h0 : 0 ≤ i) (h1 : i < 7) : (mm_st 0 (mk s) 87 i v).bind f = f (mk (uA s 87 i v)) := by rw [mk_st s (q := 87) rfl h0 h1]; rfl
theorem a_ln88 (s : mS) (f : Int → mO) : (mm_ln (mk s) 88).bind f = f 7 := by rw [mk_ln s (q := 88) rfl (by decide)]; rfl
theorem a_ld88 (s : mS) (f : Int → mO) (i : Int) (h0 : 0 ≤ i) (h1 : i < 7) : (mm_ld 0 (mk s) 88 i).bind f = f (s.2 88 i) := by rw [mk_ld s (q := 88) rfl h0 h1]; rfl
theorem a_st88 (s : mS) (f : mW → mO) (i v : Int) (h0 : 0 ≤ i) (h1 : i < 7) : (mm_st 0 (mk s) 88 i v).bind f = f (mk (uA s 88 i v)) := by rw [mk_st s (q := 88) rfl h0 h1]; rfl
theorem a_ln89 (s : mS) (f : Int → mO) : (mm_ln (mk s) 89).bind f = f 7 := by rw [mk_ln s (q := 89) rfl (by decide)]; rfl
theorem a_ld89 (s : mS) (f : Int → mO) (i : Int) (h0 : 0 ≤ i) (h1 : i < 7) : (mm_ld 3 (mk s) 89 i).bind f = f (s.2 89 i) := by rw [mk_ld s (q := 89) rfl h0 h1]; rfl
theorem a_st89 (s : mS) (f : mW → mO) (i v : Int) (h0 : 0 ≤ i) (h1 : i < 7) : (mm_st 3 (mk s) 89 i v).bind f = f (mk (uA s 89 i v)) := by rw [mk_st s (q := 89) rfl h0 h1]; rfl
theorem a_ln90 (s : mS) (f : Int → mO) : (mm_ln (mk s) 90).bind f = f 5 := by rw [mk_ln s (q := 90) rfl (by decide)]; rfl
theorem a_ld90 (s : mS) (f : Int → mO) (i : Int) (h0 : 0 ≤ i) (h1 : i < 5) : (mm_ld 0 (mk s) 90 i).bind f = f (s.2 90 i) := by rw [mk_ld s (q := 90) rfl h0 h1]; rfl
theorem a_st90 (s : mS) (f : mW → mO) (i v : Int) (h0 : 0 ≤ i) (h1 : i < 5) : (mm_st 0 (mk s) 90 i v).bind f = f (mk (uA s 90 i v)) := by rw [mk_st s (q := 90) rfl h0 h1]; rfl
theorem a_ln91 (s : mS) (f : Int → mO) : (mm_ln (mk s) 91).bind f = f 5 := by rw [mk_ln s (q := 91) rfl (by decide)]; rfl
theorem a_ld91 (s : mS) (f : Int → mO) (i : Int) (h0 : 0 ≤ i) (h1 : i < 5) : (mm_ld 0 (mk s) 91 i).bind f = f (s.2 91 i) := by rw [mk_ld s (q := 91) rfl h0 h1]; rfl
theorem a_st91 (s : mS) (f : mW → mO) (i v : Int) (h0 : 0 ≤ i) (h1 : i < 5) : (mm_st 0 (mk s) 91 i v).bind f = f (mk (uA s 91 i v)) := by rw [mk_st s (q := 91) rfl h0 h1]; rfl
theorem a_ln92 (s : mS) (f : Int → mO) : (mm_ln (mk s) 92).bind f = f 5 := by rw [mk_ln s (q := 92) rfl (by decide)]; rfl
theorem a_ld92 (s : mS) (f : Int → mO) (i : Int) (h0 : 0 ≤ i) (h1 : i < 5) : (mm_ld 0 (mk s) 92 i).bind f = f (s.2 92 i) := by rw [mk_ld s (q := 92) rfl h0 h1]; rfl
theorem a_st92 (s : mS) (f : mW → mO) (i v : Int) (h0 : 0 ≤ i) (h1 : i < 5) : (mm_st 0 (mk s) 92 i v).bind f = f (mk (uA s 92 i v)) := by rw [mk_st s (q := 92) rfl h0 h1]; rfl
theorem a_ln93 (s : mS) (f : Int → mO) : (mm_ln (mk s) 93).bind f = f 5 := by rw [mk_ln s (q := 93) rfl (by decide)]; rfl
theorem a_ld93 (s : mS) (f : Int → mO) (i : Int) (h0 : 0 ≤ i) (h1 : i < 5) : (mm_ld 0 (mk s) 93 i).bind f = f (s.2 93 i) := by rw [mk_ld s (q := 93) rfl h0 h1]; rfl
theorem a_st93 (s : mS) (f : mW → mO) (i v : Int) (h0 : 0 ≤ i) (h1 : i < 5) : (mm_st 0 (mk s) 93 i v).bind f = f (mk (uA s 93 i v)) := by rw [mk_st s (q := 93) rfl h0 h1]; rfl
theorem a_ln94 (s : mS) (f : Int → mO) : (mm_ln (mk s) 94).bind f = f 5 := by rw [mk_ln s (q := 94) rfl (by decide)]; rfl
theorem a_ld94 (s : mS) (f : Int → mO) (i : Int) (h0 : 0 ≤ i) (h1 : i < 5) : (mm_ld 0 (mk s) 94 i).bind f = f (s.2 94 i) := by rw [mk_ld s (q := 94) rfl h0 h1]; rfl
theorem a_st94 (s : mS) (f : mW → mO) (i v : Int) (h0 : 0 ≤ i) (h1 : i < 5) : (mm_st 0 (mk s) 94 i v).bind f = f (mk (uA s 94 i v)) := by rw [mk_st s (q := 94) rfl h0 h1]; rfl
theorem a_ln95 (s : mS) (f : Int → mO) : (mm_ln (mk s) 95).bind f = f 5 := by rw [mk_ln s (q := 95) rfl (by decide)]; rfl
theorem a_ld95 (s : mS) (f : Int → mO) (i : Int) (h0 : 0 ≤ i) (h1 : i < 5) : (mm_ld 0 (mk s) 95 i).bind f = f (s.2 95 i) := by rw [mk_ld s (q := 95) rfl h0 h1]; rfl
theorem a_st95 (s : mS) (f : mW → mO) (i v : Int) (h0 : 0 ≤ i) (h1 : i < 5) : (mm_st 0 (mk s) 95 i v).bind f = f (mk (uA s 95 i v)) := by rw [mk_st s (q := 95) rfl h0 h1]; rfl
theorem a_ln96 (s : mS) (f : Int → mO) : (mm_ln (mk s) 96).bind f = f 5 := by rw [mk_ln s (q := 96) rfl (by decide)]; rfl
theorem a_ld96 (s : mS) (f : Int → mO) (i : Int) (h0 : 0 ≤ i) (h1 : i < 5) : (mm_ld 3 (mk s) 96 i).bind f = f (s.2 96 i) := by rw [mk_ld s (q := 96) rfl h0 h1]; rfl
theorem a_st96 (s : mS) (f : mW → mO) (i v : Int) (h0 : 0 ≤ i) (h1 : i < 5) : (mm_st 3 (mk s) 96 i v).bind f = f (mk (uA s 96 i v)) := by rw [mk_st s (q := 96) rfl h0 h1]; rfl
theorem o_c97 (s : mS) : mm_cls (mk s) 97 = 5 := mk_cls s (k := 0) (t := 0) rfl
theorem o_g97_0 (s : mS) (f : Int → mO) : (mm_gI (mk s) 97 5 0).bind f = f (s.1 97 0) := by rw [mk_gI s (q := 97) rfl]; rfl
theorem o_p97_0 (s : mS) (f : mW → mO) (v : Int) : (mm_p (mk s) 97 5 0 (.inl v)).bind f = f (mk (uF s 97 0 v)) := by rw [mk_pI s (q := 97) rfl]; rfl
theorem o_g97_1 (s : mS) (f : Int → mO) : (mm_gI (mk s) 97 5 1).bind f = f (s.1 97 1) := by rw [mk_gI s (q := 97) rfl]; rfl
theorem o_p97_1 (s : mS) (f : mW → mO) (v : Int) : (mm_p (mk s) 97 5 1 (.inl v)).bind f = f (mk (uF s 97 1 v)) := by rw [mk_pI s (q := 97) rfl]; rfl
theorem o_g97_2 (s : mS) (f : Int → mO) : (mm_gI (mk s) 97 5 2).bind f = f (s.1 97 2) := by rw [mk_gI s (q := 97) rfl]; rfl
theorem o_p97_2 (s : mS) (f : mW → mO) (v : Int) : (mm_p (mk s) 97 5 2 (.inl v)).bind f = f (mk (uF s 97 2 v)) := by rw [mk_pI s (q := 97) rfl]; rfl
theorem o_g97_3 (s : mS) (f : Int → mO) : (mm_gI (mk s) 97 5 3).bind f = f (s.1 97 3) := by rw [mk_gI s (q := 97) rfl]; rfl
theorem o_p97_3 (s : mS) (f : mW → mO) (v : Int) : (mm_p (mk s) 97 5 3 (.inl v)).bind f = f (mk (uF s 97 3 v)) := by rw [mk_pI s (q := 97) rfl]; rfl
theorem o_g97_4 (s : mS) (f : Option Nat → mO) : (mm_gR (mk s) 97 5 4).bind f = f (some 98) := by rw [mk_gR s (q := 97) rfl]; rfl
theorem o_g97_5 (s : mS) (f : Option Nat → mO) : (mm_gR (mk s) 97 5 5).bind f = f (some 99) := by rw [mk_gR s (q := 97) rfl]; rfl
theorem o_g97_6 (s : mS) (f : Int → mO) : (mm_gI (mk s) 97 5 6).bind f = f (s.1 97 6) := by rw [mk_gI s (q := 97) rfl]; rfl
theorem o_p97_6 (s : mS) (f : mW → mO) (v : Int) : (mm_p (mk s) 97 5 6 (.inl v)).bind f = f (mk (uF s 97 6 v)) := by rw [mk_pI s (q := 97) rfl]; rfl
theorem o_g97_7 (s : mS) (f : Option Nat → mO) : (mm_gR (mk s) 97 5 7).bind f = f (some 100) := by rw [mk_gR s (q := 97) rfl]; rfl
theorem o_g97_8 (s : mS) (f : Option Nat → mO) : (mm_gR (mk s) 97 5 8).bind f = f (some 101) := by rw [mk_gR s (q := 97) rfl]; rfl
theorem o_g97_9 (s : mS) (f : Option Nat → mO) : (mm_gR (mk s) 97 5 9).bind f = f (some 102) := by rw [mk_gR s (q := 97) rfl]; rfl
theorem o_g97_10 (s : mS) (f : Int → mO) : (mm_gI (mk s) 97 5 10).bind f = f (s.1 97 10) := by rw [mk_gI s (q := 97) rfl]; rfl
theorem o_p97_10 (s : mS) (f : mW → mO) (v : Int) : (mm_p (mk s) 97 5 10 (.inl v)).bind f = f (mk (uF s 97 10 v)) := by rw [mk_pI s (q := 97) rfl]; rfl
theorem o_g97_11 (s : mS) (f : Option Nat → mO) : (mm_gR (mk s) 97 5 11).bind f = f (some 103) := by rw [mk_gR s (q := 97) rfl]; rfl
theorem o_g97_12 (s : mS) (f : Option Nat → mO) : (mm_gR (mk s) 97 5 12).bind f = f (some 104) := by rw [mk_gR s (q := 97) rfl]; rfl
theorem o_g97_13 (s : mS) (f : Option Nat → mO) : (mm_gR (mk s) 97 5 13).bind f = f (some 105) := by rw [mk_gR s (q := 97) rfl]; rfl
theorem o_g97_14 (s : mS) (f : Option Nat → mO) : (mm_gR (mk s) 97 5 14).bind f = f (some 106) := by rw [mk_gR s (q := 97) rfl]; rfl
theorem o_g97_15 (s : mS) (f : Option Nat → mO) : (mm_gR (mk s) 97 5 15).bind f = f (some 107) := by rw [mk_gR s (q := 97) rfl]; rfl
theorem o_g97_16 (s : mS) (f : Option Nat → mO) : (mm_gR (mk s) 97 5 16).bind f = f (some 108) := by rw [mk_gR s (q := 97) rfl]; rfl
theorem o_g97_17 (s : mS) (f : Option Nat → mO) : (mm_gR (mk s) 97 5 17).bind f = f (some 109) := by rw [mk_gR s (q := 97) rfl]; rfl
theorem a_ln98 (s : mS) (f : Int → mO) : (mm_ln (mk s) 98).bind f = f 25 := by rw [mk_ln s (q := 98) rfl (by decide)]; rfl
theorem a_ld98 (s : mS) (f : Int → mO) (i : Int) (h0 : 0 ≤ i) (h1 : i < 25) : (mm_ld 0 (mk s) 98 i).bind f = f (s.2 98 i) := by rw [mk_ld s (q := 98) rfl h0 h1]; rfl
theorem a_st98 (s : mS) (f : mW → mO) (i v : Int) (h0 : 0 ≤ i) (h1 : i < 25) : (mm_st 0 (mk s) 98 i v).bind f = f (mk (uA s 98 i v)) := by rw [mk_st s (q := 98) rfl h0 h1]; rfl
theorem a_ln99 (s : mS) (f : Int → mO) : (mm_ln (mk s) 99).bind f = f 25 := by rw [mk_ln s (q := 99) rfl (by decide)]; rfl
theorem a_ld99 (s : mS) (f : Int → mO) (i : Int) (h0 : 0 ≤ i) (h1 : i < 25) : (mm_ld 0 (mk s) 99 i).bind f = f (s.2 99 i) := by rw [mk_ld s (q := 99) rfl h0 h1]; rfl
theorem a_st99 (s : mS) (f : mW → mO) (i v : Int) (h0 : 0 ≤ i) (h1 : i < 25) : (mm_st 0 (mk s) 99 i v).bind f = f (mk (uA s 99 i v)) := by rw [mk_st s (q := 99) rfl h0 h1]; rfl
theorem a_ln100 (s : mS) (f : Int → mO) : (mm_ln (mk s) 100).bind f = f 7 := by rw [mk_ln s (q := 100) rfl (by decide)]; rfl
theorem a_ld100 (s : mS) (f : Int → mO) (i : Int) (h0 : 0 ≤ i) (h1 : i < 7) : (mm_ld 0 (mk s) 100 i).bind f = f (s.2 100 i) := by rw [mk_ld s (q := 100) rfl h0 h1]; rfl
theorem a_st100 (s : mS) (f : mW → mO) (i v : Int) (h0 : 0 ≤ i) (h1 : i < 7) : (mm_st 0 (mk s) 100 i v).bind f = f (mk (uA s 100 i v)) := by rw [mk_st s (q := 100) rfl h0 h1]; rfl
theorem a_ln101 (s : mS) (f : Int → mO) : (mm_ln (mk s) 101).bind f = f 7 := by rw [mk_ln s (q := 101) rfl (by decide)]; rfl
theorem a_ld101 (s : mS) (f : Int → mO) (i : Int) (h0 : 0 ≤ i) (h1 : i < 7) : (mm_ld 0 (mk s) 101 i).bind f = f (s.2 101 i) := by rw [mk_ld s (q := 101) rfl h0 h1]; rfl
theorem a_st101 (s : mS) (f : mW → mO) (i v : Int) (h0 : 0 ≤ i) (h1 : i < 7) : (mm_st 0 (mk s) 101 i v).bind f = f (mk (uA s 101 i v)) := by rw [mk_st s (q := 101) rfl h0 h1]; rfl
theorem a_ln102 (s : mS) (f : Int → mO) : (mm_ln (mk s) 102).bind f = f 7 := by rw [mk_ln s (q := 102) rfl (by decide)]; rfl
theorem a_ld102 (s : mS) (f : Int → mO) (i : Int) (h0 : 0 ≤ i) (h1 : i < 7) : (mm_ld 3 (mk s) 102 i).bind f = f (s.2 102 i) := by rw [mk_ld s (q := 102) rfl h0 h1]; rfl
theorem a_st102 (s : mS) (f : mW → mO) (i v : Int) (h0 : 0 ≤ i) (h1 : i < 7) : (mm_st 3 (mk s) 102 i v).bind f = f (mk (uA s 102 i v)) := by rw [mk_st s (q := 102) rfl h0 h1]; rfl
theorem a_ln103 (s : mS) (f : Int → mO) : (mm_ln (mk s) 103).bind f = f 5 := by rw [mk_ln s (q := 103) rfl (by decide)]; rfl
theorem a_ld103 (s : mS) (f : Int → mO) (i : Int) (h0 : 0 ≤ i) (h1 : i < 5) : (mm_ld 0 (mk s) 103 i).bind f = f (s.2 103 i) := by rw [mk_ld s (q := 103) rfl h0 h1]; rfl
theorem a_st103 (s : mS) (f : mW → mO) (i v : Int) (h0 : 0 ≤ i) (h1 : i < 5) : (mm_st 0 (mk s) 103 i v).bind f = f (mk (uA s 103 i v)) := by rw [mk_st s (q := 103) rfl h0 h1]; rfl
theorem a_ln104 (s : mS) (f : Int → mO) : (mm_ln (mk s) 104).bind f = f 5 := by rw [mk_ln s (q := 104) rfl (by decide)]; rfl
theorem a_ld104 (s : mS) (f : Int → mO) (i : Int) (h0 : 0 ≤ i) (h1 : i < 5) : (mm_ld 0 (mk s) 104 i).bind f = f (s.2 104 i) := by rw [mk_ld s (q := 104) rfl h0 h1]; rfl
theorem a_st104 (s : mS) (f : mW → mO) (i v : Int) (h0 : 0 ≤ i) (h1 : i < 5) : (mm_st 0 (mk s) 104 i v).bind f = f (mk (uA s 104 i v)) := by rw [mk_st s (q := 104) rfl h0 h1]; rfl
theorem a_ln105 (s : mS) (f : Int → mO) : (mm_ln (mk s) 105).bind f = f 5 := by rw [mk_ln s (q := 105) rfl (by decide)]; rfl
theorem a_ld105 (s : mS) (f : Int → mO) (i : Int) (h0 : 0 ≤ i) (h1 : i < 5) : (mm_ld 0 (mk s) 105 i).bind f = f (s.2 105 i) := by rw [mk_ld s (q := 105) rfl h0 h1]; rfl
theorem a_st105 (s : mS) (f : mW → mO) (i v : Int) (h0 : 0 ≤ i) (h1 : i < 5) : (mm_st 0 (mk s) 105 i v).bind f = f (mk (uA s 105 i v)) := by rw [mk_st s (q := 105) rfl h0 h1]; rfl
theorem a_ln106 (s : mS) (f : Int → mO) : (mm_ln (mk s) 106).bind f = f 5 := by rw [mk_ln s (q := 106) rfl (by decide)]; rfl
theorem a_ld106 (s : mS) (f : Int → mO) (i : Int) (h0 : 0 ≤ i) (h1 : i < 5) : (mm_ld 0 (mk s) 106 i).bind f = f (s.2 106 i) := by rw [mk_ld s (q := 106) rfl h0 h1]; rfl
theorem a_st106 (s : mS) (f : mW → mO) (i v : Int) (h0 : 0 ≤ i) (h1 : i < 5) : (mm_st 0 (mk s) 106 i v).bind f = f (mk (uA s 106 i v)) := by rw [mk_st s (q := 106) rfl h0 h1]; rfl
theorem a_ln107 (s : mS) (f : Int → mO) : (mm_ln (mk s) 107).bind f = f 5 := by rw [mk_ln s (q := 107) rfl (by decide)]; rfl
theorem a_ld107 (s : mS) (f : Int → mO) (i : Int) (h0 : 0 ≤ i) (h1 : i < 5) : (mm_ld 0 (mk s) 107 i).bind f = f (s.2 107 i) := by rw [mk_ld s (q := 107) rfl h0 h1]; rfl
theorem a_st107 (s : mS) (f : mW → mO) (i v : Int) (h0 : 0 ≤ i) (h1 : i < 5) : (mm_st 0 (mk s) 107 i v).bind f = f (mk (uA s 107 i v)) := by rw [mk_st s (q := 107) rfl h0 h1]; rfl
theorem a_ln108 (s : mS) (f : Int → mO) : (mm_ln (mk s) 108).bind f = f 5 := by rw [mk_ln s (q := 108) rfl (by decide)]; rfl
theorem a_ld108 (s : mS) (f : Int → mO) (i : Int) (h0 : 0 ≤ i) (h1 : i < 5) : (mm_ld 0 (mk s) 108 i).bind f = f (s.2 108 i) := by rw [mk_ld s (q := 108) rfl h0 h1]; rfl
theorem a_st108 (s : mS) (f : mW → mO) (i v : Int) (h0 : 0 ≤ i) (h1 : i < 5) : (mm_st 0 (mk s) 108 i v).bind f = f (mk (uA s 108 i v)) := by rw [mk_st s (q := 108) rfl h0 h1]; rfl
theorem a_ln109 (s : mS) (f : Int → mO) : (mm_ln (mk s) 109).bind f = f 5 := by rw [mk_ln s (q := 109) rfl (by decide)]; rfl
theorem a_ld109 (s : mS) (f : Int → mO) (i : Int) (h0 : 0 ≤ i) (h1 : i < 5) : (mm_ld 3 (mk s) 109 i).bind f = f (s.2 109 i) := by rw [mk_ld s (q := 109) rfl h0 h1]; rfl
theorem a_st109 (s : mS) (f : mW → mO) (i v : Int) (h0 : 0 ≤ i) (h1 : i < 5) : (mm_st 3 (mk s) 109 i v).bind f = f (mk (uA s 109 i v)) := by rw [mk_st s (q := 109) rfl h0 h1]; rfl
theorem o_c110 (s : mS) : mm_cls (mk s) 110 = 5 := mk_cls s (k := 0) (t := 0) rfl
theorem o_g110_0 (s : mS) (f : Int → mO) : (mm_gI (mk s) 110 5 0).bind f = f (s.1 110 0) := by rw [mk_gI s (q := 110) rfl]; rfl
theorem o_p110_0 (s : mS) (f : mW → mO) (v : Int) : (mm_p (mk s) 110 5 0 (.inl v)).bind f = f (mk (uF s 110 0 v)) := by rw [mk_pI s (q := 110) rfl]; rfl
theorem o_g110_1 (s : mS) (f : Int → mO) : (mm_gI (mk s) 110 5 1).bind f = f (s.1 110 1) := by rw [mk_gI s (q := 110) rfl]; rfl
theorem o_p110_1 (s : mS) (f : mW → mO) (v : Int) : (mm_p (mk s) 110 5 1 (.inl v)).bind f = f (mk (uF s 110 1 v)) := by rw [mk_pI s (q := 110) rfl]; rfl
theorem o_g110_2 (s : mS) (f : Int → mO) : (mm_gI (mk s) 110 5 2).bind f = f (s.1 110 2) := by rw [mk_gI s (q := 110) rfl]; rfl
theorem o_p110_2 (s : mS) (f : mW → mO) (v : Int) : (mm_p (mk s) 110 5 2 (.inl v)).bind f = f (mk (uF s 110 2 v)) := by rw [mk_pI s (q := 110) rfl]; rfl
theorem o_g110_3 (s : mS) (f : Int → mO) : (mm_gI (mk s) 110 5 3).bind f = f (s.1 110 3) := by rw [mk_gI s (q := 110) rfl]; rfl
theorem o_p110_3 (s : mS) (f : mW → mO) (v : Int) : (mm_p (mk s) 110 5 3 (.inl v)).bind f = f (mk (uF s 110 3 v)) := by rw [mk_pI s (q := 110) rfl]; rfl
theorem o_g110_4 (s : mS) (f : Option Nat → mO) : (mm_gR (mk s) 110 5 4).bind f = f (some 111) := by rw [mk_gR s (q := 110) rfl]; rfl
theorem o_g110_5 (s : mS) (f : Option Nat → mO) : (mm_gR (mk s) 110 5 5).bind f = f (some 112) := by rw [mk_gR s (q := 110) rfl]; rfl
theorem o_g110_6 (s : mS) (f : Int → mO) : (mm_gI (mk s) 110 5 6).bind f = f (s.1 110 6) := by rw [mk_gI s (q := 110) rfl]; rfl
theorem o_p110_6 (s : mS) (f : mW → mO) (v : Int) : (mm_p (mk s) 110 5 6 (.inl v)).bind f = f (mk (uF s 110 6 v)) := by rw [mk_pI s (q := 110) rfl]; rfl
theorem o_g110_7 (s : mS) (f : Option Nat → mO) : (mm_gR (mk s) 110 5 7).bind f = f (some 113) := by rw [mk_gR s (q := 110) rfl]; rfl
theorem o_g110_8 (s : mS) (f : Option Nat → mO) : (mm_gR (mk s) 110 5 8).bind f = f (some 114) := by rw [mk_gR s (q := 110) rfl]; rfl
theorem o_g110_9 (s : mS) (f : Option Nat → mO) : (mm_gR (mk s) 110 5 9).bind f = f (some 115) := by rw [mk_gR s (q := 110) rfl]; rfl
theorem o_g110_10 (s : mS) (f : Int → mO) : (mm_gI (mk s) 110 5 10).bind f = f (s.1 110 10) := by rw [mk_gI s (q := 110) rfl]; rfl
theorem o_p110_10 (s : mS) (f : mW → mO) (v : Int) : (mm_p (mk s) 110 5 10 (.inl v)).bind f = f (mk (uF s 110 10 v)) := by rw [mk_pI s (q := 110) rfl]; rfl
theorem o_g110_11 (s : mS) (f : Option Nat → mO) : (mm_gR (mk s) 110 5 11).bind f = f (some 116) := by rw [mk_gR s (q := 110) rfl]; rfl
theorem o_g110_12 (s : mS) (f : Option Nat → mO) : (mm_gR (mk s) 110 5 12).bind f = f (some 117) := by rw [mk_gR s (q := 110) rfl]; rfl
theorem o_g110_13 (s : mS) (f : Option Nat → mO) : (mm_gR (mk s) 110 5 13).bind f = f (some 118) := by rw [mk_gR s (q := 110) rfl]; rfl
theorem o_g110_14 (s : mS) (f : Option Nat → mO) : (mm_gR (mk s) 110 5 14).bind f = f (some 119) := by rw [mk_gR s (q := 110) rfl]; rfl
theorem o_g110_15 (s : mS) (f : Option Nat → mO) : (mm_gR (mk s) 110 5 15).bind f = f (some 120) := by rw [mk_gR s (q := 110) rfl]; rfl
theorem o_g110_16 (s : mS) (f : Option Nat → mO) : (mm_gR (mk s) 110 5 16).bind f = f (some 121) := by rw [mk_gR s (q := 110) rfl]; rfl
theorem o_g110_17 (s : mS) (f : Option Nat → mO) : (mm_gR (mk s) 110 5 17).bind f = f (some 122) := by rw [mk_gR s (q := 110) rfl]; rfl
theorem a_ln111 (s : mS) (f : Int → mO) : (mm_ln (mk s) 111).bind f = f 25 := by rw [mk_ln s (q := 111) rfl (by decide)]; rfl
theorem a_ld111 (s : mS) (f : Int → mO) (i : Int) (h0 : 0 ≤ i) (h1 : i < 25) : (mm_ld 0 (mk s) 111 i).bind f = f (s.2 111 i) := by rw [mk_ld s (q := 111) rfl h0 h1]; rfl
theorem a_st111 (s : mS) (f : mW → mO) (i v : Int) (h0 : 0 ≤ i) (h1 : i < 25) : (mm_st 0 (mk s) 111 i v).bind f = f (mk (uA s 111 i v)) := by rw [mk_st s (q := 111) rfl h0 h1]; rfl
theorem a_ln112 (s : mS) (f : Int → mO) : (mm_ln (mk s) 112).bind f = f 25 := by rw [mk_ln s (q := 112) rfl (by decide)]; rfl
theorem a_ld112 (s : mS) (f : Int → mO) (i : Int) (h0 : 0 ≤ i) (h1 : i < 25) : (mm_ld 0 (mk s) 112 i).bind f = f (s.2 112 i) := by rw [mk_ld s (q := 112) rfl h0 h1]; rfl
theorem a_st112 (s : mS) (f : mW → mO) (i v : Int) (h0 : 0 ≤ i) (h1 : i < 25) : (mm_st 0 (mk s) 112 i v).bind f = f (mk (uA s 112 i v)) := by rw [mk_st s (q := 112) rfl h0 h1]; rfl
theorem a_ln113 (s : mS) (f : Int → mO) : (mm_ln (mk s) 113).bind f = f 7 := by rw [mk_ln s (q := 113) rfl (by decide)]; rfl
theorem a_ld113 (s : mS) (f : Int → mO) (i : Int) (h0 : 0 ≤ i) (h1 : i < 7) : (mm_ld 0 (mk s) 113 i).bind f = f (s.2 113 i) := by rw [mk_ld s (q := 113) rfl h0 h1]; rfl
theorem a_st113 (s : mS) (f : mW → mO) (i v : Int) (h0 : 0 ≤ i) (h1 : i < 7) : (mm_st 0 (mk s) 113 i v).bind f = f (mk (uA s 113 i v)) := by rw [mk_st s (q := 113) rfl h0 h1]; rfl
theorem a_ln114 (s : mS) (f : Int → mO) : (mm_ln (mk s) 114).bind f = f 7 := by rw [mk_ln s (q := 114) rfl (by decide)]; rfl
theorem a_ld114 (s : mS) (f : Int → mO) (i : Int) (h0 : 0 ≤ i) (h1 : i < 7) : (mm_ld 0 (mk s) 114 i).bind f = f (s.2 114 i) := by rw [mk_ld s (q := 114) rfl h0 h1]; rfl
theorem a_st114 (s : mS) (f : mW → mO) (i v : Int) (h0 : 0 ≤ i) (h1 : i < 7) : (mm_st 0 (mk s) 114 i v).bind f = f (mk (uA s 114 i v)) := by rw [mk_st s (q := 114) rfl h0 h1]; rfl
theorem a_ln115 (s : mS) (f : Int → mO) : (mm_ln (mk s) 115).bind f = f 7 := by rw [mk_ln s (q := 115) rfl (by decide)]; rfl
theorem a_ld115 (s : mS) (f : Int → mO) (i : Int) (h0 : 0 ≤ i) (h1 : i < 7) : (mm_ld 3 (mk s) 115 i).bind f = f (s.2 115 i) := by rw [mk_ld s (q := 115) rfl h0 h1]; rfl
theorem a_st115 (s : mS) (f : mW → mO) (i v : Int) (h0 : 0 ≤ i) (h1 : i < 7) : (mm_st 3 (mk s) 115 i v).bind f = f (mk (uA s 115 i v)) := by rw [mk_st s (q := 115) rfl h0 h1]; rfl
theorem a_ln116 (s : mS) (f : Int → mO) : (mm_ln (mk s) 116).bind f = f 5 := by rw [mk_ln s (q := 116) rfl (by decide)]; rfl
theorem a_ld116 (s : mS) (f : Int → mO) (i : Int) (h0 : 0 ≤ i) (h1 : i < 5) : (mm_ld 0 (mk s) 116 i).bind f = f (s.2 116 i) := by rw [mk_ld s (q := 116) rfl h0 h1]; rfl
theorem a_st116 (s : mS) (f : mW → mO) (i v : Int) (h0 : 0 ≤ i) (h1 : i < 5) : (mm_st 0 (mk s) 116 i v).bind f = f (mk (uA s 116 i v)) := by rw [mk_st s (q := 116) rfl h0 h1]; rfl
theorem a_ln117 (s : mS) (f : Int → mO) : (mm_ln (mk s) 117).bind f = f 5 := by rw [mk_ln s (q := 117) rfl (by decide)]; rfl
theorem a_ld117 (s : mS) (f : Int → mO) (i : Int) (h0 : 0 ≤ i) (h1 : i < 5) : (mm_ld 0 (mk s) 117 i).bind f = f (s.2 117 i) := by rw [mk_ld s (q := 117) rfl h0 h1]; rfl
theorem a_st117 (s : mS) (f : mW → mO) (i v : Int) (h0 : 0 ≤ i) (h1 : i < 5) : (mm_st 0 (mk s) 117 i v).bind f = f (mk (uA s 117 i v)) := by rw [mk_st s (q := 117) rfl h0 h1]; rfl
theorem a_ln118 (s : mS) (f : Int → mO) : (mm_ln (mk s) 118).bind f = f 5 := by rw [mk_ln s (q := 118) rfl (by decide)]; rfl
theorem a_ld118 (s : mS) (f : Int → mO) (i : Int) (h0 : 0 ≤ i) (h1 : i < 5) : (mm_ld 0 (mk s) 118 i).bind f = f (s.2 118 i) := by rw [mk_ld s (q := 118) rfl h0 h1]; rfl
theorem a_st118 (s : mS) (f : mW → mO) (i v : Int) (h0 : 0 ≤ i) (h1 : i < 5) : (mm_st 0 (mk s) 118 i v).bind f = f (mk (uA s 118 i v)) := by rw [mk_st s (q := 118) rfl h0 h1]; rfl
theorem a_ln119 (s : mS) (f : Int → mO) : (mm_ln (mk s) 119).bind f = f 5 := by rw [mk_ln s (q := 119) rfl (by decide)]; rfl
theorem a_ld119 (s : mS) (f : Int → mO) (i : Int) (h0 : 0 ≤ i) (h1 : i < 5) : (mm_ld 0 (mk s) 119 i).bind f = f (s.2 119 i) := by rw [mk_ld s (q := 119) rfl h0 h1]; rfl
theorem a_st119 (s : mS) (f : mW → mO) (i v : Int) (h0 : 0 ≤ i) (h1 : i < 5) : (mm_st 0 (mk s) 119 i v).bind f = f (mk (uA s 119 i v)) := by rw [mk_st s (q := 119) rfl h0 h1]; rfl
theorem a_ln120 (s : mS) (f : Int → mO) : (mm_ln (mk s) 120).bind f = f 5 := by rw [mk_ln s (q := 120) rfl (by decide)]; rfl
theorem a_ld120 (s : mS) (f : Int → mO) (i : Int) (h0 : 0 ≤ i) (h1 : i < 5) : (mm_ld 0 (mk s) 120 i).bind f = f (s.2 120 i) := by rw [mk_ld s (q := 120) rfl h0 h1]; rfl
theorem a_st120 (s : mS) (f : mW → mO) (i v : Int) (h0 : 0 ≤ i) (h1 : i < 5) : (mm_st 0 (mk s) 120 i v).bind f = f (mk (uA s 120 i v)) := by rw [mk_st s (q := 120) rfl h0 h1]; rfl
theorem a_ln121 (s : mS) (f : Int → mO) : (mm_ln (mk s) 121).bind f = f 5 := by rw [mk_ln s (q := 121) rfl (by decide)]; rfl
theorem a_ld121 (s : mS) (f : Int → mO) (i : Int) (h0 : 0 ≤ i) (h1 : i < 5) : (mm_ld 0 (mk s) 121 i).bind f = f (s.2 121 i) := by rw [mk_ld s (q := 121) rfl h0 h1]; rfl
theorem a_st121 (s : mS) (f : mW → mO) (i v : Int) (h0 : 0 ≤ i) (h1 : i < 5) : (mm_st 0 (mk s) 121 i v).bind f = f (mk (uA s 121 i v)) := by rw [mk_st s (q := 121) rfl h0 h1]; rfl
theorem a_ln122 (s : mS) (f : Int → mO) : (mm_ln (mk s) 122).bind f = f 5 := by rw [mk_ln s (q := 122) rfl (by decide)]; rfl
theorem a_ld122 (s : mS) (f : Int → mO) (i : Int) (h0 : 0 ≤ i) (h1 : i < 5) : (mm_ld 3 (mk s) 122 i).bind f = f (s.2 122 i) := by rw [mk_ld s (q := 122) rfl h0 h1]; rfl
theorem a_st122 (s : mS) (f : mW → mO) (i v : Int) (h0 : 0 ≤ i) (h1 : i < 5) : (mm_st 3 (mk s) 122 i v).bind f = f (mk (uA s 122 i v)) := by rw [mk_st s (q := 122) rfl h0 h1]; rfl
theorem o_c54 (s : mS) : mm_cls (mk s) 54 = 0 := mk_cls s (k := 0) (t := 0) rfl
theorem o_g54_0 (s : mS) (f : Int → mO) : (mm_gI (mk s) 54 0 0).bind f = f (s.1 54 0) := by rw [mk_gI s (q := 54) rfl]; rfl
theorem o_p54_0 (s : mS) (f : mW → mO) (v : Int) : (mm_p (mk s) 54 0 0 (.inl v)).bind f = f (mk (uF s 54 0 v)) := by rw [mk_pI s (q := 54) rfl]; rfl
theorem o_g54_1 (s : mS) (f : Int → mO) : (mm_gI (mk s) 54 0 1).bind f = f (s.1 54 1) := by rw [mk_gI s (q := 54) rfl]; rfl
theorem o_p54_1 (s : mS) (f : mW → mO) (v : Int) : (mm_p (mk s) 54 0 1 (.inl v)).bind f = f (mk (uF s 54 1 v)) := by rw [mk_pI s (q := 54) rfl]; rfl
theorem o_g54_2 (s : mS) (f : Int → mO) : (mm_gI (mk s) 54 0 2).bind f = f (s.1 54 2) := by rw [mk_gI s (q := 54) rfl]; rfl
theorem o_p54_2 (s : mS) (f : mW → mO) (v : Int) : (mm_p (mk s) 54 0 2 (.inl v)).bind f = f (mk (uF s 54 2 v)) := by rw [mk_pI s (q := 54) rfl]; rfl
theorem o_g54_3 (s : mS) (f : Option Nat → mO) : (mm_gR (mk s) 54 0 3).bind f = f (some 55) := by rw [mk_gR s (q := 54) rfl]; rfl
theorem o_g54_4 (s : mS) (f : Option Nat → mO) : (mm_gR (mk s) 54 0 4).bind f = f (some 56) := by rw [mk_gR s (q := 54) rfl]; rfl
theorem o_g54_5 (s : mS) (f : Option Nat → mO) : (mm_gR (mk s) 54 0 5).bind f = f (some 57) := by rw [mk_gR s (q := 54) rfl]; rfl
theorem o_g54_6 (s : mS) (f : Option Nat → mO) : (mm_gR (mk s) 54 0 6).bind f = f (some 58) := by rw [mk_gR s (q := 54) rfl]; rfl
theorem o_g54_7 (s : mS) (f : Option Nat → mO) : (mm_gR (mk s) 54 0 7).bind f = f (some 59) := by rw [mk_gR s (q := 54) rfl]; rfl
theorem a_ln55 (s : mS) (f : Int → mO) : (mm_ln (mk s) 55).bind f = f 60 := by rw [mk_ln s (q := 55) rfl (by decide)]; rfl
theorem a_ld55 (s : mS) (f : Int → mO) (i : Int) (h0 : 0 ≤ i) (h1 : i < 60) : (mm_ld 0 (mk s) 55 i).bind f = f (s.2 55 i) := by rw [mk_ld s (q := 55) rfl h0 h1]; rfl
theorem a_st55 (s : mS) (f : mW → mO) (i v : Int) (h0 : 0 ≤ i) (h1 : i < 60) : (mm_st 0 (mk s) 55 i v).bind f = f (mk (uA s 55 i v)) := by rw [mk_st s (q := 55) rfl h0 h1]; rfl
theorem a_ln56 (s : mS) (f : Int → mO) : (mm_ln (mk s) 56).bind f = f 60 := by rw [mk_ln s (q := 56) rfl (by decide)]; rfl
theorem a_ld56 (s : mS) (f : Int → mO) (i : Int) (h0 : 0 ≤ i) (h1 : i < 60) : (mm_ld 0 (mk s) 56 i).bind f = f (s.2 56 i) := by rw [mk_ld s (q := 56) rfl h0 h1]; rfl
theorem a_st56 (s : mS) (f : mW → mO) (i v : Int) (h0 : 0 ≤ i) (h1 : i < 60) : (mm_st 0 (mk s) 56 i v).bind f = f (mk (uA s 56 i v)) := by rw [mk_st s (q := 56) rfl h0 h1]; rfl
theorem a_ln57 (s : mS) (f : Int → mO) : (mm_ln (mk s) 57).bind f = f 60 := by rw [mk_ln s (q := 57) rfl (by decide)]; rfl
theorem a_ld57 (s : mS) (f : Int → mO) (i : Int) (h0 : 0 ≤ i) (h1 : i < 60) : (mm_ld 0 (mk s) 57 i).bind f = f (s.2 57 i) := by rw [mk_ld s (q := 57) rfl h0 h1]; rfl
theorem a_st57 (s : mS) (f : mW → mO) (i v : Int) (h0 : 0 ≤ i) (h1 : i < 60) : (mm_st 0 (mk s) 57 i v).bind f = f (mk (uA s 57 i v)) := by rw [mk_st s (q := 57) rfl h0 h1]; rfl
theorem a_ln58 (s : mS) (f : Int → mO) : (mm_ln (mk s) 58).bind f = f 60 := by rw [mk_ln s (q := 58) rfl (by decide)]; rfl
theorem a_ld58 (s : mS) (f : Int → mO) (i : Int) (h0 : 0 ≤ i) (h1 : i < 60) : (mm_ld 0 (mk s) 58 i).bind f = f (s.2 58 i) := by rw [mk_ld s (q := 58) rfl h0 h1]; rfl
theorem a_st58 (s : mS) (f : mW → mO) (i v : Int) (h0 : 0 ≤ i) (h1 : i < 60) : (mm_st 0 (mk s) 58 i v).bind f = f (mk (uA s 58 i v)) := by rw [mk_st s (q := 58) rfl h0 h1]; rfl
theorem a_ln59 (s : mS) (f : Int → mO) : (mm_ln (mk s) 59).bind f = f 60 := by rw [mk_ln s (q := 59) rfl (by decide)]; rfl
theorem a_ld59 (s : mS) (f : Int → mO) (i : Int) (h0 : 0 ≤ i) (h1 : i < 60) : (mm_ld 0 (mk s) 59 i).bind f = f (s.2 59 i) := by rw [mk_ld s (q := 59) rfl h0 h1]; rfl
theorem a_st59 (s : mS) (f : mW → mO) (i v : Int) (h0 : 0 ≤ i) (h1 : i < 60) : (mm_st 0 (mk s) 59 i v).bind f = f (mk (uA s 59 i v)) := by rw [mk_st s (q := 59) rfl h0 h1]; rfl
theorem o_c123 (s : mS) : mm_cls (mk s) 123 = 0 := mk_cls s (k := 0) (t := 0) rfl
theorem o_g123_0 (s : mS) (f : Int → mO) : (mm_gI (mk s) 123 0 0).bind f = f (s.1 123 0) := by rw [mk_gI s (q := 123) rfl]; rfl
theorem o_p123_0 (s : mS) (f : mW → mO) (v : Int) : (mm_p (mk s) 123 0 0 (.inl v)).bind f = f (mk (uF s 123 0 v)) := by rw [mk_pI s (q := 123) rfl]; rfl
theorem o_g123_1 (s : mS) (f : Int → mO) : (mm_gI (mk s) 123 0 1).bind f = f (s.1 123 1) := by rw [mk_gI s (q := 123) rfl]; rfl
theorem o_p123_1 (s : mS) (f : mW → mO) (v : Int) : (mm_p (mk s) 123 0 1 (.inl v)).bind f = f (mk (uF s 123 1 v)) := by rw [mk_pI s (q := 123) rfl]; rfl
theorem o_g123_2 (s : mS) (f : Int → mO) : (mm_gI (mk s) 123 0 2).bind f = f (s.1 123 2) := by rw [mk_gI s (q := 123) rfl]; rfl
theorem o_p123_2 (s : mS) (f : mW → mO) (v : Int) : (mm_p (mk s) 123 0 2 (.inl v)).bind f = f (mk (uF s 123 2 v)) := by rw [mk_pI s (q := 123) rfl]; rfl
theorem o_g123_3 (s : mS) (f : Option Nat → mO) : (mm_gR (mk s) 123 0 3).bind f = f (some 124) := by rw [mk_gR s (q := 123) rfl]; rfl
theorem o_g123_4 (s : mS) (f : Option Nat → mO) : (mm_gR (mk s) 123 0 4).bind f = f (some 125) := by rw [mk_gR s (q := 123) rfl]; rfl
theorem o_g123_5 (s : mS) (f : Option Nat → mO) : (mm_gR (mk s) 123 0 5).bind f = f (some 126) := by rw [mk_gR s (q := 123) rfl]; rfl
theorem o_g123_6 (s : mS) (f : Option Nat → mO) : (mm_gR (mk s) 123 0 6).bind f = f (some 127) := by rw [mk_gR s (q := 123) rfl]; rfl
theorem o_g123_7 (s : mS) (f : Option Nat → mO) : (mm_gR (mk s) 123 0 7).bind f = f (some 128) := by rw [mk_gR s (q := 123) rfl]; rfl
theorem a_ln124 (s : mS) (f : Int → mO) : (mm_ln (mk s) 124).bind f = f 60 := by rw [mk_ln s (q := 124) rfl (by decide)]; rfl
theorem a_ld124 (s : mS) (f : Int → mO) (i : Int) (h0 : 0 ≤ i) (h1 : i < 60) : (mm_ld 0 (mk s) 124 i).bind f = f (s.2 124 i) := by rw [mk_ld s (q := 124) rfl h0 h1]; rfl
theorem a_st124 (s : mS) (f : mW → mO) (i v : Int) (h0 : 0 ≤ i) (h1 : i < 60) : (mm_st 0 (mk s) 124 i v).bind f = f (mk (uA s 124 i v)) := by rw [mk_st s (q := 124) rfl h0 h1]; rfl
theorem a_ln125 (s : mS) (f : Int → mO) : (mm_ln (mk s) 125).bind f = f 60 := by rw [mk_ln s (q := 125) rfl (by decide)]; rfl
theorem a_ld125 (s : mS) (f : Int → mO) (i : Int) (h0 : 0 ≤ i) (h1 : i < 60) : (mm_ld 0 (mk s) 125 i).bind f = f (s.2 125 i) := by rw [mk_ld s (q := 125) rfl h0 h1]; rfl
theorem a_st125 (s : mS) (f : mW → mO) (i v : Int) (h0 : 0 ≤ i) (h1 : i < 60) : (mm_st 0 (mk s) 125 i v).bind f = f (mk (uA s 125 i v)) := by rw [mk_st s (q := 125) rfl h0 h1]; rfl
theorem a_ln126 (s : mS) (f : Int → mO) : (mm_ln (mk s) 126).bind f = f 60 := by rw [mk_ln s (q := 126) rfl (by decide)]; rfl
theorem a_ld126 (s : mS) (f : Int → mO) (i : Int) (h0 : 0 ≤ i) (h1 : i < 60) : (mm_ld 0 (mk s) 126 i).bind f = f (s.2 126 i) := by rw [mk_ld s (q := 126) rfl h0 h1]; rfl
theorem a_st126 (s : mS) (f : mW → mO) (i v : Int) (h0 : 0 ≤ i) (h1 : i < 60) : (mm_st 0 (mk s) 126 i v).bind f = f (mk (uA s 126 i v)) := by rw [mk_st s (q := 126) rfl h0 h1]; rfl
theorem a_ln127 (s : mS) (f : Int → mO) : (mm_ln (mk s) 127).bind f = f 60 := by rw [mk_ln s (q := 127) rfl (by decide)]; rfl
theorem a_ld127 (s : mS) (f : Int → mO) (i : Int) (h0 : 0 ≤ i) (h1 : i < 60) : (mm_ld 0 (mk s) 127 i).bind f = f (s.2 127 i) := by rw [mk_ld s (q := 127) rfl h0 h1]; rfl
theorem a_st127 (s : mS) (f : mW → mO) (i v : Int) (h0 : 0 ≤ i) (h1 : i < 60) : (mm_st 0 (mk s) 127 i v).bind f = f (mk (uA s 127 i v)) := by rw [mk_st s (q := 127) rfl h0 h1]; rfl
theorem a_ln128 (s : mS) (f : Int → mO) : (mm_ln (mk s) 128).bind f = f 60 := by rw [mk_ln s (q := 128) rfl (by decide)]; rfl
theorem a_ld128 (s : mS) (f : Int → mO) (i : Int) (h0 : 0 ≤ i) (h1 : i < 60) : (mm_ld 0 (mk s) 128 i).bind f = f (s.2 128 i) := by rw [mk_ld s (q := 128) rfl h0 h1]; rfl
theorem a_st128 (s : mS) (f : mW → mO) (i v : Int) (h0 : 0 ≤ i) (h1 : i < 60) : (mm_st 0 (mk s) 128 i v).bind f = f (mk (uA s 128 i v)) := by rw [mk_st s (q := 128) rfl h0 h1]; rfl
theorem o_c129 (s : mS) : mm_cls (mk s) 129 = 0 := mk_cls s (k := 0) (t := 0) rfl
theorem o_g129_0 (s : mS) (f : Int → mO) : (mm_gI (mk s) 129 0 0).bind f = f (s.1 129 0) := by rw [mk_gI s (q := 129) rfl]; rfl
theorem o_p129_0 (s : mS) (f : mW → mO) (v : Int) : (mm_p (mk s) 129 0 0 (.inl v)).bind f = f (mk (uF s 129 0 v)) := by rw [mk_pI s (q := 129) rfl]; rfl
theorem o_g129_1 (s : mS) (f : Int → mO) : (mm_gI (mk s) 129 0 1).bind f = f (s.1 129 1) := by rw [mk_gI s (q := 129) rfl]; rfl
theorem o_p129_1 (s : mS) (f : mW → mO) (v : Int) : (mm_p (mk s) 129 0 1 (.inl v)).bind f = f (mk (uF s 129 1 v)) := by rw [mk_pI s (q := 129) rfl]; rfl
theorem o_g129_2 (s : mS) (f : Int → mO) : (mm_gI (mk s) 129 0 2).bind f = f (s.1 129 2) := by rw [mk_gI s (q := 129) rfl]; rfl
theorem o_p129_2 (s : mS) (f : mW → mO) (v : Int) : (mm_p (mk s) 129 0 2 (.inl v)).bind f = f (mk (uF s 129 2 v)) := by rw [mk_pI s (q := 129) rfl]; rfl
theorem o_g129_3 (s : mS) (f : Option Nat → mO) : (mm_gR (mk s) 129 0 3).bind f = f (some 130) := by rw [mk_gR s (q := 129) rfl]; rfl
theorem o_g129_4 (s : mS) (f : Option Nat → mO) : (mm_gR (mk s) 129 0 4).bind f = f (some 131) := by rw [mk_gR s (q := 129) rfl]; rfl
theorem o_g129_5 (s : mS) (f : Option Nat → mO) : (mm_gR (mk s) 129 0 5).bind f = f (some 132) := by rw [mk_gR s (q := 129) rfl]; rfl
theorem o_g129_6 (s : mS) (f : Option Nat → mO) : (mm_gR (mk s) 129 0 6).bind f = f (some 133) := by rw [mk_gR s (q := 129) rfl]; rfl
theorem o_g129_7 (s : mS) (f : Option Nat → mO) : (mm_gR (mk s) 129 0 7).bind f = f (some 134) := by rw [mk_gR s (q := 129) rfl]; rfl
theorem a_ln130 (s : mS) (f : Int → mO) : (mm_ln (mk s) 130).bind f = f 60 := by rw [mk_ln s (q := 130) rfl (by decide)]; rfl
theorem a_ld130 (s : mS) (f : Int → mO) (i : Int) (h0 : 0 ≤ i) (h1 : i < 60) : (mm_ld 0 (mk s) 130 i).bind f = f (s.2 130 i) := by rw [mk_ld s (q := 130) rfl h0 h1]; rfl
theorem a_st130 (s : mS) (f : mW → mO) (i v : Int) (h0 : 0 ≤ i) (h1 : i < 60) : (mm_st 0 (mk s) 130 i v).bind f = f (mk (uA s 130 i v)) := by rw [mk_st s (q := 130) rfl h0 h1]; rfl
theorem a_ln131 (s : mS) (f : Int → mO) : (mm_ln (mk s) 131).bind f = f 60 := by rw [mk_ln s (q := 131) rfl (by decide)]; rfl
theorem a_ld131 (s : mS) (f : Int → mO) (i : Int) (h0 : 0 ≤ i) (h1 : i < 60) : (mm_ld 0 (mk s) 131 i).bind f = f (s.2 131 i) := by rw [mk_ld s (q := 131) rfl h0 h1]; rfl
theorem a_st131 (s : mS) (f : mW → mO) (i v : Int) (h0 : 0 ≤ i) (h1 : i < 60) : (mm_st 0 (mk s) 131 i v).bind f = f (mk (uA s 131 i v)) := by rw [mk_st s (q := 131) rfl h0 h1]; rfl
theorem a_ln132 (s : mS) (f : Int → mO) : (mm_ln (mk s) 132).bind f = f 60 := by rw [mk_ln s (q := 132) rfl (by decide)]; rfl
theorem a_ld132 (s : mS) (f : Int → mO) (i : Int) (h0 : 0 ≤ i) (h1 : i < 60) : (mm_ld 0 (mk s) 132 i).bind f = f (s.2 132 i) := by rw [mk_ld s (q := 132) rfl h0 h1]; rfl
theorem a_st132 (s : mS) (f : mW → mO) (i v : Int) (h0 : 0 ≤ i) (h1 : i < 60) : (mm_st 0 (mk s) 132 i v).bind f = f (mk (uA s 132 i v)) := by rw [mk_st s (q := 132) rfl h0 h1]; rfl
theorem a_ln133 (s : mS) (f : Int → mO) : (mm_ln (mk s) 133).bind f = f 60 := by rw [mk_ln s (q := 133) rfl (by decide)]; rfl
theorem a_ld133 (s : mS) (f : Int → mO) (i : Int) (h0 : 0 ≤ i) (h1 : i < 60) : (mm_ld 0 (mk s) 133 i).bind f = f (s.2 133 i) := by rw [mk_ld s (q := 133) rfl h0 h1]; rfl
theorem a_st133 (s : mS) (f : mW → mO) (i v : Int) (h0 : 0 ≤ i) (h1 : i < 60) : (mm_st 0 (mk s) 133 i v).bind f = f (mk (uA s 133 i v)) := by rw [mk_st s (q := 133) rfl h0 h1]; rfl
theorem a_ln134 (s : mS) (f : Int → mO) : (mm_ln (mk s) 134).bind f = f 60 := by rw [mk_ln s (q := 134) rfl (by decide)]; rfl
theorem a_ld134 (s : mS) (f : Int → mO) (i : Int) (h0 : 0 ≤ i) (h1 : i < 60) : (mm_ld 0 (mk s) 134 i).bind f = f (s.2 134 i) := by rw [mk_ld s (q := 134) rfl h0 h1]; rfl
theorem a_st134 (s : mS) (f : mW → mO) (i v : Int) (h0 : 0 ≤ i) (h1 : i < 60) : (mm_st 0 (mk s) 134 i v).bind f = f (mk (uA s 134 i v)) := by rw [mk_st s (q := 134) rfl h0 h1]; rfl
theorem o_c135 (s : mS) : mm_cls (mk s) 135 = 0 := mk_cls s (k := 0) (t := 0) rfl
theorem o_g135_0 (s : mS) (f : Int → mO) : (mm_gI (mk s) 135 0 0).bind f = f (s.1 135 0) := by rw [mk_gI s (q := 135) rfl]; rfl
theorem o_p135_0 (s : mS) (f : mW → mO) (v : Int) : (mm_p (mk s) 135 0 0 (.inl v)).bind f = f (mk (uF s 135 0 v)) := by rw [mk_pI s (q := 135) rfl]; rfl
theorem o_g135_1 (s : mS) (f : Int → mO) : (mm_gI (mk s) 135 0 1).bind f = f (s.1 135 1) := by rw [mk_gI s (q := 135) rfl]; rfl
theorem o_p135_1 (s : mS) (f : mW → mO) (v : Int) : (mm_p (mk s) 135 0 1 (.inl v)).bind f = f (mk (uF s 135 1 v)) := by rw [mk_pI s (q := 135) rfl]; rfl
theorem o_g135_2 (s : mS) (f : Int → mO) : (mm_gI (mk s) 135 0 2).bind f = f (s.1 135 2) := by rw [mk_gI s (q := 135) rfl]; rfl
theorem o_p135_2 (s : mS) (f : mW → mO) (v : Int) : (mm_p (mk s) 135 0 2 (.inl v)).bind f = f (mk (uF s 135 2 v)) := by rw [mk_pI s (q := 135) rfl]; rfl
theorem o_g135_3 (s : mS) (f : Option Nat → mO) : (mm_gR (mk s) 135 0 3).bind f = f (some 136) := by rw [mk_gR s (q := 135) rfl]; rfl
theorem o_g135_4 (s : mS) (f : Option Nat → mO) : (mm_gR (mk s) 135 0 4).bind f = f (some 137) := by rw [mk_gR s (q := 135) rfl]; rfl
theorem o_g135_5 (s : mS) (f : Option Nat → mO) : (mm_gR (mk s) 135 0 5).bind f = f (some 138) := by rw [mk_gR s (q := 135) rfl]; rfl
theorem o_g135_6 (s : mS) (f : Option Nat → mO) : (mm_gR (mk s) 135 0 6).bind f = f (some 139) := by rw [mk_gR s (q := 135) rfl]; rfl
theorem o_g135_7 (s : mS) (f : Option Nat → mO) : (mm_gR (mk s) 135 0 7).bind f = f (some 140) := by rw [mk_gR s (q := 135) rfl]; rfl
theorem a_ln136 (s : mS) (f : Int → mO) : (mm_ln (mk s) 136).bind f = f 60 := by rw [mk_ln s (q := 136) rfl (by decide)]; rfl
theorem a_ld136 (s : mS) (f : Int → mO) (i : Int) (h0 : 0 ≤ i) (h1 : i < 60) : (mm_ld 0 (mk s) 136 i).bind f = f (s.2 136 i) := by rw [mk_ld s (q := 136) rfl h0 h1]; rfl
theorem a_st136 (s : mS) (f : mW → mO) (i v : Int) (h0 : 0 ≤ i) (h1 : i < 60) : (mm_st 0 (mk s) 136 i v).bind f = f (mk (uA s 136 i v)) := by rw [mk_st s (q := 136) rfl h0 h1]; rfl
theorem a_ln137 (s : mS) (f : Int → mO) : (mm_ln (mk s) 137).bind f = f 60 := by rw [mk_ln s (q := 137) rfl (by decide)]; rfl
theorem a_ld137 (s : mS) (f : Int → mO) (i : Int) (h0 : 0 ≤ i) (h1 : i < 60) : (mm_ld 0 (mk s) 137 i).bind f = f (s.2 137 i) := by rw [mk_ld s (q := 137) rfl h0 h1]; rfl
theorem a_st137 (s : mS) (f : mW → mO) (i v : Int) (h0 : 0 ≤ i) (h1 : i < 60) : (mm_st 0 (mk s) 137 i v).bind f = f (mk (uA s 137 i v)) := by rw [mk_st s (q := 137) rfl h0 h1]; rfl
theorem a_ln138 (s : mS) (f : Int → mO) : (mm_ln (mk s) 138).bind f = f 60 := by rw [mk_ln s (q := 138) rfl (by decide)]; rfl
theorem a_ld138 (s : mS) (f : Int → mO) (i : Int) (h0 : 0 ≤ i) (h1 : i < 60) : (mm_ld 0 (mk s) 138 i).bind f = f (s.2 138 i) := by rw [mk_ld s (q := 138) rfl h0 h1]; rfl
theorem a_st138 (s : mS) (f : mW → mO) (i v : Int) (h0 : 0 ≤ i) (h1 : i < 60) : (mm_st 0 (mk s) 138 i v).bind f = f (mk (uA s 138 i v)) := by rw [mk_st s (q := 138) rfl h0 h1]; rfl
theorem a_ln139 (s : mS) (f : Int → mO) : (mm_ln (mk s) 139).bind f = f 60 := by rw [mk_ln s (q := 139) rfl (by decide)]; rfl
theorem a_ld139 (s : mS) (f : Int → mO) (i : Int) (h0 : 0 ≤ i) (h1 : i < 60) : (mm_ld 0 (mk s) 139 i).bind f = f (s.2 139 i) := by rw [mk_ld s (q := 139) rfl h0 h1]; rfl
theorem a_st139 (s : mS) (f : mW → mO) (i v : Int) (h0 : 0 ≤ i) (h1 : i < 60) : (mm_st 0 (mk s) 139 i v).bind f = f (mk (uA s 139 i v)) := by rw [mk_st s (q := 139) rfl h0 h1]; rfl
theorem a_ln140 (s : mS) (f : Int → mO) : (mm_ln (mk s) 140).bind f = f 60 := by rw [mk_ln s (q := 140) rfl (by decide)]; rfl
theorem a_ld140 (s : mS) (f : Int → mO) (i : Int) (h0 : 0 ≤ i) (h1 : i < 60) : (mm_ld 0 (mk s) 140 i).bind f = f (s.2 140 i) := by rw [mk_ld s (q := 140) rfl h0 h1]; rfl
theorem a_st140 (s : mS) (f : mW → mO) (i v : Int) (h0 : 0 ≤ i) (h1 : i < 60) : (mm_st 0 (mk s) 140 i v).bind f = f (mk (uA s 140 i v)) := by rw [mk_st s (q := 140) rfl h0 h1]; rfl
theorem o_c76 (s : mS) : mm_cls (mk s) 76 = 8 := mk_cls s (k := 0) (t := 79) rfl
theorem o_g76_0 (s : mS) (f : Option Nat → mO) : (mm_gR (mk s) 76 8 0).bind f = f (some 77) := by rw [mk_gR s (q := 76) rfl]; rfl
theorem o_g76_1 (s : mS) (f : Int → mO) : (mm_gI (mk s) 76 8 1).bind f = f (s.1 76 1) := by rw [mk_gI s (q := 76) rfl]; rfl
theorem o_p76_1 (s : mS) (f : mW → mO) (v : Int) : (mm_p (mk s) 76 8 1 (.inl v)).bind f = f (mk (uF s 76 1 v)) := by rw [mk_pI s (q := 76) rfl]; rfl
theorem o_g76_2 (s : mS) (f : Int → mO) : (mm_gI (mk s) 76 8 2).bind f = f (s.1 76 2) := by rw [mk_gI s (q := 76) rfl]; rfl
theorem o_p76_2 (s : mS) (f : mW → mO) (v : Int) : (mm_p (mk s) 76 8 2 (.inl v)).bind f = f (mk (uF s 76 2 v)) := by rw [mk_pI s (q := 76) rfl]; rfl
theorem a_ln77 (s : mS) (f : Int → mO) : (mm_ln (mk s) 77).bind f = f 60 := by rw [mk_ln s (q := 77) rfl (by decide)]; rfl
theorem a_ld77 (s : mS) (f : Int → mO) (i : Int) (h0 : 0 ≤ i) (h1 : i < 60) : (mm_ld 3 (mk s) 77 i).bind f = f (s.2 77 i) := by rw [mk_ld s (q := 77) rfl h0 h1]; rfl
theorem a_st77 (s : mS) (f : mW → mO) (i v : Int) (h0 : 0 ≤ i) (h1 : i < 60) : (mm_st 3 (mk s) 77 i v).bind f = f (mk (uA s 77 i v)) := by rw [mk_st s (q := 77) rfl h0 h1]; rfl
theorem o_c78 (s : mS) : mm_cls (mk s) 78 = 8 := mk_cls s (k := 0) (t := 81) rfl
theorem o_g78_0 (s : mS) (f : Option Nat → mO) : (mm_gR (mk s) 78 8 0).bind f = f (some 79) := by rw [mk_gR s (q := 78) rfl]; rfl
theorem o_g78_1 (s : mS) (f : Int → mO) : (mm_gI (mk s) 78 8 1).bind f = f (s.1 78 1) := by rw [mk_gI s (q := 78) rfl]; rfl
theorem o_p78_1 (s : mS) (f : mW → mO) (v : Int) : (mm_p (mk s) 78 8 1 (.inl v)).bind f = f (mk (uF s 78 1 v)) := by rw [mk_pI s (q := 78) rfl]; rfl
theorem o_g78_2 (s : mS) (f : Int → mO) : (mm_gI (mk s) 78 8 2).bind f = f (s.1 78 2) := by rw [mk_gI s (q := 78) rfl]; rfl
theorem o_p78_2 (s : mS) (f : mW → mO) (v : Int) : (mm_p (mk s) 78 8 2 (.inl v)).bind f = f (mk (uF s 78 2 v)) := by rw [mk_pI s (q := 78) rfl]; rfl
theorem a_ln79 (s : mS) (f : Int → mO) : (mm_ln (mk s) 79).bind f = f 60 := by rw [mk_ln s (q := 79) rfl (by decide)]; rfl
theorem a_ld79 (s : mS) (f : Int → mO) (i : Int) (h0 : 0 ≤ i) (h1 : i < 60) : (mm_ld 3 (mk s) 79 i).bind f = f (s.2 79 i) := by rw [mk_ld s (q := 79) rfl h0 h1]; rfl
theorem a_st79 (s : mS) (f : mW → mO) (i v : Int) (h0 : 0 ≤ i) (h1 : i < 60) : (mm_st 3 (mk s) 79 i v).bind f = f (mk (uA s 79 i v)) := by rw [mk_st s (q := 79) rfl h0 h1]; rfl
theorem o_c80 (s : mS) : mm_cls (mk s) 80 = 8 := mk_cls s (k := 0) (t := 83) rfl
theorem o_g80_0 (s : mS) (f : Option Nat → mO) : (mm_gR (mk s) 80 8 0).bind f = f (some 81) := by rw [mk_gR s (q := 80) rfl]; rfl
theorem o_g80_1 (s : mS) (f : Int → mO) : (mm_gI (mk s) 80 8 1).bind f = f (s.1 80 1) := by rw [mk_gI s (q := 80) rfl]; rfl
theorem o_p80_1 (s : mS) (f : mW → mO) (v : Int) : (mm_p (mk s) 80 8 1 (.inl v)).bind f = f (mk (uF s 80 1 v)) := by rw [mk_pI s (q := 80) rfl]; rfl
theorem o_g80_2 (s : mS) (f : Int → mO) : (mm_gI (mk s) 80 8 2).bind f = f (s.1 80 2) := by rw [mk_gI s (q := 80) rfl]; rfl
theorem o_p80_2 (s : mS) (f : mW → mO) (v : Int) : (mm_p (mk s) 80 8 2 (.inl v)).bind f = f (mk (uF s 80 2 v)) := by rw [mk_pI s (q := 80) rfl]; rfl
theorem a_ln81 (s : mS) (f : Int → mO) : (mm_ln (mk s) 81).bind f = f 60 := by rw [mk_ln s (q := 81) rfl (by decide)]; rfl
theorem a_ld81 (s : mS) (f : Int → mO) (i : Int) (h0 : 0 ≤ i) (h1 : i < 60) : (mm_ld 3 (mk s) 81 i).bind f = f (s.2 81 i) := by rw [mk_ld s (q := 81) rfl h0 h1]; rfl
theorem a_st81 (s : mS) (f : mW → mO) (i v : Int) (h0 : 0 ≤ i) (h1 : i < 60) : (mm_st 3 (mk s) 81 i v).bind f = f (mk (uA s 81 i v)) := by rw [mk_st s (q := 81) rfl h0 h1]; rfl
theorem o_c82 (s : mS) : mm_cls (mk s) 82 = 8 := mk_cls s (k := 0) (t := 85) rfl
theorem o_g82_0 (s : mS) (f : Option Nat → mO) : (mm_gR (mk s) 82 8 0).bind f = f (some 83) := by rw [mk_gR s (q := 82) rfl]; rfl
theorem o_g82_1 (s : mS) (f : Int → mO) : (mm_gI (mk s) 82 8 1).bind f = f (s.1 82 1) := by rw [mk_gI s (q := 82) rfl]; rfl
theorem o_p82_1 (s : mS) (f : mW → mO) (v : Int) : (mm_p (mk s) 82 8 1 (.inl v)).bind f = f (mk (uF s 82 1 v)) := by rw [mk_pI s (q := 82) rfl]; rfl
theorem o_g82_2 (s : mS) (f : Int → mO) : (mm_gI (mk s) 82 8 2).bind f = f (s.1 82 2) := by rw [mk_gI s (q := 82) rfl]; rfl
theorem o_p82_2 (s : mS) (f : mW → mO) (v : Int) : (mm_p (mk s) 82 8 2 (.inl v)).bind f = f (mk (uF s 82 2 v)) := by rw [mk_pI s (q := 82) rfl]; rfl
theorem a_ln83 (s : mS) (f : Int → mO) : (mm_ln (mk s) 83).bind f = f 60 := by rw [mk_ln s (q := 83) rfl (by decide)]; rfl
theorem a_ld83 (s : mS) (f : Int → mO) (i : Int) (h0 : 0 ≤ i) (h1 : i < 60) : (mm_ld 3 (mk s) 83 i).bind f = f (s.2 83 i) := by rw [mk_ld s (q := 83) rfl h0 h1]; rfl
theorem a_st83 (s : mS) (f : mW → mO) (i v : Int) (h0 : 0 ≤ i) (h1 : i < 60) : (mm_st 3 (mk s) 83 i v).bind f = f (mk (uA s 83 i v)) := by rw [mk_st s (q := 83) rfl h0 h1]; rfl
theorem o_c141 (s : mS) : mm_cls (mk s) 141 = 12 := mk_cls s (k := 0) (t := 144) rfl
theorem o_g141_0 (s : mS) (f : Option Nat → mO) : (mm_gR (mk s) 141 12 0).bind f = f (some 142) := by rw [mk_gR s (q := 141) rfl]; rfl
theorem o_g141_1 (s : mS) (f : Option Nat → mO) : (mm_gR (mk s) 141 12 1).bind f = f (some 143) := by rw [mk_gR s (q := 141) rfl]; rfl
theorem o_g141_2 (s : mS) (f : Int → mO) : (mm_gI (mk s) 141 12 2).bind f = f (s.1 141 2) := by rw [mk_gI s (q := 141) rfl]; rfl
theorem o_p141_2 (s : mS) (f : mW → mO) (v : Int) : (mm_p (mk s) 141 12 2 (.inl v)).bind f = f (mk (uF s 141 2 v)) := by rw [mk_pI s (q := 141) rfl]; rfl
theorem o_g141_3 (s : mS) (f : Int → mO) : (mm_gJ (mk s) 141 12 3).bind f = f (s.1 141 3) := by rw [mk_gJ s (q := 141) rfl]; rfl
theorem o_p141_3 (s : mS) (f : mW → mO) (v : Int) : (mm_p (mk s) 141 12 3 (.inr (.inl v))).bind f = f (mk (uF s 141 3 v)) := by rw [mk_pJ s (q := 141) rfl]; rfl
theorem o_g141_4 (s : mS) (f : Int → mO) : (mm_gJ (mk s) 141 12 4).bind f = f (s.1 141 4) := by rw [mk_gJ s (q := 141) rfl]; rfl
theorem o_p141_4 (s : mS) (f : mW → mO) (v : Int) : (mm_p (mk s) 141 12 4 (.inr (.inl v))).bind f = f (mk (uF s 141 4 v)) := by rw [mk_pJ s (q := 141) rfl]; rfl
theorem o_g141_5 (s : mS) (f : Option Nat → mO) : (mm_gR (mk s) 141 12 5).bind f = f (some 144) := by rw [mk_gR s (q := 141) rfl]; rfl
theorem o_g141_6 (s : mS) (f : Option Nat → mO) : (mm_gR (mk s) 141 12 6).bind f = f (some 145) := by rw [mk_gR s (q := 141) rfl]; rfl
theorem o_g141_7 (s : mS) (f : Option Nat → mO) : (mm_gR (mk s) 141 12 7).bind f = f (some 146) := by rw [mk_gR s (q := 141) rfl]; rfl
theorem o_g141_8 (s : mS) (f : Option Nat → mO) : (mm_gR (mk s) 141 12 8).bind f = f (some 147) := by rw [mk_gR s (q := 141) rfl]; rfl
theorem o_g141_9 (s : mS) (f : Option Nat → mO) : (mm_gR (mk s) 141 12 9).bind f = f (some 148) := by rw [mk_gR s (q := 141) rfl]; rfl
theorem o_g141_10 (s : mS) (f : Int → mO) : (mm_gI (mk s) 141 12 10).bind f = f (s.1 141 10) := by rw [mk_gI s (q := 141) rfl]; rfl
theorem o_p141_10 (s : mS) (f : mW → mO) (v : Int) : (mm_p (mk s) 141 12 10 (.inl v)).bind f = f (mk (uF s 141 10 v)) := by rw [mk_pI s (q := 141) rfl]; rfl
theorem o_g141_11 (s : mS) (f : Int → mO) : (mm_gI (mk s) 141 12 11).bind f = f (s.1 141 11) := by rw [mk_gI s (q := 141) rfl]; rfl
theorem o_p141_11 (s : mS) (f : mW → mO) (v : Int) : (mm_p (mk s) 141 12 11 (.inl v)).bind f = f (mk (uF s 141 11 v)) := by rw [mk_pI s (q := 141) rfl]; rfl
theorem o_g141_12 (s : mS) (f : Int → mO) : (mm_gI (mk s) 141 12 12).bind f = f (s.1 141 12) := by rw [mk_gI s (q := 141) rfl]; rfl
theorem o_p141_12 (s : mS) (f : mW → mO) (v : Int) : (mm_p (mk s) 141 12 12 (.inl v)).bind f = f (mk (uF s 141 12 v)) := by rw [mk_pI s (q := 141) rfl]; rfl
theorem o_g141_13 (s : mS) (f : Int → mO) : (mm_gI (mk s) 141 12 13).bind f = f (s.1 141 13) := by rw [mk_gI s (q := 141) rfl]; rfl
theorem o_p141_13 (s : mS) (f : mW → mO) (v : Int) : (mm_p (mk s) 141 12 13 (.inl v)).bind f = f (mk (uF s 141 13 v)) := by rw [mk_pI s (q := 141) rfl]; rfl
theorem o_g141_14 (s : mS) (f : Int → mO) : (mm_gI (mk s) 141 12 14).bind f = f (s.1 141 14) := by rw [mk_gI s (q := 141) rfl]; rfl
theorem o_p141_14 (s : mS) (f : mW → mO) (v : Int) : (mm_p (mk s) 141 12 14 (.inl v)).bind f = f (mk (uF s 141 14 v)) := by rw [mk_pI s (q := 141) rfl]; rfl
theorem o_g141_15 (s : mS) (f : Int → mO) : (mm_gI (mk s) 141 12 15).bind f = f (s.1 141 15) := by rw [mk_gI s (q := 141) rfl]; rfl
theorem o_p141_15 (s : mS) (f : mW → mO) (v : Int) : (mm_p (mk s) 141 12 15 (.inl v)).bind f = f (mk (uF s 141 15 v)) := by rw [mk_pI s (q := 141) rfl]; rfl
theorem o_g141_16 (s : mS) (f : Int → mO) : (mm_gI (mk s) 141 12 16).bind f = f (s.1 141 16) := by rw [mk_gI s (q := 141) rfl]; rfl
theorem o_p141_16 (s : mS) (f : mW → mO) (v : Int) : (mm_p (mk s) 141 12 16 (.inl v)).bind f = f (mk (uF s 141 16 v)) := by rw [mk_pI s (q := 141) rfl]; rfl
theorem o_g141_17 (s : mS) (f : Int → mO) : (mm_gI (mk s) 141 12 17).bind f = f (s.1 141 17) := by rw [mk_gI s (q := 141) rfl]; rfl
theorem o_p141_17 (s : mS) (f : mW → mO) (v : Int) : (mm_p (mk s) 141 12 17 (.inl v)).bind f = f (mk (uF s 141 17 v)) := by rw [mk_pI s (q := 141) rfl]; rfl
theorem o_g141_18 (s : mS) (f : Int → mO) : (mm_gI (mk s) 141 12 18).bind f = f (s.1 141 18) := by rw [mk_gI s (q := 141) rfl]; rfl
theorem o_p141_18 (s : mS) (f : mW → mO) (v : Int) : (mm_p (mk s) 141 12 18 (.inl v)).bind f = f (mk (uF s 141 18 v)) := by rw [mk_pI s (q := 141) rfl]; rfl
theorem o_g141_19 (s : mS) (f : Int → mO) : (mm_gI (mk s) 141 12 19).bind f = f (s.1 141 19) := by rw [mk_gI s (q := 141) rfl]; rfl
theorem o_p141_19 (s : mS) (f : mW → mO) (v : Int) : (mm_p (mk s) 141 12 19 (.inl v)).bind f = f (mk (uF s 141 19 v)) := by rw [mk_pI s (q := 141) rfl]; rfl
theorem o_g141_20 (s : mS) (f : Int → mO) : (mm_gI (mk s) 141 12 20).bind f = f (s.1 141 20) := by rw [mk_gI s (q := 141) rfl]; rfl
theorem o_p141_20 (s : mS) (f : mW → mO) (v : Int) : (mm_p (mk s) 141 12 20 (.inl v)).bind f = f (mk (uF s 141 20 v)) := by rw [mk_pI s (q := 141) rfl]; rfl
theorem o_g141_21 (s : mS) (f : Option Nat → mO) : (mm_gR (mk s) 141 12 21).bind f = f (some 149) := by rw [mk_gR s (q := 141) rfl]; rfl
theorem o_g141_22 (s : mS) (f : Int → mO) : (mm_gI (mk s) 141 12 22).bind f = f (s.1 141 22) := by rw [mk_gI s (q := 141) rfl]; rfl
theorem o_p141_22 (s : mS) (f : mW → mO) (v : Int) : (mm_p (mk s) 141 12 22 (.inl v)).bind f = f (mk (uF s 141 22 v)) := by rw [mk_pI s (q := 141) rfl]; rfl
theorem o_g141_23 (s : mS) (f : Int → mO) : (mm_gI (mk s) 141 12 23).bind f = f (s.1 141 23) := by rw [mk_gI s (q := 141) rfl]; rfl
theorem o_p141_23 (s : mS) (f : mW → mO) (v : Int) : (mm_p (mk s) 141 12 23 (.inl v)).bind f = f (mk (uF s 141 23 v)) := by rw [mk_pI s (q := 141) rfl]; rfl
theorem o_g141_24 (s : mS) (f : Int → mO) : (mm_gI (mk s) 141 12 24).bind f = f (s.1 141 24) := by rw [mk_gI s (q := 141) rfl]; rfl
theorem o_p141_24 (s : mS) (f : mW → mO) (v : Int) : (mm_p (mk s) 141 12 24 (.inl v)).bind f = f (mk (uF s 141 24 v)) := by rw [mk_pI s (q := 141) rfl]; rfl
theorem o_g141_25 (s : mS) (f : Option Nat → mO) : (mm_gR (mk s) 141 12 25).bind f = f (some 150) := by rw [mk_gR s (q := 141) rfl]; rfl
theorem o_g141_26 (s : mS) (f : Option Nat → mO) : (mm_gR (mk s) 141 12 26).bind f = f (some 151) := by rw [mk_gR s (q := 141) rfl]; rfl
theorem o_g141_27 (s : mS) (f : Option Nat → mO) : (mm_gR (mk s) 141 12 27).bind f = f (some 152) := by rw [mk_gR s (q := 141) rfl]; rfl
theorem o_g141_28 (s : mS) (f : Option Nat → mO) : (mm_gR (mk s) 141 12 28).bind f = f (some 153) := by rw [mk_gR s (q := 141) rfl]; rfl
theorem o_g141_29 (s : mS) (f : Option Nat → mO) : (mm_gR (mk s) 141 12 29).bind f = f (some 154) := by rw [mk_gR s (q := 141) rfl]; rfl
theorem o_g141_30 (s : mS) (f : Option Nat → mO) : (mm_gR (mk s) 141 12 30).bind f = f (some 155) := by rw [mk_gR s (q := 141) rfl]; rfl
theorem o_g141_31 (s : mS) (f : Option Nat → mO) : (mm_gR (mk s) 141 12 31).bind f = f (some 156) := by rw [mk_gR s (q := 141) rfl]; rfl
theorem o_g141_32 (s : mS) (f : Int → mO) : (mm_gI (mk s) 141 12 32).bind f = f (s.1 141 32) := by rw [mk_gI s (q := 141) rfl]; rfl
theorem o_p141_32 (s : mS) (f : mW → mO) (v : Int) : (mm_p (mk s) 141 12 32 (.inl v)).bind f = f (mk (uF s 141 32 v)) := by rw [mk_pI s (q := 141) rfl]; rfl
theorem o_g141_33 (s : mS) (f : Int → mO) : (mm_gI (mk s) 141 12 33).bind f = f (s.1 141 33) := by rw [mk_gI s (q := 141) rfl]; rfl
theorem o_p141_33 (s : mS) (f : mW → mO) (v : Int) : (mm_p (mk s) 141 12 33 (.inl v)).bind f = f (mk (uF s 141 33 v)) := by rw [mk_pI s (q := 141) rfl]; rfl
theorem o_g141_34 (s : mS) (f : Option Nat → mO) : (mm_gR (mk s) 141 12 34).bind f = f (some 157) := by rw [mk_gR s (q := 141) rfl]; rfl
theorem o_g141_35 (s : mS) (f : Option Nat → mO) : (mm_gR (mk s) 141 12 35).bind f = f (some 158) := by rw [mk_gR s (q := 141) rfl]; rfl
theorem o_g141_36 (s : mS) (f : Option Nat → mO) : (mm_gR (mk s) 141 12 36).bind f = f (some 159) := by rw [mk_gR s (q := 141) rfl]; rfl
theorem o_g141_37 (s : mS) (f : Int → mO) : (mm_gI (mk s) 141 12 37).bind f = f (s.1 141 37) := by rw [mk_gI s (q := 141) rfl]; rfl
theorem o_p141_37 (s : mS) (f : mW → mO) (v : Int) : (mm_p (mk s) 141 12 37 (.inl v)).bind f = f (mk (uF s 141 37 v)) := by rw [mk_pI s (q := 141) rfl]; rfl
theorem o_g141_38 (s : mS) (f : Int → mO) : (mm_gI (mk s) 141 12 38).bind f = f (s.1 141 38) := by rw [mk_gI s (q := 141) rfl]; rfl
theorem o_p141_38 (s : mS) (f : mW → mO) (v : Int) : (mm_p (mk s) 141 12 38 (.inl v)).bind f = f (mk (uF s 141 38 v)) := by rw [mk_pI s (q := 141) rfl]; rfl
theorem a_ln142 (s : mS) (f : Int → mO) : (mm_ln (mk s) 142).bind f = f 2464 := by rw [mk_ln s (q := 142) rfl (by decide)]; rfl
theorem a_ld142 (s : mS) (f : Int → mO) (i : Int) (h0 : 0 ≤ i) (h1 : i < 2464) : (mm_ld 0 (mk s) 142 i).bind f = f (s.2 142 i) := by rw [mk_ld s (q := 142) rfl h0 h1]; rfl
theorem a_st142 (s : mS) (f : mW → mO) (i v : Int) (h0 : 0 ≤ i) (h1 : i < 2464) : (mm_st 0 (mk s) 142 i v).bind f = f (mk (uA s 142 i v)) := by rw [mk_st s (q := 142) rfl h0 h1]; rfl
theorem a_ln143 (s : mS) (f : Int → mO) : (mm_ln (mk s) 143).bind f = f 72 := by rw [mk_ln s (q := 143) rfl (by decide)]; rfl
theorem a_ld143 (s : mS) (f : Int → mO) (i : Int) (h0 : 0 ≤ i) (h1 : i < 72) : (mm_ld 3 (mk s) 143 i).bind f = f (s.2 143 i) := by rw [mk_ld s (q := 143) rfl h0 h1]; rfl
theorem a_st143 (s : mS) (f : mW → mO) (i v : Int) (h0 : 0 ≤ i) (h1 : i < 72) : (mm_st 3 (mk s) 143 i v).bind f = f (mk (uA s 143 i v)) := by rw [mk_st s (q := 143) rfl h0 h1]; rfl
theorem a_ln144 (s : mS) (f : Int → mO) : (mm_ln (mk s) 144).bind f = f 4 := by rw [mk_ln s (q := 144) rfl (by decide)]; rfl
theorem a_ld144 (s : mS) (f : Int → mO) (i : Int) (h0 : 0 ≤ i) (h1 : i < 4) : (mm_ld 0 (mk s) 144 i).bind f = f (s.2 144 i) := by rw [mk_ld s (q := 144) rfl h0 h1]; rfl
theorem a_st144 (s : mS) (f : mW → mO) (i v : Int) (h0 : 0 ≤ i) (h1 : i < 4) : (mm_st 0 (mk s) 144 i v).bind f = f (mk (uA s 144 i v)) := by rw [mk_st s (q := 144) rfl h0 h1]; rfl
theorem a_ln145 (s : mS) (f : Int → mO) : (mm_ln (mk s) 145).bind f = f 4 := by rw [mk_ln s (q := 145) rfl (by decide)]; rfl
theorem a_ld145 (s : mS) (f : Int → mO) (i : Int) (h0 : 0 ≤ i) (h1 : i < 4) : (mm_ld 0 (mk s) 145 i).bind f = f (s.2 145 i) := by rw [mk_ld s (q := 145) rfl h0 h1]; rfl
theorem a_st145 (s : mS) (f : mW → mO) (i v : Int) (h0 : 0 ≤ i) (h1 : i < 4) : (mm_st 0 (mk s) 145 i v).bind f = f (mk (uA s 145 i v)) := by rw [mk_st s (q := 145) rfl h0 h1]; rfl
theorem a_ln146 (s : mS) (f : Int → mO) : (mm_ln (mk s) 146).bind f = f 240 := by rw [mk_ln s (q := 146) rfl (by decide)]; rfl
theorem a_ld146 (s : mS) (f : Int → mO) (i : Int) (h0 : 0 ≤ i) (h1 : i < 240) : (mm_ld 3 (mk s) 146 i).bind f = f (s.2 146 i) := by rw [mk_ld s (q := 146) rfl h0 h1]; rfl
theorem a_st146 (s : mS) (f : mW → mO) (i v : Int) (h0 : 0 ≤ i) (h1 : i < 240) : (mm_st 3 (mk s) 146 i v).bind f = f (mk (uA s 146 i v)) := by rw [mk_st s (q := 146) rfl h0 h1]; rfl
theorem a_ln147 (s : mS) (f : Int → mO) : (mm_ln (mk s) 147).bind f = f 900 := by rw [mk_ln s (q := 147) rfl (by decide)]; rfl
theorem a_ld147 (s : mS) (f : Int → mO) (i : Int) (h0 : 0 ≤ i) (h1 : i < 900) : (mm_ld 1 (mk s) 147 i).bind f = f (s.2 147 i) := by rw [mk_ld s (q := 147) rfl h0 h1]; rfl
theorem a_st147 (s : mS) (f : mW → mO) (i v : Int) (h0 : 0 ≤ i) (h1 : i < 900) : (mm_st 1 (mk s) 147 i v).bind f = f (mk (uA s 147 i v)) := by rw [mk_st s (q := 147) rfl h0 h1]; rfl
theorem a_ln148 (s : mS) (f : Int → mO) : (mm_ln (mk s) 148).bind f = f 900 := by rw [mk_ln s (q := 148) rfl (by decide)]; rfl
theorem a_ld148 (s : mS) (f : Int → mO) (i : Int) (h0 : 0 ≤ i) (h1 : i < 900) : (mm_ld 1 (mk s) 148 i).bind f = f (s.2 148 i) := by rw [mk_ld s (q := 148) rfl h0 h1]; rfl
theorem a_st148 (s : mS) (f : mW → mO) (i v : Int) (h0 : 0 ≤ i) (h1 : i < 900) : (mm_st 1 (mk s) 148 i v).bind f = f (mk (uA s 148 i v)) := by rw [mk_st s (q := 148) rfl h0 h1]; rfl
theorem a_ln149 (s : mS) (f : Int → mO) : (mm_ln (mk s) 149).bind f = f 3 := by rw [mk_ln s (q := 149) rfl (by decide)]; rfl
theorem a_ld149 (s : mS) (f : Int → mO) (i : Int) (h0 : 0 ≤ i) (h1 : i < 3) : (mm_ld 0 (mk s) 149 i).bind f = f (s.2 149 i) := by rw [mk_ld s (q := 149) rfl h0 h1]; rfl
theorem a_st149 (s : mS) (f : mW → mO) (i v : Int) (h0 : 0 ≤ i) (h1 : i < 3) : (mm_st 0 (mk s) 149 i v).bind f = f (mk (uA s 149 i v)) := by rw [mk_st s (q := 149) rfl h0 h1]; rfl
theorem a_ln150 (s : mS) (f : Int → mO) : (mm_ln (mk s) 150).bind f = f 25 := by rw [mk_ln s (q := 150) rfl (by decide)]; rfl
theorem a_ld150 (s : mS) (f : Int → mO) (i : Int) (h0 : 0 ≤ i) (h1 : i < 25) : (mm_ld 0 (mk s) 150 i).bind f = f (s.2 150 i) := by rw [mk_ld s (q := 150) rfl h0 h1]; rfl
theorem a_st150 (s : mS) (f : mW → mO) (i v : Int) (h0 : 0 ≤ i) (h1 : i < 25) : (mm_st 0 (mk s) 150 i v).bind f = f (mk (uA s 150 i v)) := by rw [mk_st s (q := 150) rfl h0 h1]; rfl
theorem a_ln151 (s : mS) (f : Int → mO) : (mm_ln (mk s) 151).bind f = f 25 := by rw [mk_ln s (q := 151) rfl (by decide)]; rfl
theorem a_ld151 (s : mS) (f : Int → mO) (i : Int) (h0 : 0 ≤ i) (h1 : i < 25) : (mm_ld 0 (mk s) 151 i).bind f = f (s.2 151 i) := by rw [mk_ld s (q := 151) rfl h0 h1]; rfl
theorem a_st151 (s : mS) (f : mW → mO) (i v : Int) (h0 : 0 ≤ i) (h1 : i < 25) : (mm_st 0 (mk s) 151 i v).bind f = f (mk (uA s 151 i v)) := by rw [mk_st s (q := 151) rfl h0 h1]; rfl
theorem a_ln152 (s : mS) (f : Int → mO) : (mm_ln (mk s) 152).bind f = f 7 := by rw [mk_ln s (q := 152) rfl (by decide)]; rfl
theorem a_ld152 (s : mS) (f : Int → mO) (i : Int) (h0 : 0 ≤ i) (h1 : i < 7) : (mm_ld 0 (mk s) 152 i).bind f = f (s.2 152 i) := by rw [mk_ld s (q := 152) rfl h0 h1]; rfl
theorem a_st152 (s : mS) (f : mW → mO) (i v : Int) (h0 : 0 ≤ i) (h1 : i < 7) : (mm_st 0 (mk s) 152 i v).bind f = f (mk (uA s 152 i v)) := by rw [mk_st s (q := 152) rfl h0 h1]; rfl
theorem a_ln153 (s : mS) (f : Int → mO) : (mm_ln (mk s) 153).bind f = f 128 := by rw [mk_ln s (q := 153) rfl (by decide)]; rfl
theorem a_ld153 (s : mS) (f : Int → mO) (i : Int) (h0 : 0 ≤ i) (h1 : i < 128) : (mm_ld 0 (mk s) 153 i).bind f = f (s.2 153 i) := by rw [mk_ld s (q := 153) rfl h0 h1]; rfl
theorem a_st153 (s : mS) (f : mW → mO) (i v : Int) (h0 : 0 ≤ i) (h1 : i < 128) : (mm_st 0 (mk s) 153 i v).bind f = f (mk (uA s 153 i v)) := by rw [mk_st s (q := 153) rfl h0 h1]; rfl
theorem a_ln154 (s : mS) (f : Int → mO) : (mm_ln (mk s) 154).bind f = f 10 := by rw [mk_ln s (q := 154) rfl (by decide)]; rfl
theorem a_ld154 (s : mS) (f : Int → mO) (i : Int) (h0 : 0 ≤ i) (h1 : i < 10) : (mm_ld 2 (mk s) 154 i).bind f = f (s.2 154 i) := by rw [mk_ld s (q := 154) rfl h0 h1]; rfl
theorem a_st154 (s : mS) (f : mW → mO) (i v : Int) (h0 : 0 ≤ i) (h1 : i < 10) : (mm_st 2 (mk s) 154 i v).bind f = f (mk (uA s 154 i v)) := by rw [mk_st s (q := 154) rfl h0 h1]; rfl
theorem a_ln155 (s : mS) (f : Int → mO) : (mm_ln (mk s) 155).bind f = f 3125 := by rw [mk_ln s (q := 155) rfl (by decide)]; rfl
theorem a_ld155 (s : mS) (f : Int → mO) (i : Int) (h0 : 0 ≤ i) (h1 : i < 3125) : (mm_ld 2 (mk s) 155 i).bind f = f (s.2 155 i) := by rw [mk_ld s (q := 155) rfl h0 h1]; rfl
theorem a_st155 (s : mS) (f : mW → mO) (i v : Int) (h0 : 0 ≤ i) (h1 : i < 3125) : (mm_st 2 (mk s) 155 i v).bind f = f (mk (uA s 155 i v)) := by rw [mk_st s (q := 155) rfl h0 h1]; rfl
theorem a_ln156 (s : mS) (f : Int → mO) : (mm_ln (mk s) 156).bind f = f 13 := by rw [mk_ln s (q := 156) rfl (by decide)]; rfl
theorem a_ld156 (s : mS) (f : Int → mO) (i : Int) (h0 : 0 ≤ i) (h1 : i < 13) : (mm_ld 3 (mk s) 156 i).bind f = f (s.2 156 i) := by rw [mk_ld s (q := 156) rfl h0 h1]; rfl
theorem a_st156 (s : mS) (f : mW → mO) (i v : Int) (h0 : 0 ≤ i) (h1 : i < 13) : (mm_st 3 (mk s) 156 i v).bind f = f (mk (uA s 156 i v)) := by rw [mk_st s (q := 156) rfl h0 h1]; rfl
theorem a_ln157 (s : mS) (f : Int → mO) : (mm_ln (mk s) 157).bind f = f 80 := by rw [mk_ln s (q := 157) rfl (by decide)]; rfl
theorem a_ld157 (s : mS) (f : Int → mO) (i : Int) (h0 : 0 ≤ i) (h1 : i < 80) : (mm_ld 0 (mk s) 157 i).bind f = f (s.2 157 i) := by rw [mk_ld s (q := 157) rfl h0 h1]; rfl
theorem a_st157 (s : mS) (f : mW → mO) (i v : Int) (h0 : 0 ≤ i) (h1 : i < 80) : (mm_st 0 (mk s) 157 i v).bind f = f (mk (uA s 157 i v)) := by rw [mk_st s (q := 157) rfl h0 h1]; rfl
theorem a_ln158 (s : mS) (f : Int → mO) : (mm_ln (mk s) 158).bind f = f 5 := by rw [mk_ln s (q := 158) rfl (by decide)]; rfl
theorem a_ld158 (s : mS) (f : Int → mO) (i : Int) (h0 : 0 ≤ i) (h1 : i < 5) : (mm_ld 0 (mk s) 158 i).bind f = f (s.2 158 i) := by rw [mk_ld s (q := 158) rfl h0 h1]; rfl
theorem a_st158 (s : mS) (f : mW → mO) (i v : Int) (h0 : 0 ≤ i) (h1 : i < 5) : (mm_st 0 (mk s) 158 i v).bind f = f (mk (uA s 158 i v)) := by rw [mk_st s (q := 158) rfl h0 h1]; rfl
theorem a_ln159 (s : mS) (f : Int → mO) : (mm_ln (mk s) 159).bind f = f 5 := by rw [mk_ln s (q := 159) rfl (by decide)]; rfl
theorem a_ld159 (s : mS) (f : Int → mO) (i : Int) (h0 : 0 ≤ i) (h1 : i < 5) : (mm_ld 0 (mk s) 159 i).bind f = f (s.2 159 i) := by rw [mk_ld s (q := 159) rfl h0 h1]; rfl
theorem a_st159 (s : mS) (f : mW → mO) (i v : Int) (h0 : 0 ≤ i) (h1 : i < 5) : (mm_st 0 (mk s) 159 i v).bind f = f (mk (uA s 159 i v)) := by rw [mk_st s (q := 159) rfl h0 h1]; rfl
