/-! how a state of the mini machine lies in the machine's: numbers, cells, worlds, locals -/
/-- where the world begins, the two texts, the arrays' classes, the classes, the script -/
abbrev zG : Type := Nat × Nat × Nat × (Nat → ClassId) × va_G × mX × Nat
def zad (g : zG) (k : Nat) : Nat := if k = 0 then g.2.1 else if k = 1 then g.2.2.1 else if k = 2 then g.2.2.2.2.2.2 else g.1 + (k - 3)
def zA (g : zG) : Nat → Prop := fun q => g.1 ≤ q
def cv (ad : Nat → Nat) : mV → Value
  | .inl x => .int (Int32.ofInt x)
  | .inr (.inl x) => .long (Int64.ofInt x)
  | .inr (.inr none) => .null
  | .inr (.inr (some k)) => .ref (ad k)
theorem cv_r (ad : Nat → Nat) (r : Option Nat) : cv ad (.inr (.inr r)) = va_rf (r.map ad) := by cases r <;> rfl
def zArr (ad : Nat → Nat) (a : Nat × Nat × (Int → Int)) : vp_A :=
  (a.2.1, if a.1 = 3 then .inr (.inl fun j => Int64.ofInt (a.2.2 j)) else if a.1 < 3 then .inl (fun j => Int32.ofInt (a.2.2 j)) else .inr (.inr (.inr (.inr fun j => if a.2.2 j < 0 then none else some (ad (a.2.2 j).toNat)))))
def zE (g : zG) : mC → va_E
  | .inl o => .inr (o.1, o.2.map (cv (zad g)))
  | .inr a => .inl (g.2.2.2.1 a.1, zArr (zad g) a)
def zW (g : zG) (w : mW) : va_W := (List.range (w.2.1 - 3)).map fun j => (g.1 + j, zE g (w.1 (j + 3)))
def zOKv : mV → Prop
  | .inl x => zR32 x
  | .inr (.inl x) => zR64 x
  | .inr (.inr _) => True
def zOKl : List mV → Prop
  | [] => True
  | v :: r => zOKv v ∧ zOKl r
def zOKc : mC → Prop
  | .inl o => o.1 < 13 ∧ o.2.length = z_N o.1 ∧ ∀ (k : Nat) (v : mV), o.2[k]? = some v → zOKv v
  | .inr a => a.2.1 ≤ 100000 ∧ (a.1 < 4 ∨ zAok a.1 = true) ∧ (a.1 < 3 → ∀ j, zR32 (a.2.2 j)) ∧ (a.1 = 3 → ∀ j, zR64 (a.2.2 j))
def zOK (w : mW) : Prop := 3 ≤ w.2.1 ∧ (∀ k, 3 ≤ k → k < w.2.1 → zOKc (w.1 k)) ∧ ∀ k, (k < 3 ∨ w.2.1 ≤ k) → ∃ f, w.1 k = .inr (99, 0, f)
def zOKL (l : mL) : Prop := ∀ (k : Nat) (v : mV), l[k]? = some (some v) → zOKv v
/-- the locals that are known -/
def zlp (ad : Nat → Nat) (l : mL) : List (Nat × Value) := (List.range l.length).filterMap fun i => match l[i]? with
  | some (some v) => some (i, cv ad v)
  | _ => none
theorem zlp_mem {ad : Nat → Nat} {l : mL} {q : Nat × Value} : q ∈ zlp ad l ↔ ∃ v, l[q.1]? = some (some v) ∧ q.2 = cv ad v := by
  unfold zlp
  rw [List.mem_filterMap]
  constructor
  · rintro ⟨i, hi, h⟩
    split at h
    · rename_i v hv
      cases h
      exact ⟨v, hv, rfl⟩
    · cases h
  · rintro ⟨v, h1, h2⟩
    obtain ⟨i, x⟩ := q
    refine ⟨i, ?_, ?_⟩
    · rw [List.mem_range]
      exact (List.getElem?_eq_some_iff.mp h1).1
    · simp only at h1 h2 ⊢
      rw [h1, h2]
theorem zl_at {ad : Nat → Nat} {ls : Array Slot} {nL : Nat} {l : mL} (h : lv_has ls nL (zlp ad l)) {i : Nat} {v : mV} (hv : l[i]? = some (some v)) : ls[i]? = some (.val (cv ad v)) :=
  h.2.2 (i, cv ad v) (zlp_mem.mpr ⟨v, hv, rfl⟩)
theorem zl_less {ad : Nat → Nat} {ls : Array Slot} {nL : Nat} {lv : List (Nat × Value)} {l : mL} (h : lv_has ls nL lv) (hs : ∀ q ∈ zlp ad l, q ∈ lv) : lv_has ls nL (zlp ad l) := ⟨h.1, h.2.1, fun q hq => h.2.2 q (hs q hq)⟩
theorem zl_kill {ad : Nat → Nat} {ls : Array Slot} {nL : Nat} {l : mL} (ks : List Nat) (h : lv_has ls nL (zlp ad l)) : lv_has ls nL (zlp ad (mm_kill ks l)) := by
  refine zl_less h fun q hq => ?_
  obtain ⟨v, h1, h2⟩ := zlp_mem.mp hq
  refine zlp_mem.mpr ⟨v, ?_, h2⟩
  rw [mm_kill_get] at h1
  split at h1
  · cases h1
  · exact h1
theorem zOKL_kill {l : mL} (ks : List Nat) (h : zOKL l) : zOKL (mm_kill ks l) := by
  intro k v hv
  rw [mm_kill_get] at hv
  split at hv
  · cases hv
  · exact h k v hv
theorem zOKL_set {l : mL} {a : Nat} {x : Option mV} (h : zOKL l) (hx : ∀ v, x = some v → zOKv v) : zOKL (l.set a x) := by
  intro k v hv
  rw [List.getElem?_set] at hv
  split at hv
  · split at hv
    · exact hx v (Option.some.inj hv)
    · cases hv
  · exact h k v hv
/-- a store to a place that no long stands ahead of -/
theorem zl_set {ad : Nat → Nat} {ls : Array Slot} {nL : Nat} {l : mL} {a : Nat} {v : mV} {lv : List (Nat × Value)} (hJ : mm_isJ l a = false) (hlv : (a, cv ad v) :: (zlp ad l).filter (fun q => !(q.1 == a) && !(q.1 + 1 == a && q.2.category == 2)) = lv) (h : lv_has ls nL lv) : lv_has ls nL (zlp ad (l.set a (some v))) := by
  subst hlv
  refine zl_less h fun q hq => ?_
  obtain ⟨u, h1, h2⟩ := zlp_mem.mp hq
  obtain ⟨i, x⟩ := q
  simp only at h1 h2
  rw [List.getElem?_set] at h1
  by_cases hia : a = i
  · subst hia
    rw [if_pos rfl] at h1
    split at h1
    · cases h1
      rw [h2]
      exact List.mem_cons_self
    · cases h1
  · rw [if_neg hia] at h1
    refine List.mem_cons_of_mem _ (List.mem_filter.mpr ⟨zlp_mem.mpr ⟨u, h1, h2⟩, ?_⟩)
    simp only [Bool.and_eq_true, Bool.not_eq_true', beq_eq_false_iff_ne, ne_eq, Bool.and_eq_false_iff]
    refine ⟨fun e => hia e.symm, ?_⟩
    by_cases hi1 : i + 1 = a
    · right
      subst hi1
      unfold mm_isJ at hJ
      simp only [h1] at hJ
      subst h2
      rcases u with u | u | u
      · exact fun e => by cases e
      · simp at hJ
      · cases u <;> exact fun e => by cases e
    · exact Or.inl hi1
theorem zl_setJ {ad : Nat → Nat} {ls : Array Slot} {nL : Nat} {l : mL} {a : Nat} {x : Int} {lv : List (Nat × Value)} (hJ : mm_isJ l a = false) (hlv : (a, cv ad (.inr (.inl x))) :: (zlp ad l).filter (fun q => !(q.1 == a) && (!(q.1 == a + 1) && !(q.1 + 1 == a && q.2.category == 2))) = lv) (h : lv_has ls nL lv) : lv_has ls nL (zlp ad ((l.set a (some (.inr (.inl x)))).set (a + 1) none)) := by
  subst hlv
  refine zl_less h fun q hq => ?_
  obtain ⟨u, h1, h2⟩ := zlp_mem.mp hq
  obtain ⟨i, z⟩ := q
  simp only at h1 h2
  rw [List.getElem?_set] at h1
  by_cases hi2 : a + 1 = i
  · rw [if_pos hi2] at h1
    split at h1 <;> cases h1
  rw [if_neg hi2, List.getElem?_set] at h1
  by_cases hia : a = i
  · subst hia
    rw [if_pos rfl] at h1
    split at h1
    · cases h1
      rw [h2]
      exact List.mem_cons_self
    · cases h1
  · rw [if_neg hia] at h1
    refine List.mem_cons_of_mem _ (List.mem_filter.mpr ⟨zlp_mem.mpr ⟨u, h1, h2⟩, ?_⟩)
    simp only [Bool.and_eq_true, Bool.not_eq_true', beq_eq_false_iff_ne, ne_eq, Bool.and_eq_false_iff]
    refine ⟨fun e => hia e.symm, fun e => hi2 e.symm, ?_⟩
    by_cases hi1 : i + 1 = a
    · right
      subst hi1
      unfold mm_isJ at hJ
      simp only [h1] at hJ
      subst h2
      rcases u with u | u | u
      · exact fun e => by cases e
      · simp at hJ
      · cases u <;> exact fun e => by cases e
    · exact Or.inl hi1
/-! numbers -/
theorem zr_w32 (x : Int) : zR32 (mm_w32 x) := by
  unfold mm_w32 zR32
  have h1 := Int.le_bmod (x := x) (m := 4294967296) (by decide)
  have h2 := Int.bmod_lt (x := x) (m := 4294967296) (by decide)
  omega
theorem zr_w64 (x : Int) : zR64 (mm_w64 x) := by
  unfold mm_w64 zR64
  have h1 := Int.le_bmod (x := x) (m := 18446744073709551616) (by decide)
  have h2 := Int.bmod_lt (x := x) (m := 18446744073709551616) (by decide)
  omega
theorem zr_32 (x : Int32) : zR32 x.toInt := ⟨Int32.le_toInt x, Int32.toInt_lt x⟩
theorem zr_64 (x : Int64) : zR64 x.toInt := ⟨Int64.le_toInt x, Int64.toInt_lt x⟩
theorem ze_w32 (x : Int) : Int32.ofInt (mm_w32 x) = Int32.ofInt x := by
  unfold mm_w32
  apply Int32.toInt.inj
  rw [Int32.toInt_ofInt, Int32.toInt_ofInt]
  exact Int.bmod_bmod
theorem ze_w64 (x : Int) : Int64.ofInt (mm_w64 x) = Int64.ofInt x := by
  unfold mm_w64
  apply Int64.toInt.inj
  rw [Int64.toInt_ofInt, Int64.toInt_ofInt]
  exact Int.bmod_bmod
theorem ze_t32 {x : Int} (h : zR32 x) : (Int32.ofInt x).toInt = x := Int32.toInt_ofInt_of_le h.1 h.2
theorem ze_t64 {x : Int} (h : zR64 x) : (Int64.ofInt x).toInt = x := Int64.toInt_ofInt_of_le h.1 h.2
theorem ze_o32 (x : Int32) : Int32.ofInt x.toInt = x := Int32.ofInt_toInt x
theorem ze_o64 (x : Int64) : Int64.ofInt x.toInt = x := Int64.ofInt_toInt x
theorem ze_add (x y : Int) : Int32.ofInt (mm_w32 (x + y)) = Int32.ofInt x + Int32.ofInt y := by rw [ze_w32, Int32.ofInt_add]
theorem ze_sub (x y : Int) : Int32.ofInt (mm_w32 (x - y)) = Int32.ofInt x - Int32.ofInt y := by rw [ze_w32, Int32.ofInt_sub]
theorem ze_mul (x y : Int) : Int32.ofInt (mm_w32 (x * y)) = Int32.ofInt x * Int32.ofInt y := by rw [ze_w32, Int32.ofInt_mul]
theorem ze_ladd (x y : Int) : Int64.ofInt (mm_w64 (x + y)) = Int64.ofInt x + Int64.ofInt y := by rw [ze_w64, Int64.ofInt_add]
theorem ze_lsub (x y : Int) : Int64.ofInt (mm_w64 (x - y)) = Int64.ofInt x - Int64.ofInt y := by rw [ze_w64, Int64.ofInt_sub]
theorem ze_lmul (x y : Int) : Int64.ofInt (mm_w64 (x * y)) = Int64.ofInt x * Int64.ofInt y := by rw [ze_w64, Int64.ofInt_mul]
theorem ze_div {x y : Int} (hx : zR32 x) (hy : zR32 y) : Int32.ofInt (mm_idiv x y) = Int32.ofInt x / Int32.ofInt y := by
  unfold mm_idiv
  rw [ze_w32]
  apply Int32.toInt.inj
  rw [Int32.toInt_div, ze_t32 hx, ze_t32 hy, Int32.toInt_ofInt]
theorem ze_rem {x y : Int} (hx : zR32 x) (hy : zR32 y) : Int32.ofInt (mm_irem x y) = Int32.ofInt x % Int32.ofInt y := by
  unfold mm_irem
  rw [ze_w32]
  apply Int32.toInt.inj
  have h := zr_32 (Int32.ofInt x % Int32.ofInt y)
  rw [Int32.toInt_mod, ze_t32 hx, ze_t32 hy] at h ⊢
  exact ze_t32 h
theorem ze_ldiv {x y : Int} (hx : zR64 x) (hy : zR64 y) : Int64.ofInt (mm_ldiv x y) = Int64.ofInt x / Int64.ofInt y := by
  unfold mm_ldiv
  rw [ze_w64]
  apply Int64.toInt.inj
  rw [Int64.toInt_div, ze_t64 hx, ze_t64 hy, Int64.toInt_ofInt]
theorem ze_lrem {x y : Int} (hx : zR64 x) (hy : zR64 y) : Int64.ofInt (mm_lrem x y) = Int64.ofInt x % Int64.ofInt y := by
  unfold mm_lrem
  rw [ze_w64]
  apply Int64.toInt.inj
  have h := zr_64 (Int64.ofInt x % Int64.ofInt y)
  rw [Int64.toInt_mod, ze_t64 hx, ze_t64 hy] at h ⊢
  exact ze_t64 h
theorem ze_i2l {x : Int} (hx : zR32 x) : (Int32.ofInt x).toInt64 = Int64.ofInt x := by
  apply Int64.toInt.inj
  rw [Int32.toInt_toInt64, ze_t32 hx, Int64.toInt_ofInt_of_le (by have := hx.1; omega) (by have := hx.2; omega)]
theorem ze_l2i {x : Int} (hx : zR64 x) : (Int64.ofInt x).toInt32 = Int32.ofInt (mm_w32 x) := by
  rw [ze_w32]
  apply Int32.toInt.inj
  rw [Int64.toInt_toInt32, ze_t64 hx, Int32.toInt_ofInt]
theorem ze_i2b {x : Int} (hx : zR32 x) : (Int32.ofInt x).toInt8.toInt32 = Int32.ofInt (mm_i2b x) := by
  apply Int32.toInt.inj
  unfold mm_i2b
  rw [Int8.toInt_toInt32, Int32.toInt_toInt8, ze_t32 hx]
  have h1 := Int.le_bmod (x := x) (m := 256) (by decide)
  have h2 := Int.bmod_lt (x := x) (m := 256) (by decide)
  rw [Int32.toInt_ofInt_of_le (by omega) (by omega)]
theorem ze_i2s {x : Int} (hx : zR32 x) : (Int32.ofInt x).toInt16.toInt32 = Int32.ofInt (mm_i2s x) := by
  apply Int32.toInt.inj
  unfold mm_i2s
  rw [Int16.toInt_toInt32, Int32.toInt_toInt16, ze_t32 hx]
  have h1 := Int.le_bmod (x := x) (m := 65536) (by decide)
  have h2 := Int.bmod_lt (x := x) (m := 65536) (by decide)
  rw [Int32.toInt_ofInt_of_le (by omega) (by omega)]
theorem zr_i2b (x : Int) : zR32 (mm_i2b x) := by
  unfold mm_i2b zR32
  have h1 := Int.le_bmod (x := x) (m := 256) (by decide)
  have h2 := Int.bmod_lt (x := x) (m := 256) (by decide)
  omega
theorem zr_i2s (x : Int) : zR32 (mm_i2s x) := by
  unfold mm_i2s zR32
  have h1 := Int.le_bmod (x := x) (m := 65536) (by decide)
  have h2 := Int.bmod_lt (x := x) (m := 65536) (by decide)
  omega
theorem ze_eq {x y : Int} (hx : zR32 x) (hy : zR32 y) : Int32.ofInt x = Int32.ofInt y ↔ x = y := by
  rw [← Int32.toInt_inj, ze_t32 hx, ze_t32 hy]
theorem ze_lt {x y : Int} (hx : zR32 x) (hy : zR32 y) : Int32.ofInt x < Int32.ofInt y ↔ x < y := by
  rw [Int32.lt_iff_toInt_lt, ze_t32 hx, ze_t32 hy]
theorem ze_le {x y : Int} (hx : zR32 x) (hy : zR32 y) : Int32.ofInt x ≤ Int32.ofInt y ↔ x ≤ y := by
  rw [Int32.le_iff_toInt_le, ze_t32 hx, ze_t32 hy]
theorem ze_leq {x y : Int} (hx : zR64 x) (hy : zR64 y) : Int64.ofInt x = Int64.ofInt y ↔ x = y := by
  rw [← Int64.toInt_inj, ze_t64 hx, ze_t64 hy]
theorem ze_llt {x y : Int} (hx : zR64 x) (hy : zR64 y) : Int64.ofInt x < Int64.ofInt y ↔ x < y := by
  rw [Int64.lt_iff_toInt_lt, ze_t64 hx, ze_t64 hy]
theorem ze_nat {x : Int} (hx : zR32 x) (h0 : 0 ≤ x) : (Int32.ofInt x).toNatClampNeg = x.toNat := by
  rw [← Int32.toNat_toInt, ze_t32 hx]
theorem ze_in {x : Int} {n : Nat} (hx : zR32 x) (h0 : 0 ≤ x) (hn : x < n) : vp_in (Int32.ofInt x) n := by
  unfold vp_in
  rw [ze_nat hx h0]
  intro h
  rcases h with h | h
  · have : Int32.ofInt x < Int32.ofInt 0 := h
    rw [ze_lt hx (by decide)] at this
    omega
  · omega
