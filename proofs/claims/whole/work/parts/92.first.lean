/-! that world is mk of something -/
def okF : List Nat → List mV → Bool
  | [], [] => true
  | 0 :: r, .inl _ :: s => okF r s
  | 1 :: r, .inr (.inl _) :: s => okF r s
  | (n + 2) :: r, .inr (.inr (some m)) :: s => m == n && okF r s
  | _, _ => false
def fv (fs : List mV) (k : Nat) : Int := match fs[k]? with
  | some (.inl x) => x
  | some (.inr (.inl x)) => x
  | _ => 0
theorem fv_s (x : mV) (s : List mV) (k : Nat) : fv (x :: s) (k + 1) = fv s k := by
  unfold fv
  rw [List.getElem?_cons_succ]
theorem okF_eq (g : Nat → Int) : ∀ (l : List Nat) (fs : List mV) (b : Nat), okF l fs = true → (∀ k, g (b + k) = fv fs k) → mkfs g b l = fs
  | [], [], _, _, _ => rfl
  | [], _ :: _, _, h, _ => by simp [okF] at h
  | 0 :: r, [], _, h, _ => by simp [okF] at h
  | 0 :: r, .inl x :: s, b, h, hg => by
    have e := hg 0
    have i := okF_eq g r s (b + 1) h (fun k => by rw [← fv_s (.inl x) s k, ← hg (k + 1)]; congr 1; omega)
    show .inl (g b) :: mkfs g (b + 1) r = _
    rw [i, show g b = x from e]
  | 0 :: r, .inr x :: s, _, h, _ => by rcases x with x | x <;> simp [okF] at h
  | 1 :: r, [], _, h, _ => by simp [okF] at h
  | 1 :: r, .inr (.inl x) :: s, b, h, hg => by
    have e := hg 0
    have i := okF_eq g r s (b + 1) h (fun k => by rw [← fv_s (.inr (.inl x)) s k, ← hg (k + 1)]; congr 1; omega)
    show .inr (.inl (g b)) :: mkfs g (b + 1) r = _
    rw [i, show g b = x from e]
  | 1 :: r, .inl x :: s, _, h, _ => by simp [okF] at h
  | 1 :: r, .inr (.inr x) :: s, _, h, _ => by simp [okF] at h
  | (n + 2) :: r, [], _, h, _ => by simp [okF] at h
  | (n + 2) :: r, .inr (.inr (some m)) :: s, b, h, hg => by
    have h : (m == n && okF r s) = true := h
    rw [Bool.and_eq_true, beq_iff_eq] at h
    have i := okF_eq g r s (b + 1) h.2 (fun k => by rw [← fv_s (.inr (.inr (some m))) s k, ← hg (k + 1)]; congr 1; omega)
    show .inr (.inr (some n)) :: mkfs g (b + 1) r = _
    rw [i, h.1]
  | (n + 2) :: r, .inl x :: s, _, h, _ => by simp [okF] at h
  | (n + 2) :: r, .inr (.inl x) :: s, _, h, _ => by simp [okF] at h
  | (n + 2) :: r, .inr (.inr none) :: s, _, h, _ => by simp [okF] at h
def okC (t : Option sT) (c : mC) : Bool := match t, c with
  | some (.inl a), .inl o => a.1 == o.1 && okF a.2 o.2
  | some (.inr (.inl a)), .inr b => a.1 == b.1 && a.2 == b.2.1
  | some (.inr (.inr a)), .inr b => a.1 == b.1 && a.2.1 == b.2.1 && ((List.range a.2.1).all fun i => b.2.2 (i : Int) == rfa a.2.1 a.2.2.1 a.2.2.2 (i : Int)) && b.2.2 (-1) == -1
  | _, _ => false
def rdW (w : mW) : mS := (fun q k => match w.1 q with | .inl o => fv o.2 k | _ => 0, fun q => match w.1 q with | .inr b => b.2.2 | _ => fun _ => 0)
theorem rdW_1 {w : mW} {q : Nat} {o : Nat × List mV} (h : w.1 q = .inl o) (k : Nat) : (rdW w).1 q k = fv o.2 k := by
  show (match w.1 q with | .inl o => fv o.2 k | _ => 0) = _
  rw [h]
theorem rdW_2 {w : mW} {q : Nat} {b : Nat × Nat × (Int → Int)} (h : w.1 q = .inr b) : (rdW w).2 q = b.2.2 := by
  show (match w.1 q with | .inr b => b.2.2 | _ => fun _ => 0) = _
  rw [h]
theorem rfa_out : ∀ (n : Nat) (b m i : Int), ¬ (0 ≤ i ∧ i < n) → rfa n b m i = -1
  | 0, _, _, _, _ => rfl
  | n + 1, b, m, i, h => by
    show (if i = (n : Int) then _ else rfa n b m i) = -1
    rw [if_neg (by omega)]
    exact rfa_out n b m i (by omega)
theorem iW_ok : ((List.range 157).all fun j => okC (sh (j + 3)) (iW.1 (j + 3))) = true := by decide +kernel
theorem sh_out (q : Nat) (h : q < 3 ∨ 160 ≤ q) : sh q = none := by
  unfold sh
  by_cases h3 : q < 3
  · rw [if_pos h3]
  · rw [if_neg h3]
    exact List.getElem?_eq_none (by have : shTab.length = 157 := rfl; omega)
theorem iA1_z : zdf iA1 := by
  have h0 : zdf z_w0 := ⟨Nat.le_refl _, fun _ _ => rfl, fun q kd n f h i _ => by
    simp only [z_w0, Sum.inr.injEq, Prod.mk.injEq] at h
    rw [← h.2.2]⟩
  exact mm_al_v z_w0 _ _ (fun _ _ _ e => by cases e) h0
theorem exv {P : mP} {n y pc : Nat} {l : mL} {st : List mV} {w : mW} (h : isN (mm_exec P n y pc l st w) = true) (hz : zdf w) : zdf (gw (mm_exec P n y pc l st w)) :=
  mm_exec_v P n y pc l st w _ (isN_gw h) hz
theorem iE1_z : zdf (gw iE1) := by
  have h := iE1_n
  unfold iE1 at h ⊢
  exact exv h iA1_z
theorem iA2_z : zdf iA2 := by
  have h := iE1_z
  unfold iA2
  generalize gw iE1 = w at h ⊢
  exact mm_al_v w _ _ (fun _ _ _ e => by cases e) h
theorem iW_z : zdf iW := by
  have h := iE2_n
  unfold iW
  unfold iE2 at h ⊢
  exact exv h iA2_z
theorem iW_n : iW.2.1 = 160 ∧ iW.2.2 = 11856 := by
  have h := iE2_c
  generalize iW = w at h ⊢
  rw [Bool.and_eq_true, beq_iff_eq, beq_iff_eq] at h
  exact h
theorem W_mk {w : mW} (hz : zdf w) (hn : w.2.1 = 160 ∧ w.2.2 = 11856) (g : ((List.range 157).all fun j => okC (sh (j + 3)) (w.1 (j + 3))) = true) : w = mk (rdW w) := by
  apply Prod.ext
  · funext q
    by_cases hq : q < 3 ∨ 160 ≤ q
    · rw [hz.2.1 q (by rw [hn.1]; exact hq)]
      show _ = mkc (rdW w) q
      unfold mkc
      rw [sh_out q hq]
    · rw [List.all_eq_true] at g
      have g := g (q - 3) (List.mem_range.mpr (by omega))
      rw [show q - 3 + 3 = q by omega] at g
      show w.1 q = mkc (rdW w) q
      unfold mkc
      unfold okC at g
      rcases hs : sh q with _ | ⟨a⟩ | ⟨a⟩ | ⟨a⟩
      · rw [hs] at g; cases g
      · rcases hc : w.1 q with o | b
        · rw [hs, hc] at g
          have g : (a.1 == o.1 && okF a.2 o.2) = true := g
          rw [Bool.and_eq_true, beq_iff_eq] at g
          have e := okF_eq ((rdW w).1 q) a.2 o.2 0 g.2 (fun k => by rw [Nat.zero_add, rdW_1 hc])
          show _ = Sum.inl (a.1, mkfs ((rdW w).1 q) 0 a.2)
          rw [e, g.1]
        · rw [hs, hc] at g; cases g
      · rcases hc : w.1 q with o | b
        · rw [hs, hc] at g; cases g
        · rw [hs, hc] at g
          have g : (a.1 == b.1 && a.2 == b.2.1) = true := g
          rw [Bool.and_eq_true, beq_iff_eq, beq_iff_eq] at g
          show _ = Sum.inr (a.1, a.2, (rdW w).2 q)
          rw [rdW_2 hc, g.1, g.2]
      · rcases hc : w.1 q with o | b
        · rw [hs, hc] at g; cases g
        · rw [hs, hc] at g
          have g : (a.1 == b.1 && a.2.1 == b.2.1 && ((List.range a.2.1).all fun i => b.2.2 (i : Int) == rfa a.2.1 a.2.2.1 a.2.2.2 (i : Int)) && b.2.2 (-1) == -1) = true := g
          rw [Bool.and_eq_true, Bool.and_eq_true, Bool.and_eq_true, beq_iff_eq, beq_iff_eq, beq_iff_eq, List.all_eq_true] at g
          obtain ⟨⟨⟨g1, g2⟩, g3⟩, g4⟩ := g
          have e : b.2.2 = rfa a.2.1 a.2.2.1 a.2.2.2 := by
            funext i
            by_cases hi : 0 ≤ i ∧ i < a.2.1
            · have := g3 i.toNat (List.mem_range.mpr (by omega))
              rw [beq_iff_eq, Int.toNat_of_nonneg hi.1] at this
              exact this
            · rw [rfa_out _ _ _ _ hi, hz.2.2 q b.1 b.2.1 b.2.2 hc i (by rw [← g2]; exact hi), g4]
          show _ = Sum.inr (a.1, a.2.1, rfa a.2.1 a.2.2.1 a.2.2.2)
          rw [← e, g1, g2]
  · exact Prod.ext hn.1 hn.2
def s0 : mS := rdW iW
theorem iW_mk : iW = mk s0 := W_mk iW_z iW_n iW_ok
/-- what the law starts with -/
theorem first (Z : mX) : mm_run (zP Z) 135 [.inr (.inr (some 3))] iA1 = some (none, gw iE1) ∧ mm_run (zP Z) 210 [.inr (.inr (some 141))] iA2 = some (none, mk s0) := by
  refine ⟨?_, ?_⟩
  · have h := isN_gw iE1_n
    generalize hw : gw iE1 = w at h ⊢
    unfold iE1 at h
    have g := mm_at_of (ex_E Z _ _ _ _ _ _ _ h)
    unfold mm_run
    exact g
  · have h := isN_gw iE2_n
    rw [show gw iE2 = mk s0 from iW_mk] at h
    unfold iE2 at h
    have g := mm_at_of (ex_E Z _ _ _ _ _ _ _ h)
    unfold mm_run
    exact g
