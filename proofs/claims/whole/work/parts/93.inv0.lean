/-! what must hold holds at the start -/
def rg (n : Nat) (f : Int → Bool) : Bool := (List.range n).all fun i => f (i : Int)
theorem rg_of {n : Nat} {f : Int → Bool} (h : rg n f = true) {i : Int} (i0 : 0 ≤ i) (i1 : i < n) : f i = true := by
  unfold rg at h
  rw [List.all_eq_true] at h
  have := h i.toNat (List.mem_range.mpr (by omega))
  rwa [Int.toNat_of_nonneg i0] at this
def chkS (s : mS) : Bool :=
  s.1 3 15 == s.1 141 2 && s.1 3 16 == s.1 141 3 && s.1 3 17 == s.1 141 4 &&
  (decide (1 ≤ s.2 142 0) && decide (s.2 142 0 ≤ 5) && decide (1 ≤ s.2 142 1) && decide (s.2 142 1 ≤ 5) && s.2 142 2 == 0 && s.2 142 3 == 0 && decide (0 ≤ s.2 142 4) && decide (s.2 142 4 ≤ 16) && decide (0 ≤ s.2 142 5) && decide (s.2 142 5 ≤ 9999) && s.2 142 7 == -1) &&
  rg 25 (fun c => decide (0 ≤ s.2 142 (10 + c)) && decide (s.2 142 (10 + c) ≤ 9) && decide (0 ≤ s.2 142 (35 + c)) && decide (s.2 142 (35 + c) ≤ 9) && (decide (c < ncl (s.2 142)) || (s.2 142 (10 + c) == 0 && s.2 142 (35 + c) == 0)) && s.2 8 c == s.2 142 (10 + c) && s.2 9 c == s.2 142 (35 + c)) &&
  (s.1 7 0 == s.2 142 0 && s.1 7 1 == s.2 142 1 && s.1 7 2 == s.2 142 4 && s.1 7 3 == s.2 142 5 && s.1 7 6 == s.2 142 2 && s.1 7 10 == s.2 142 3) &&
  rg 5 (fun p => s.2 17 p == 0 && s.2 18 p == 0) &&
  ((List.range 4).all fun k => s.1 (76 + 2 * k) 1 == s.2 144 (k : Int) && s.1 (76 + 2 * k) 2 == s.2 145 (k : Int) && decide (0 ≤ s.2 144 (k : Int)) && decide (s.2 144 (k : Int) ≤ 3) && s.2 145 (k : Int) == -1) &&
  (s.1 5 4 == 0 && s.1 141 10 == 0 && s.1 5 9 == s.1 141 16 && s.1 5 10 == s.1 141 17 && s.1 33 0 == 0 && s.1 33 2 == 0 && s.1 3 14 == 0 && s.1 141 38 == 0 && s.1 63 4 == 0 && s.1 141 37 == 0) &&
  rg 5 (fun i => s.2 65 i == s.2 159 i)
theorem s0_ok : chkS s0 = true := by decide +kernel
theorem chk_inv {s : mS} (h : chkS s = true) : Inv s := by
  unfold chkS at h
  simp only [Bool.and_eq_true, beq_iff_eq, decide_eq_true_eq] at h
  obtain ⟨⟨⟨⟨⟨⟨⟨⟨⟨a1, a2⟩, a3⟩, ⟨⟨⟨⟨⟨⟨⟨⟨⟨⟨b1, b2⟩, b3⟩, b4⟩, b5⟩, b6⟩, b7⟩, b8⟩, b9⟩, b10⟩, b11⟩⟩, hc⟩, ⟨⟨⟨⟨⟨d1, d2⟩, d3⟩, d4⟩, d5⟩, d6⟩⟩, he⟩, hf⟩, ⟨⟨⟨⟨⟨⟨⟨⟨⟨g1, g2⟩, g3⟩, g4⟩, g5⟩, g6⟩, g7⟩, g8⟩, g9⟩, g10⟩⟩, hi⟩ := h
  have cc : ∀ c : Int, 0 ≤ c → c < 25 → _ := fun c c0 c1 => by
    have := rg_of hc c0 c1
    simp only [Bool.and_eq_true, Bool.or_eq_true, beq_iff_eq, decide_eq_true_eq] at this
    exact this
  refine ⟨a1, ⟨a2, a3⟩, ⟨⟨⟨b1, b2, b3, b4, by omega, by omega, by omega, by omega, b7, b8, b9, b10⟩, fun c c0 c1 => ?_, fun k k0 k1 => absurd k1 (by omega), fun p p0 p1 => absurd p1 (by omega)⟩, ⟨⟨d1, d2, d3, d4, d5, d6⟩, fun c c0 c1 => ?_, fun k k0 k1 => absurd k1 (by omega), fun p p0 p1 => absurd p1 (by omega), fun p p0 p1 => ?_⟩⟩, ?_, ?_, ?_, ?_, ?_⟩
  · obtain ⟨⟨⟨⟨⟨⟨q1, q2⟩, q3⟩, q4⟩, q5⟩, q6⟩, q7⟩ := cc c c0 c1
    refine ⟨q1, q2, q3, q4, fun hx => ?_⟩
    rcases q5 with q5 | q5
    · omega
    · exact q5
  · obtain ⟨⟨_, q6⟩, q7⟩ := cc c c0 c1
    exact ⟨q6, q7⟩
  · have := rg_of he (i := p) (by omega) p1
    simp only [Bool.and_eq_true, beq_iff_eq] at this
    exact this
  · intro k hk
    rw [List.all_eq_true] at hf
    have := hf k (List.mem_range.mpr hk)
    simp only [Bool.and_eq_true, beq_iff_eq, decide_eq_true_eq] at this
    obtain ⟨⟨⟨⟨q1, q2⟩, q3⟩, q4⟩, q5⟩ := this
    exact ⟨q1, q2, q3, q4, by omega, by omega, fun j j0 j1 => absurd j1 (by omega)⟩
  · exact ⟨by omega, by omega, by omega, fun j j0 j1 => absurd j1 (by omega), g3, g4⟩
  · refine ⟨Or.inl ⟨b11, g5, g6⟩, fun i i0 i1 => absurd i1 (by omega), ⟨fun i hx => hx.elim, fun i i0 i1 => absurd i1 (by omega), fun i i0 i1 => absurd i1 (by omega), fun i j i0 i1 j1 => absurd j1 (by omega)⟩, fun i i0 i1 => absurd i1 (by omega)⟩
  · exact ⟨by omega, by omega, by omega, fun i hx => absurd hx (by omega)⟩
  · refine ⟨by omega, by omega, fun i i0 i1 => ?_⟩
    have := rg_of hi i0 i1
    rw [beq_iff_eq] at this
    exact this
theorem inv0 : Inv s0 := chk_inv s0_ok
