/-! fractions: chance, slips -/
def gA (q : Nat) : Prop := scA q ∨ srA q
def gF (q k : Nat) : Prop := scF q k ∨ srF q k ∨ (q = 3 ∧ (k = 16 ∨ k = 17)) ∨ (q = 141 ∧ (k = 3 ∨ k = 4))
theorem inv_fr {s t : mS} (h : Inv s) (g : Ag gA gF s t) (hs : t.1 3 15 = t.1 141 2) (hf : TFr t) : Inv t := by
  obtain ⟨i1, i2, i3, i4, i5, i6, i7, i8⟩ := h
  have f1 := g.2
  have f2 := g.1
  unfold gA scA srA at f2
  unfold gF scF srF at f1
  have e1 : t.2 142 = s.2 142 := f2 142 (by omega)
  have e2 : t.2 143 = s.2 143 := f2 143 (by omega)
  refine ⟨hs, hf, ?_, ?_, ?_, ?_, ?_, ?_⟩
  · unfold TSc
    rw [e1, e2]
    exact ⟨i3.1, CS_fr i3.2 (fun k => f1 7 k (by omega)) (fun j j0 j1 => f2 _ (by omega))⟩
  · exact TTr_fr i4 (fun q k q0 q1 => f1 q k (by omega)) (fun q hq => f2 q (by omega))
  · exact TTx_fr i5 ⟨f1 5 4 (by omega), f1 5 9 (by omega), f1 5 10 (by omega)⟩ ⟨f1 141 10 (by omega), f1 141 16 (by omega), f1 141 17 (by omega)⟩ (f2 6 (by omega)) (f2 147 (by omega))
  · rw [e1]
    exact AU_fr i6 (fun k => f1 33 k (by omega)) (fun j j0 j1 => f2 _ (by omega))
  · exact TMk_fr i7 (f1 3 14 (by omega)) (f1 141 38 (by omega)) (fun q k q0 q1 => f1 q k (by omega)) (fun q q0 q1 => f2 q (by omega)) (fun j j0 j1 => by rw [e1]) (fun j j0 j1 => by rw [e2])
  · exact TLv_fr i8 (f1 63 4 (by omega)) (f1 141 37 (by omega)) (f2 65 (by omega)) (f2 159 (by omega))
theorem op_fr {Z : mX} {s : mS} {a b : Nat} {as : List mV} (hI : Inv s) (v x T B : Int) (s' : mS)
    (hc : ∀ f : Int → mW → mO, mm_kI (mm_run (zP Z) a (.inr (.inr (some 3)) :: as) (mk s)) f = f v (mk (uF (uF (uF s' 3 16 T) 3 17 B) 3 15 x))) (cs : csc s s')
    (hr : ∀ t : mS, t.2 142 = s.2 142 → ∃ t', (∀ f : Int → mW → mO, mm_kI (mm_run (zP Z) b (.inr (.inr (some 141)) :: as) (mk t)) f = f v (mk (uF (uF (uF t' 141 3 T) 141 4 B) 141 2 x))) ∧ rsc t t') : OpI Z s a b as := by
  have e : (uF (uF (uF s' 3 16 T) 3 17 B) 3 15 x).2 142 = s.2 142 := cs.1 142 (by unfold scA; omega)
  obtain ⟨t', h1, h2⟩ := hr _ e
  refine ⟨v, _, _, hc, h1, ?_⟩
  have k1 : Ag gA gF s (uF (uF (uF s' 3 16 T) 3 17 B) 3 15 x) := Ag_uF (F := gF) (Ag_uF (F := gF) (Ag_uF (F := gF) (Ag_mono (B := gA) (G := gF) cs (fun q hq => Or.inl hq) (fun q k hq => Or.inl hq)) (show gF 3 16 by unfold gF; omega) _) (show gF 3 17 by unfold gF; omega) _) (show gF 3 15 by unfold gF scF; omega) _
  have k2 : Ag gA gF (uF (uF (uF s' 3 16 T) 3 17 B) 3 15 x) (uF (uF (uF t' 141 3 T) 141 4 B) 141 2 x) := Ag_uF (F := gF) (Ag_uF (F := gF) (Ag_uF (F := gF) (Ag_mono (B := gA) (G := gF) h2 (fun q hq => Or.inr hq) (fun q k hq => Or.inr (Or.inl hq))) (show gF 141 3 by unfold gF; omega) _) (show gF 141 4 by unfold gF; omega) _) (show gF 141 2 by unfold gF srF; omega) _
  have q3 : ∀ k, t'.1 3 k = (uF (uF (uF s' 3 16 T) 3 17 B) 3 15 x).1 3 k := fun k => h2.2 3 k (by unfold srF; omega)
  refine inv_fr hI (Ag_trans k1 k2) ?_ ⟨?_, ?_⟩
  · simp [uF_1, q3]
  · simp [uF_1, q3]
  · simp [uF_1, q3]
theorem lrem_eq {a b : Int} (ha : 0 ≤ a) (hb : 0 < b) (hb1 : b < 9223372036854775808) : mm_lrem a b = a % b := by
  have h1 := Int.emod_nonneg a (show b ≠ 0 by omega)
  have h2 := Int.emod_lt_of_pos a hb
  unfold mm_lrem
  rw [Int.tmod_eq_emod_of_nonneg ha]
  exact w64_eq (by omega) (by omega)
theorem lp_gcd (Z : mX) (s : mS) (A B : Int) : ∀ n : Nat, ∀ a b i : Int, 0 ≤ a → 0 ≤ b → b < 9223372036854775808 → b < 2 ^ n → 0 < a + b → 0 ≤ i → i + 2 * n ≤ 190 →
    ∃ g, 0 < g ∧ mm_at (zP Z) 194 6 [some (.inr (.inr (some 3))), some (.inr (.inl A)), none, some (.inr (.inl B)), none, some (.inr (.inl a)), none, some (.inr (.inl b)), none, some (.inl i), none, none] [] (mk s) = mm_at (zP Z) 194 23 [some (.inr (.inr (some 3))), some (.inr (.inl A)), none, some (.inr (.inl B)), none, some (.inr (.inl g)), none, none, none, none, none, none] [] (mk s) ∧
      ∀ t : mS, mm_at (zP Z) 219 4 [some (.inr (.inr (some 141))), some (.inr (.inl A)), none, some (.inr (.inl B)), none, some (.inr (.inl a)), none, some (.inr (.inl b)), none, none, none] [] (mk t) = mm_at (zP Z) 219 4 [some (.inr (.inr (some 141))), some (.inr (.inl A)), none, some (.inr (.inl B)), none, some (.inr (.inl g)), none, some (.inr (.inl 0)), none, none, none] [] (mk t) := by
  have zero : ∀ a i : Int, 0 < a → 0 ≤ i → i < 200 → ∃ g, 0 < g ∧ mm_at (zP Z) 194 6 [some (.inr (.inr (some 3))), some (.inr (.inl A)), none, some (.inr (.inl B)), none, some (.inr (.inl a)), none, some (.inr (.inl 0)), none, some (.inl i), none, none] [] (mk s) = mm_at (zP Z) 194 23 [some (.inr (.inr (some 3))), some (.inr (.inl A)), none, some (.inr (.inl B)), none, some (.inr (.inl g)), none, none, none, none, none, none] [] (mk s) ∧
      ∀ t : mS, mm_at (zP Z) 219 4 [some (.inr (.inr (some 141))), some (.inr (.inl A)), none, some (.inr (.inl B)), none, some (.inr (.inl a)), none, some (.inr (.inl 0)), none, none, none] [] (mk t) = mm_at (zP Z) 219 4 [some (.inr (.inr (some 141))), some (.inr (.inl A)), none, some (.inr (.inl B)), none, some (.inr (.inl g)), none, some (.inr (.inl 0)), none, none, none] [] (mk t) := by
    intro a i ha i0 i1
    refine ⟨a, ha, ?_, fun t => rfl⟩
    rw [B_X11_tellFraction_6]
    simp (disch := first | assumption | omega) only [↓sm, ↓reduceIte, ↓if_pos, ↓if_neg, kI, kJ, kR, kV, w32_eq, w64_eq, reduceCtorEq, Int.reduceAdd, Int.reduceMul, Int.reduceSub, B_X11_tellFraction_9, lcmp0]
  have step : ∀ a b i : Int, b ≠ 0 → 0 ≤ a → 0 < b → b < 9223372036854775808 → 0 ≤ i → i < 200 →
      mm_at (zP Z) 194 6 [some (.inr (.inr (some 3))), some (.inr (.inl A)), none, some (.inr (.inl B)), none, some (.inr (.inl a)), none, some (.inr (.inl b)), none, some (.inl i), none, none] [] (mk s) = mm_at (zP Z) 194 6 [some (.inr (.inr (some 3))), some (.inr (.inl A)), none, some (.inr (.inl B)), none, some (.inr (.inl b)), none, some (.inr (.inl ((a % b)))), none, some (.inl ((i + 1))), none, none] [] (mk s) ∧
      ∀ t : mS, mm_at (zP Z) 219 4 [some (.inr (.inr (some 141))), some (.inr (.inl A)), none, some (.inr (.inl B)), none, some (.inr (.inl a)), none, some (.inr (.inl b)), none, none, none] [] (mk t) = mm_at (zP Z) 219 4 [some (.inr (.inr (some 141))), some (.inr (.inl A)), none, some (.inr (.inl B)), none, some (.inr (.inl b)), none, some (.inr (.inl ((a % b)))), none, none, none] [] (mk t) := by
    intro a b i hb a0 b0 b1 i0 i1
    refine ⟨?_, fun t => ?_⟩
    · conv => lhs; rw [B_X11_tellFraction_6]
      simp (disch := first | assumption | omega) only [↓sm, ↓reduceIte, ↓if_pos, ↓if_neg, kI, kJ, kR, kV, w32_eq, w64_eq, reduceCtorEq, Int.reduceAdd, Int.reduceMul, Int.reduceSub, B_X11_tellFraction_9, B_X11_tellFraction_13, lcmp0, lrem_eq]
    · conv => lhs; rw [B_X12_tellsBy_4]
      simp (disch := first | assumption | omega) only [↓sm, ↓reduceIte, ↓if_pos, ↓if_neg, kI, kJ, kR, kV, w32_eq, w64_eq, reduceCtorEq, Int.reduceAdd, Int.reduceMul, Int.reduceSub, lcmp0, lrem_eq]
  intro n
  induction n with
  | zero =>
    intro a b i a0 b0 b1 b2 hs i0 i1
    have : b = 0 := by simp at b2; omega
    subst this
    exact zero a i (by omega) i0 (by omega)
  | succ n ih =>
    intro a b i a0 b0 b1 b2 hs i0 i1
    by_cases hb : b = 0
    · subst hb
      exact zero a i (by omega) i0 (by omega)
    · obtain ⟨c1, r1⟩ := step a b i hb a0 (by omega) b1 i0 (by omega)
      have m0 := Int.emod_nonneg a hb
      have m1 := Int.emod_lt_of_pos a (show 0 < b by omega)
      by_cases hr : a % b = 0
      · obtain ⟨g, g0, g1, g2⟩ := zero b (i + 1) (by omega) (by omega) (by omega)
        refine ⟨g, g0, ?_, fun t => ?_⟩
        · rw [c1, hr, g1]
        · rw [r1 t, hr, g2 t]
      · obtain ⟨c2, r2⟩ := step b (a % b) (i + 1) hr b0 (by omega) (by omega) (by omega) (by omega)
        have k0 := Int.emod_nonneg b hr
        have k1 := Int.emod_lt_of_pos b (show 0 < a % b by omega)
        have k2 : b % (a % b) + (a % b) ≤ b := by
          have h1 := Int.emod_add_mul_ediv b (a % b)
          have h2 : 1 ≤ b / (a % b) := by
            apply Int.le_ediv_of_mul_le (by omega)
            omega
          have h3 : (a % b) * 1 ≤ (a % b) * (b / (a % b)) := Int.mul_le_mul_of_nonneg_left h2 (by omega)
          omega
        have e2 : (2 : Int) ^ (n + 1) = 2 ^ n + 2 ^ n := by rw [Int.pow_succ]; omega
        obtain ⟨g, g0, g1, g2⟩ := ih (a % b) (b % (a % b)) (i + 1 + 1) (by omega) k0 (by omega) (by omega) (by omega) (by omega) (by omega)
        refine ⟨g, g0, ?_, fun t => ?_⟩
        · rw [c1, c2, g1]
        · rw [r1 t, r2 t, g2 t]
/-- a fraction told, on both sides -/
theorem tell (Z : mX) (A B : Int) (A0 : 0 ≤ A) (B0 : 0 < B) (B1 : B < 9223372036854775808) : ∃ T U : Int, (∀ (s : mS) (f : mW → mO), mm_kV (mm_run (zP Z) 194 [.inr (.inr (some 3)), .inr (.inl A), .inr (.inl B)] (mk s)) f = f (mk (uF (uF s 3 16 T) 3 17 U))) ∧
    ∀ (t : mS) (f : Int → mW → mO), mm_kI (mm_run (zP Z) 219 [.inr (.inr (some 141)), .inr (.inl A), .inr (.inl B)] (mk t)) f = f 1 (mk (uF (uF (uF t 141 3 T) 141 4 U) 141 2 0)) := by
  have key : ∀ s : mS, ∃ g, 0 < g ∧ mm_at (zP Z) 194 6 [some (.inr (.inr (some 3))), some (.inr (.inl A)), none, some (.inr (.inl B)), none, some (.inr (.inl A)), none, some (.inr (.inl B)), none, some (.inl 0), none, none] [] (mk s) = mm_at (zP Z) 194 23 [some (.inr (.inr (some 3))), some (.inr (.inl A)), none, some (.inr (.inl B)), none, some (.inr (.inl g)), none, none, none, none, none, none] [] (mk s) ∧
      ∀ t : mS, mm_at (zP Z) 219 4 [some (.inr (.inr (some 141))), some (.inr (.inl A)), none, some (.inr (.inl B)), none, some (.inr (.inl A)), none, some (.inr (.inl B)), none, none, none] [] (mk t) = mm_at (zP Z) 219 4 [some (.inr (.inr (some 141))), some (.inr (.inl A)), none, some (.inr (.inl B)), none, some (.inr (.inl g)), none, some (.inr (.inl 0)), none, none, none] [] (mk t) := fun s => lp_gcd Z s A B 63 A B 0 A0 (by omega) B1 (by simpa using B1) (by omega) (by omega) (by omega)
  -- the divisor doesn't hang on the world: read it off the reference's at one world
  have inj : ∀ g g' : Int, 0 < g → 0 < g' → (∀ t : mS, mm_at (zP Z) 219 4 [some (.inr (.inr (some 141))), some (.inr (.inl A)), none, some (.inr (.inl B)), none, some (.inr (.inl A)), none, some (.inr (.inl B)), none, none, none] [] (mk t) = mm_at (zP Z) 219 4 [some (.inr (.inr (some 141))), some (.inr (.inl A)), none, some (.inr (.inl B)), none, some (.inr (.inl g)), none, some (.inr (.inl 0)), none, none, none] [] (mk t)) → (∀ t : mS, mm_at (zP Z) 219 4 [some (.inr (.inr (some 141))), some (.inr (.inl A)), none, some (.inr (.inl B)), none, some (.inr (.inl A)), none, some (.inr (.inl B)), none, none, none] [] (mk t) = mm_at (zP Z) 219 4 [some (.inr (.inr (some 141))), some (.inr (.inl A)), none, some (.inr (.inl B)), none, some (.inr (.inl g')), none, some (.inr (.inl 0)), none, none, none] [] (mk t)) → mm_ldiv A g = mm_ldiv A g' ∧ mm_ldiv B g = mm_ldiv B g' := by
    intro g g' h1 h2 e1 e2
    have t0 : mS := (fun _ _ => 0, fun _ _ => 0)
    have fin : ∀ g : Int, 0 < g → mm_at (zP Z) 219 4 [some (.inr (.inr (some 141))), some (.inr (.inl A)), none, some (.inr (.inl B)), none, some (.inr (.inl g)), none, some (.inr (.inl 0)), none, none, none] [] (mk t0) = some (some (.inl 1), mk (uF (uF (uF t0 141 3 (mm_ldiv A g)) 141 4 (mm_ldiv B g)) 141 2 0)) := by
      intro g hg
      have hg' : g ≠ 0 := by omega
      rw [B_X12_tellsBy_4]
      simp (disch := first | assumption | omega) only [↓sm, ↓reduceIte, ↓if_pos, ↓if_neg, kI, kJ, kR, kV, w32_eq, w64_eq, reduceCtorEq, Int.reduceAdd, Int.reduceMul, Int.reduceSub, lcmp0, o_c141, ↓o_p141_3, ↓o_p141_4, ↓d_is0 Z]
    have h := (e1 t0).symm.trans (e2 t0)
    rw [fin g h1, fin g' h2] at h
    have h3 : ∀ x y x' y' : Int, mk (uF (uF (uF t0 141 3 x) 141 4 y) 141 2 0) = mk (uF (uF (uF t0 141 3 x') 141 4 y') 141 2 0) → x = x' ∧ y = y' := by
      intro x y x' y' hm
      have q1 := mk_gJ (uF (uF (uF t0 141 3 x) 141 4 y) 141 2 0) (q := 141) (c := 12) (k := 3) rfl
      have q2 := mk_gJ (uF (uF (uF t0 141 3 x') 141 4 y') 141 2 0) (q := 141) (c := 12) (k := 3) rfl
      have q3 := mk_gJ (uF (uF (uF t0 141 3 x) 141 4 y) 141 2 0) (q := 141) (c := 12) (k := 4) rfl
      have q4 := mk_gJ (uF (uF (uF t0 141 3 x') 141 4 y') 141 2 0) (q := 141) (c := 12) (k := 4) rfl
      rw [hm, q2] at q1
      rw [hm, q4] at q3
      simp [uF_1] at q1 q3
      exact ⟨q1.symm, q3.symm⟩
    simp only [Option.some.injEq, Prod.mk.injEq, true_and] at h
    exact h3 _ _ _ _ h
  obtain ⟨g, g0, _, g2⟩ := key (fun _ _ => 0, fun _ _ => 0)
  refine ⟨mm_ldiv A g, mm_ldiv B g, fun s f => ?_, fun t f => ?_⟩
  · obtain ⟨g', k0, k1, k2⟩ := key s
    obtain ⟨q1, q2⟩ := inj g g' g0 k0 g2 k2
    have hg' : g' ≠ 0 := by omega
    rw [B_X11_tellFraction, k1, B_X11_tellFraction_23, q1, q2]
    simp (disch := first | assumption | omega) only [↓sm, ↓reduceIte, ↓if_pos, ↓if_neg, kI, kJ, kR, kV, w32_eq, w64_eq, reduceCtorEq, Int.reduceAdd, Int.reduceMul, Int.reduceSub, lcmp0, ↓o_p3_16, ↓o_p3_17]
  · have hg' : g ≠ 0 := by omega
    rw [B_X12_tellsBy, g2 t, B_X12_tellsBy_4]
    simp (disch := first | assumption | omega) only [↓sm, ↓reduceIte, ↓if_pos, ↓if_neg, kI, kJ, kR, kV, w32_eq, w64_eq, reduceCtorEq, Int.reduceAdd, Int.reduceMul, Int.reduceSub, lcmp0, o_c141, ↓o_p141_3, ↓o_p141_4, ↓d_is0 Z]
