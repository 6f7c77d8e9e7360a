/-! the call school() -/
theorem school_r0 (Z : mX) {s u : mS} {n : Int} {T : mT} {t1 : mS} (e142 : u.2 142 = s.2 142) (e143 : u.2 143 = s.2 143) (x : RT1 (s.2 6) n T t1) (g : Ag ryA ryF (beR u n) t1) : RP (beR u n) (s.2 6) n T ((plE s).2 142) (s.2 143) 0 0 0 (uF (plE t1) 141 20 0) := by
  have b142 : t1.2 142 = s.2 142 := by
    rw [g.1 142 (fun x => x)]
    exact (beR_wi_n u n 142 (by omega)).trans e142
  have b143 : t1.2 143 = s.2 143 := by
    rw [g.1 143 (fun x => x)]
    exact (beR_wi_n u n 143 (by omega)).trans e143
  have b18 : t1.1 141 18 = 0 := by
    rw [g.2 141 18 (by unfold ryF; omega)]
    simp [beR, uF_1]
  refine ⟨RT_fr1 x (fun k k0 k1 => by rw [uF_1, if_neg (by omega)]; rfl) (by rw [uF_2, plE_n _ (by decide)]), plE_c b142, by rw [uF_2, plE_n _ (by decide)]; exact b143, by rw [uF_1, if_neg (by omega)]; exact b18, by rw [uF_1, if_pos ⟨rfl, rfl⟩, tb_0]; rfl, by rw [uF_1, if_pos ⟨rfl, rfl⟩, tb_0]; rfl, ?_⟩
  refine Ag_uF (F := prG) (Ag_trans (ry_pr g) ⟨fun q hq => plE_n _ (fun x => hq (by unfold prA; omega)), fun _ _ _ => rfl⟩) (by unfold prG; omega) _
theorem op_school (Z : mX) (s : mS) (hI : Inv s) (a : Int) : OpI Z s 144 262 [.inl a] := by
  obtain ⟨i1, i2, ⟨w, cs⟩, i4, ⟨x1, x2, x3, x4, x5, x6⟩, i6, i7, i8⟩ := id hI
  by_cases ha : 0 ≤ a ∧ a ≤ s.1 5 4
  · obtain ⟨a0, a1⟩ := ha
    obtain ⟨T, hT, hk, ⟨s1, c1, ct1, g1⟩, RB⟩ := begun Z hI a0 a1
    have tk := tk_o hk
    have hp : ∀ j, 0 ≤ j → j < 472 → shG ((plE s).2 142) j = plD j := fun j j0 j1 => plE_d s j j0 j1
    have cp := rdC_CP (s0 := sbC s a) (H := s.2 143) ct1 g1 hp
    have rst : ∀ u : mS, u.2 142 = s.2 142 → u.2 143 = s.2 143 → u.2 147 = s.2 147 → u.1 141 10 = s.1 141 10 → ∃ t2, (∀ f : Int → mW → mO, mm_kI (mm_run (zP Z) 262 [.inr (.inr (some 141)), .inl a] (mk u)) f = mm_kI (mm_at (zP Z) 262 17 [some (.inr (.inr (some 141))), none, some (.inl 1), none] [] (mk t2)) f) ∧ RP (beR u a) (s.2 6) a T ((plE s).2 142) (s.2 143) 0 0 0 t2 := by
      intro u e1 e2 e3 e4
      obtain ⟨t1, b1, y1, h1⟩ := RB u e3 e4 900 (by omega)
      refine ⟨uF (plE t1) 141 20 0, fun f => ?_, school_r0 Z e1 e2 y1 h1⟩
      rw [B_X12_school]
      simp (disch := first | with_reducible assumption | omega) only [↓sm, ↓reduceIte, ↓if_pos, ↓if_neg, kI, kJ, kR, kV, w32_eq, w64_eq, reduceCtorEq, Int.reduceAdd, Int.reduceMul, Int.reduceSub, o_c141, ↓b1, ↓r_plain Z, ↓o_p141_20]
    rcases parts_all Z (s0 := sbC s a) hT (G0 := s.2 142) (H0 := s.2 143) _ T ((plE s).2 142) (s.2 143) 0 0 0 0 (Nat.le_refl _) hk (plD_DI hp) ⟨fun j hj => plE_lo s j hj, fun _ _ => rfl⟩ (by omega) (by omega) with ⟨kd, pl, z0, z1, z2⟩ | ⟨G', H', th', od', gr', z0, z1, z2, z3⟩
    · obtain ⟨s3, b3, f9, f10, g3⟩ := z1 _ cp
      sorry
    · sorry
  · refine op_rd hI (-1) 1 (fun f => ?_) (fun t e f => ?_)
    · rw [B_X11_school]
      simp (disch := first | assumption | omega) only [↓sm, ↓reduceIte, ↓if_pos, ↓if_neg, kI, kJ, kR, kV, w32_eq, w64_eq, reduceCtorEq, Int.reduceAdd, Int.reduceMul, Int.reduceSub, o_c3, ↓o_g3_0, ↓o_g3_1, ↓o_g3_2, ↓o_g3_3, ↓o_g3_4, ↓o_g3_5, ↓o_g3_6, ↓o_g3_7, ↓o_g3_8, ↓o_g3_9, ↓o_g3_10, ↓o_g3_11, ↓o_g3_12, ↓o_g3_13, ↓o_g3_14, ↓o_g3_15, ↓o_g3_16, ↓o_g3_17, ↓a_ln4, ↓a_ld4, ↓a_ln61, ↓a_ld61, ↓a_ln62, ↓a_ld62, ↓d_none Z, ↓d_done Z, ↓d_refused Z, ↓d_granted Z, ↓o_g5_4, ↓k_isIn_f Z]
    · sorry
