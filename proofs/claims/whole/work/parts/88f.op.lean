/-! the call school() -/
theorem school_r0 (Z : mX) {s u : mS} {n : Int} {T : mT} {t1 : mS} (e142 : u.2 142 = s.2 142) (e143 : u.2 143 = s.2 143) (x : RT1 (s.2 6) n T t1) (g : Ag ryA ryF (beR u n) t1) : RP (beR u n) (s.2 6) n T ((plE s).2 142) (s.2 143) 0 0 0 (uF (plE t1) 141 20 0) := by
  have b142 : t1.2 142 = s.2 142 := by
    rw [g.1 142 (fun x => x)]
    exact (beR_wi_n u n 142 (by omega)).trans e142
  have b143 : t1.2 143 = s.2 143 := by
    rw [g.1 143 (fun x => x)]
    exact (beR_wi_n u n 143 (by omega)).trans e143
  have b18 : t1.1 141 18 = 0 := by
    rw [g.2 141 18 (by unfold ryF; omega)]
    simp [beR, uF_1]
  refine ⟨RT_fr1 x (fun k k0 k1 => by rw [uF_1, if_neg (by omega)]; rfl) (by rw [uF_2, plE_n _ (by decide)]), plE_c b142, by rw [uF_2, plE_n _ (by decide)]; exact b143, by rw [uF_1, if_neg (by omega)]; exact b18, by rw [uF_1, if_pos ⟨rfl, rfl⟩, tb_0]; rfl, by rw [uF_1, if_pos ⟨rfl, rfl⟩, tb_0]; rfl, ?_⟩
  refine Ag_uF (F := prG) (Ag_trans (ry_pr g) ⟨fun q hq => plE_n _ (fun x => hq (by unfold prA; omega)), fun _ _ _ => rfl⟩) (by unfold prG; omega) _
theorem cG_in (s : mS) (i j : Int) (h0 : 0 ≤ j) (h1 : j < i) : (cG s i).2 142 j = s.2 142 (1888 + j) := if_pos ⟨rfl, h0, h1⟩
theorem cH_in (s : mS) (i j : Int) (h0 : 0 ≤ j) (h1 : j < i) : (cH s i).2 143 j = s.2 143 (48 + j) := if_pos ⟨rfl, h0, h1⟩
theorem cG_n (s : mS) (i : Int) {q : Nat} (h : q ≠ 142) : (cG s i).2 q = s.2 q := by
  funext j
  exact if_neg (fun x => h x.1)
theorem cH_n (s : mS) (i : Int) {q : Nat} (h : q ≠ 143) : (cH s i).2 q = s.2 q := by
  funext j
  exact if_neg (fun x => h x.1)
theorem r_taken_f (Z : mX) {t : mS} {kd : Int} (h : t.1 141 18 = kd) (k1 : 1 ≤ kd) (x : Int) (f : Int → mW → mO) : mm_kI (mm_run (zP Z) 245 [.inr (.inr (some 141)), .inl x] (mk t)) f = f (-1) (mk (uF (uF t 141 16 kd) 141 2 9)) := by
  have e : (uF t 141 16 kd).1 141 18 = kd := by rw [uF_1, if_neg (by omega)]; exact h
  rw [B_X12_taken]
  simp (disch := first | with_reducible assumption | omega) only [↓sm, ↓reduceIte, ↓if_pos, ↓if_neg, kI, kJ, kR, kV, w32_eq, w64_eq, reduceCtorEq, Int.reduceAdd, Int.reduceMul, Int.reduceSub, o_c141, ↓rI141_18 h, ↓o_p141_16, ↓rI141_18 e, ↓d_refuse Z]
theorem r_taken_t (Z : mX) {t : mS} (h : t.1 141 18 = 0) (x : Int) (f : Int → mW → mO) : mm_kI (mm_run (zP Z) 245 [.inr (.inr (some 141)), .inl x] (mk t)) f = f x (mk (uF (uF t 141 16 0) 141 2 0)) := by
  have e : (uF t 141 16 0).1 141 18 = 0 := by rw [uF_1, if_neg (by omega)]; exact h
  rw [B_X12_taken]
  simp (disch := first | with_reducible assumption | omega) only [↓sm, ↓reduceIte, ↓if_pos, ↓if_neg, kI, kJ, kR, kV, w32_eq, w64_eq, reduceCtorEq, Int.reduceAdd, Int.reduceMul, Int.reduceSub, o_c141, ↓rI141_18 h, ↓o_p141_16, ↓rI141_18 e, ↓d_gives Z]
theorem beR_1 (t : mS) (a : Int) {q : Nat} (h : q ≠ 141) (k : Nat) : (beR t a).1 q k = t.1 q k := by
  unfold beR
  rw [uF_1, if_neg (fun x => h x.1), uF_1, if_neg (fun x => h x.1), uF_1, if_neg (fun x => h x.1), uF_1, if_neg (fun x => h x.1), uF_1, if_neg (fun x => h x.1)]
  show (uF t 141 11 a).1 q k = _
  rw [uF_1, if_neg (fun x => h x.1)]
theorem sbC_1 (s : mS) (a : Int) {q : Nat} (h : q ≠ 5) (k : Nat) : (sbC s a).1 q k = s.1 q k := by
  unfold sbC
  rw [uF_1, if_neg (fun x => h x.1), uF_1, if_neg (fun x => h x.1), uF_1, if_neg (fun x => h x.1), uF_1, if_neg (fun x => h x.1), uF_1, if_neg (fun x => h x.1)]
/-- what holds behind a text with a fault -/
theorem inv_fault {s s3 t3 : mS} {a kd pl : Int} (hI : Inv s) (f9 : s3.1 5 9 = kd) (f10 : s3.1 5 10 = pl) (g3 : Ag pcA pcF (sbC s a) s3) (r17 : t3.1 141 17 = pl) (g4 : Ag prA prF (beR (uF s3 3 15 9) a) t3) (m1 : ∀ j, j < 1888 → t3.2 142 j = s.2 142 j) (m2 : ∀ j, j < 48 → t3.2 143 j = s.2 143 j) : Inv (uF (uF t3 141 16 kd) 141 2 9) := by
  obtain ⟨i1, i2, ⟨w, cs⟩, i4, ⟨x1, x2, x3, x4, x5, x6⟩, i6, i7, i8⟩ := id hI
  have h1 : ∀ q k, q ≠ 141 → (uF (uF t3 141 16 kd) 141 2 9).1 q k = (uF s3 3 15 9).1 q k := fun q k h => by
    rw [uF_1, if_neg (fun x => h x.1), uF_1, if_neg (fun x => h x.1), g4.2 q k (fun x => h x.1), beR_1 _ _ h]
  have h2 : ∀ q, ¬ pcA q → q ≠ 142 → q ≠ 143 → q ≠ 148 → q ≠ 149 → (uF (uF t3 141 16 kd) 141 2 9).2 q = s.2 q := fun q h ha hb hc hd => by
    rw [uF_2, uF_2, g4.1 q (by unfold prA; omega), beR_wi_n _ _ _ hc, uF_2, g3.1 q h]
    rfl
  have h3 : ∀ q k, ¬ pcF q k → q ≠ 141 → q ≠ 5 → q ≠ 3 → (uF (uF t3 141 16 kd) 141 2 9).1 q k = s.1 q k := fun q k h ha hb hc => by
    rw [h1 q k ha, uF_1, if_neg (fun x => hc x.1), g3.2 q k h, sbC_1 _ _ hb]
  have ag : Ag wiA wiF s (uF (uF t3 141 16 kd) 141 2 9) := Ag_uF (F := wiF) (Ag_uF (F := wiF) (Ag_trans (Ag_trans (Ag_uF (F := wiF) (Ag_trans (sbC_wi s a) (pc_wi g3)) (q := 3) (k := 15) (by unfold wiF; omega) 9) (beR_wi _ a)) (pr_wi g4)) (by unfold wiF; omega) _) (by unfold wiF; omega) _
  have n7 : ∀ j : Nat, 1 ≤ j → j ≤ 12 → ¬ pcA (7 + j) := fun j j0 j1 => by unfold pcA; omega
  refine inv_tok hI ag ?_ ⟨?_, ?_, ?_, fun j j0 j1 => ?_, ?_, ?_⟩ ⟨WF_ext w (fun j j0 j1 => m1 j (by omega)), ?_⟩ ?_ (fun j j0 j1 => m1 j j1) (fun j j0 j1 => m2 j j1)
  · rw [h1 3 15 (by omega), uF_1, if_pos ⟨rfl, rfl⟩, uF_1, if_pos ⟨rfl, rfl⟩]
  · rw [h1 5 4 (by omega), uF_1, if_neg (by omega), g3.2 5 4 (by unfold pcF; omega), uF_1, if_neg (by omega), uF_1, if_neg (by omega), g4.2 141 10 (by unfold prF; omega)]
    simp [sbC, beR, uF_1]
  · rw [h1 5 4 (by omega), uF_1, if_neg (by omega), g3.2 5 4 (by unfold pcF; omega)]
    simp [sbC, uF_1]
  · rw [h1 5 4 (by omega), uF_1, if_neg (by omega), g3.2 5 4 (by unfold pcF; omega)]
    simp [sbC, uF_1]
  · rw [h1 5 4 (by omega), uF_1, if_neg (by omega), g3.2 5 4 (by unfold pcF; omega)] at j1
    simp [sbC, uF_1] at j1
    omega
  · rw [h1 5 9 (by omega), uF_1, if_neg (by omega), f9, uF_1, if_neg (by omega), uF_1, if_pos ⟨rfl, rfl⟩]
  · rw [h1 5 10 (by omega), uF_1, if_neg (by omega), f10, uF_1, if_neg (by omega), uF_1, if_neg (by omega), r17]
  · exact CS_ext w (CS_fr cs (fun k => h3 7 k (by unfold pcF; omega) (by omega) (by omega) (by omega)) (fun j j0 j1 => h2 _ (n7 j j0 j1) (by omega) (by omega) (by omega) (by omega))) (fun j j0 j1 => m1 j (by omega)) (fun j j0 j1 => m2 j (by omega))
  · exact AU_ext (AU_fr i6 (fun k => h3 33 k (by unfold pcF; omega) (by omega) (by omega) (by omega)) (fun j j0 j1 => h2 _ (by unfold pcA; omega) (by omega) (by omega) (by omega) (by omega))) (fun j j0 j1 => m1 j (by omega))
/-- the school taken, on the class's side -/
def tkC (s : mS) : mS := uF (uF (uF (uF (cpS s 7 40) 33 0 0) 33 1 0) 33 2 0) 3 15 0
theorem inv_taken {s s3 F : mS} {a : Int} {G' H' : Int → Int} {th' od' gr' : Int} (hI : Inv s) (g3 : Ag pcA pcG (sbC s a) s3) (z0 : DrI (shG G') th' od' gr') (z1 : Lo (s.2 142) (s.2 143) G' H') (c40 : CS s3 40 (shG G') (shN H'))
    (h1 : ∀ q k, q ≠ 141 → F.1 q k = (tkC s3).1 q k) (h2 : ∀ q, q ≠ 142 → q ≠ 143 → q ≠ 148 → q ≠ 149 → F.2 q = (tkC s3).2 q) (eS : ∀ j, 0 ≤ j → j < 472 → F.2 142 j = shG G' j) (eN : ∀ j, 0 ≤ j → j < 12 → F.2 143 j = shN H' j)
    (eS2 : ∀ j, 472 ≤ j → F.2 142 j = G' j) (eN2 : ∀ j, 12 ≤ j → F.2 143 j = H' j) (k2 : F.1 141 2 = 0) (k10 : F.1 141 10 = 0) (k16 : F.1 141 16 = 0) (k17 : F.1 141 17 = -1) (kk : ∀ k, ¬ (k = 2 ∨ (10 ≤ k ∧ k ≤ 23)) → F.1 141 k = (tkC s3).1 141 k) : Inv F := by
  obtain ⟨i1, i2, ⟨w, cs⟩, i4, ⟨x1, x2, x3, x4, x5, x6⟩, i6, i7, i8⟩ := id hI
  have i7' : isC 7 := by unfold isC; omega
  have i40 : isC 40 := by unfold isC; omega
  have cq : ∀ q, ¬ (8 ≤ q ∧ q ≤ 19) → (cpS s3 7 40).2 q = s3.2 q := fun q hq => (cpS_Ag (A := fun q => 8 ≤ q ∧ q ≤ 19) (F := fun q _ => q = 7) (Ag_refl _ _ s3) 7 40 (fun r r0 r1 => by omega) (fun r k hr => hr)).1 q hq
  have cf : ∀ q k, q ≠ 7 → (cpS s3 7 40).1 q k = s3.1 q k := fun q k hq => (cpS_Ag (A := fun q => 8 ≤ q ∧ q ≤ 19) (F := fun q _ => q = 7) (Ag_refl _ _ s3) 7 40 (fun r r0 r1 => by omega) (fun r k hr => hr)).2 q k hq
  have u1 : ∀ q k, q ≠ 7 → q ≠ 33 → q ≠ 3 → (tkC s3).1 q k = s3.1 q k := fun q k h1 h2 h3 => by
    unfold tkC
    rw [uF_1, if_neg (fun x => h3 x.1), uF_1, if_neg (fun x => h2 x.1), uF_1, if_neg (fun x => h2 x.1), uF_1, if_neg (fun x => h2 x.1), cf q k h1]
  have u3 : ∀ k, k ≠ 15 → (tkC s3).1 3 k = s3.1 3 k := fun k h => by
    unfold tkC
    rw [uF_1, if_neg (by omega), uF_1, if_neg (by omega), uF_1, if_neg (by omega), uF_1, if_neg (by omega), cf 3 k (by omega)]
  have u7 : ∀ k, (tkC s3).1 7 k = (cpS s3 7 40).1 7 k := fun k => by
    unfold tkC
    rw [uF_1, if_neg (by omega), uF_1, if_neg (by omega), uF_1, if_neg (by omega), uF_1, if_neg (by omega)]
  have ag : Ag wiA wiF s F := by
    refine ⟨fun q hq => ?_, fun q k hq => ?_⟩
    · unfold wiA scl pcA at hq
      rw [h2 q (by omega) (by omega) (by omega) (by omega)]
      show (cpS s3 7 40).2 q = _
      rw [cq q (by omega), g3.1 q (by unfold pcA; omega)]
      rfl
    · unfold wiF at hq
      by_cases h : q = 141
      · subst h
        rw [kk k (by omega), u1 141 k (by omega) (by omega) (by omega), g3.2 141 k (by unfold pcG; omega)]
        exact sbC_1 s a (by omega) k
      · rw [h1 q k h]
        by_cases hq3 : q = 3
        · subst hq3
          rw [u3 k (by omega), g3.2 3 k (by unfold pcG; omega)]
          exact sbC_1 s a (by omega) k
        · rw [u1 q k (by omega) (by omega) hq3, g3.2 q k (by unfold pcG; omega)]
          exact sbC_1 s a (by omega) k
  have e7 : F.2 142 7 = -1 := (eS 7 (by omega) (by omega)).trans z0.2.1
  have eF5 : ∀ k, k = 4 ∨ k = 9 ∨ k = 10 → F.1 5 k = (sbC s a).1 5 k := fun k hk => by
    rw [h1 5 k (by omega), u1 5 k (by omega) (by omega) (by omega), g3.2 5 k (by unfold pcG; omega)]
  refine inv_tok hI ag ?_ ⟨?_, ?_, ?_, fun j j0 j1 => ?_, ?_, ?_⟩ ⟨WF_ext z0.1 (fun j j0 j1 => eS j j0 (by omega)), ?_⟩ ⟨Or.inl ⟨e7, ?_, ?_⟩, fun i i0 i1 => by omega, ⟨fun i x => x.elim, fun i i0 i1 => by omega, fun i i0 i1 => by omega, fun i j i0 i1 j1 => by omega⟩, fun i i0 i1 => by omega⟩ (fun j j0 j1 => (eS2 j j0).trans (z1.1 j j1)) (fun j j0 j1 => (eN2 j j0).trans (z1.2 j j1))
  · rw [h1 3 15 (by omega), k2]
    unfold tkC
    rw [uF_1, if_pos ⟨rfl, rfl⟩]
  · rw [eF5 4 (by omega), k10]
    simp [sbC, uF_1]
  · rw [eF5 4 (by omega)]
    simp [sbC, uF_1]
  · rw [eF5 4 (by omega)]
    simp [sbC, uF_1]
  · rw [eF5 4 (by omega)] at j1
    simp [sbC, uF_1] at j1
    omega
  · rw [eF5 9 (by omega), k16]
    simp [sbC, uF_1]
  · rw [eF5 10 (by omega), k17]
    simp [sbC, uF_1]
  · refine CS_ext z0.1 (CS_fr (CS_cp z0.1 c40 i7' i40 (by omega)) (fun k => (h1 7 k (by omega)).trans (u7 k)) (fun j j0 j1 => ?_)) (fun j j0 j1 => eS j j0 (by omega)) (fun j j0 j1 => eN j j0 j1)
    rw [h2 _ (by omega) (by omega) (by omega) (by omega)]
    rfl
  · rw [h1 33 0 (by omega)]
    simp [tkC, uF_1]
  · rw [h1 33 2 (by omega)]
    simp [tkC, uF_1]
theorem op_school (Z : mX) (s : mS) (hI : Inv s) (a : Int) : OpI Z s 144 262 [.inl a] := by
  obtain ⟨i1, i2, ⟨w, cs⟩, i4, ⟨x1, x2, x3, x4, x5, x6⟩, i6, i7, i8⟩ := id hI
  by_cases ha : 0 ≤ a ∧ a ≤ s.1 5 4
  · obtain ⟨a0, a1⟩ := ha
    obtain ⟨T, hT, hk, ⟨s1, c1, ct1, g1⟩, RB⟩ := begun Z hI a0 a1
    have tk := tk_o hk
    have hp : ∀ j, 0 ≤ j → j < 472 → shG ((plE s).2 142) j = plD j := fun j j0 j1 => plE_d s j j0 j1
    have cp := rdC_CP (s0 := sbC s a) (H := s.2 143) ct1 g1 hp
    have rst : ∀ u : mS, u.2 142 = s.2 142 → u.2 143 = s.2 143 → u.2 147 = s.2 147 → u.1 141 10 = s.1 141 10 → ∃ t2, (∀ f : Int → mW → mO, mm_kI (mm_run (zP Z) 262 [.inr (.inr (some 141)), .inl a] (mk u)) f = mm_kI (mm_at (zP Z) 262 17 [some (.inr (.inr (some 141))), none, some (.inl 1), none] [] (mk t2)) f) ∧ RP (beR u a) (s.2 6) a T ((plE s).2 142) (s.2 143) 0 0 0 t2 := by
      intro u e1 e2 e3 e4
      obtain ⟨t1, b1, y1, h1⟩ := RB u e3 e4 900 (by omega)
      refine ⟨uF (plE t1) 141 20 0, fun f => ?_, school_r0 Z e1 e2 y1 h1⟩
      rw [B_X12_school]
      simp (disch := first | with_reducible assumption | omega) only [↓sm, ↓reduceIte, ↓if_pos, ↓if_neg, kI, kJ, kR, kV, w32_eq, w64_eq, reduceCtorEq, Int.reduceAdd, Int.reduceMul, Int.reduceSub, o_c141, ↓b1, ↓r_plain Z, ↓o_p141_20]
    rcases parts_all Z (s0 := sbC s a) hT (G0 := s.2 142) (H0 := s.2 143) _ T ((plE s).2 142) (s.2 143) 0 0 0 0 (Nat.le_refl _) hk (plD_DI hp) ⟨fun j hj => plE_lo s j hj, fun _ _ => rfl⟩ (by omega) (by omega) with ⟨kd, pl, z0, z1, z2⟩ | ⟨G', H', th', od', gr', z0, z1, z2, z3⟩
    · obtain ⟨s3, b3, f9, f10, g3⟩ := z1 _ cp
      have cr : ∀ f : Int → mW → mO, mm_kI (mm_run (zP Z) 81 [.inr (.inr (some 39))] (mk s1)) f = f 0 (mk s3) := fun f => by rw [c_readAll, b3, kI]
      obtain ⟨t2, cT, rp⟩ := rst (uF s3 3 15 9) (g3.1 142 (by unfold pcA; omega)) (g3.1 143 (by unfold pcA; omega)) (g3.1 147 (by unfold pcA; omega)) (by rw [uF_1, if_neg (by omega), g3.2 141 10 (by unfold pcF; omega)]; exact sbC_1 s a (by omega) 10)
      obtain ⟨t3, b4, r18, r17, g4, m1, m2⟩ := z2 _ t2 rp
      refine ⟨-1, uF s3 3 15 9, uF (uF t3 141 16 kd) 141 2 9, fun f => ?_, fun f => ?_, inv_fault hI f9 f10 g3 r17 g4 m1 m2⟩
      · rw [B_X11_school]
        simp (disch := first | with_reducible assumption | omega) only [↓sm, ↓reduceIte, ↓if_pos, ↓if_neg, kI, kJ, kR, kV, w32_eq, w64_eq, reduceCtorEq, Int.reduceAdd, Int.reduceMul, Int.reduceSub, o_c3, ↓o_g3_0, ↓o_g3_1, ↓o_g3_2, ↓o_g3_3, ↓o_g3_4, ↓o_g3_5, ↓o_g3_6, ↓o_g3_7, ↓o_g3_8, ↓o_g3_9, ↓o_g3_10, ↓o_g3_11, ↓o_g3_12, ↓o_g3_13, ↓o_g3_14, ↓o_g3_15, ↓o_g3_16, ↓o_g3_17, ↓a_ln4, ↓a_ld4, ↓a_ln61, ↓a_ld61, ↓a_ln62, ↓a_ld62, ↓d_none Z, ↓d_done Z, ↓d_refused Z, ↓d_granted Z, o_c5, o_c39, ↓o_g5_4, ↓k_isIn_t Z, ↓c1, ↓cr]
      · have n0 : ¬ kd = 0 := by omega
        rw [cT, b4, B_X12_school_26]
        simp (disch := first | with_reducible assumption | omega) only [↓sm, ↓reduceIte, ↓if_pos, ↓if_neg, kI, kJ, kR, kV, w32_eq, w64_eq, reduceCtorEq, Int.reduceAdd, Int.reduceMul, Int.reduceSub, ↓rI141_18 r18, ↓B_X12_school_63 Z, o_c141, ↓o_g141_0, ↓o_g141_1, ↓o_g141_5, ↓o_g141_6, ↓o_g141_7, ↓o_g141_8, ↓o_g141_9, ↓o_g141_21, ↓o_g141_25, ↓o_g141_26, ↓o_g141_27, ↓o_g141_28, ↓o_g141_29, ↓o_g141_30, ↓o_g141_31, ↓o_g141_34, ↓o_g141_35, ↓o_g141_36, ↓a_ld142, ↓r_taken_f Z r18 z0]
    · obtain ⟨s3, b3, c40, g3⟩ := z2 _ cp
      have cr : ∀ f : Int → mW → mO, mm_kI (mm_run (zP Z) 81 [.inr (.inr (some 39))] (mk s1)) f = f 1 (mk s3) := fun f => by rw [c_readAll, b3, kI]
      have i7' : isC 7 := by unfold isC; omega
      have i40 : isC 40 := by unfold isC; omega
      have cq : ∀ q, ¬ (8 ≤ q ∧ q ≤ 19) → (cpS s3 7 40).2 q = s3.2 q := fun q hq => (cpS_Ag (A := fun q => 8 ≤ q ∧ q ≤ 19) (F := fun q _ => q = 7) (Ag_refl _ _ s3) 7 40 (fun r r0 r1 => by omega) (fun r k hr => hr)).1 q hq
      have cf : ∀ q k, q ≠ 7 → (cpS s3 7 40).1 q k = s3.1 q k := fun q k hq => (cpS_Ag (A := fun q => 8 ≤ q ∧ q ≤ 19) (F := fun q _ => q = 7) (Ag_refl _ _ s3) 7 40 (fun r r0 r1 => by omega) (fun r k hr => hr)).2 q k hq
      have u1 : ∀ q k, q ≠ 7 → q ≠ 33 → q ≠ 3 → (tkC s3).1 q k = s3.1 q k := fun q k h1 h2 h3 => by
        unfold tkC
        rw [uF_1, if_neg (fun x => h3 x.1), uF_1, if_neg (fun x => h2 x.1), uF_1, if_neg (fun x => h2 x.1), uF_1, if_neg (fun x => h2 x.1), cf q k h1]
      have u2 : ∀ q, ¬ (8 ≤ q ∧ q ≤ 19) → ¬ pcA q → (tkC s3).2 q = s.2 q := fun q h1 h2 => (cq q h1).trans (g3.1 q h2)
      obtain ⟨t2, cT, rp⟩ := rst (tkC s3) (u2 142 (by omega) (by unfold pcA; omega)) (u2 143 (by omega) (by unfold pcA; omega)) (u2 147 (by omega) (by unfold pcA; omega)) (by rw [u1 141 10 (by omega) (by omega) (by omega), g3.2 141 10 (by unfold pcG; omega)]; exact sbC_1 s a (by omega) 10)
      obtain ⟨t3, b4, m142, m143, r18, g4⟩ := z3 _ t2 rp
      have v7 : (uF (uF (uF (cpS s3 7 40) 33 0 0) 33 1 0) 33 2 0).1 7 10 = shG G' 3 := by
        rw [uF_1, if_neg (by omega), uF_1, if_neg (by omega), uF_1, if_neg (by omega), (cpS_f s3 7 40 (by omega)).2.2.2.2.2]
        exact c40.1.2.2.2.2.2
      refine ⟨shG G' 3, tkC s3, uF (uF (cH (cG t3 472) 12) 141 16 0) 141 2 0, fun f => ?_, fun f => ?_, ?_⟩
      · rw [B_X11_school]
        simp (disch := first | with_reducible assumption | omega) only [↓sm, ↓reduceIte, ↓if_pos, ↓if_neg, kI, kJ, kR, kV, w32_eq, w64_eq, reduceCtorEq, Int.reduceAdd, Int.reduceMul, Int.reduceSub, o_c3, ↓o_g3_0, ↓o_g3_1, ↓o_g3_2, ↓o_g3_3, ↓o_g3_4, ↓o_g3_5, ↓o_g3_6, ↓o_g3_7, ↓o_g3_8, ↓o_g3_9, ↓o_g3_10, ↓o_g3_11, ↓o_g3_12, ↓o_g3_13, ↓o_g3_14, ↓o_g3_15, ↓o_g3_16, ↓o_g3_17, ↓a_ln4, ↓a_ld4, ↓a_ln61, ↓a_ld61, ↓a_ln62, ↓a_ld62, ↓d_none Z, ↓d_done Z, ↓d_refused Z, ↓d_granted Z, o_c5, o_c39, o_c7, o_c33, ↓o_g5_4, ↓k_isIn_t Z, ↓c1, ↓cr, ↓o_g39_1, ↓c_copyS Z s3 i7' i40 (by omega), ↓B_X0_clear Z, ↓o_p33_0, ↓o_p33_1, ↓o_p33_2, ↓rI7_10 v7]
        rfl
      · have l1 := lp_cG Z t3 0 (by omega) (by omega)
        rw [cG_0] at l1
        have l2 := lp_cH Z (cG t3 472) 0 (by omega) (by omega)
        rw [cH_0] at l2
        have e18 : (cH (cG t3 472) 12).1 141 18 = 0 := r18
        have e3 : ∀ f : Int → mO, (mm_ld 0 (mk (cH (cG t3 472) 12)) 142 3).bind f = f (shG G' 3) := fun f => by
          rw [a_ld142 _ f 3 (by omega) (by omega)]
          have : (cH (cG t3 472) 12).2 142 3 = shG G' 3 := by
            rw [cH_n _ _ (by decide), cG_in _ _ _ (by omega) (by omega), m142]
            rfl
          rw [this]
        rw [cT, b4, B_X12_school_26]
        simp (disch := first | with_reducible assumption | omega) only [↓sm, ↓reduceIte, ↓if_pos, ↓if_neg, kI, kJ, kR, kV, w32_eq, w64_eq, reduceCtorEq, Int.reduceAdd, Int.reduceMul, Int.reduceSub, ↓rI141_18 r18]
        rw [l1, l2, B_X12_school_63]
        simp (disch := first | with_reducible assumption | omega) only [↓sm, ↓reduceIte, ↓if_pos, ↓if_neg, kI, kJ, kR, kV, w32_eq, w64_eq, reduceCtorEq, Int.reduceAdd, Int.reduceMul, Int.reduceSub, o_c141, ↓o_g141_0, ↓o_g141_1, ↓o_g141_5, ↓o_g141_6, ↓o_g141_7, ↓o_g141_8, ↓o_g141_9, ↓o_g141_21, ↓o_g141_25, ↓o_g141_26, ↓o_g141_27, ↓o_g141_28, ↓o_g141_29, ↓o_g141_30, ↓o_g141_31, ↓o_g141_34, ↓o_g141_35, ↓o_g141_36, ↓e3, ↓r_taken_t Z e18]
      · have h1 : ∀ q k, q ≠ 141 → (uF (uF (cH (cG t3 472) 12) 141 16 0) 141 2 0).1 q k = (tkC s3).1 q k := fun q k h => by
          rw [uF_1, if_neg (fun x => h x.1), uF_1, if_neg (fun x => h x.1)]
          show t3.1 q k = _
          rw [g4.2 q k (fun x => h x.1), beR_1 _ _ h]
        have h4 : ∀ q, q ≠ 142 → q ≠ 143 → (cH (cG t3 472) 12).2 q = t3.2 q := fun q ha hb => by
          rw [cH_n _ _ hb, cG_n _ _ ha]
        have h2 : ∀ q, q ≠ 142 → q ≠ 143 → q ≠ 148 → q ≠ 149 → (uF (uF (cH (cG t3 472) 12) 141 16 0) 141 2 0).2 q = (tkC s3).2 q := fun q ha hb hc hd => by
          rw [uF_2, uF_2, h4 q ha hb, g4.1 q (by unfold prA; omega), beR_wi_n _ _ _ hc]
        have eS : ∀ j, 0 ≤ j → j < 472 → (uF (uF (cH (cG t3 472) 12) 141 16 0) 141 2 0).2 142 j = shG G' j := fun j j0 j1 => by
          rw [uF_2, uF_2, cH_n _ _ (by decide), cG_in _ _ _ j0 j1, m142]
          rfl
        have eN : ∀ j, 0 ≤ j → j < 12 → (uF (uF (cH (cG t3 472) 12) 141 16 0) 141 2 0).2 143 j = shN H' j := fun j j0 j1 => by
          rw [uF_2, uF_2, cH_in _ _ _ j0 j1, cG_n _ _ (by decide), m143]
          rfl
        have eS2 : ∀ j, 472 ≤ j → (uF (uF (cH (cG t3 472) 12) 141 16 0) 141 2 0).2 142 j = G' j := fun j j0 => by
          rw [uF_2, uF_2, cH_n _ _ (by decide), cG_r _ _ _ (by omega), m142]
        have eN2 : ∀ j, 12 ≤ j → (uF (uF (cH (cG t3 472) 12) 141 16 0) 141 2 0).2 143 j = H' j := fun j j0 => by
          rw [uF_2, uF_2, cH_r _ _ _ (by omega), cG_n _ _ (by decide), m143]
        exact inv_taken hI g3 z0 z1 c40 h1 h2 eS eN eS2 eN2 (by rw [uF_1, if_pos ⟨rfl, rfl⟩]) (by
          rw [uF_1, if_neg (by omega), uF_1, if_neg (by omega)]
          show t3.1 141 10 = 0
          rw [g4.2 141 10 (by unfold prG; omega)]
          simp [beR, uF_1]) (by rw [uF_1, if_neg (by omega), uF_1, if_pos ⟨rfl, rfl⟩]) (by
          rw [uF_1, if_neg (by omega), uF_1, if_neg (by omega)]
          show t3.1 141 17 = -1
          rw [g4.2 141 17 (by unfold prG; omega)]
          simp [beR, uF_1]) (fun k hk => by
          rw [uF_1, if_neg (by omega), uF_1, if_neg (by omega)]
          show t3.1 141 k = _
          rw [g4.2 141 k (by unfold prG; omega)]
          have hb : (beR (tkC s3) a).1 141 k = (tkC s3).1 141 k := by
            unfold beR
            rw [uF_1, if_neg (by omega), uF_1, if_neg (by omega), uF_1, if_neg (by omega), uF_1, if_neg (by omega), uF_1, if_neg (by omega)]
            show (uF (tkC s3) 141 11 a).1 141 k = _
            rw [uF_1, if_neg (by omega)]
          rw [hb])
  · refine op_rdx hI (-1) 1 (fun f => ?_) (fun t e f => ?_)
    · rw [B_X11_school]
      simp (disch := first | assumption | omega) only [↓sm, ↓reduceIte, ↓if_pos, ↓if_neg, kI, kJ, kR, kV, w32_eq, w64_eq, reduceCtorEq, Int.reduceAdd, Int.reduceMul, Int.reduceSub, o_c3, ↓o_g3_0, ↓o_g3_1, ↓o_g3_2, ↓o_g3_3, ↓o_g3_4, ↓o_g3_5, ↓o_g3_6, ↓o_g3_7, ↓o_g3_8, ↓o_g3_9, ↓o_g3_10, ↓o_g3_11, ↓o_g3_12, ↓o_g3_13, ↓o_g3_14, ↓o_g3_15, ↓o_g3_16, ↓o_g3_17, ↓a_ln4, ↓a_ld4, ↓a_ln61, ↓a_ld61, ↓a_ln62, ↓a_ld62, ↓d_none Z, ↓d_done Z, ↓d_refused Z, ↓d_granted Z, ↓o_g5_4, ↓k_isIn_f Z]
    · have e10 : t.1 141 10 = s.1 5 4 := by rw [e, uF_1, if_neg (by omega)]; exact x1.symm
      rw [B_X12_school]
      simp (disch := first | with_reducible assumption | omega) only [↓sm, ↓reduceIte, ↓if_pos, ↓if_neg, kI, kJ, kR, kV, w32_eq, w64_eq, reduceCtorEq, Int.reduceAdd, Int.reduceMul, Int.reduceSub, o_c141, ↓r_begins_f Z (t := t) (n := a) (l := 900) (by rw [e10]; omega), ↓d_refuse Z]
