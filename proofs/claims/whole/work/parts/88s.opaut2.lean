/-! the call autumns(), both sides -/
theorem WF_x7 {S S' : Int → Int} (h : WF S) (e : ∀ j, 0 ≤ j → j < 104 → j ≠ 7 → S' j = S j) : WF S' := by
  have w := wf0 h
  have en : ncl S' = ncl S := by unfold ncl; rw [e 0 (by omega) (by omega) (by omega), e 1 (by omega) (by omega) (by omega)]
  unfold WF at *
  rw [en, e 0 (by omega) (by omega) (by omega), e 1 (by omega) (by omega) (by omega), e 2 (by omega) (by omega) (by omega), e 3 (by omega) (by omega) (by omega), e 4 (by omega) (by omega) (by omega), e 5 (by omega) (by omega) (by omega)]
  refine ⟨h.1, fun c c0 c1 => ?_, fun k k0 k1 => ?_, fun p p0 p1 => ?_⟩
  · rw [e _ (by omega) (by omega) (by omega), e _ (by omega) (by omega) (by omega)]
    exact h.2.1 c c0 c1
  · rw [e _ (by omega) (by omega) (by omega), e _ (by omega) (by omega) (by omega)]
    exact h.2.2.1 k k0 k1
  · rw [e _ (by omega) (by omega) (by omega), e _ (by omega) (by omega) (by omega), e _ (by omega) (by omega) (by omega), e _ (by omega) (by omega) (by omega), e _ (by omega) (by omega) (by omega), e _ (by omega) (by omega) (by omega)]
    exact h.2.2.2 p p0 p1
theorem CS_x7 {s : mS} {o : Nat} {S S' N N' : Int → Int} (hw : WF S) (h : CS s o S N) (e : ∀ j, 0 ≤ j → j < 104 → j ≠ 7 → S' j = S j) (eN : ∀ j, 0 ≤ j → j < 12 → N' j = N j) : CS s o S' N' := by
  have w := wf0 hw
  unfold CS at *
  rw [e 0 (by omega) (by omega) (by omega), e 1 (by omega) (by omega) (by omega), e 2 (by omega) (by omega) (by omega), e 3 (by omega) (by omega) (by omega), e 4 (by omega) (by omega) (by omega), e 5 (by omega) (by omega) (by omega)]
  refine ⟨h.1, fun c c0 c1 => ?_, fun k k0 k1 => ?_, fun p p0 p1 => ?_, h.2.2.2.2⟩
  · rw [e _ (by omega) (by omega) (by omega), e _ (by omega) (by omega) (by omega)]
    exact h.2.1 c c0 c1
  · rw [e _ (by omega) (by omega) (by omega), e _ (by omega) (by omega) (by omega), eN _ (by omega) (by omega)]
    exact h.2.2.1 k k0 k1
  · rw [e _ (by omega) (by omega) (by omega), e _ (by omega) (by omega) (by omega), e _ (by omega) (by omega) (by omega), e _ (by omega) (by omega) (by omega), e _ (by omega) (by omega) (by omega), e _ (by omega) (by omega) (by omega), eN _ (by omega) (by omega)]
    exact h.2.2.2.1 p p0 p1
theorem r_beginsL (Z : mX) {t : mS} {n l : Int} (hn : ¬ (0 ≤ n ∧ n ≤ t.1 141 10 ∧ n ≤ l)) (f : Int → mW → mO) : mm_kI (mm_run (zP Z) 237 [.inr (.inr (some 141)), .inl n, .inl l] (mk t)) f = f 0 (mk t) := r_begins_f Z hn f
/-- the class's state where autumns are taken -/
def auC (s : mS) : mS := uF (cpU s 33 54) 3 15 0
/-- the reference's -/
def auR (t : mS) (m : Int) : mS := uF (uF (cS (uA t 142 7 m) 464) 141 16 0) 141 2 0
set_option maxHeartbeats 4000000 in
theorem inv_aut {s s3 t3 : mS} {a : Int} {T : mT} {G' O' : Int → Int} {m c : Int} (hI : Inv s) (hU : UI (mixS (s.2 142) G') O' m c 0) (hc : CU (sbC s a) (s.2 6) a T (mixS (s.2 142) G') O' (opS O' 0) m c 0 s3) (lo : ∀ j, j < 1888 → G' j = s.2 142 j) (ht : RU (beR (auC s3) a) (s.2 6) a T G' (s.2 143) O' m c 0 t3) : Inv (auR t3 m) := by
  obtain ⟨i1, i2, ⟨w, cs⟩, i4, ⟨x1, x2, x3, x4, x5, x6⟩, i6, i7, i8⟩ := id hI
  obtain ⟨m0, mc, c30, -, -⟩ := ui_c hU
  have g3 := hc.2.2.2.2.2.2.2
  have g4 := ht.2.2.2.2.2.2.2.2
  have u33 : isU 33 := by unfold isU; omega
  have u54 : isU 54 := by unfold isU; omega
  have ga : Ag (fun q => 34 ≤ q ∧ q ≤ 38) (fun q _ => q = 33) s3 (cpU s3 33 54) := cpU_Ag (Ag_refl _ _ s3) 33 54 (fun r r0 r1 => by omega) (fun r k hr => hr)
  have v1 : ∀ q k, q ≠ 33 → q ≠ 3 → (auC s3).1 q k = s3.1 q k := fun q k h1 h2 => by
    unfold auC
    rw [uF_1, if_neg (fun x => h2 x.1), ga.2 q k h1]
  have v2 : ∀ q, ¬ (34 ≤ q ∧ q ≤ 38) → (auC s3).2 q = s3.2 q := fun q h => ga.1 q h
  have h1 : ∀ q k, q ≠ 141 → (auR t3 m).1 q k = (auC s3).1 q k := fun q k h => by
    unfold auR
    rw [uF_1, if_neg (fun x => h x.1), uF_1, if_neg (fun x => h x.1)]
    show t3.1 q k = _
    rw [g4.2 q k (fun x => h x.1), beR_1 _ _ h]
  have h2 : ∀ q, q ≠ 142 → q ≠ 143 → q ≠ 148 → q ≠ 149 → (auR t3 m).2 q = (auC s3).2 q := fun q ha hb hc hd => by
    unfold auR
    rw [uF_2, uF_2, cS_n _ _ ha, uA_n _ ha, g4.1 q (by unfold prA; omega), beR_wi_n _ _ _ hc]
  have h143 : (auR t3 m).2 143 = s.2 143 := by
    unfold auR
    rw [uF_2, uF_2, cS_n _ _ (by decide), uA_n _ (by decide), ht.2.2.1]
  have eS : ∀ j, ¬ (104 ≤ j ∧ j < 464) → j ≠ 7 → (auR t3 m).2 142 j = G' j := fun j h1 h2 => by
    unfold auR
    rw [uF_2, uF_2, cS_r _ _ _ h1, uA_s, up_ne h2, ht.2.1]
  have e7 : (auR t3 m).2 142 7 = m := by
    unfold auR
    rw [uF_2, uF_2, cS_r _ _ _ (by omega), uA_s, up_eq rfl]
  have eR : ∀ j, 104 ≤ j → j < 464 → (auR t3 m).2 142 j = G' (1888 + j) := fun j h1 h2 => by
    unfold auR
    rw [uF_2, uF_2, cS_in _ _ _ h1 h2, uA_s, up_ne (by omega), ht.2.1]
  have k141 : ∀ k, ¬ (k = 2 ∨ (10 ≤ k ∧ k ≤ 23)) → (auR t3 m).1 141 k = s.1 141 k := fun k hk => by
    unfold auR
    rw [uF_1, if_neg (by omega), uF_1, if_neg (by omega)]
    show t3.1 141 k = _
    rw [g4.2 141 k (by unfold prG; omega)]
    have hb : (beR (auC s3) a).1 141 k = (auC s3).1 141 k := by
      unfold beR
      rw [uF_1, if_neg (by omega), uF_1, if_neg (by omega), uF_1, if_neg (by omega), uF_1, if_neg (by omega), uF_1, if_neg (by omega)]
      show (uF (auC s3) 141 11 a).1 141 k = _
      rw [uF_1, if_neg (by omega)]
    rw [hb, v1 141 k (by omega) (by omega), g3.2 141 k (by unfold pcG; omega)]
    exact sbC_1 s a (by omega) k
  have k10 : (auR t3 m).1 141 10 = 0 := by
    unfold auR
    rw [uF_1, if_neg (by omega), uF_1, if_neg (by omega)]
    show t3.1 141 10 = 0
    rw [g4.2 141 10 (by unfold prG; omega)]
    simp [beR, uF_1]
  have k17 : (auR t3 m).1 141 17 = -1 := by
    unfold auR
    rw [uF_1, if_neg (by omega), uF_1, if_neg (by omega)]
    show t3.1 141 17 = -1
    rw [g4.2 141 17 (by unfold prG; omega)]
    simp [beR, uF_1]
  have k2 : (auR t3 m).1 141 2 = 0 := by unfold auR; rw [uF_1, if_pos ⟨rfl, rfl⟩]
  have k16 : (auR t3 m).1 141 16 = 0 := by unfold auR; rw [uF_1, if_neg (by omega), uF_1, if_pos ⟨rfl, rfl⟩]
  have ag : Ag wiA wiF s (auR t3 m) := by
    refine ⟨fun q hq => ?_, fun q k hq => ?_⟩
    · unfold wiA scl pcA at hq
      rw [h2 q (by omega) (by omega) (by omega) (by omega), v2 q (by omega), g3.1 q (by unfold pcA; omega)]
      rfl
    · unfold wiF at hq
      by_cases h : q = 141
      · subst h
        exact k141 k (by omega)
      · rw [h1 q k h]
        by_cases hq3 : q = 3
        · subst hq3
          unfold auC
          rw [uF_1, if_neg (by omega), ga.2 3 k (by omega), g3.2 3 k (by unfold pcG; omega)]
          exact sbC_1 s a (by omega) k
        · rw [v1 q k (by omega) hq3, g3.2 q k (by unfold pcG; omega)]
          exact sbC_1 s a (by omega) k
  have eF5 : ∀ k, k = 4 ∨ k = 9 ∨ k = 10 → (auR t3 m).1 5 k = (sbC s a).1 5 k := fun k hk => by
    rw [h1 5 k (by omega), v1 5 k (by omega) (by omega), g3.2 5 k (by unfold pcG; omega)]
  have eM : ∀ j, j < 104 + 6 * m → j ≠ 7 → (auR t3 m).2 142 j = mixS (s.2 142) G' j := fun j j0 j1 => by
    by_cases hj : j < 104
    · rw [mixS_lo hj, eS j (by omega) j1, lo j (by omega)]
    · rw [mixS_hi (by omega), eR j (by omega) (by omega)]
  have hA := AU_cp (AU_done hU hc eM e7) u33 u54 (by omega)
  have e9 : ∀ j, 0 ≤ j → j < 104 → j ≠ 7 → (auR t3 m).2 142 j = s.2 142 j := fun j j0 j1 j7 => by rw [eS j (by omega) j7, lo j (by omega)]
  refine inv_tok hI ag ?_ ⟨?_, ?_, ?_, fun j j0 j1 => ?_, ?_, ?_⟩ ⟨WF_x7 w e9, CS_x7 w (CS_fr cs (fun k => ?_) (fun j j0 j1 => ?_)) e9 (fun j j0 j1 => by rw [h143])⟩ (AU_fr hA (fun k => ?_) (fun j j0 j1 => ?_)) (fun j j0 j1 => ?_) (fun j j0 j1 => by rw [h143])
  · rw [h1 3 15 (by omega), k2]
    unfold auC
    rw [uF_1, if_pos ⟨rfl, rfl⟩]
  · rw [eF5 4 (by omega), k10]
    simp [sbC, uF_1]
  · rw [eF5 4 (by omega)]
    simp [sbC, uF_1]
  · rw [eF5 4 (by omega)]
    simp [sbC, uF_1]
  · rw [eF5 4 (by omega)] at j1
    simp [sbC, uF_1] at j1
    omega
  · rw [eF5 9 (by omega), k16]
    simp [sbC, uF_1]
  · rw [eF5 10 (by omega), k17]
    simp [sbC, uF_1]
  · rw [h1 7 k (by omega), v1 7 k (by omega) (by omega), g3.2 7 k (by unfold pcG; omega)]
    exact sbC_1 s a (by omega) k
  · rw [h2 _ (by omega) (by omega) (by omega) (by omega), v2 _ (by omega), g3.1 _ (by unfold pcA; omega)]
    rfl
  · rw [h1 33 k (by omega)]
    unfold auC
    rw [uF_1, if_neg (by omega)]
  · rw [h2 _ (by omega) (by omega) (by omega) (by omega)]
    rfl
  · rw [eS j (by omega) (by omega)]
    exact lo j j1
