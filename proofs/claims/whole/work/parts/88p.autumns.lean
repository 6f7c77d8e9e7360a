/-! any step; all steps -/
theorem km_stp : ∀ v : Nat, v < 27 → (v = 12 ∨ v = 24 ∨ v = 25 ∨ v = 26 ∨ (17 ≤ v ∧ v ≤ 22)) ∨ km (v : Int) < 16 ∨ 25 < km (v : Int) := by decide +kernel
theorem st_none (Z : mX) {s0 : mS} {b : Int → Int} {n : Int} (hT : TB0 b n) {G0 H G O : Int → Int} {m cnt dep : Int} {T : mT} (hk : TT b n T) (hL : ∀ j, j < 1888 → G j = G0 j) (hU : UI (mixS G0 G) O m cnt dep) (hn : tK T ≠ 2 ∨ tK T = 2 ∧ tV T ≠ 25 ∧ ¬ stp (tV T)) : AStp Z s0 b n G0 H T G O m cnt dep := by
  obtain ⟨m0, mc, c30, d0, d3⟩ := ui_c hU
  obtain ⟨-, -, k2, -⟩ := tk_k hk
  have hx : wn (tK T) (tV T) < 16 ∨ 25 < wn (tK T) (tV T) := by
    unfold wn
    rcases hn with h2 | ⟨h2, h3, h4⟩
    · rw [if_neg h2]; omega
    · have v := k2 h2
      have hb := km_stp (tV T).toNat (by omega)
      rw [Int.toNat_of_nonneg v.1] at hb
      rw [if_pos h2]
      unfold stp at h4
      omega
  refine Or.inl ⟨fkd T, tF T, fkd_1 _, fun s h => ?_, fun t0 t h => ?_⟩
  · obtain ⟨ek, e6, -, e1, e2, e4⟩ := cu_k h
    obtain ⟨s1, a1, x1⟩ := cu_strays Z h
    refine ⟨s1, fun f => ?_, x1⟩
    rw [B_X1_readStep]
    rcases hn with h2 | ⟨h2, h3, h4⟩
    · simp (disch := first | with_reducible assumption | omega) only [↓sm, ↓reduceIte, ↓if_pos, ↓if_neg, kI, kJ, kR, kV, w32_eq, w64_eq, reduceCtorEq, Int.reduceAdd, Int.reduceMul, Int.reduceSub, ↓o_g53_0, o_c5, ↓rI5_5 ek, ↓a1]
    · have e6 := e6 (Or.inl h2)
      rw [h2] at ek
      simp (disch := first | with_reducible assumption | omega) only [↓sm, ↓reduceIte, ↓if_pos, ↓if_neg, kI, kJ, kR, kV, w32_eq, w64_eq, reduceCtorEq, Int.reduceAdd, Int.reduceMul, Int.reduceSub, ↓o_g53_0, o_c5, ↓rI5_5 ek, ↓rI5_6 e6, ↓c_begins_f Z s h4, ↓a1]
  · obtain ⟨r1, r142, r143, r18, e22, e23, hm, rO, rA⟩ := id h
    have em : ∀ f : Int → mO, (mm_ld 0 (mk t) 142 1895).bind f = f m := fun f => by rw [r_at r142 f 1895 (by omega) (by omega), hm]
    have c0 := fun f => r_inW Z hT hk h.1 f
    generalize wn (tK T) (tV T) = x at *
    obtain ⟨t1, b1, y1⟩ := ru_fail2 Z hk h hL
    refine ⟨t1, fun f => ?_, y1⟩
    have n22 : x ≠ 22 := by omega
    have n23 : x ≠ 23 := by omega
    rw [B_X12_autumnStep]
    by_cases h1 : x < 16
    · simp (disch := first | with_reducible assumption | omega) only [↓sm, ↓reduceIte, ↓if_pos, ↓if_neg, kI, kJ, kR, kV, w32_eq, w64_eq, reduceCtorEq, Int.reduceAdd, Int.reduceMul, Int.reduceSub, o_c141, ↓o_g141_0, ↓o_g141_1, ↓o_g141_5, ↓o_g141_6, ↓o_g141_7, ↓o_g141_8, ↓o_g141_9, ↓o_g141_21, ↓o_g141_25, ↓o_g141_26, ↓o_g141_27, ↓o_g141_28, ↓o_g141_29, ↓o_g141_30, ↓o_g141_31, ↓o_g141_34, ↓o_g141_35, ↓o_g141_36, ↓c0, ↓em, B_X12_autumnStep_24 Z, ↓b1]
    · have h2 : 25 < x := by omega
      simp (disch := first | with_reducible assumption | omega) only [↓sm, ↓reduceIte, ↓if_pos, ↓if_neg, kI, kJ, kR, kV, w32_eq, w64_eq, reduceCtorEq, Int.reduceAdd, Int.reduceMul, Int.reduceSub, o_c141, ↓o_g141_0, ↓o_g141_1, ↓o_g141_5, ↓o_g141_6, ↓o_g141_7, ↓o_g141_8, ↓o_g141_9, ↓o_g141_21, ↓o_g141_25, ↓o_g141_26, ↓o_g141_27, ↓o_g141_28, ↓o_g141_29, ↓o_g141_30, ↓o_g141_31, ↓o_g141_34, ↓o_g141_35, ↓o_g141_36, ↓c0, ↓em, B_X12_autumnStep_24 Z, ↓b1]
theorem st_any (Z : mX) {s0 : mS} {b : Int → Int} {n : Int} (hT : TB0 b n) {G0 H G O : Int → Int} {m cnt dep : Int} {T : mT} (hk : TT b n T) (hW : WF G0) (hC : CS s0 7 G0 H) (hL : ∀ j, j < 1888 → G j = G0 j) (hU : UI (mixS G0 G) O m cnt dep) : AStp Z s0 b n G0 H T G O m cnt dep := by
  obtain ⟨m0, mc, c30, d0, d3⟩ := ui_c hU
  by_cases h2 : tK T = 2
  · by_cases v25 : tV T = 25
    · exact st_end Z hT hk hL hU h2 v25
    · by_cases hs : stp (tV T)
      · have hs' := hs
        unfold stp at hs'
        by_cases v24 : tV T = 24
        · exact st_loop Z hT hk hL hU h2 v24 (fun hc T1 hk1 => ord_loop Z hT hk1 hW hC (hG_L m0 hL) m0 (by omega) (by omega) c30 (hG_z m0 (by omega) (by omega)) (hG_z m0 (by omega) (by omega)) (hG_z m0 (by omega) (by omega)) (hG_0 m0))
        · by_cases v22 : tV T = 22
          · exact st_when Z hT hk hL hU h2 v22 (fun hc T1 hk1 => ord_when Z hT hk1 hW hC (hG_L m0 hL) m0 (by omega) (by omega) c30 (hG_z m0 (by omega) (by omega)) (hG_z m0 (by omega) (by omega)) (hG_z m0 (by omega) (by omega)))
          · have hv : tV T = 12 ∨ tV T = 17 ∨ tV T = 18 ∨ tV T = 19 ∨ tV T = 20 ∨ tV T = 21 ∨ tV T = 26 := by omega
            rcases hv with v | v | v | v | v | v | v
            · exact st_plain Z hT hk hL hU h2 (w := 12) (k := 16) v (by omega) (by omega) (by decide) (by omega) (fun hc T1 hk1 => ord_go Z hT hk1 hW hC (hG_L m0 hL) m0 (by omega) (by omega) c30 (hG_z m0 (by omega) (by omega)) (hG_z m0 (by omega) (by omega)) (hG_z m0 (by omega) (by omega)) (hG_0 m0))
            · exact st_plain Z hT hk hL hU h2 (w := 17) (k := 17) v (by omega) (by omega) (by decide) (by omega) (fun hc T1 hk1 => ord_free Z hT hk1 hW hC (hG_L m0 hL) m0 (by omega) (by omega) c30 (hG_z m0 (by omega) (by omega)) (hG_z m0 (by omega) (by omega)) (hG_z m0 (by omega) (by omega)) (hG_0 m0))
            · exact st_plain Z hT hk hL hU h2 (w := 18) (k := 18) v (by omega) (by omega) (by decide) (by omega) (fun hc T1 hk1 => ord_tear Z hT hk1 hW hC (hG_L m0 hL) m0 (by omega) (by omega) c30 (hG_z m0 (by omega) (by omega)) (hG_z m0 (by omega) (by omega)) (hG_z m0 (by omega) (by omega)) (hG_0 m0))
            · exact st_plain Z hT hk hL hU h2 (w := 19) (k := 19) v (by omega) (by omega) (by decide) (by omega) (fun hc T1 hk1 => ord_pick Z hT hk1 hW hC (hG_L m0 hL) m0 (by omega) (by omega) c30 (hG_z m0 (by omega) (by omega)) (hG_z m0 (by omega) (by omega)) (hG_z m0 (by omega) (by omega)) (hG_0 m0))
            · exact st_plain Z hT hk hL hU h2 (w := 20) (k := 20) v (by omega) (by omega) (by decide) (by omega) (fun hc T1 hk1 => ord_year Z hT hk1 hW hC (hG_L m0 hL) m0 (by omega) (by omega) c30 (hG_z m0 (by omega) (by omega)) (hG_z m0 (by omega) (by omega)) (hG_z m0 (by omega) (by omega)) (hG_0 m0))
            · exact st_plain Z hT hk hL hU h2 (w := 21) (k := 21) v (by omega) (by omega) (by decide) (by omega) (fun hc T1 hk1 => ord_any Z hT hk1 hW hC (hG_L m0 hL) m0 (by omega) (by omega) c30 (hG_z m0 (by omega) (by omega)) (hG_z m0 (by omega) (by omega)) (hG_z m0 (by omega) (by omega)) (hG_0 m0) (hG_z m0 (by omega) (by omega)))
            · exact st_plain Z hT hk hL hU h2 (w := 26) (k := 25) v (by omega) (by omega) (by decide) (by omega) (fun hc T1 hk1 => ord_stop Z hT hk1 hW hC (hG_L m0 hL) m0 (by omega) (by omega) c30 (hG_z m0 (by omega) (by omega)) (hG_z m0 (by omega) (by omega)) (hG_z m0 (by omega) (by omega)) (hG_0 m0) (hG_z m0 (by omega) (by omega)))
      · exact st_none Z hT hk hL hU (Or.inr ⟨h2, v25, hs⟩)
  · exact st_none Z hT hk hL hU (Or.inl h2)
