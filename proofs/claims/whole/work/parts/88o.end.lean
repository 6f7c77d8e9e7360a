/-! an end, and what is no step: both sides -/
def enU (s : mS) (m o : Int) : mS := uF (uA (uA (uA s 55 m 25) 59 m o) 59 o m) 54 2 (m + 1)
theorem enU_n (s : mS) (m o : Int) {q : Nat} (h : q ≠ 55) (h2 : q ≠ 59) : (enU s m o).2 q = s.2 q := by
  unfold enU
  rw [uF_2, uA_n _ h2, uA_n _ h2, uA_n _ h]
theorem enU_55 (s : mS) (m o : Int) : (enU s m o).2 55 = mm_upd (s.2 55) m 25 := by
  unfold enU
  rw [uF_2, uA_n _ (by decide), uA_n _ (by decide), uA_s]
theorem enU_59 (s : mS) (m o : Int) : (enU s m o).2 59 = mm_upd (mm_upd (s.2 59) m o) o m := by
  unfold enU
  rw [uF_2, uA_s, uA_s, uA_n _ (by decide)]
theorem enU_f (s : mS) (m o : Int) {q k : Nat} (h : q ≠ 54 ∨ k ≠ 2) : (enU s m o).1 q k = s.1 q k := by
  unfold enU
  rw [uF_1, if_neg (by omega)]
  rfl
theorem c_addEnd (Z : mX) (s : mS) {m o : Int} (hm : s.1 54 2 = m) (m0 : 0 ≤ m) (m1 : m < 60) (o0 : 0 ≤ o) (o1 : o < m) (f : mW → mO) : mm_kV (mm_run (zP Z) 4 [.inr (.inr (some 54)), .inl o] (mk s)) f = f (mk (enU s m o)) := by
  have w2 : mm_w32 (m + 1) = m + 1 := w32_eq (by omega) (by omega)
  have p1 : ∀ f : mW → mO, mm_kV (mm_run (zP Z) 200 [.inr (.inr (some 55)), .inl m, .inl 25] (mk s)) f = f (mk (uA s 55 m 25)) := fun f => k_put Z _ (q := 55) (n := 60) rfl m 25 m0 m1 f
  have p2 : ∀ f : mW → mO, mm_kV (mm_run (zP Z) 200 [.inr (.inr (some 59)), .inl m, .inl o] (mk (uA s 55 m 25))) f = f (mk (uA (uA s 55 m 25) 59 m o)) := fun f => k_put Z _ (q := 59) (n := 60) rfl m o m0 m1 f
  have p3 : ∀ f : mW → mO, mm_kV (mm_run (zP Z) 200 [.inr (.inr (some 59)), .inl o, .inl m] (mk (uA (uA s 55 m 25) 59 m o))) f = f (mk (uA (uA (uA s 55 m 25) 59 m o) 59 o m)) := fun f => k_put Z _ (q := 59) (n := 60) rfl o m o0 (by omega) f
  have r0 : ∀ u : mS, u.1 54 2 = m → ∀ f : Int → mO, (mm_gI (mk u) 54 0 2).bind f = f m := fun u h f => rI54_2 h f
  rw [B_X0_addEnd]
  simp (disch := first | with_reducible assumption | omega) only [↓sm, ↓reduceIte, ↓if_pos, ↓if_neg, kI, kJ, kR, kV, w32_eq, w64_eq, reduceCtorEq, Int.reduceAdd, Int.reduceMul, Int.reduceSub, o_c54, ↓o_g54_3, ↓o_g54_7, ↓rI54_2 hm, ↓p1, ↓r0 (uA s 55 m 25) hm, ↓p2, ↓r0 (uA (uA s 55 m 25) 59 m o) hm, ↓p3, ↓r0 (uA (uA (uA s 55 m 25) 59 m o) 59 o m) hm, w2, ↓o_p54_2]
  rfl
theorem cu_end {s0 s : mS} {b : Int → Int} {n : Int} {T : mT} {S S' O : Int → Int} {m o cnt dep : Int} (h : CU s0 b n T S O (opS O dep) m cnt dep s) (m0 : 0 ≤ m) (o0 : 0 ≤ o) (o1 : o < m) (st : Stk O dep m) (hd : 1 ≤ dep) (hoo : O (dep - 1) = o) (e : ∀ j, j < 104 + 6 * m → j ≠ 104 + 6 * o + 4 → S' j = S j) (h24 : S' (104 + 6 * m) = 24) (hm4 : S' (104 + 6 * m + 4) = o) (ho4 : S' (104 + 6 * o + 4) = m) : CU s0 b n T S' O (opS O (dep - 1)) (m + 1) cnt (dep - 1) (enU (uF s 53 4 (dep - 1)) m o) := by
  obtain ⟨h1, h2, h3, h4, h5, h6, h7, h8⟩ := h
  refine ⟨CT_fr h1 (fun k _ => by rw [enU_f _ _ _ (by omega), uF_1, if_neg (by omega)]) (enU_n _ _ _ (by omega) (by omega)), by rw [enU_f _ _ _ (by omega), uF_1, if_neg (by omega)]; exact h2, by rw [enU_f _ _ _ (by omega), uF_1, if_neg (by omega)]; exact h3, by unfold enU; rw [uF_1, if_pos ⟨rfl, rfl⟩], by rw [enU_f _ _ _ (by omega), uF_1, if_pos ⟨rfl, rfl⟩], ?_, fun k k0 k1 => by rw [enU_n _ _ _ (by omega) (by omega)]; exact h7 k k0 (by omega), ?_⟩
  · intro i i0 i1
    rw [show (54 : Nat) + 1 = 55 from rfl, show (54 : Nat) + 2 = 56 from rfl, show (54 : Nat) + 3 = 57 from rfl, show (54 : Nat) + 4 = 58 from rfl, show (54 : Nat) + 5 = 59 from rfl, enU_55, enU_59, enU_n _ _ _ (by omega) (by omega), enU_n _ _ _ (by omega) (by omega), enU_n _ _ _ (by omega) (by omega), uF_2]
    by_cases hi : i = m
    · subst hi
      rw [up_eq rfl, up_ne (by omega), up_eq rfl, h24, hm4]
      refine ⟨by decide, fun x => absurd rfl x, fun x => by omega, fun x => by omega, fun _ => rfl⟩
    · obtain ⟨a, b, c, d, f⟩ := h6 i i0 (by omega)
      rw [up_ne hi, e _ (by omega) (by omega), e _ (by omega) (by omega), e _ (by omega) (by omega), e _ (by omega) (by omega)]
      refine ⟨a, b, c, d, fun x => ?_⟩
      by_cases ho : i = o
      · rw [up_eq ho, ho, ho4]
      · rw [up_ne ho, up_ne hi, e _ (by omega) (by omega)]
        refine f (x.elim Or.inl (fun y => Or.inr ⟨y.1, fun z => ?_⟩))
        rcases (opS_pop st hd).mp z with z | z
        · exact ho (z.trans hoo)
        · exact y.2 z
  · unfold enU
    exact Ag_uF (F := pcG) (Ag_uA (Ag_uA (Ag_uA (Ag_uF (F := pcG) h8 (by unfold pcG; omega) _) (by unfold pcA; omega) _ _) (by unfold pcA; omega) _ _) (by unfold pcA; omega) _ _) (by unfold pcG; omega) _
theorem ru_dep {t0 t : mS} {b : Int → Int} {n : Int} {T : mT} {G H O : Int → Int} {m cnt dep : Int} (h : RU t0 b n T G H O m cnt dep t) {d : Int} (hd : d ≤ dep) : RU t0 b n T G H O m cnt d (uF t 141 22 d) := by
  obtain ⟨h1, h2, h3, h4, h5, h6, h7, h8, h9⟩ := h
  exact ⟨RT_fr1 h1 (fun k _ _ => by rw [uF_1, if_neg (by omega)]) rfl, h2, h3, by rw [uF_1, if_neg (by omega)]; exact h4, by rw [uF_1, if_pos ⟨rfl, rfl⟩], by rw [uF_1, if_neg (by omega)]; exact h6, h7, fun k k0 k1 => h8 k k0 (by omega), Ag_uF (F := prG) h9 (by unfold prG; omega) _⟩
/-- the reference's state behind an end -/
def enR (t : mS) (m o d : Int) : mS := uA (uA (uF t 141 22 d) 142 (1992 + 6 * m + 4) o) 142 (1992 + 6 * o + 4) m
set_option maxHeartbeats 8000000 in
theorem st_end (Z : mX) {s0 : mS} {b : Int → Int} {n : Int} (hT : TB0 b n) {G0 H G O : Int → Int} {m cnt dep : Int} {T : mT} (hk : TT b n T) (hL : ∀ j, j < 1888 → G j = G0 j) (hU : UI (mixS G0 G) O m cnt dep) (h2 : tK T = 2) (hv : tV T = 25) : AStp Z s0 b n G0 H T G O m cnt dep := by
  obtain ⟨m0, mc, c30, d0, d3⟩ := ui_c hU
  have st := hU.2.2.2.1
  obtain ⟨T1, p1, hk1, N0, M0⟩ := nxt Z hT hk
  have q0 := tk_o hk
  have q1 := tk_o hk1
  have ew : wn (tK T) (tV T) = 24 := (if_pos h2).trans (by rw [hv]; decide)
  by_cases hd : dep = 0
  · refine Or.inl ⟨fkd T, tF T, fkd_1 _, fun s h => ?_, fun t0 t h => ?_⟩
    · obtain ⟨ek, e6, -, e1, e2, e4⟩ := cu_k h
      have e6 := e6 (Or.inl h2)
      rw [h2] at ek
      rw [hv] at e6
      obtain ⟨s1, a1, x1⟩ := cu_strays Z h
      exact ⟨_, fun f => by
        rw [B_X1_readStep]
        simp (disch := first | with_reducible assumption | omega) only [↓sm, ↓reduceIte, ↓if_pos, ↓if_neg, kI, kJ, kR, kV, w32_eq, w64_eq, reduceCtorEq, Int.reduceAdd, Int.reduceMul, Int.reduceSub, o_c53, ↓o_g53_0, o_c5, ↓rI5_5 ek, ↓rI5_6 e6, ↓B_X1_readEnd Z, ↓rI53_4 e4, ↓a1], x1⟩
    · obtain ⟨r1, r142, r143, r18, e22, e23, hm, rO, rA⟩ := id h
      have em : ∀ f : Int → mO, (mm_ld 0 (mk t) 142 1895).bind f = f m := fun f => by rw [r_at r142 f 1895 (by omega) (by omega), hm]
      have c0 : ∀ f : Int → mW → mO, mm_kI (mm_run (zP Z) 235 [.inr (.inr (some 141)), .inr (.inr (some 1))] (mk t)) f = f 24 (mk t) := fun f => by rw [r_inW Z hT hk h.1, ew]
      obtain ⟨t1, b1, y1⟩ := ru_fail2 Z hk h hL
      exact ⟨_, fun f => by
        rw [B_X12_autumnStep]
        simp (disch := first | with_reducible assumption | omega) only [↓sm, ↓reduceIte, ↓if_pos, ↓if_neg, kI, kJ, kR, kV, w32_eq, w64_eq, reduceCtorEq, Int.reduceAdd, Int.reduceMul, Int.reduceSub, o_c141, ↓o_g141_0, ↓o_g141_1, ↓o_g141_5, ↓o_g141_6, ↓o_g141_7, ↓o_g141_8, ↓o_g141_9, ↓o_g141_21, ↓o_g141_25, ↓o_g141_26, ↓o_g141_27, ↓o_g141_28, ↓o_g141_29, ↓o_g141_30, ↓o_g141_31, ↓o_g141_34, ↓o_g141_35, ↓o_g141_36, ↓c0, ↓em, B_X12_autumnStep_24 Z, ↓rI141_22 e22, ↓b1], y1⟩
  · have hd1 : 1 ≤ dep := by omega
    have hor := st.2.2.1 (dep - 1) (by omega) (by omega)
    generalize hoo : O (dep - 1) = o at hor
    obtain ⟨o0, o1⟩ := hor
    have hG2 : ∃ G2, G2 = mm_upd (mm_upd (hG G m 24) (1992 + 6 * m + 4) o) (1992 + 6 * o + 4) m := ⟨_, rfl⟩
    obtain ⟨G2, hG2⟩ := hG2
    have lo : ∀ j, j < 1888 → G2 j = G0 j := fun j hj => by
      rw [hG2, up_ne (by omega), up_ne (by omega)]
      exact hG_L m0 hL j hj
    have e : ∀ j, j < 104 + 6 * m → j ≠ 104 + 6 * o + 4 → mixS G0 G2 j = mixS G0 G j := fun j j0 j1 => by
      by_cases h1 : j < 104
      · rw [mixS_lo h1, mixS_lo h1]
      · rw [mixS_hi (by omega), mixS_hi (by omega), hG2, up_ne (by omega), up_ne (by omega), hG_lo m0 (by omega) (by omega)]
    have h24 : mixS G0 G2 (104 + 6 * m) = 24 := by rw [mixS_r0 m0, hG2, up_ne (by omega), up_ne (by omega), hG_0 m0]
    have hm4 : mixS G0 G2 (104 + 6 * m + 4) = o := by rw [mixS_r m0 (by omega), hG2, up_ne (by omega), up_eq rfl]
    have ho4 : mixS G0 G2 (104 + 6 * o + 4) = m := by rw [mixS_r o0 (by omega), hG2, up_eq rfl]
    have C : ∀ s, CU s0 b n T (mixS G0 G) O (opS O dep) m cnt dep s → ∃ s1, CU s0 b n T1 (mixS G0 G2) O (opS O (dep - 1)) (m + 1) cnt (dep - 1) s1 ∧ ∀ f : Int → mW → mO, mm_kI (mm_run (zP Z) 7 [.inr (.inr (some 53))] (mk s)) f = mm_kI (mm_kI (mm_kI (mm_run (zP Z) 106 [.inr (.inr (some 5))] (mk s1)) (fun x17 w16 => if x17 = 0 ∨ x17 = 1 then some (some (.inl x17), w16) else none)) (fun x17 w16 => if x17 = 0 ∨ x17 = 1 then some (some (.inl x17), w16) else none)) f := by
      intro s h
      obtain ⟨ek, e6, -, e1, e2, e4⟩ := cu_k h
      have e6 := e6 (Or.inl h2)
      rw [h2] at ek
      rw [hv] at e6
      obtain ⟨s1, a1, x1, -⟩ := cu_adv N0 h
      have f4 : s1.1 53 4 = dep := x1.2.2.2.2.1
      have f2 : s1.1 54 2 = m := x1.2.2.2.1
      have f5 : (uF s1 53 4 (dep - 1)).1 53 4 = dep - 1 := by rw [uF_1, if_pos ⟨rfl, rfl⟩]
      have f6 : (uF s1 53 4 (dep - 1)).1 54 2 = m := by rw [uF_1, if_neg (by omega)]; exact f2
      have gg : ∀ f : Int → mW → mO, mm_kI (mm_run (zP Z) 199 [.inr (.inr (some 60)), .inl ((dep - 1))] (mk (uF s1 53 4 (dep - 1)))) f = f o (mk (uF s1 53 4 (dep - 1))) := fun f => by
        rw [k_get Z _ (q := 60) (n := 3) rfl (dep - 1) (by omega) (by omega), uF_2, x1.2.2.2.2.2.2.1 (dep - 1) (by omega) (by omega), hoo]
      have ae := fun f => c_addEnd Z (uF s1 53 4 (dep - 1)) f6 m0 (by omega) o0 o1 f
      refine ⟨_, cu_end x1 m0 o0 o1 st hd1 hoo e h24 hm4 ho4, fun f => ?_⟩
      rw [B_X1_readStep]
      simp (disch := first | with_reducible assumption | omega) only [↓sm, ↓reduceIte, ↓if_pos, ↓if_neg, kI, kJ, kR, kV, w32_eq, w64_eq, reduceCtorEq, Int.reduceAdd, Int.reduceMul, Int.reduceSub, o_c53, ↓o_g53_0, ↓o_g53_2, ↓o_g53_3, o_c5, o_c54, ↓rI5_5 ek, ↓rI5_6 e6, ↓B_X1_readEnd Z, ↓rI53_4 e4, ↓a1, ↓rI53_4 f4, ↓o_p53_4, ↓rI53_4 f5, ↓gg, ↓ae]
    have R : ∀ t0 t, RU t0 b n T G H O m cnt dep t → ∃ t1, RU t0 b n T1 G2 H O (m + 1) cnt (dep - 1) t1 ∧ ∀ f : Int → mW → mO, mm_kI (mm_run (zP Z) 268 [.inr (.inr (some 141))] (mk t)) f = mm_kI (mm_kI (mm_run (zP Z) 238 [.inr (.inr (some 141)), .inl 59] (mk t1)) (fun x20 w19 => if x20 = 0 ∨ x20 = 1 then some (some (.inl x20), w19) else none)) f := by
      intro t0 t h
      obtain ⟨r1, r142, r143, r18, e22, e23, hm, rO, rA⟩ := id h
      have em : ∀ f : Int → mO, (mm_ld 0 (mk t) 142 1895).bind f = f m := fun f => by rw [r_at r142 f 1895 (by omega) (by omega), hm]
      have c0 : ∀ f : Int → mW → mO, mm_kI (mm_run (zP Z) 235 [.inr (.inr (some 141)), .inr (.inr (some 1))] (mk t)) f = f 24 (mk t) := fun f => by rw [r_inW Z hT hk h.1, ew]
      obtain ⟨t1, y1, x1⟩ := ru_adv M0 (ru_head h m0 cnt 24)
      unfold hT1 at y1
      have z95 : (zt (uA (uF t 141 23 cnt) 142 (1992 + 6 * m) 24) (1992 + 6 * m)).2 142 1895 = m := (zt_1895 t m0 cnt 24).trans ((congrFun r142 1895).trans hm)
      have g4 : t1.1 141 22 = dep := x1.2.2.2.2.1
      have g5 : (uF t1 141 22 (dep - 1)).1 141 22 = dep - 1 := by rw [uF_1, if_pos ⟨rfl, rfl⟩]
      have g6 : (uA (uF t1 141 22 (dep - 1)) 142 (1992 + 6 * m + 4) o).1 141 22 = dep - 1 := g5
      have l1 : ∀ f : Int → mO, (mm_ld 0 (mk (uF t1 141 22 (dep - 1))) 149 (dep - 1)).bind f = f o := fun f => by
        rw [a_ld149 _ f (dep - 1) (by omega) (by omega), uF_2, x1.2.2.2.2.2.2.2.1 (dep - 1) (by omega) (by omega), hoo]
      have l2 : ∀ f : Int → mO, (mm_ld 0 (mk (uA (uF t1 141 22 (dep - 1)) 142 (1992 + 6 * m + 4) o)) 149 (dep - 1)).bind f = f o := fun f => by
        rw [a_ld149 _ f (dep - 1) (by omega) (by omega), uA_n _ (by decide), uF_2, x1.2.2.2.2.2.2.2.1 (dep - 1) (by omega) (by omega), hoo]
      refine ⟨enR t1 m o (dep - 1), ?_, fun f => ?_⟩
      · rw [hG2]
        exact ru_142 (ru_142 (ru_dep x1 (by omega)) (by omega) o) (by omega) m
      · rw [B_X12_autumnStep]
        simp (disch := first | with_reducible assumption | omega) only [↓sm, ↓reduceIte, ↓if_pos, ↓if_neg, kI, kJ, kR, kV, w32_eq, w64_eq, reduceCtorEq, Int.reduceAdd, Int.reduceMul, Int.reduceSub, o_c141, ↓o_g141_0, ↓o_g141_1, ↓o_g141_5, ↓o_g141_6, ↓o_g141_7, ↓o_g141_8, ↓o_g141_9, ↓o_g141_21, ↓o_g141_25, ↓o_g141_26, ↓o_g141_27, ↓o_g141_28, ↓o_g141_29, ↓o_g141_30, ↓o_g141_31, ↓o_g141_34, ↓o_g141_35, ↓o_g141_36, ↓c0, ↓em, B_X12_autumnStep_24 Z, ↓B_X12_autumnStep_41 Z, ↓B_X12_autumnStep_52 Z, ↓B_X12_autumnStep_62 Z, ↓B_X12_autumnStep_71 Z, ↓rI141_22 e22, ↓rI141_23 e23, Int.add_zero, ↓o_p141_23, ↓a_st142, ↓r_rowz Z]
        rw [B_X12_autumnStep_80]
        simp (disch := first | with_reducible assumption | omega) only [↓sm, ↓reduceIte, ↓if_pos, ↓if_neg, kI, kJ, kR, kV, w32_eq, w64_eq, reduceCtorEq, Int.reduceAdd, Int.reduceMul, Int.reduceSub, o_c141, ↓o_g141_0, ↓o_g141_1, ↓o_g141_5, ↓o_g141_6, ↓o_g141_7, ↓o_g141_8, ↓o_g141_9, ↓o_g141_21, ↓o_g141_25, ↓o_g141_26, ↓o_g141_27, ↓o_g141_28, ↓o_g141_29, ↓o_g141_30, ↓o_g141_31, ↓o_g141_34, ↓o_g141_35, ↓o_g141_36, ↓a_ld142, ↓z95, ↓a_st142, ↓y1, ↓B_X12_autumnOrder Z, ↓B_X12_autumnStep_123 Z, ↓rI141_22 g4, ↓o_p141_22, ↓rI141_22 g5, ↓l1, ↓rI141_22 g6, ↓l2]
        rfl
    by_cases qs : tK T1 = 6 ∧ tV T1 = 59
    · obtain ⟨T2, p2, hk2, N1, M1⟩ := nxt Z hT hk1
      refine Or.inr ⟨T2, G2, O, m + 1, cnt, dep - 1, by omega, hk2, UI_end hU hd1 hoo e h24 hm4 ho4, lo, fun s h => ?_, fun t0 t h => ?_⟩
      · obtain ⟨s1, x1, a1⟩ := C s h
        obtain ⟨s2, a2, x2⟩ := cu_semi N1 x1 qs
        exact ⟨s2, fun f => by rw [a1, a2]; rfl, x2⟩
      · obtain ⟨t1, x1, a1⟩ := R t0 t h
        obtain ⟨t2, a2, x2⟩ := ru_semi hk1 M1 x1 qs
        exact ⟨t2, fun f => by rw [a1, a2]; rfl, x2⟩
    · refine Or.inl ⟨fkd T1, tF T1, fkd_1 _, fun s h => ?_, fun t0 t h => ?_⟩
      · obtain ⟨s1, x1, a1⟩ := C s h
        obtain ⟨s2, a2, x2⟩ := cu_semif Z x1 qs
        exact ⟨s2, fun f => by rw [a1, a2]; rfl, x2⟩
      · obtain ⟨t1, x1, a1⟩ := R t0 t h
        obtain ⟨t2, a2, x2⟩ := ru_semif Z hk1 x1 lo qs
        exact ⟨t2, fun f => by rw [a1, a2]; rfl, x2⟩
