/-! mark, undo -/
theorem mk_isC {n : Int} (h0 : 0 ≤ n) (h1 : n < 3) : isC (84 + 13 * n).toNat := by unfold isC; omega
theorem mk_isU {n : Int} (h0 : 0 ≤ n) (h1 : n < 3) : isU (123 + 6 * n).toNat := by unfold isU; omega
def mkA (q : Nat) : Prop := (84 ≤ q ∧ q < 141) ∨ q = 142 ∨ q = 143 ∨ (7 ≤ q ∧ q < 20) ∨ (33 ≤ q ∧ q < 39)
def mkF (q k : Nat) : Prop := (84 ≤ q ∧ q < 141) ∨ (q = 3 ∧ (k = 14 ∨ k = 15)) ∨ (q = 141 ∧ (k = 38 ∨ k = 2)) ∨ q = 7 ∨ q = 33
theorem inv_mk {s t : mS} (h : Inv s) (g : Ag mkA mkF s t) (e1 : t.1 3 15 = t.1 141 2) (e3 : TSc t) (e6 : AU t 33 (t.2 142)) (e7 : TMk t) : Inv t := by
  obtain ⟨i1, i2, i3, i4, i5, i6, i7, i8⟩ := h
  unfold mkA mkF at g
  have f1 := g.2
  have f2 := g.1
  refine ⟨e1, ⟨?_, ?_⟩, e3, ?_, ?_, e6, e7, ?_⟩
  · rw [f1 3 16 (by omega), f1 141 3 (by omega)]; exact i2.1
  · rw [f1 3 17 (by omega), f1 141 4 (by omega)]; exact i2.2
  · exact TTr_fr i4 (fun q k q0 q1 => f1 q k (by omega)) (fun q hq => f2 q (by omega))
  · exact TTx_fr i5 ⟨f1 5 4 (by omega), f1 5 9 (by omega), f1 5 10 (by omega)⟩ ⟨f1 141 10 (by omega), f1 141 16 (by omega), f1 141 17 (by omega)⟩ (f2 6 (by omega)) (f2 147 (by omega))
  · exact TLv_fr i8 (f1 63 4 (by omega)) (f1 141 37 (by omega)) (f2 65 (by omega)) (f2 159 (by omega))
theorem op_mark (Z : mX) (s : mS) (hI : Inv s) : OpI Z s 188 362 [] := by
  obtain ⟨m1, m2, m3, m4⟩ := hI.2.2.2.2.2.2.1
  by_cases h3 : s.1 3 14 = 3
  · refine op_rdx hI (-1) 4 (fun f => ?_) (fun t e f => ?_)
    · rw [B_X11_mark]
      simp (disch := first | assumption | omega) only [↓sm, ↓reduceIte, ↓if_pos, ↓if_neg, kI, kJ, kR, kV, w32_eq, w64_eq, reduceCtorEq, Int.reduceAdd, Int.reduceMul, Int.reduceSub, o_c3, ↓o_g3_0, ↓o_g3_1, ↓o_g3_2, ↓o_g3_3, ↓o_g3_4, ↓o_g3_5, ↓o_g3_6, ↓o_g3_7, ↓o_g3_8, ↓o_g3_9, ↓o_g3_10, ↓o_g3_11, ↓o_g3_12, ↓o_g3_13, ↓o_g3_14, ↓o_g3_15, ↓o_g3_16, ↓o_g3_17, ↓a_ln4, ↓a_ld4, ↓a_ln61, ↓a_ld61, ↓a_ln62, ↓a_ld62, ↓d_none Z, ↓d_done Z, ↓d_refused Z, ↓d_granted Z, h3]
    · have e4 : t.1 141 38 = 3 := by rw [e, uF_1, if_neg (by omega), ← m1]; exact h3
      rw [B_X12_mark]
      simp (disch := first | assumption | omega) only [↓sm, ↓reduceIte, ↓if_pos, ↓if_neg, kI, kJ, kR, kV, w32_eq, w64_eq, reduceCtorEq, Int.reduceAdd, Int.reduceMul, Int.reduceSub, o_c141, ↓d_refuse Z, ↓d_gives Z, ↓d_is0 Z, ↓d_is1 Z, ↓d_isFrom_t Z, ↓d_isFrom_f Z, ↓d_orNone_t Z, ↓d_orNone_f Z, ↓o_g141_38, e4]
  · have i3 := hI.2.2.1
    have i6 := hI.2.2.2.2.2.1
    have hb : s.1 33 0 = 0 ∨ s.1 33 0 = 1 := by have := i6.1; omega
    have hC := mk_isC (n := s.1 3 14) (by omega) (by omega)
    have hU := mk_isU (n := s.1 3 14) (by omega) (by omega)
    have c7 : isC 7 := Or.inl rfl
    have u33 : isU 33 := Or.inl rfl
    obtain ⟨n, hn⟩ : ∃ n : Nat, s.1 3 14 = n := ⟨(s.1 3 14).toNat, by omega⟩
    have eo : (84 + 13 * s.1 3 14).toNat = 84 + 13 * n := by omega
    have eu : (123 + 6 * s.1 3 14).toNat = 123 + 6 * n := by omega
    have hn1 : 7 ≠ (84 + 13 * s.1 3 14).toNat := by omega
    have hn2 : 33 ≠ (123 + 6 * s.1 3 14).toNat := by omega
    have gS := cpS_Ag (A := fun r => 84 + 13 * n < r ∧ r ≤ 96 + 13 * n) (F := fun r _ => r = 84 + 13 * n) (Ag_refl _ _ s) (84 + 13 * s.1 3 14).toNat 7 (fun r h0 h1 => by omega) (fun r k e => by omega)
    have gU := cpU_Ag (A := fun r => 123 + 6 * n < r ∧ r ≤ 128 + 6 * n) (F := fun r _ => r = 123 + 6 * n) (Ag_refl _ _ (cpS s (84 + 13 * s.1 3 14).toNat 7)) (123 + 6 * s.1 3 14).toNat 33 (fun r h0 h1 => by omega) (fun r k e => by omega)
    generalize hc : cpU (cpS s (84 + 13 * s.1 3 14).toNat 7) (123 + 6 * s.1 3 14).toNat 33 = c at gU
    have c1 : ∀ q k, q ≠ 84 + 13 * n → q ≠ 123 + 6 * n → c.1 q k = s.1 q k := fun q k a b => (gU.2 q k b).trans (gS.2 q k a)
    have c2 : ∀ q, ¬ (84 + 13 * n < q ∧ q ≤ 96 + 13 * n) → ¬ (123 + 6 * n < q ∧ q ≤ 128 + 6 * n) → c.2 q = s.2 q := fun q a b => (gU.1 q b).trans (gS.1 q a)
    have cC : CS c (84 + 13 * n) (s.2 142) (s.2 143) := by
      have := CS_cp i3.1 i3.2 hC c7 hn1
      rw [eo] at this
      exact CS_fr this (fun k => by rw [gU.2 _ k (by omega), eo]) (fun j j0 j1 => by rw [gU.1 _ (by omega), eo])
    have cU : AU c (123 + 6 * n) (s.2 142) := by
      have := AU_cp (AU_fr i6 (fun k => gS.2 33 k (by omega)) (fun j j0 j1 => gS.1 _ (by omega))) hU u33 hn2
      rw [hc, eu] at this
      exact this
    have e14 : c.1 3 14 = s.1 3 14 := c1 3 14 (by omega) (by omega)
    have e38 : c.1 141 38 = s.1 3 14 := by rw [c1 141 38 (by omega) (by omega)]; exact m1.symm
    have e142 : c.2 142 = s.2 142 := c2 142 (by omega) (by omega)
    have e143 : c.2 143 = s.2 143 := c2 143 (by omega) (by omega)
    refine ⟨s.1 3 14 + 1, uF (uF c 3 14 (s.1 3 14 + 1)) 3 15 0, uF (cpT (uF (uF (uF c 3 14 (s.1 3 14 + 1)) 3 15 0) 141 38 (s.1 3 14 + 1)) 0 (s.1 3 14 + 1) 472 12) 141 2 0, fun f => ?_, fun f => ?_, ?_⟩
    · rw [B_X11_mark]
      have kS := fun f => c_copyS Z s hC c7 hn1 f
      have kU := fun f => c_copyU Z (cpS s (84 + 13 * s.1 3 14).toNat 7) hU u33 hn2 (by rw [gS.2 33 0 (by omega)]; exact hb) f
      rw [hc] at kU
      have p14 : (uF c 3 14 (s.1 3 14 + 1)).1 3 14 = s.1 3 14 + 1 := by simp [uF_1]
      simp (disch := first | assumption | omega) only [↓sm, ↓reduceIte, ↓if_pos, ↓if_neg, kI, kJ, kR, kV, w32_eq, w64_eq, reduceCtorEq, Int.reduceAdd, Int.reduceMul, Int.reduceSub, o_c3, ↓o_g3_0, ↓o_g3_1, ↓o_g3_2, ↓o_g3_3, ↓o_g3_4, ↓o_g3_5, ↓o_g3_6, ↓o_g3_7, ↓o_g3_8, ↓o_g3_9, ↓o_g3_10, ↓o_g3_11, ↓o_g3_12, ↓o_g3_13, ↓o_g3_14, ↓o_g3_15, ↓o_g3_16, ↓o_g3_17, ↓a_ln4, ↓a_ld4, ↓a_ln61, ↓a_ld61, ↓a_ln62, ↓a_ld62, ↓d_none Z, ↓d_done Z, ↓d_refused Z, ↓d_granted Z, sc_c hC, su_c hU, ↓kS, ↓kU, e14, reduceCtorEq, ↓o_p3_14, o_p3_14, o_g3_14, p14]
    · have e1 : (uF (uF c 3 14 (s.1 3 14 + 1)) 3 15 0).1 141 38 = s.1 3 14 := by rw [uF_1, if_neg (by omega), uF_1, if_neg (by omega)]; exact e38
      have e2 : (uF (uF (uF c 3 14 (s.1 3 14 + 1)) 3 15 0) 141 38 (s.1 3 14 + 1)).1 141 38 = s.1 3 14 + 1 := by simp [uF_1]
      have e3 : (cpT (uF (uF (uF c 3 14 (s.1 3 14 + 1)) 3 15 0) 141 38 (s.1 3 14 + 1)) 0 (s.1 3 14 + 1) 472 12).1 141 38 = s.1 3 14 + 1 := e2
      have kT := fun f => r_copies Z (uF (uF (uF c 3 14 (s.1 3 14 + 1)) 3 15 0) 141 38 (s.1 3 14 + 1)) 0 (s.1 3 14 + 1) (by omega) (by omega) (by omega) (by omega) (by omega) f
      rw [B_X12_mark]
      simp (disch := first | assumption | omega) only [↓sm, ↓reduceIte, ↓if_pos, ↓if_neg, kI, kJ, kR, kV, w32_eq, w64_eq, reduceCtorEq, Int.reduceAdd, Int.reduceMul, Int.reduceSub, o_c141, ↓d_refuse Z, ↓d_gives Z, ↓d_is0 Z, ↓d_is1 Z, ↓d_isFrom_t Z, ↓d_isFrom_f Z, ↓d_orNone_t Z, ↓d_orNone_f Z, ↓o_g141_38, e1, h3, ↓o_p141_38, o_p141_38, e2, ↓kT, e3]
    · generalize ht : uF (cpT (uF (uF (uF c 3 14 (s.1 3 14 + 1)) 3 15 0) 141 38 (s.1 3 14 + 1)) 0 (s.1 3 14 + 1) 472 12) 141 2 0 = t
      have t1 : ∀ q k, ¬ (q = 3 ∧ (k = 14 ∨ k = 15)) → ¬ (q = 141 ∧ (k = 38 ∨ k = 2)) → t.1 q k = c.1 q k := by
        intro q k a b
        rw [← ht, uF_1, if_neg (by omega)]
        show (uF (uF (uF c 3 14 (s.1 3 14 + 1)) 3 15 0) 141 38 (s.1 3 14 + 1)).1 q k = _
        rw [uF_1, if_neg (by omega), uF_1, if_neg (by omega), uF_1, if_neg (by omega)]
      have t2 : ∀ q, q ≠ 142 → q ≠ 143 → t.2 q = c.2 q := by
        intro q a b
        rw [← ht]
        exact cpT_n _ _ _ _ _ _ a b
      have t142 : ∀ j, t.2 142 j = if 472 * (s.1 3 14 + 1) ≤ j ∧ j < 472 * (s.1 3 14 + 1) + 472 then s.2 142 (j - 472 * (s.1 3 14 + 1) + 472 * 0) else s.2 142 j := by
        intro j
        rw [← ht, ← e142]
        exact cpT_142 _ _ _ _ _ _
      have t143 : ∀ j, t.2 143 j = if 12 * (s.1 3 14 + 1) ≤ j ∧ j < 12 * (s.1 3 14 + 1) + 12 then s.2 143 (j - 12 * (s.1 3 14 + 1) + 12 * 0) else s.2 143 j := by
        intro j
        rw [← ht, ← e143]
        exact cpT_143 _ _ _ 472 _ _
      have a14 : t.1 3 14 = s.1 3 14 + 1 := by
        rw [← ht, uF_1, if_neg (by omega)]
        show (uF (uF (uF c 3 14 (s.1 3 14 + 1)) 3 15 0) 141 38 (s.1 3 14 + 1)).1 3 14 = _
        rw [uF_1, if_neg (by omega), uF_1, if_neg (by omega), uF_1, if_pos ⟨rfl, rfl⟩]
      have a38 : t.1 141 38 = s.1 3 14 + 1 := by
        rw [← ht, uF_1, if_neg (by omega)]
        show (uF (uF (uF c 3 14 (s.1 3 14 + 1)) 3 15 0) 141 38 (s.1 3 14 + 1)).1 141 38 = _
        rw [uF_1, if_pos ⟨rfl, rfl⟩]
      have a15 : t.1 3 15 = 0 := by
        rw [← ht, uF_1, if_neg (by omega)]
        show (uF (uF (uF c 3 14 (s.1 3 14 + 1)) 3 15 0) 141 38 (s.1 3 14 + 1)).1 3 15 = _
        rw [uF_1, if_neg (by omega), uF_1, if_pos ⟨rfl, rfl⟩]
      have a2 : t.1 141 2 = 0 := by rw [← ht, uF_1, if_pos ⟨rfl, rfl⟩]
      have eS : ∀ j, 0 ≤ j → j < 472 → t.2 142 j = s.2 142 j := fun j j0 j1 => by rw [t142, if_neg (by omega)]
      have eN : ∀ j, 0 ≤ j → j < 12 → t.2 143 j = s.2 143 j := fun j j0 j1 => by rw [t143, if_neg (by omega)]
      refine inv_mk hI ⟨fun q h => ?_, fun q k h => ?_⟩ (a15.trans a2.symm) ⟨WF_ext i3.1 (fun j j0 j1 => eS j j0 (by omega)), ?_⟩ ?_ ⟨?_, ?_, ?_, ?_⟩
      · unfold mkA at h
        rw [t2 q (by omega) (by omega), c2 q (by omega) (by omega)]
      · unfold mkF at h
        rw [t1 q k (by omega) (by omega), c1 q k (by omega) (by omega)]
      · exact CS_ext i3.1 (CS_fr i3.2 (fun k => by rw [t1 7 k (by omega) (by omega), c1 7 k (by omega) (by omega)]) (fun j j0 j1 => by rw [t2 _ (by omega) (by omega), c2 _ (by omega) (by omega)])) (fun j j0 j1 => eS j j0 (by omega)) eN
      · exact AU_ext (AU_fr i6 (fun k => by rw [t1 33 k (by omega) (by omega), c1 33 k (by omega) (by omega)]) (fun j j0 j1 => by rw [t2 _ (by omega) (by omega), c2 _ (by omega) (by omega)])) eS
      · rw [a14, a38]
      · omega
      · omega
      · intro i hi
        rw [a14] at hi
        by_cases hin : i = n
        · subst hin
          have xS : ∀ j, 0 ≤ j → j < 472 → slS t i j = s.2 142 j := fun j j0 j1 => by
            unfold slS
            rw [t142, if_pos (by omega), show 472 * ((i : Int) + 1) + j - 472 * (s.1 3 14 + 1) + 472 * 0 = j by omega]
          have xN : ∀ j, 0 ≤ j → j < 12 → slN t i j = s.2 143 j := fun j j0 j1 => by
            unfold slN
            rw [t143, if_pos (by omega), show 12 * ((i : Int) + 1) + j - 12 * (s.1 3 14 + 1) + 12 * 0 = j by omega]
          exact ⟨WF_ext i3.1 (fun j j0 j1 => xS j j0 (by omega)), CS_ext i3.1 (CS_fr cC (fun k => t1 _ k (by omega) (by omega)) (fun j j0 j1 => t2 _ (by omega) (by omega))) (fun j j0 j1 => xS j j0 (by omega)) xN, AU_ext (AU_fr cU (fun k => t1 _ k (by omega) (by omega)) (fun j j0 j1 => t2 _ (by omega) (by omega))) xS⟩
        · obtain ⟨d1, d2, d3⟩ := m4 i (by omega)
          have xS : ∀ j, 0 ≤ j → j < 472 → slS t i j = slS s i j := fun j j0 j1 => by
            unfold slS
            rw [t142, if_neg (by omega)]
          have xN : ∀ j, 0 ≤ j → j < 12 → slN t i j = slN s i j := fun j j0 j1 => by
            unfold slN
            rw [t143, if_neg (by omega)]
          exact ⟨WF_ext d1 (fun j j0 j1 => xS j j0 (by omega)), CS_ext d1 (CS_fr d2 (fun k => by rw [t1 _ k (by omega) (by omega), c1 _ k (by omega) (by omega)]) (fun j j0 j1 => by rw [t2 _ (by omega) (by omega), c2 _ (by omega) (by omega)])) (fun j j0 j1 => xS j j0 (by omega)) xN, AU_ext (AU_fr d3 (fun k => by rw [t1 _ k (by omega) (by omega), c1 _ k (by omega) (by omega)]) (fun j j0 j1 => by rw [t2 _ (by omega) (by omega), c2 _ (by omega) (by omega)])) xS⟩
theorem op_undo (Z : mX) (s : mS) (hI : Inv s) : OpI Z s 189 363 [] := by
  obtain ⟨m1, m2, m3, m4⟩ := hI.2.2.2.2.2.2.1
  by_cases h3 : s.1 3 14 = 0
  · refine op_rdx hI (-1) 6 (fun f => ?_) (fun t e f => ?_)
    · rw [B_X11_undo]
      simp (disch := first | assumption | omega) only [↓sm, ↓reduceIte, ↓if_pos, ↓if_neg, kI, kJ, kR, kV, w32_eq, w64_eq, reduceCtorEq, Int.reduceAdd, Int.reduceMul, Int.reduceSub, o_c3, ↓o_g3_0, ↓o_g3_1, ↓o_g3_2, ↓o_g3_3, ↓o_g3_4, ↓o_g3_5, ↓o_g3_6, ↓o_g3_7, ↓o_g3_8, ↓o_g3_9, ↓o_g3_10, ↓o_g3_11, ↓o_g3_12, ↓o_g3_13, ↓o_g3_14, ↓o_g3_15, ↓o_g3_16, ↓o_g3_17, ↓a_ln4, ↓a_ld4, ↓a_ln61, ↓a_ld61, ↓a_ln62, ↓a_ld62, ↓d_none Z, ↓d_done Z, ↓d_refused Z, ↓d_granted Z, h3]
    · have e4 : t.1 141 38 = 0 := by rw [e, uF_1, if_neg (by omega), ← m1]; exact h3
      rw [B_X12_undo]
      simp (disch := first | assumption | omega) only [↓sm, ↓reduceIte, ↓if_pos, ↓if_neg, kI, kJ, kR, kV, w32_eq, w64_eq, reduceCtorEq, Int.reduceAdd, Int.reduceMul, Int.reduceSub, o_c141, ↓d_refuse Z, ↓d_gives Z, ↓d_is0 Z, ↓d_is1 Z, ↓d_isFrom_t Z, ↓d_isFrom_f Z, ↓d_orNone_t Z, ↓d_orNone_f Z, ↓o_g141_38, e4]
  · obtain ⟨n, hn⟩ : ∃ n : Nat, s.1 3 14 - 1 = n := ⟨(s.1 3 14 - 1).toNat, by omega⟩
    obtain ⟨d1, d2, d3⟩ := m4 n (by omega)
    have hb : s.1 (123 + 6 * n) 0 = 0 ∨ s.1 (123 + 6 * n) 0 = 1 := by have := d3.1; omega
    have hC := mk_isC (n := s.1 3 14 - 1) (by omega) (by omega)
    have hU := mk_isU (n := s.1 3 14 - 1) (by omega) (by omega)
    have c7 : isC 7 := Or.inl rfl
    have u33 : isU 33 := Or.inl rfl
    have eo : (84 + 13 * (s.1 3 14 - 1)).toNat = 84 + 13 * n := by omega
    have eu : (123 + 6 * (s.1 3 14 - 1)).toNat = 123 + 6 * n := by omega
    have hn1 : (84 + 13 * (s.1 3 14 - 1)).toNat ≠ 7 := by omega
    have hn2 : (123 + 6 * (s.1 3 14 - 1)).toNat ≠ 33 := by omega
    generalize hs0 : uF s 3 14 (s.1 3 14 - 1) = s0
    have b1 : ∀ q k, q ≠ 3 → s0.1 q k = s.1 q k := fun q k a => by rw [← hs0, uF_1, if_neg (by omega)]
    have b2 : s0.2 = s.2 := by rw [← hs0]; rfl
    have gS := cpS_Ag (A := fun r => 7 < r ∧ r ≤ 19) (F := fun r _ => r = 7) (Ag_refl _ _ s0) 7 (84 + 13 * (s.1 3 14 - 1)).toNat (fun r h0 h1 => by omega) (fun r k e => by omega)
    have gU := cpU_Ag (A := fun r => 33 < r ∧ r ≤ 38) (F := fun r _ => r = 33) (Ag_refl _ _ (cpS s0 7 (84 + 13 * (s.1 3 14 - 1)).toNat)) 33 (123 + 6 * (s.1 3 14 - 1)).toNat (fun r h0 h1 => by omega) (fun r k e => by omega)
    generalize hc : cpU (cpS s0 7 (84 + 13 * (s.1 3 14 - 1)).toNat) 33 (123 + 6 * (s.1 3 14 - 1)).toNat = c at gU
    have c1 : ∀ q k, q ≠ 7 → q ≠ 33 → c.1 q k = s0.1 q k := fun q k a b => (gU.2 q k b).trans (gS.2 q k a)
    have c2 : ∀ q, ¬ (7 < q ∧ q ≤ 19) → ¬ (33 < q ∧ q ≤ 38) → c.2 q = s.2 q := fun q a b => by rw [gU.1 q b, gS.1 q a, b2]
    have cC : CS c 7 (slS s n) (slN s n) := by
      have := CS_cp (s := s0) d1 (by rw [eo]; exact CS_fr d2 (fun k => b1 _ k (by omega)) (fun j j0 j1 => by rw [b2])) c7 hC hn1
      exact CS_fr this (fun k => gU.2 _ k (by omega)) (fun j j0 j1 => gU.1 _ (by omega))
    have cU : AU c 33 (slS s n) := by
      have := AU_cp (s := cpS s0 7 (84 + 13 * (s.1 3 14 - 1)).toNat) (S := slS s n) (o := 33) (q := (123 + 6 * (s.1 3 14 - 1)).toNat) (by rw [eu]; exact AU_fr d3 (fun k => by rw [gS.2 _ k (by omega), b1 _ k (by omega)]) (fun j j0 j1 => by rw [gS.1 _ (by omega), b2])) u33 hU hn2
      rw [hc] at this
      exact this
    have e14 : c.1 3 14 = s.1 3 14 - 1 := by rw [c1 3 14 (by omega) (by omega), ← hs0, uF_1, if_pos ⟨rfl, rfl⟩]
    have e38 : c.1 141 38 = s.1 3 14 := by rw [c1 141 38 (by omega) (by omega), b1 141 38 (by omega)]; exact m1.symm
    have e142 : c.2 142 = s.2 142 := c2 142 (by omega) (by omega)
    have e143 : c.2 143 = s.2 143 := c2 143 (by omega) (by omega)
    refine ⟨s.1 3 14 - 1, uF c 3 15 0, uF (uF (cpT (uF c 3 15 0) (s.1 3 14) 0 472 12) 141 38 (s.1 3 14 - 1)) 141 2 0, fun f => ?_, fun f => ?_, ?_⟩
    · rw [B_X11_undo]
      have kS := fun f => c_copyS Z s0 c7 hC hn1 f
      have kU := fun f => c_copyU Z (cpS s0 7 (84 + 13 * (s.1 3 14 - 1)).toNat) u33 hU hn2 (by rw [eu, gS.2 _ 0 (by omega), b1 _ _ (by omega)]; exact hb) f
      rw [hc] at kU
      simp (disch := first | assumption | omega) only [↓sm, ↓reduceIte, ↓if_pos, ↓if_neg, kI, kJ, kR, kV, w32_eq, w64_eq, reduceCtorEq, Int.reduceAdd, Int.reduceMul, Int.reduceSub, o_c3, ↓o_g3_0, ↓o_g3_1, ↓o_g3_2, ↓o_g3_3, ↓o_g3_4, ↓o_g3_5, ↓o_g3_6, ↓o_g3_7, ↓o_g3_8, ↓o_g3_9, ↓o_g3_10, ↓o_g3_11, ↓o_g3_12, ↓o_g3_13, ↓o_g3_14, ↓o_g3_15, ↓o_g3_16, ↓o_g3_17, ↓a_ln4, ↓a_ld4, ↓a_ln61, ↓a_ld61, ↓a_ln62, ↓a_ld62, ↓d_none Z, ↓d_done Z, ↓d_refused Z, ↓d_granted Z, sc_c c7, su_c u33, ↓kS, ↓kU, e14, reduceCtorEq, ↓o_p3_14, o_p3_14, o_g3_14, hs0]
    · have e1 : (uF c 3 15 0).1 141 38 = s.1 3 14 := by rw [uF_1, if_neg (by omega)]; exact e38
      have e2 : (cpT (uF c 3 15 0) (s.1 3 14) 0 472 12).1 141 38 = s.1 3 14 := e1
      have e3 : (uF (cpT (uF c 3 15 0) (s.1 3 14) 0 472 12) 141 38 (s.1 3 14 - 1)).1 141 38 = s.1 3 14 - 1 := by simp [uF_1]
      have kT := fun f => r_copies Z (uF c 3 15 0) (s.1 3 14) 0 (by omega) (by omega) (by omega) (by omega) (by omega) f
      rw [B_X12_undo]
      simp (disch := first | assumption | omega) only [↓sm, ↓reduceIte, ↓if_pos, ↓if_neg, kI, kJ, kR, kV, w32_eq, w64_eq, reduceCtorEq, Int.reduceAdd, Int.reduceMul, Int.reduceSub, o_c141, ↓d_refuse Z, ↓d_gives Z, ↓d_is0 Z, ↓d_is1 Z, ↓d_isFrom_t Z, ↓d_isFrom_f Z, ↓d_orNone_t Z, ↓d_orNone_f Z, ↓o_g141_38, e1, h3, ↓o_p141_38, o_p141_38, e2, ↓kT, e3]
    · generalize ht : uF (uF (cpT (uF c 3 15 0) (s.1 3 14) 0 472 12) 141 38 (s.1 3 14 - 1)) 141 2 0 = t
      have t1 : ∀ q k, ¬ (q = 3 ∧ k = 15) → ¬ (q = 141 ∧ (k = 38 ∨ k = 2)) → t.1 q k = c.1 q k := by
        intro q k a b
        rw [← ht, uF_1, if_neg (by omega), uF_1, if_neg (by omega)]
        show (uF c 3 15 0).1 q k = _
        rw [uF_1, if_neg (by omega)]
      have t2 : ∀ q, q ≠ 142 → q ≠ 143 → t.2 q = c.2 q := by
        intro q a b
        rw [← ht]
        exact cpT_n _ _ _ _ _ _ a b
      have t142 : ∀ j, t.2 142 j = if 472 * 0 ≤ j ∧ j < 472 * 0 + 472 then s.2 142 (j - 472 * 0 + 472 * s.1 3 14) else s.2 142 j := by
        intro j
        rw [← ht, ← e142]
        exact cpT_142 _ _ _ _ _ _
      have t143 : ∀ j, t.2 143 j = if 12 * 0 ≤ j ∧ j < 12 * 0 + 12 then s.2 143 (j - 12 * 0 + 12 * s.1 3 14) else s.2 143 j := by
        intro j
        rw [← ht, ← e143]
        exact cpT_143 _ _ _ 472 _ _
      have a14 : t.1 3 14 = s.1 3 14 - 1 := by rw [t1 3 14 (by omega) (by omega)]; exact e14
      have a38 : t.1 141 38 = s.1 3 14 - 1 := by
        rw [← ht, uF_1, if_neg (by omega), uF_1, if_pos ⟨rfl, rfl⟩]
      have a15 : t.1 3 15 = 0 := by
        rw [← ht, uF_1, if_neg (by omega), uF_1, if_neg (by omega)]
        show (uF c 3 15 0).1 3 15 = _
        rw [uF_1, if_pos ⟨rfl, rfl⟩]
      have a2 : t.1 141 2 = 0 := by rw [← ht, uF_1, if_pos ⟨rfl, rfl⟩]
      have eS : ∀ j, 0 ≤ j → j < 472 → t.2 142 j = slS s n j := fun j j0 j1 => by
        unfold slS
        rw [t142, if_pos (by omega), show j - 472 * 0 + 472 * s.1 3 14 = 472 * ((n : Int) + 1) + j by omega]
      have eN : ∀ j, 0 ≤ j → j < 12 → t.2 143 j = slN s n j := fun j j0 j1 => by
        unfold slN
        rw [t143, if_pos (by omega), show j - 12 * 0 + 12 * s.1 3 14 = 12 * ((n : Int) + 1) + j by omega]
      refine inv_mk hI ⟨fun q h => ?_, fun q k h => ?_⟩ (a15.trans a2.symm) ⟨WF_ext d1 (fun j j0 j1 => eS j j0 (by omega)), ?_⟩ ?_ ⟨?_, ?_, ?_, ?_⟩
      · unfold mkA at h
        rw [t2 q (by omega) (by omega), c2 q (by omega) (by omega)]
      · unfold mkF at h
        rw [t1 q k (by omega) (by omega), c1 q k (by omega) (by omega), ← hs0, uF_1, if_neg (by omega)]
      · exact CS_ext d1 (CS_fr cC (fun k => by rw [t1 7 k (by omega) (by omega)]) (fun j j0 j1 => by rw [t2 _ (by omega) (by omega)])) (fun j j0 j1 => eS j j0 (by omega)) eN
      · exact AU_ext (AU_fr cU (fun k => by rw [t1 33 k (by omega) (by omega)]) (fun j j0 j1 => by rw [t2 _ (by omega) (by omega)])) eS
      · rw [a14, a38]
      · omega
      · omega
      · intro i hi
        rw [a14] at hi
        obtain ⟨d1, d2, d3⟩ := m4 i (by omega)
        have xS : ∀ j, 0 ≤ j → j < 472 → slS t i j = slS s i j := fun j j0 j1 => by
          unfold slS
          rw [t142, if_neg (by omega)]
        have xN : ∀ j, 0 ≤ j → j < 12 → slN t i j = slN s i j := fun j j0 j1 => by
          unfold slN
          rw [t143, if_neg (by omega)]
        exact ⟨WF_ext d1 (fun j j0 j1 => xS j j0 (by omega)), CS_ext d1 (CS_fr d2 (fun k => by rw [t1 _ k (by omega) (by omega), c1 _ k (by omega) (by omega), b1 _ k (by omega)]) (fun j j0 j1 => by rw [t2 _ (by omega) (by omega), c2 _ (by omega) (by omega)])) (fun j j0 j1 => xS j j0 (by omega)) xN, AU_ext (AU_fr d3 (fun k => by rw [t1 _ k (by omega) (by omega), c1 _ k (by omega) (by omega), b1 _ k (by omega)]) (fun j j0 j1 => by rw [t2 _ (by omega) (by omega), c2 _ (by omega) (by omega)])) xS⟩
