/-! mark, undo -/
theorem mk_isC {n : Int} (h0 : 0 ≤ n) (h1 : n < 3) : isC (84 + 13 * n.toNat) := by unfold isC; omega
theorem mk_isU {n : Int} (h0 : 0 ≤ n) (h1 : n < 3) : isU (123 + 6 * n.toNat) := by unfold isU; omega
def mkA (q : Nat) : Prop := (84 ≤ q ∧ q < 141) ∨ q = 142 ∨ q = 143 ∨ (7 ≤ q ∧ q < 20) ∨ (33 ≤ q ∧ q < 39)
def mkF (q k : Nat) : Prop := (84 ≤ q ∧ q < 141) ∨ (q = 3 ∧ (k = 14 ∨ k = 15)) ∨ (q = 141 ∧ (k = 38 ∨ k = 2)) ∨ q = 7 ∨ q = 33
theorem inv_mk {s t : mS} (h : Inv s) (g : Ag mkA mkF s t) (e1 : t.1 3 15 = t.1 141 2) (e3 : TSc t) (e6 : AU t 33 (t.2 142)) (e7 : TMk t) : Inv t := by
  obtain ⟨i1, i2, i3, i4, i5, i6, i7, i8⟩ := h
  unfold mkA mkF at g
  have f1 := g.2
  have f2 := g.1
  refine ⟨e1, ⟨?_, ?_⟩, e3, ?_, ?_, e6, e7, ?_⟩
  · rw [f1 3 16 (by omega), f1 141 3 (by omega)]; exact i2.1
  · rw [f1 3 17 (by omega), f1 141 4 (by omega)]; exact i2.2
  · exact TTr_fr i4 (fun q k q0 q1 => f1 q k (by omega)) (fun q hq => f2 q (by omega))
  · exact TTx_fr i5 ⟨f1 5 4 (by omega), f1 5 9 (by omega), f1 5 10 (by omega)⟩ ⟨f1 141 10 (by omega), f1 141 16 (by omega), f1 141 17 (by omega)⟩ (f2 6 (by omega)) (f2 147 (by omega))
  · exact TLv_fr i8 (f1 63 4 (by omega)) (f1 141 37 (by omega)) (f2 65 (by omega)) (f2 159 (by omega))
theorem op_mark (Z : mX) (s : mS) (hI : Inv s) : OpI Z s 188 362 [] := by
  obtain ⟨m1, m2, m3, m4⟩ := hI.2.2.2.2.2.2.1
  by_cases h3 : s.1 3 14 = 3
  · refine op_rdx hI (-1) 4 (fun f => ?_) (fun t e f => ?_)
    · rw [B_X11_mark]
      simp (disch := first | assumption | omega) only [↓sm, ↓reduceIte, ↓if_pos, ↓if_neg, kI, kJ, kR, kV, w32_eq, w64_eq, reduceCtorEq, Int.reduceAdd, Int.reduceMul, Int.reduceSub, o_c3, ↓o_g3_0, ↓o_g3_1, ↓o_g3_2, ↓o_g3_3, ↓o_g3_4, ↓o_g3_5, ↓o_g3_6, ↓o_g3_7, ↓o_g3_8, ↓o_g3_9, ↓o_g3_10, ↓o_g3_11, ↓o_g3_12, ↓o_g3_13, ↓o_g3_14, ↓o_g3_15, ↓o_g3_16, ↓o_g3_17, ↓a_ln4, ↓a_ld4, ↓a_ln61, ↓a_ld61, ↓a_ln62, ↓a_ld62, ↓d_none Z, ↓d_done Z, ↓d_refused Z, ↓d_granted Z, h3]
    · have e4 : t.1 141 38 = 3 := by rw [e, uF_1, if_neg (by omega), ← m1]; exact h3
      rw [B_X12_mark]
      simp (disch := first | assumption | omega) only [↓sm, ↓reduceIte, ↓if_pos, ↓if_neg, kI, kJ, kR, kV, w32_eq, w64_eq, reduceCtorEq, Int.reduceAdd, Int.reduceMul, Int.reduceSub, o_c141, ↓d_refuse Z, ↓d_gives Z, ↓d_is0 Z, ↓d_is1 Z, ↓d_isFrom_t Z, ↓d_isFrom_f Z, ↓d_orNone_t Z, ↓d_orNone_f Z, ↓o_g141_38, e4]
  · have hC := mk_isC (n := s.1 3 14) (by omega) (by omega)
    have hU := mk_isU (n := s.1 3 14) (by omega) (by omega)
    have c7 : isC 7 := Or.inl rfl
    have u33 : isU 33 := Or.inl rfl
    have hn1 : 7 ≠ 84 + 13 * (s.1 3 14).toNat := by omega
    have hn2 : 33 ≠ 123 + 6 * (s.1 3 14).toNat := by omega
    sorry
