/-! bytes fed; fault; lived -/
theorem tb_shr {s j : Int} (h0 : 0 ≤ j) (h1 : j < 32) {i : Nat} (hi : j.toNat + i < 32) : tb (mm_ishr s j) i = tb s (i + j.toNat) := by
  have key : ∀ n : Nat, n < 32 → ((Int32.ofInt (n : Int)) &&& 31).toBitVec.smod 32 = BitVec.ofNat 32 n := by decide +kernel
  have hk := key j.toNat (by omega)
  rw [Int.toNat_of_nonneg h0] at hk
  unfold mm_ishr
  rw [tb_of, Int32.toBitVec_shiftRight, hk]
  unfold tb
  rw [BitVec.sshiftRight_eq', BitVec.getLsbD_sshiftRight]
  have e : (BitVec.ofNat 32 j.toNat).toNat = j.toNat := by
    rw [BitVec.toNat_ofNat]
    omega
  rw [e, Nat.add_comm i]
  simp [hi]
  omega
theorem i2b_bv (a : Int) : mm_i2b a = ((Int32.ofInt a).toBitVec.setWidth 8).toInt := by
  unfold mm_i2b
  have e : (Int32.ofInt a).toBitVec.setWidth 8 = BitVec.ofInt 8 a := by
    apply BitVec.eq_of_toNat_eq
    rw [Int32.toBitVec_ofInt, BitVec.toNat_setWidth, BitVec.toNat_ofInt, BitVec.toNat_ofInt]
    omega
  rw [e, BitVec.toInt_ofInt]
theorem i2b_ext {a b : Int} (h : ∀ i, i < 8 → tb a i = tb b i) : mm_i2b a = mm_i2b b := by
  rw [i2b_bv, i2b_bv]
  congr 1
  apply BitVec.eq_of_getLsbD_eq
  intro i hi
  rw [BitVec.getLsbD_setWidth, BitVec.getLsbD_setWidth]
  have := h i hi
  unfold tb at this
  rw [this]
theorem tb_255 (i : Nat) : tb 255 i = decide (i < 8) := by
  have key : ∀ i, i < 32 → tb 255 i = decide (i < 8) := by decide +kernel
  by_cases h : i < 32
  · exact key i h
  · rw [tb_big (by omega)]
    simp
    omega
theorem by_r (x : Int) : 0 ≤ mm_iand x 255 ∧ mm_iand x 255 < 256 := by
  have hr : zR32 (mm_iand x 255) := zr_32 _
  have h0 : 0 ≤ mm_iand x 255 := by
    rw [tb_nonneg hr, tb_and, tb_255]
    simp
  refine ⟨h0, ?_⟩
  have h2 : (mm_iand x 255).toNat < 2 ^ 8 := by
    apply Nat.lt_pow_two_of_testBit
    intro i hi
    rw [← tb_nat h0 hr.2, tb_and, tb_255]
    simp
    omega
  omega
theorem by_eq (v k : Int) (k0 : 0 ≤ k) (k1 : k ≤ 24) : mm_i2b (mm_i2b (mm_ishr v k)) = mm_i2b (mm_iand (mm_iushr v k) 255) := by
  have e : mm_i2b (mm_i2b (mm_ishr v k)) = mm_i2b (mm_ishr v k) := by
    unfold mm_i2b
    have h1 := Int.bmod_lt (x := mm_ishr v k) (m := 256) (by omega)
    have h2 := Int.le_bmod (x := mm_ishr v k) (m := 256) (by omega)
    exact Int.bmod_eq_of_le (by omega) (by omega)
  rw [e]
  apply i2b_ext
  intro i hi
  rw [tb_shr k0 (by omega) (by omega), tb_and, tb_255, tb_ushr k0 (by omega)]
  simp [hi]
/-- one byte laid, on either side -/
def cb (s : mS) (v k : Int) : mS := uF (uA s 6 (s.1 5 4) (mm_iand (mm_iushr v k) 255)) 5 4 (s.1 5 4 + 1)
def rb (s : mS) (v k : Int) : mS := uF (uA s 147 (s.1 141 10) (mm_i2b (mm_i2b (mm_ishr v k)))) 141 10 (s.1 141 10 + 1)
def TB (s t : mS) : Prop := s.1 5 4 = t.1 141 10 ∧ 0 ≤ s.1 5 4 ∧ s.1 5 4 ≤ 900 ∧ ∀ j, 0 ≤ j → j < s.1 5 4 → 0 ≤ s.2 6 j ∧ s.2 6 j < 256 ∧ t.2 147 j = mm_i2b (s.2 6 j)
theorem TB_step {s t : mS} (h : TB s t) (hn : s.1 5 4 < 900) (v k : Int) (k0 : 0 ≤ k) (k1 : k ≤ 24) : TB (cb s v k) (rb t v k) ∧ (cb s v k).1 5 4 = s.1 5 4 + 1 := by
  obtain ⟨h1, h2, h3, h4⟩ := h
  have e1 : (cb s v k).1 5 4 = s.1 5 4 + 1 := by unfold cb; simp [uF_1]
  have e2 : (rb t v k).1 141 10 = t.1 141 10 + 1 := by unfold rb; simp [uF_1]
  refine ⟨⟨by omega, by omega, by omega, fun j j0 j1 => ?_⟩, e1⟩
  rw [e1] at j1
  unfold cb rb
  rw [uF_2, uF_2, uA_s, uA_s]
  by_cases hj : j = s.1 5 4
  · rw [up_eq hj, up_eq (by omega), by_eq v k k0 k1]
    have := by_r (mm_iushr v k)
    exact ⟨this.1, this.2, rfl⟩
  · rw [up_ne hj, up_ne (by omega)]
    exact h4 j j0 (by omega)
theorem c_byte (Z : mX) (s : mS) (v k : Int) (k0 : 0 ≤ k) (k1 : k ≤ 24) (h0 : 0 ≤ s.1 5 4) (h1 : s.1 5 4 < 900) : mm_at (zP Z) 92 2 [some (.inr (.inr (some 5))), some (.inl v), some (.inl k)] [] (mk s) = mm_at (zP Z) 92 2 [some (.inr (.inr (some 5))), some (.inl v), some (.inl ((k + -8)))] [] (mk (cb s v k)) := by
  conv => lhs; rw [B_X7_addInt_2]
  unfold cb
  have e : ∀ q i v, (uA s q i v).1 = s.1 := fun _ _ _ => rfl
  simp (disch := first | assumption | omega) only [↓sm, ↓reduceIte, ↓if_pos, ↓if_neg, kI, kJ, kR, kV, w32_eq, w64_eq, reduceCtorEq, Int.reduceAdd, Int.reduceMul, Int.reduceSub, o_c5, ↓o_g5_0, ↓o_g5_1, ↓o_g5_2, ↓o_g5_3, ↓o_g5_4, ↓o_g5_5, ↓o_g5_6, ↓o_g5_7, ↓o_g5_8, ↓o_g5_9, ↓o_g5_10, ↓a_ln6, ↓a_ld6, ↓o_p5_4, e, ↓k_put Z s (q := 6) (n := 900) rfl, k_put Z s (q := 6) (n := 900) rfl]
theorem r_byte (Z : mX) (s : mS) (v k : Int) (k0 : 0 ≤ k) (k1 : k ≤ 24) (h0 : 0 ≤ s.1 141 10) (h1 : s.1 141 10 < 900) : mm_at (zP Z) 229 2 [some (.inr (.inr (some 141))), some (.inl v), some (.inl k)] [] (mk s) = mm_at (zP Z) 229 2 [some (.inr (.inr (some 141))), some (.inl v), some (.inl ((k + -8)))] [] (mk (rb s v k)) := by
  conv => lhs; rw [B_X12_four_2]
  unfold rb
  have e : ∀ q i v, (uA s q i v).1 = s.1 := fun _ _ _ => rfl
  simp (disch := first | assumption | omega) only [↓sm, ↓reduceIte, ↓if_pos, ↓if_neg, kI, kJ, kR, kV, w32_eq, w64_eq, reduceCtorEq, Int.reduceAdd, Int.reduceMul, Int.reduceSub, o_c141, ↓o_g141_0, ↓o_g141_1, ↓o_g141_5, ↓o_g141_6, ↓o_g141_7, ↓o_g141_8, ↓o_g141_9, ↓o_g141_21, ↓o_g141_25, ↓o_g141_26, ↓o_g141_27, ↓o_g141_28, ↓o_g141_29, ↓o_g141_30, ↓o_g141_31, ↓o_g141_34, ↓o_g141_35, ↓o_g141_36, e, ↓o_g141_10, o_g141_10, ↓o_p141_10, ↓a_st147]
def c4 (s : mS) (v : Int) : mS := cb (cb (cb (cb s v 24) v 16) v 8) v 0
def r4 (s : mS) (v : Int) : mS := rb (rb (rb (rb s v 24) v 16) v 8) v 0
theorem b_four (Z : mX) (s t : mS) (v : Int) (h : TB s t) (hn : s.1 5 4 + 4 ≤ 900) :
    (∀ f : mW → mO, mm_kV (mm_run (zP Z) 92 [.inr (.inr (some 5)), .inl v] (mk s)) f = f (mk (c4 s v))) ∧ (∀ f : mW → mO, mm_kV (mm_run (zP Z) 229 [.inr (.inr (some 141)), .inl v] (mk t)) f = f (mk (r4 t v))) ∧ TB (c4 s v) (r4 t v) ∧ (c4 s v).1 5 4 = s.1 5 4 + 4 := by
  obtain ⟨a1, b1⟩ := TB_step h (by omega) v 24 (by omega) (by omega)
  obtain ⟨a2, b2⟩ := TB_step a1 (by omega) v 16 (by omega) (by omega)
  obtain ⟨a3, b3⟩ := TB_step a2 (by omega) v 8 (by omega) (by omega)
  obtain ⟨a4, b4⟩ := TB_step a3 (by omega) v 0 (by omega) (by omega)
  have w1 := h.1
  have w2 := a1.1
  have w3 := a2.1
  have w4 := a3.1
  have w0 := h.2.1
  refine ⟨fun f => ?_, fun f => ?_, a4, by unfold c4; omega⟩
  · rw [B_X7_addInt, c_byte Z s v 24 (by omega) (by omega) (by omega) (by omega)]
    rw [show (24 : Int) + -8 = 16 by omega, c_byte Z _ v 16 (by omega) (by omega) (by omega) (by omega)]
    rw [show (16 : Int) + -8 = 8 by omega, c_byte Z _ v 8 (by omega) (by omega) (by omega) (by omega)]
    rw [show (8 : Int) + -8 = 0 by omega, c_byte Z _ v 0 (by omega) (by omega) (by omega) (by omega)]
    rw [B_X7_addInt_2, if_pos (by omega)]
    rfl
  · rw [B_X12_four, r_byte Z t v 24 (by omega) (by omega) (by omega) (by omega)]
    rw [show (24 : Int) + -8 = 16 by omega, r_byte Z _ v 16 (by omega) (by omega) (by omega) (by omega)]
    rw [show (16 : Int) + -8 = 8 by omega, r_byte Z _ v 8 (by omega) (by omega) (by omega) (by omega)]
    rw [show (8 : Int) + -8 = 0 by omega, r_byte Z _ v 0 (by omega) (by omega) (by omega) (by omega)]
    rw [B_X12_four_2, if_pos (by omega)]
    rfl
def cxA (q : Nat) : Prop := q = 6
def cxF (q k : Nat) : Prop := q = 5 ∧ k = 4
def rxA (q : Nat) : Prop := q = 147
def rxF (q k : Nat) : Prop := q = 141 ∧ k = 10
theorem cb_Ag {s t : mS} (h : Ag cxA cxF s t) (v k : Int) : Ag cxA cxF s (cb t v k) := Ag_uF (F := cxF) (Ag_uA h (by unfold cxA; omega) _ _) (show cxF 5 4 from ⟨rfl, rfl⟩) _
theorem rb_Ag {s t : mS} (h : Ag rxA rxF s t) (v k : Int) : Ag rxA rxF s (rb t v k) := Ag_uF (F := rxF) (Ag_uA h (by unfold rxA; omega) _ _) (show rxF 141 10 from ⟨rfl, rfl⟩) _
theorem c4_Ag {s t : mS} (h : Ag cxA cxF s t) (v : Int) : Ag cxA cxF s (c4 t v) := cb_Ag (cb_Ag (cb_Ag (cb_Ag h _ _) _ _) _ _) _ _
theorem r4_Ag {s t : mS} (h : Ag rxA rxF s t) (v : Int) : Ag rxA rxF s (r4 t v) := rb_Ag (rb_Ag (rb_Ag (rb_Ag h _ _) _ _) _ _) _ _
theorem inv_tx {s s1 s2 : mS} (h : Inv s) (g1 : Ag cxA cxF s s1) (g2 : Ag rxA rxF s1 s2) (hT : TB s1 s2) : Inv s2 := by
  obtain ⟨i1, i2, i3, i4, i5, i6, i7, i8⟩ := h
  unfold cxA cxF at g1
  unfold rxA rxF at g2
  have f1 : ∀ q k, ¬ (q = 5 ∧ k = 4) → ¬ (q = 141 ∧ k = 10) → s2.1 q k = s.1 q k := fun q k a b => (g2.2 q k b).trans (g1.2 q k a)
  have f2 : ∀ q, q ≠ 6 → q ≠ 147 → s2.2 q = s.2 q := fun q a b => (g2.1 q b).trans (g1.1 q a)
  have e1 : s2.2 142 = s.2 142 := f2 142 (by omega) (by omega)
  have e2 : s2.2 143 = s.2 143 := f2 143 (by omega) (by omega)
  have e3 : s2.1 5 4 = s1.1 5 4 := g2.2 5 4 (by omega)
  have e4 : s2.2 6 = s1.2 6 := g2.1 6 (by omega)
  refine ⟨?_, ⟨?_, ?_⟩, ?_, ?_, ?_, ?_, ?_, ?_⟩
  · rw [f1 3 15 (by omega) (by omega), f1 141 2 (by omega) (by omega)]; exact i1
  · rw [f1 _ _ (by omega) (by omega), f1 _ _ (by omega) (by omega)]; exact i2.1
  · rw [f1 _ _ (by omega) (by omega), f1 _ _ (by omega) (by omega)]; exact i2.2
  · unfold TSc
    rw [e1, e2]
    exact ⟨i3.1, CS_fr i3.2 (fun k => f1 7 k (by omega) (by omega)) (fun j j0 j1 => f2 _ (by omega) (by omega))⟩
  · exact TTr_fr i4 (fun q k q0 q1 => f1 q k (by omega) (by omega)) (fun q hq => f2 q (by omega) (by omega))
  · unfold TTx
    rw [e3, e4, f1 5 9 (by omega) (by omega), f1 5 10 (by omega) (by omega), f1 141 16 (by omega) (by omega), f1 141 17 (by omega) (by omega)]
    exact ⟨hT.1, hT.2.1, hT.2.2.1, hT.2.2.2, i5.2.2.2.2⟩
  · rw [e1]
    exact AU_fr i6 (fun k => f1 33 k (by omega) (by omega)) (fun j j0 j1 => f2 _ (by omega) (by omega))
  · exact TMk_fr i7 (f1 3 14 (by omega) (by omega)) (f1 141 38 (by omega) (by omega)) (fun q k q0 q1 => f1 q k (by omega) (by omega)) (fun q q0 q1 => f2 q (by omega) (by omega)) (fun j j0 j1 => by rw [e1]) (fun j j0 j1 => by rw [e2])
  · exact TLv_fr i8 (f1 63 4 (by omega) (by omega)) (f1 141 37 (by omega) (by omega)) (f2 65 (by omega) (by omega)) (f2 159 (by omega) (by omega))
theorem op_feed (Z : mX) (s : mS) (hI : Inv s) (v1 v2 v3 v4 v5 : Int) : OpI Z s 143 228 [.inl v1, .inl v2, .inl v3, .inl v4, .inl v5] := by
  obtain ⟨t1, t2, t3, t4, t5⟩ := hI.2.2.2.2.1
  have hT : TB s s := ⟨t1, t2, t3, t4⟩
  by_cases hn : 900 < s.1 5 4 + 20
  · refine ⟨-1, s, s, fun f => ?_, fun f => ?_, hI⟩
    · rw [B_X11_feed]
      simp (disch := first | assumption | omega) only [↓sm, ↓reduceIte, ↓if_pos, ↓if_neg, kI, kJ, kR, kV, w32_eq, w64_eq, reduceCtorEq, Int.reduceAdd, Int.reduceMul, Int.reduceSub, o_c3, ↓o_g3_0, ↓o_g3_1, ↓o_g3_2, ↓o_g3_3, ↓o_g3_4, ↓o_g3_5, ↓o_g3_6, ↓o_g3_7, ↓o_g3_8, ↓o_g3_9, ↓o_g3_10, ↓o_g3_11, ↓o_g3_12, ↓o_g3_13, ↓o_g3_14, ↓o_g3_15, ↓o_g3_16, ↓o_g3_17, ↓a_ln4, ↓a_ld4, ↓a_ln61, ↓a_ld61, ↓a_ln62, ↓a_ld62, o_c5, B_X7_hasRoom, ↓o_g5_4]
    · rw [B_X12_feed]
      simp (disch := first | assumption | omega) only [↓sm, ↓reduceIte, ↓if_pos, ↓if_neg, kI, kJ, kR, kV, w32_eq, w64_eq, reduceCtorEq, Int.reduceAdd, Int.reduceMul, Int.reduceSub, ↓o_g141_10]
  · obtain ⟨c1, r1, h1, n1⟩ := b_four Z s (c4 (c4 (c4 (c4 (c4 s v1) v2) v3) v4) v5) v1 ⟨by rw [(c4_Ag (c4_Ag (c4_Ag (c4_Ag (c4_Ag (Ag_refl cxA cxF s) _) _) _) _) _).2 141 10 (by unfold cxF; omega)]; exact t1, t2, t3, fun j j0 j1 => by rw [(c4_Ag (c4_Ag (c4_Ag (c4_Ag (c4_Ag (Ag_refl cxA cxF s) _) _) _) _) _).1 147 (by unfold cxA; omega)]; exact t4 j j0 j1⟩ (by omega)
    obtain ⟨c2, r2, h2, n2⟩ := b_four Z _ _ v2 h1 (by omega)
    obtain ⟨c3, r3, h3, n3⟩ := b_four Z _ _ v3 h2 (by omega)
    obtain ⟨c4', r4', h4, n4⟩ := b_four Z _ _ v4 h3 (by omega)
    obtain ⟨c5, r5, h5, n5⟩ := b_four Z _ _ v5 h4 (by omega)
    have q1 := h5.1
    refine ⟨s.1 5 4 + 20, c4 (c4 (c4 (c4 (c4 s v1) v2) v3) v4) v5, r4 (r4 (r4 (r4 (r4 (c4 (c4 (c4 (c4 (c4 s v1) v2) v3) v4) v5) v1) v2) v3) v4) v5, fun f => ?_, fun f => ?_, inv_tx hI (c4_Ag (c4_Ag (c4_Ag (c4_Ag (c4_Ag (Ag_refl cxA cxF s) v1) v2) v3) v4) v5) (r4_Ag (r4_Ag (r4_Ag (r4_Ag (r4_Ag (Ag_refl rxA rxF (c4 (c4 (c4 (c4 (c4 s v1) v2) v3) v4) v5)) v1) v2) v3) v4) v5) h5⟩
    · rw [B_X11_feed]
      simp (disch := first | assumption | omega) only [↓sm, ↓reduceIte, ↓if_pos, ↓if_neg, kI, kJ, kR, kV, w32_eq, w64_eq, reduceCtorEq, Int.reduceAdd, Int.reduceMul, Int.reduceSub, o_c3, ↓o_g3_0, ↓o_g3_1, ↓o_g3_2, ↓o_g3_3, ↓o_g3_4, ↓o_g3_5, ↓o_g3_6, ↓o_g3_7, ↓o_g3_8, ↓o_g3_9, ↓o_g3_10, ↓o_g3_11, ↓o_g3_12, ↓o_g3_13, ↓o_g3_14, ↓o_g3_15, ↓o_g3_16, ↓o_g3_17, ↓a_ln4, ↓a_ld4, ↓a_ln61, ↓a_ld61, ↓a_ln62, ↓a_ld62, o_c5, B_X7_hasRoom, ↓o_g5_4, ↓c1, ↓c2, ↓c3, ↓c4', ↓c5]
      rw [show (c4 (c4 (c4 (c4 (c4 s v1) v2) v3) v4) v5).1 5 4 = s.1 5 4 + 20 by omega]
    · have e : (c4 (c4 (c4 (c4 (c4 s v1) v2) v3) v4) v5).1 141 10 = s.1 5 4 := by
        rw [(c4_Ag (c4_Ag (c4_Ag (c4_Ag (c4_Ag (Ag_refl cxA cxF s) _) _) _) _) _).2 141 10 (by unfold cxF; omega)]; exact t1.symm
      rw [B_X12_feed]
      simp (disch := first | assumption | omega) only [↓sm, ↓reduceIte, ↓if_pos, ↓if_neg, kI, kJ, kR, kV, w32_eq, w64_eq, reduceCtorEq, Int.reduceAdd, Int.reduceMul, Int.reduceSub, o_c141, ↓o_g141_10, e, ↓r1, ↓r2, ↓r3, ↓r4', ↓r5]
      rw [show (r4 (r4 (r4 (r4 (r4 (c4 (c4 (c4 (c4 (c4 s v1) v2) v3) v4) v5) v1) v2) v3) v4) v5).1 141 10 = s.1 5 4 + 20 by omega]
theorem op_fault (Z : mX) (s : mS) (hI : Inv s) (a : Int) : OpI Z s 146 244 [.inl a] := by
  obtain ⟨t1, t2, t3, t4, t5, t6⟩ := hI.2.2.2.2.1
  by_cases h0 : a = 0
  · refine ⟨s.1 5 9, s, s, fun f => ?_, fun f => ?_, hI⟩
    · rw [B_X11_fault]
      simp (disch := first | assumption | omega) only [↓sm, ↓reduceIte, ↓if_pos, ↓if_neg, kI, kJ, kR, kV, w32_eq, w64_eq, reduceCtorEq, Int.reduceAdd, Int.reduceMul, Int.reduceSub, o_c3, ↓o_g3_0, ↓o_g3_1, ↓o_g3_2, ↓o_g3_3, ↓o_g3_4, ↓o_g3_5, ↓o_g3_6, ↓o_g3_7, ↓o_g3_8, ↓o_g3_9, ↓o_g3_10, ↓o_g3_11, ↓o_g3_12, ↓o_g3_13, ↓o_g3_14, ↓o_g3_15, ↓o_g3_16, ↓o_g3_17, ↓a_ln4, ↓a_ld4, ↓a_ln61, ↓a_ld61, ↓a_ln62, ↓a_ld62, h0, ↓o_g5_9]
    · rw [B_X12_fault]
      simp (disch := first | assumption | omega) only [↓sm, ↓reduceIte, ↓if_pos, ↓if_neg, kI, kJ, kR, kV, w32_eq, w64_eq, reduceCtorEq, Int.reduceAdd, Int.reduceMul, Int.reduceSub, h0, ↓o_g141_16, t5]
  by_cases h1 : a = 1
  · refine ⟨s.1 5 10, s, s, fun f => ?_, fun f => ?_, hI⟩
    · rw [B_X11_fault]
      simp (disch := first | assumption | omega) only [↓sm, ↓reduceIte, ↓if_pos, ↓if_neg, kI, kJ, kR, kV, w32_eq, w64_eq, reduceCtorEq, Int.reduceAdd, Int.reduceMul, Int.reduceSub, o_c3, ↓o_g3_0, ↓o_g3_1, ↓o_g3_2, ↓o_g3_3, ↓o_g3_4, ↓o_g3_5, ↓o_g3_6, ↓o_g3_7, ↓o_g3_8, ↓o_g3_9, ↓o_g3_10, ↓o_g3_11, ↓o_g3_12, ↓o_g3_13, ↓o_g3_14, ↓o_g3_15, ↓o_g3_16, ↓o_g3_17, ↓a_ln4, ↓a_ld4, ↓a_ln61, ↓a_ld61, ↓a_ln62, ↓a_ld62, h1, ↓o_g5_10]
    · rw [B_X12_fault]
      simp (disch := first | assumption | omega) only [↓sm, ↓reduceIte, ↓if_pos, ↓if_neg, kI, kJ, kR, kV, w32_eq, w64_eq, reduceCtorEq, Int.reduceAdd, Int.reduceMul, Int.reduceSub, h1, ↓o_g141_17, t6]
  refine ⟨-1, s, s, fun f => ?_, fun f => ?_, hI⟩
  · rw [B_X11_fault]
    simp (disch := first | assumption | omega) only [↓sm, ↓reduceIte, ↓if_pos, ↓if_neg, kI, kJ, kR, kV, w32_eq, w64_eq, reduceCtorEq, Int.reduceAdd, Int.reduceMul, Int.reduceSub, h0, h1]
  · rw [B_X12_fault]
    simp (disch := first | assumption | omega) only [↓sm, ↓reduceIte, ↓if_pos, ↓if_neg, kI, kJ, kR, kV, w32_eq, w64_eq, reduceCtorEq, Int.reduceAdd, Int.reduceMul, Int.reduceSub, h0, h1]
theorem op_lived (Z : mX) (s : mS) (hI : Inv s) (a : Int) : OpI Z s 186 359 [.inl a] := by
  obtain ⟨t1, t2, t3⟩ := hI.2.2.2.2.2.2.2
  by_cases ha : 0 ≤ a ∧ a ≤ 4
  · by_cases h0 : s.1 63 4 = 0
    · refine op_rdx hI (-1) 6 (fun f => ?_) (fun t e f => ?_)
      · rw [B_X11_lived]
        simp (disch := first | assumption | omega) only [↓sm, ↓reduceIte, ↓if_pos, ↓if_neg, kI, kJ, kR, kV, w32_eq, w64_eq, reduceCtorEq, Int.reduceAdd, Int.reduceMul, Int.reduceSub, o_c3, ↓o_g3_0, ↓o_g3_1, ↓o_g3_2, ↓o_g3_3, ↓o_g3_4, ↓o_g3_5, ↓o_g3_6, ↓o_g3_7, ↓o_g3_8, ↓o_g3_9, ↓o_g3_10, ↓o_g3_11, ↓o_g3_12, ↓o_g3_13, ↓o_g3_14, ↓o_g3_15, ↓o_g3_16, ↓o_g3_17, ↓a_ln4, ↓a_ld4, ↓a_ln61, ↓a_ld61, ↓a_ln62, ↓a_ld62, ↓d_none Z, ↓d_done Z, ↓d_refused Z, ↓d_granted Z, ↓k_isIn_t Z, ↓o_g63_4, h0]
      · have e4 : t.1 141 37 = 0 := by rw [e, uF_1, if_neg (by omega), ← t1]; exact h0
        rw [B_X12_lived]
        simp (disch := first | assumption | omega) only [↓sm, ↓reduceIte, ↓if_pos, ↓if_neg, kI, kJ, kR, kV, w32_eq, w64_eq, reduceCtorEq, Int.reduceAdd, Int.reduceMul, Int.reduceSub, o_c141, ↓d_refuse Z, ↓d_gives Z, ↓d_is0 Z, ↓d_is1 Z, ↓d_isFrom_t Z, ↓d_isFrom_f Z, ↓d_orNone_t Z, ↓d_orNone_f Z, ↓o_g141_37, e4]
    · refine op_rdx hI (s.2 65 a) 0 (fun f => ?_) (fun t e f => ?_)
      · rw [B_X11_lived]
        simp (disch := first | assumption | omega) only [↓sm, ↓reduceIte, ↓if_pos, ↓if_neg, kI, kJ, kR, kV, w32_eq, w64_eq, reduceCtorEq, Int.reduceAdd, Int.reduceMul, Int.reduceSub, o_c3, ↓o_g3_0, ↓o_g3_1, ↓o_g3_2, ↓o_g3_3, ↓o_g3_4, ↓o_g3_5, ↓o_g3_6, ↓o_g3_7, ↓o_g3_8, ↓o_g3_9, ↓o_g3_10, ↓o_g3_11, ↓o_g3_12, ↓o_g3_13, ↓o_g3_14, ↓o_g3_15, ↓o_g3_16, ↓o_g3_17, ↓a_ln4, ↓a_ld4, ↓a_ln61, ↓a_ld61, ↓a_ln62, ↓a_ld62, ↓d_none Z, ↓d_done Z, ↓d_refused Z, ↓d_granted Z, ↓k_isIn_t Z, ↓o_g63_4, ↓o_g63_3, h0, ↓g_65 Z]
      · have e4 : t.1 141 37 ≠ 0 := by rw [e, uF_1, if_neg (by omega), ← t1]; exact h0
        have e5 : t.2 159 a = s.2 65 a := by rw [e]; exact (t3 a (by omega) (by omega)).symm
        rw [B_X12_lived]
        simp (disch := first | assumption | omega) only [↓sm, ↓reduceIte, ↓if_pos, ↓if_neg, kI, kJ, kR, kV, w32_eq, w64_eq, reduceCtorEq, Int.reduceAdd, Int.reduceMul, Int.reduceSub, o_c141, ↓d_refuse Z, ↓d_gives Z, ↓d_is0 Z, ↓d_is1 Z, ↓d_isFrom_t Z, ↓d_isFrom_f Z, ↓d_orNone_t Z, ↓d_orNone_f Z, ↓o_g141_37, e4, ↓o_g141_36, ↓a_ld159, e5]
  · refine op_rd hI (-1) 1 (fun f => ?_) (fun t e f => ?_)
    · rw [B_X11_lived]
      simp (disch := first | assumption | omega) only [↓sm, ↓reduceIte, ↓if_pos, ↓if_neg, kI, kJ, kR, kV, w32_eq, w64_eq, reduceCtorEq, Int.reduceAdd, Int.reduceMul, Int.reduceSub, o_c3, ↓o_g3_0, ↓o_g3_1, ↓o_g3_2, ↓o_g3_3, ↓o_g3_4, ↓o_g3_5, ↓o_g3_6, ↓o_g3_7, ↓o_g3_8, ↓o_g3_9, ↓o_g3_10, ↓o_g3_11, ↓o_g3_12, ↓o_g3_13, ↓o_g3_14, ↓o_g3_15, ↓o_g3_16, ↓o_g3_17, ↓a_ln4, ↓a_ld4, ↓a_ln61, ↓a_ld61, ↓a_ln62, ↓a_ld62, ↓d_none Z, ↓d_done Z, ↓d_refused Z, ↓d_granted Z, ↓k_isIn_f Z]
    · rw [B_X12_lived]
      by_cases h0 : a < 0
      · simp (disch := first | assumption | omega) only [↓sm, ↓reduceIte, ↓if_pos, ↓if_neg, kI, kJ, kR, kV, w32_eq, w64_eq, reduceCtorEq, Int.reduceAdd, Int.reduceMul, Int.reduceSub, o_c141, ↓d_refuse Z, ↓d_gives Z, ↓d_is0 Z, ↓d_is1 Z, ↓d_isFrom_t Z, ↓d_isFrom_f Z, ↓d_orNone_t Z, ↓d_orNone_f Z]
      · simp (disch := first | assumption | omega) only [↓sm, ↓reduceIte, ↓if_pos, ↓if_neg, kI, kJ, kR, kV, w32_eq, w64_eq, reduceCtorEq, Int.reduceAdd, Int.reduceMul, Int.reduceSub, o_c141, ↓d_refuse Z, ↓d_gives Z, ↓d_is0 Z, ↓d_is1 Z, ↓d_isFrom_t Z, ↓d_isFrom_f Z, ↓d_orNone_t Z, ↓d_orNone_f Z]
