/-! lessons told ahead, in a row; a new name -/
set_option maxRecDepth 100000 in
set_option maxHeartbeats 4000000 in
theorem B_L0 (Z : mX) (a1 : Int) (z : Option mV) (w : mW) : mm_at (zP Z) 256 0 [some (.inr (.inr (some 141))), some (.inl a1), z] [] w = mm_run (zP Z) 256 [.inr (.inr (some 141)), .inl a1] w := by
  rw [B_X12_lessonsTo]
  exact (mm_V_eq (P := zP Z) (y := 256) z_cd256 [0] 37 0 _ [] w).trans rfl
theorem pc_or : ∀ x : Nat, x < 128 → ∀ k : Nat, k < 7 → tb (x : Int) k = false → 0 ≤ mm_ior (x : Int) (mm_ishl 1 (k : Int)) ∧ mm_ior (x : Int) (mm_ishl 1 (k : Int)) < 128 ∧ pc (mm_ior (x : Int) (mm_ishl 1 (k : Int))) = pc (x : Int) + 1 := by decide +kernel
def LsI (m x i : Int) : Prop := 0 ≤ x ∧ x < 128 ∧ pc x = i ∧ ∀ j : Nat, m ≤ j → tb x j = false
theorem LsI_0 {m : Int} : LsI m 0 0 := ⟨by omega, by omega, rfl, fun j _ => tb_0 j⟩
theorem LsI_or {m x i k : Int} (h : LsI m x i) (k0 : 0 ≤ k) (k1 : k < m) (m7 : m ≤ 7) (hb : tb x k.toNat = false) : LsI m (mm_ior x (mm_ishl 1 k)) (i + 1) := by
  obtain ⟨h0, h1, h2, h3⟩ := h
  have := pc_or x.toNat (by omega) k.toNat (by omega) (by rw [Int.toNat_of_nonneg h0]; exact hb)
  rw [Int.toNat_of_nonneg h0, Int.toNat_of_nonneg k0] at this
  refine ⟨this.1, this.2.1, by rw [this.2.2, h2], fun j hj => ?_⟩
  rw [tb_or, tb_shl1 k0 (by omega), h3 j hj]
  simp
  omega
theorem LsI_7 {m x i : Int} (h : LsI m x i) : 0 ≤ i ∧ i ≤ 7 := by
  have := pc_r h.1 h.2.1
  rw [h.2.2.1] at this
  exact this
theorem up_up2 {S : Int → Int} {i v w : Int} : mm_upd (mm_upd S i v) i w = mm_upd S i w := by
  funext j
  unfold mm_upd
  split <;> rfl
theorem cp_k {s0 s : mS} {b : Int → Int} {n : Int} {T : mT} {G H : Int → Int} {th od gr : Int} (h : CP s0 b n T G H th od gr s) : s.1 5 5 = tK T ∧ s.1 5 3 = tF T ∧ (tK T = 2 ∨ tK T = 5 ∨ tK T = 6 → s.1 5 6 = tV T) ∧ (tK T = 3 → s.1 5 7 = tW T) ∧ s.1 40 6 = shG G 2 ∧ s.1 40 10 = shG G 3 :=
  ⟨h.1.2.2.2.2.1, h.1.2.2.2.1, h.1.2.2.2.2.2.1, h.1.2.2.2.2.2.2, h.2.1.1.2.2.2.2.1, h.2.1.1.2.2.2.2.2⟩
theorem cp_fdl {s0 s : mS} {b : Int → Int} {n : Int} {T : mT} {G H : Int → Int} {th od gr : Int} (h : CP s0 b n T G H th od gr s) {m W : Int} (hm : shG G 2 = m) (m0 : 0 ≤ m) : fd (s.2 45) W m m.toNat = fd (shN H) W m m.toNat :=
  fd_ext m.toNat (by omega) (fun k k0 k1 => (h.2.1.2.2.1 k k0 (by omega)).2.2)
theorem cp_fdp {s0 s : mS} {b : Int → Int} {n : Int} {T : mT} {G H : Int → Int} {th od gr : Int} (h : CP s0 b n T G H th od gr s) {q W : Int} (hq : shG G 3 = q) (q0 : 0 ≤ q) : fd (s.2 52) W q q.toNat = fd (fun p => shN H (7 + p)) W q q.toNat :=
  fd_ext q.toNat (by omega) (fun k k0 k1 => (h.2.1.2.2.2.1 k k0 (by omega)).2.2.2.2.2.2)
theorem rp_name (Z : mX) {t0 t : mS} {b : Int → Int} {n : Int} (hT : TB0 b n) {T : mT} (hk : TT b n T) {G H : Int → Int} {th od gr : Int} (h : RP t0 b n T G H th od gr t) (f : Int → mW → mO) : mm_kI (mm_run (zP Z) 241 [.inr (.inr (some 141)), .inr (.inr (some 1))] (mk t)) f = f (if tK T = 3 then 1 else 0) (mk t) := r_isName Z hT hk h.1 f
theorem tt_3 {b : Int → Int} {n : Int} {T : mT} (hk : TT b n T) (h3 : tK T = 3) : Tk b n (tF T) (tE T) 3 (tV T) (tW T) := by
  have := hk
  unfold TT at this
  rwa [h3] at this
theorem rt_3 {b : Int → Int} {n : Int} {T : mT} {t : mS} (h : RT1 b n T t) (h3 : tK T = 3) : RX b n (tF T) (tE T) 3 (tV T) t := by
  have := h
  unfold RT1 at this
  rwa [h3] at this
theorem rp_findl (Z : mX) {t0 t : mS} {b : Int → Int} {n : Int} (hT : TB0 b n) {T : mT} (hk : TT b n T) (h3 : tK T = 3) {G H : Int → Int} {th od gr : Int} (h : RP t0 b n T G H th od gr t) {m : Int} (m0 : 0 ≤ m) (m7 : m ≤ 7) (f : Int → mW → mO) : mm_kI (mm_run (zP Z) 243 [.inr (.inr (some 141)), .inl 48, .inl m] (mk t)) f = f (fd (shN H) (tW T) m m.toNat) (mk t) := by
  rw [r_find Z hT (tt_3 hk h3) (rt_3 h.1 h3) 48 m (by omega) m0 (by omega) f, h.2.2.1]
  rfl
theorem rp_findp (Z : mX) {t0 t : mS} {b : Int → Int} {n : Int} (hT : TB0 b n) {T : mT} (hk : TT b n T) (h3 : tK T = 3) {G H : Int → Int} {th od gr : Int} (h : RP t0 b n T G H th od gr t) {q : Int} (m0 : 0 ≤ q) (m7 : q ≤ 5) (f : Int → mW → mO) : mm_kI (mm_run (zP Z) 243 [.inr (.inr (some 141)), .inl 55, .inl q] (mk t)) f = f (fd (fun p => shN H (7 + p)) (tW T) q q.toNat) (mk t) := by
  have e : fd (fun k => H (55 + k)) (tW T) q q.toNat = fd (fun p => shN H (7 + p)) (tW T) q q.toNat := fd_ext q.toNat (by omega) (fun k _ _ => by
    unfold shN
    rw [show 48 + (7 + k) = 55 + k by omega])
  rw [r_find Z hT (tt_3 hk h3) (rt_3 h.1 h3) 55 q (by omega) m0 (by omega) f, h.2.2.1, e]
/-- the loop over lessons told ahead: m of them are there, x those told so far -/
theorem less_loop (Z : mX) {s0 : mS} {b : Int → Int} {n : Int} (hT : TB0 b n) {G0 H0 Gc Hc H : Int → Int} {th od gr m row : Int} (m0 : 0 ≤ m) (m7 : m ≤ 7) (hm : shG Gc 2 = m) (hH : ∀ k, 0 ≤ k → k < m → shN H k = shN Hc k) (r0 : 1948 ≤ row) (r1 : row < 2464) : ∀ d : Nat, ∀ (T : mT) (G : Int → Int) (x i : Int), (7 - i).toNat = d → TT b n T → LsI m x i → G row = x → G 1890 = m → Lo G0 H0 G H →
    (∃ kd pl, 1 ≤ kd ∧ (∀ s, CP s0 b n T Gc Hc th od gr s → s.1 39 6 = x → ∃ s', mm_at (zP Z) 89 15 [some (.inr (.inr (some 39))), none, some (.inl i), none] [] (mk s) = some (some (.inl 0), mk s') ∧ CFl s0 kd pl s') ∧
      (∀ t0 t, RP t0 b n T G H th od gr t → ∃ t', (∀ f : Int → mW → mO, mm_kI (mm_run (zP Z) 256 [.inr (.inr (some 141)), .inl row] (mk t)) f = f 0 (mk t')) ∧ RFl t0 G0 H0 kd pl t')) ∨
    (∃ T' y, tF T ≤ tF T' ∧ TT b n T' ∧ (∃ j, LsI m y j) ∧ (∀ s, CP s0 b n T Gc Hc th od gr s → s.1 39 6 = x → ∃ s', mm_at (zP Z) 89 15 [some (.inr (.inr (some 39))), none, some (.inl i), none] [] (mk s) = some (some (.inl 1), mk s') ∧ CP s0 b n T' Gc Hc th od gr s' ∧ s'.1 39 6 = y ∧ s'.1 39 5 = s.1 39 5) ∧
      (∀ t0 t, RP t0 b n T G H th od gr t → ∃ t', (∀ f : Int → mW → mO, mm_kI (mm_run (zP Z) 256 [.inr (.inr (some 141)), .inl row] (mk t)) f = f 1 (mk t')) ∧ RP t0 b n T' (mm_upd G row y) H th od gr t')) := by
  intro d
  induction d with
  | zero =>
    intro T G x i hd hk hx hG hG2 hL
    obtain ⟨i0, i7⟩ := LsI_7 hx
    by_cases hK : tK T = 3
    · -- all there are told
      have hfx : fd (shN Hc) (tW T) m m.toNat = fd (shN H) (tW T) m m.toNat := fd_ext m.toNat (by omega) (fun k k0 k1 => (hH k k0 k1).symm)
      rcases fd_r (g := shN Hc) (W := tW T) m.toNat (show (m.toNat : Int) ≤ m by omega) with hf | ⟨f0, f1⟩
      · refine Or.inl ⟨3, tF T, by omega, fun s h e6 => ?_, fun t0 t h => ?_⟩
        · obtain ⟨ek, ef, -, ew, e46, -⟩ := cp_k h
          have ew := ew hK
          obtain ⟨s', a, c⟩ := cp_fails Z h 3
          refine ⟨s', ?_, c⟩
          have cl := fun f => c_less Z (e46.trans hm) m0 m7 (tW T) f
          rw [cp_fdl h hm m0, hf] at cl
          rw [B_X6_takesLessonsBehind_15]
          simp (disch := first | assumption | omega) only [↓sm, ↓reduceIte, ↓if_pos, ↓if_neg, kI, kJ, kR, kV, w32_eq, w64_eq, reduceCtorEq, Int.reduceAdd, Int.reduceMul, Int.reduceSub, o_c39, ↓o_g39_0, ↓o_g39_1, ↓o_g39_2, ↓o_g39_3, ↓o_g39_4, ↓o_g39_5, ↓o_g39_6, o_c5, ↓o_g5_0, ↓o_g5_1, ↓o_g5_2, ↓o_g5_3, ↓o_g5_4, ↓o_g5_5, ↓o_g5_6, ↓o_g5_7, ↓o_g5_8, ↓o_g5_9, ↓o_g5_10, ↓a_ln6, ↓a_ld6, o_c40, ek, hK, ew, ↓cl, ↓a]
        · obtain ⟨t', a, c⟩ := rp_fails Z hk h hL (k := 3) (by omega)
          refine ⟨t', fun f => ?_, c⟩
          have cn := fun f => rp_name Z hT hk h f
          have cf := fun f => rp_findl Z hT hk hK h m0 m7 f
          rw [← hfx, hf] at cf
          rw [if_pos hK] at cn
          rw [B_X12_lessonsTo]
          simp (disch := first | assumption | omega) only [↓sm, ↓reduceIte, ↓if_pos, ↓if_neg, kI, kJ, kR, kV, w32_eq, w64_eq, reduceCtorEq, Int.reduceAdd, Int.reduceMul, Int.reduceSub, o_c141, ↓o_g141_0, ↓o_g141_1, ↓o_g141_5, ↓o_g141_6, ↓o_g141_7, ↓o_g141_8, ↓o_g141_9, ↓o_g141_21, ↓o_g141_25, ↓o_g141_26, ↓o_g141_27, ↓o_g141_28, ↓o_g141_29, ↓o_g141_30, ↓o_g141_31, ↓o_g141_34, ↓o_g141_35, ↓o_g141_36, ↓cn, ↓r_at h.2.1, hG2, ↓cf, ↓a]
      · generalize hkk : fd (shN Hc) (tW T) m m.toNat = k at *
        by_cases hb : tb x k.toNat = true
        · refine Or.inl ⟨5, tF T, by omega, fun s h e6 => ?_, fun t0 t h => ?_⟩
          · obtain ⟨ek, ef, -, ew, e46, -⟩ := cp_k h
            have ew := ew hK
            obtain ⟨s', a, c⟩ := cp_fails Z h 5
            refine ⟨s', ?_, c⟩
            have cl := fun f => c_less Z (e46.trans hm) m0 m7 (tW T) f
            rw [cp_fdl h hm m0, hkk] at cl
            have n1 : ¬ k = -1 := by omega
            rw [B_X6_takesLessonsBehind_15]
            simp (disch := first | assumption | omega) only [↓sm, ↓reduceIte, ↓if_pos, ↓if_neg, kI, kJ, kR, kV, w32_eq, w64_eq, reduceCtorEq, Int.reduceAdd, Int.reduceMul, Int.reduceSub, o_c39, ↓o_g39_0, ↓o_g39_1, ↓o_g39_2, ↓o_g39_3, ↓o_g39_4, ↓o_g39_5, ↓o_g39_6, o_c5, ↓o_g5_0, ↓o_g5_1, ↓o_g5_2, ↓o_g5_3, ↓o_g5_4, ↓o_g5_5, ↓o_g5_6, ↓o_g5_7, ↓o_g5_8, ↓o_g5_9, ↓o_g5_10, ↓a_ln6, ↓a_ld6, o_c40, ek, hK, ew, ↓cl, e6, k_has Z, hb, b2i_0, Bool.true_eq_false, ↓a]
          · obtain ⟨t', a, c⟩ := rp_fails Z hk h hL (k := 5) (by omega)
            refine ⟨t', fun f => ?_, c⟩
            have cn := fun f => rp_name Z hT hk h f
            have cf := fun f => rp_findl Z hT hk hK h m0 m7 f
            rw [← hfx] at cf
            rw [if_pos hK] at cn
            have n1 : ¬ k = -1 := by omega
            rw [B_X12_lessonsTo]
            simp (disch := first | assumption | omega) only [↓sm, ↓reduceIte, ↓if_pos, ↓if_neg, kI, kJ, kR, kV, w32_eq, w64_eq, reduceCtorEq, Int.reduceAdd, Int.reduceMul, Int.reduceSub, o_c141, ↓o_g141_0, ↓o_g141_1, ↓o_g141_5, ↓o_g141_6, ↓o_g141_7, ↓o_g141_8, ↓o_g141_9, ↓o_g141_21, ↓o_g141_25, ↓o_g141_26, ↓o_g141_27, ↓o_g141_28, ↓o_g141_29, ↓o_g141_30, ↓o_g141_31, ↓o_g141_34, ↓o_g141_35, ↓o_g141_36, ↓cn, ↓r_at h.2.1, hG2, ↓cf, hG, r_isIn Z, hb, b2i_0, Bool.true_eq_false, ↓a]
        · have := LsI_7 (LsI_or hx f0 f1 m7 (by simpa using hb))
          omega
    · refine Or.inr ⟨T, x, by omega, hk, ⟨i, hx⟩, fun s h e6 => ⟨s, ?_, h, e6, rfl⟩, fun t0 t h => ⟨t, fun f => ?_, ?_⟩⟩
      · obtain ⟨ek, -⟩ := cp_k h
        rw [B_X6_takesLessonsBehind_15]
        simp (disch := first | assumption | omega) only [↓sm, ↓reduceIte, ↓if_pos, ↓if_neg, kI, kJ, kR, kV, w32_eq, w64_eq, reduceCtorEq, Int.reduceAdd, Int.reduceMul, Int.reduceSub, o_c39, ↓o_g39_0, ↓o_g39_1, ↓o_g39_2, ↓o_g39_3, ↓o_g39_4, ↓o_g39_5, ↓o_g39_6, o_c5, ↓o_g5_0, ↓o_g5_1, ↓o_g5_2, ↓o_g5_3, ↓o_g5_4, ↓o_g5_5, ↓o_g5_6, ↓o_g5_7, ↓o_g5_8, ↓o_g5_9, ↓o_g5_10, ↓a_ln6, ↓a_ld6, ek, hK]
      · have cn := fun f => rp_name Z hT hk h f
        rw [if_neg hK] at cn
        rw [B_X12_lessonsTo]
        simp (disch := first | assumption | omega) only [↓sm, ↓reduceIte, ↓if_pos, ↓if_neg, kI, kJ, kR, kV, w32_eq, w64_eq, reduceCtorEq, Int.reduceAdd, Int.reduceMul, Int.reduceSub, o_c141, ↓o_g141_0, ↓o_g141_1, ↓o_g141_5, ↓o_g141_6, ↓o_g141_7, ↓o_g141_8, ↓o_g141_9, ↓o_g141_21, ↓o_g141_25, ↓o_g141_26, ↓o_g141_27, ↓o_g141_28, ↓o_g141_29, ↓o_g141_30, ↓o_g141_31, ↓o_g141_34, ↓o_g141_35, ↓o_g141_36, ↓cn]
      · rw [up_id hG]; exact h
  | succ d ih =>
    intro T G x i hd hk hx hG hG2 hL
    obtain ⟨i0, i7⟩ := LsI_7 hx
    by_cases hK : tK T = 3
    · have hfx : fd (shN Hc) (tW T) m m.toNat = fd (shN H) (tW T) m m.toNat := fd_ext m.toNat (by omega) (fun k k0 k1 => (hH k k0 k1).symm)
      rcases fd_r (g := shN Hc) (W := tW T) m.toNat (show (m.toNat : Int) ≤ m by omega) with hf | ⟨f0, f1⟩
      · refine Or.inl ⟨3, tF T, by omega, fun s h e6 => ?_, fun t0 t h => ?_⟩
        · obtain ⟨ek, ef, -, ew, e46, -⟩ := cp_k h
          have ew := ew hK
          obtain ⟨s', a, c⟩ := cp_fails Z h 3
          refine ⟨s', ?_, c⟩
          have cl := fun f => c_less Z (e46.trans hm) m0 m7 (tW T) f
          rw [cp_fdl h hm m0, hf] at cl
          rw [B_X6_takesLessonsBehind_15]
          simp (disch := first | assumption | omega) only [↓sm, ↓reduceIte, ↓if_pos, ↓if_neg, kI, kJ, kR, kV, w32_eq, w64_eq, reduceCtorEq, Int.reduceAdd, Int.reduceMul, Int.reduceSub, o_c39, ↓o_g39_0, ↓o_g39_1, ↓o_g39_2, ↓o_g39_3, ↓o_g39_4, ↓o_g39_5, ↓o_g39_6, o_c5, ↓o_g5_0, ↓o_g5_1, ↓o_g5_2, ↓o_g5_3, ↓o_g5_4, ↓o_g5_5, ↓o_g5_6, ↓o_g5_7, ↓o_g5_8, ↓o_g5_9, ↓o_g5_10, ↓a_ln6, ↓a_ld6, o_c40, ek, hK, ew, ↓cl, ↓a]
        · obtain ⟨t', a, c⟩ := rp_fails Z hk h hL (k := 3) (by omega)
          refine ⟨t', fun f => ?_, c⟩
          have cn := fun f => rp_name Z hT hk h f
          have cf := fun f => rp_findl Z hT hk hK h m0 m7 f
          rw [← hfx, hf] at cf
          rw [if_pos hK] at cn
          rw [B_X12_lessonsTo]
          simp (disch := first | assumption | omega) only [↓sm, ↓reduceIte, ↓if_pos, ↓if_neg, kI, kJ, kR, kV, w32_eq, w64_eq, reduceCtorEq, Int.reduceAdd, Int.reduceMul, Int.reduceSub, o_c141, ↓o_g141_0, ↓o_g141_1, ↓o_g141_5, ↓o_g141_6, ↓o_g141_7, ↓o_g141_8, ↓o_g141_9, ↓o_g141_21, ↓o_g141_25, ↓o_g141_26, ↓o_g141_27, ↓o_g141_28, ↓o_g141_29, ↓o_g141_30, ↓o_g141_31, ↓o_g141_34, ↓o_g141_35, ↓o_g141_36, ↓cn, ↓r_at h.2.1, hG2, ↓cf, ↓a]
      · generalize hkk : fd (shN Hc) (tW T) m m.toNat = k at *
        have n1 : ¬ k = -1 := by omega
        by_cases hb : tb x k.toNat = true
        · refine Or.inl ⟨5, tF T, by omega, fun s h e6 => ?_, fun t0 t h => ?_⟩
          · obtain ⟨ek, ef, -, ew, e46, -⟩ := cp_k h
            have ew := ew hK
            obtain ⟨s', a, c⟩ := cp_fails Z h 5
            refine ⟨s', ?_, c⟩
            have cl := fun f => c_less Z (e46.trans hm) m0 m7 (tW T) f
            rw [cp_fdl h hm m0, hkk] at cl
            rw [B_X6_takesLessonsBehind_15]
            simp (disch := first | assumption | omega) only [↓sm, ↓reduceIte, ↓if_pos, ↓if_neg, kI, kJ, kR, kV, w32_eq, w64_eq, reduceCtorEq, Int.reduceAdd, Int.reduceMul, Int.reduceSub, o_c39, ↓o_g39_0, ↓o_g39_1, ↓o_g39_2, ↓o_g39_3, ↓o_g39_4, ↓o_g39_5, ↓o_g39_6, o_c5, ↓o_g5_0, ↓o_g5_1, ↓o_g5_2, ↓o_g5_3, ↓o_g5_4, ↓o_g5_5, ↓o_g5_6, ↓o_g5_7, ↓o_g5_8, ↓o_g5_9, ↓o_g5_10, ↓a_ln6, ↓a_ld6, o_c40, ek, hK, ew, ↓cl, e6, k_has Z, hb, b2i_0, Bool.true_eq_false, ↓a]
          · obtain ⟨t', a, c⟩ := rp_fails Z hk h hL (k := 5) (by omega)
            refine ⟨t', fun f => ?_, c⟩
            have cn := fun f => rp_name Z hT hk h f
            have cf := fun f => rp_findl Z hT hk hK h m0 m7 f
            rw [← hfx] at cf
            rw [if_pos hK] at cn
            rw [B_X12_lessonsTo]
            simp (disch := first | assumption | omega) only [↓sm, ↓reduceIte, ↓if_pos, ↓if_neg, kI, kJ, kR, kV, w32_eq, w64_eq, reduceCtorEq, Int.reduceAdd, Int.reduceMul, Int.reduceSub, o_c141, ↓o_g141_0, ↓o_g141_1, ↓o_g141_5, ↓o_g141_6, ↓o_g141_7, ↓o_g141_8, ↓o_g141_9, ↓o_g141_21, ↓o_g141_25, ↓o_g141_26, ↓o_g141_27, ↓o_g141_28, ↓o_g141_29, ↓o_g141_30, ↓o_g141_31, ↓o_g141_34, ↓o_g141_35, ↓o_g141_36, ↓cn, ↓r_at h.2.1, hG2, ↓cf, hG, r_isIn Z, hb, b2i_0, Bool.true_eq_false, ↓a]
        · have hb : tb x k.toNat = false := by simpa using hb
          obtain ⟨T1, p1, hk1, N1, M1⟩ := nxt Z hT hk
          obtain ⟨-, -, -, -, -, -, -, tFE, -⟩ := tk_k hk
          have hx' := LsI_or hx f0 f1 m7 hb
          have i7' := LsI_7 hx'
          have C : ∀ s, CP s0 b n T Gc Hc th od gr s → s.1 39 6 = x → ∃ s', mm_at (zP Z) 89 15 [some (.inr (.inr (some 39))), none, some (.inl i), none] [] (mk s) = mm_at (zP Z) 89 15 [some (.inr (.inr (some 39))), none, some (.inl ((i + 1))), none] [] (mk s') ∧ CP s0 b n T1 Gc Hc th od gr s' ∧ s'.1 39 6 = mm_ior x (mm_ishl 1 k) ∧ s'.1 39 5 = s.1 39 5 := by
            intro s h e6
            obtain ⟨ek, ef, -, ew, e46, -⟩ := cp_k h
            have ew := ew hK
            have cl := fun f => c_less Z (e46.trans hm) m0 m7 (tW T) f
            rw [cp_fdl h hm m0, hkk] at cl
            obtain ⟨s', a, c, g⟩ := cp_adv N1 (cp_39' h (k := 6) (Or.inr rfl) (mm_ior x (mm_ishl 1 k)))
            refine ⟨s', ?_, c, by rw [g.2 39 6 (by unfold tyF; omega), uF_1, if_pos ⟨rfl, rfl⟩], by rw [g.2 39 5 (by unfold tyF; omega), uF_1, if_neg (by omega)]⟩
            conv => lhs; rw [B_X6_takesLessonsBehind_15]
            simp (disch := first | assumption | omega) only [↓sm, ↓reduceIte, ↓if_pos, ↓if_neg, kI, kJ, kR, kV, w32_eq, w64_eq, reduceCtorEq, Int.reduceAdd, Int.reduceMul, Int.reduceSub, o_c39, ↓o_g39_0, ↓o_g39_1, ↓o_g39_2, ↓o_g39_3, ↓o_g39_4, ↓o_g39_5, ↓o_g39_6, o_c5, ↓o_g5_0, ↓o_g5_1, ↓o_g5_2, ↓o_g5_3, ↓o_g5_4, ↓o_g5_5, ↓o_g5_6, ↓o_g5_7, ↓o_g5_8, ↓o_g5_9, ↓o_g5_10, ↓a_ln6, ↓a_ld6, o_c40, ek, hK, ew, ↓cl, e6, k_has Z, hb, b2i_0, k_bit Z, o_p39_6, a]
          have R : ∀ t0 t, RP t0 b n T G H th od gr t → ∃ t', (∀ f : Int → mW → mO, mm_kI (mm_run (zP Z) 256 [.inr (.inr (some 141)), .inl row] (mk t)) f = mm_kI (mm_run (zP Z) 256 [.inr (.inr (some 141)), .inl row] (mk t')) f) ∧ RP t0 b n T1 (mm_upd G row (mm_ior x (mm_ishl 1 k))) H th od gr t' := by
            intro t0 t h
            have cn := fun f => rp_name Z hT hk h f
            have cf := fun f => rp_findl Z hT hk hK h m0 m7 f
            rw [← hfx] at cf
            rw [if_pos hK] at cn
            obtain ⟨t', a, c⟩ := rp_adv M1 (rp_142 h row (mm_ior x (mm_ishl 1 k)))
            refine ⟨t', fun f => ?_, c⟩
            conv => lhs; rw [B_X12_lessonsTo]
            simp (disch := first | assumption | omega) only [↓sm, ↓reduceIte, ↓if_pos, ↓if_neg, kI, kJ, kR, kV, w32_eq, w64_eq, reduceCtorEq, Int.reduceAdd, Int.reduceMul, Int.reduceSub, o_c141, ↓o_g141_0, ↓o_g141_1, ↓o_g141_5, ↓o_g141_6, ↓o_g141_7, ↓o_g141_8, ↓o_g141_9, ↓o_g141_21, ↓o_g141_25, ↓o_g141_26, ↓o_g141_27, ↓o_g141_28, ↓o_g141_29, ↓o_g141_30, ↓o_g141_31, ↓o_g141_34, ↓o_g141_35, ↓o_g141_36, ↓cn, ↓r_at h.2.1, hG2, ↓cf, hG, r_isIn Z, hb, b2i_0, a_st142, a, B_L0 Z]
          rcases ih T1 (mm_upd G row (mm_ior x (mm_ishl 1 k))) (mm_ior x (mm_ishl 1 k)) (i + 1) (by omega) hk1 hx' (up_eq rfl) (by rw [up_ne (by omega)]; exact hG2) (Lo_up hL (by omega) _) with ⟨kd, pl, q0, q1, q2⟩ | ⟨T', y, q0, q1, q2, q3, q4⟩
          · refine Or.inl ⟨kd, pl, q0, fun s h e6 => ?_, fun t0 t h => ?_⟩
            · obtain ⟨s1, a1, c1, d1, -⟩ := C s h e6
              obtain ⟨s2, a2, c2⟩ := q1 s1 c1 d1
              exact ⟨s2, a1.trans a2, c2⟩
            · obtain ⟨t1, a1, c1⟩ := R t0 t h
              obtain ⟨t2, a2, c2⟩ := q2 t0 t1 c1
              exact ⟨t2, fun f => (a1 f).trans (a2 f), c2⟩
          · refine Or.inr ⟨T', y, by omega, q1, q2, fun s h e6 => ?_, fun t0 t h => ?_⟩
            · obtain ⟨s1, a1, c1, d1, d2⟩ := C s h e6
              obtain ⟨s2, a2, c2, d3, d4⟩ := q3 s1 c1 d1
              exact ⟨s2, a1.trans a2, c2, d3, d4.trans d2⟩
            · obtain ⟨t1, a1, c1⟩ := R t0 t h
              obtain ⟨t2, a2, c2⟩ := q4 t0 t1 c1
              rw [up_up2] at c2
              exact ⟨t2, fun f => (a1 f).trans (a2 f), c2⟩
    · refine Or.inr ⟨T, x, by omega, hk, ⟨i, hx⟩, fun s h e6 => ⟨s, ?_, h, e6, rfl⟩, fun t0 t h => ⟨t, fun f => ?_, ?_⟩⟩
      · obtain ⟨ek, -⟩ := cp_k h
        rw [B_X6_takesLessonsBehind_15]
        simp (disch := first | assumption | omega) only [↓sm, ↓reduceIte, ↓if_pos, ↓if_neg, kI, kJ, kR, kV, w32_eq, w64_eq, reduceCtorEq, Int.reduceAdd, Int.reduceMul, Int.reduceSub, o_c39, ↓o_g39_0, ↓o_g39_1, ↓o_g39_2, ↓o_g39_3, ↓o_g39_4, ↓o_g39_5, ↓o_g39_6, o_c5, ↓o_g5_0, ↓o_g5_1, ↓o_g5_2, ↓o_g5_3, ↓o_g5_4, ↓o_g5_5, ↓o_g5_6, ↓o_g5_7, ↓o_g5_8, ↓o_g5_9, ↓o_g5_10, ↓a_ln6, ↓a_ld6, ek, hK]
      · have cn := fun f => rp_name Z hT hk h f
        rw [if_neg hK] at cn
        rw [B_X12_lessonsTo]
        simp (disch := first | assumption | omega) only [↓sm, ↓reduceIte, ↓if_pos, ↓if_neg, kI, kJ, kR, kV, w32_eq, w64_eq, reduceCtorEq, Int.reduceAdd, Int.reduceMul, Int.reduceSub, o_c141, ↓o_g141_0, ↓o_g141_1, ↓o_g141_5, ↓o_g141_6, ↓o_g141_7, ↓o_g141_8, ↓o_g141_9, ↓o_g141_21, ↓o_g141_25, ↓o_g141_26, ↓o_g141_27, ↓o_g141_28, ↓o_g141_29, ↓o_g141_30, ↓o_g141_31, ↓o_g141_34, ↓o_g141_35, ↓o_g141_36, ↓cn]
      · rw [up_id hG]; exact h
