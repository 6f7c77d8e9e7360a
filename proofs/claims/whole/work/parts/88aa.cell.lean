/-! a cell that a pupil is at, what he wants: the reference -/
theorem rp_cellTo {Z : mX} {t0 t : mS} {b : Int → Int} {n : Int} {T T' : mT} (hk : TT b n T) {G H : Int → Int} {th od gr : Int} (hN : NR Z b n T T') (h : RP t0 b n T G H th od gr t) (w : WF (shG G)) {to : Int} (q0 : 0 ≤ to) (q1 : to < 2464) (hq : tK T = 5 ∧ 0 ≤ tV T ∧ tV T ≤ ncl (shG G) - 1) : ∃ t', (∀ f : Int → mW → mO, mm_kI (mm_run (zP Z) 255 [.inr (.inr (some 141)), .inl to] (mk t)) f = f 1 (mk t')) ∧ RP t0 b n T' (mm_upd G to (tV T)) H th od gr t' := by
  have nn := wf_n w
  obtain ⟨t', a, c⟩ := rp_num hk hN h (to := to) (l := 0) (m := ncl (shG G) - 1) q0 q1 hq
  have wn : mm_w32 (ncl (shG G) - 1) = ncl (shG G) - 1 := w32_eq (by omega) (by omega)
  rw [← wn] at a
  refine ⟨t', fun f => ?_, c⟩
  have rc := fun f => rp_cells h w Z f
  rw [B_X12_newCellTo]
  simp (disch := first | with_reducible assumption | omega) only [↓sm, ↓reduceIte, ↓if_pos, ↓if_neg, kI, kJ, kR, kV, w32_eq, w64_eq, reduceCtorEq, Int.reduceAdd, Int.reduceMul, Int.reduceSub, o_c141, ↓rc, ↓a]
theorem rp_cellTof (Z : mX) {t0 t : mS} {b : Int → Int} {n : Int} {T : mT} (hk : TT b n T) {G0 H0 G H : Int → Int} {th od gr : Int} (h : RP t0 b n T G H th od gr t) (hL : Lo G0 H0 G H) (w : WF (shG G)) {to : Int} (hq : ¬ (tK T = 5 ∧ 0 ≤ tV T ∧ tV T ≤ ncl (shG G) - 1)) : ∃ t', (∀ f : Int → mW → mO, mm_kI (mm_run (zP Z) 255 [.inr (.inr (some 141)), .inl to] (mk t)) f = f 0 (mk t')) ∧ RFl t0 G0 H0 (nkd T) (tF T) t' := by
  have nn := wf_n w
  obtain ⟨t', a, c⟩ := rp_numf Z hk h hL (to := to) (l := 0) (m := ncl (shG G) - 1) hq
  have wn : mm_w32 (ncl (shG G) - 1) = ncl (shG G) - 1 := w32_eq (by omega) (by omega)
  rw [← wn] at a
  refine ⟨t', fun f => ?_, c⟩
  have rc := fun f => rp_cells h w Z f
  rw [B_X12_newCellTo]
  simp (disch := first | with_reducible assumption | omega) only [↓sm, ↓reduceIte, ↓if_pos, ↓if_neg, kI, kJ, kR, kV, w32_eq, w64_eq, reduceCtorEq, Int.reduceAdd, Int.reduceMul, Int.reduceSub, o_c141, ↓rc, ↓a]
theorem rp_want_t {Z : mX} {t0 t : mS} {b : Int → Int} {n : Int} (hT : TB0 b n) {T T1 T2 : mT} (hk : TT b n T) (hk1 : TT b n T1) {G H : Int → Int} {th od gr : Int} (M0 : NR Z b n T T1) (M1 : NR Z b n T1 T2) (h : RP t0 b n T G H th od gr t) {to : Int} (q0 : 0 ≤ to) (q1 : to < 2464) (qw : tK T = 2 ∧ tV T = 10) (hq : tK T1 = 5 ∧ 0 ≤ tV T1 ∧ tV T1 ≤ 9) : ∃ t', (∀ f : Int → mW → mO, mm_kI (mm_run (zP Z) 251 [.inr (.inr (some 141)), .inl 10, .inl to, .inl 0, .inl 9, .inl 0] (mk t)) f = f 1 (mk t')) ∧ RP t0 b n T2 (mm_upd G to (tV T1)) H th od gr t' := by
  obtain ⟨t1, a1, c1⟩ := rp_there hT hk M0 h (w := 10) (k := 10) (by decide) (by omega) (by omega) qw
  obtain ⟨t2, a2, c2⟩ := rp_num hk1 M1 c1 (to := to) (l := 0) (m := 9) q0 q1 hq
  refine ⟨t2, fun f => ?_, c2⟩
  rw [B_X12_perhaps]
  simp (disch := first | with_reducible assumption | omega) only [↓sm, ↓reduceIte, ↓if_pos, ↓if_neg, kI, kJ, kR, kV, w32_eq, w64_eq, reduceCtorEq, Int.reduceAdd, Int.reduceMul, Int.reduceSub, o_c141, ↓a1, ↓a2]
theorem rp_want_f (Z : mX) {t0 t : mS} {b : Int → Int} {n : Int} (hT : TB0 b n) {T T1 : mT} (hk : TT b n T) (hk1 : TT b n T1) {G0 H0 G H : Int → Int} {th od gr : Int} (M0 : NR Z b n T T1) (h : RP t0 b n T G H th od gr t) (hL : Lo G0 H0 G H) {to : Int} (qw : tK T = 2 ∧ tV T = 10) (hq : ¬ (tK T1 = 5 ∧ 0 ≤ tV T1 ∧ tV T1 ≤ 9)) : ∃ t', (∀ f : Int → mW → mO, mm_kI (mm_run (zP Z) 251 [.inr (.inr (some 141)), .inl 10, .inl to, .inl 0, .inl 9, .inl 0] (mk t)) f = f 0 (mk t')) ∧ RFl t0 G0 H0 (nkd T1) (tF T1) t' := by
  obtain ⟨t1, a1, c1⟩ := rp_there hT hk M0 h (w := 10) (k := 10) (by decide) (by omega) (by omega) qw
  obtain ⟨t2, a2, c2⟩ := rp_numf Z hk1 c1 hL (to := to) (l := 0) (m := 9) hq
  refine ⟨t2, fun f => ?_, c2⟩
  rw [B_X12_perhaps]
  simp (disch := first | with_reducible assumption | omega) only [↓sm, ↓reduceIte, ↓if_pos, ↓if_neg, kI, kJ, kR, kV, w32_eq, w64_eq, reduceCtorEq, Int.reduceAdd, Int.reduceMul, Int.reduceSub, o_c141, ↓a1, ↓a2]
theorem rp_want_n (Z : mX) {t0 t : mS} {b : Int → Int} {n : Int} (hT : TB0 b n) {T : mT} (hk : TT b n T) {G H : Int → Int} {th od gr : Int} (h : RP t0 b n T G H th od gr t) {to : Int} (q0 : 0 ≤ to) (q1 : to < 2464) (qw : ¬ (tK T = 2 ∧ tV T = 10)) : ∃ t', (∀ f : Int → mW → mO, mm_kI (mm_run (zP Z) 251 [.inr (.inr (some 141)), .inl 10, .inl to, .inl 0, .inl 9, .inl 0] (mk t)) f = f 1 (mk t')) ∧ RP t0 b n T (mm_upd G to 0) H th od gr t' := by
  have nt := fun f => r_there_f Z hT hk h.1 (w := 10) (k := 10) (by decide) (by omega) (by omega) qw f
  refine ⟨uA t 142 to 0, fun f => ?_, rp_142 h to 0⟩
  rw [B_X12_perhaps]
  simp (disch := first | with_reducible assumption | omega) only [↓sm, ↓reduceIte, ↓if_pos, ↓if_neg, kI, kJ, kR, kV, w32_eq, w64_eq, reduceCtorEq, Int.reduceAdd, Int.reduceMul, Int.reduceSub, o_c141, ↓o_g141_0, ↓o_g141_1, ↓o_g141_5, ↓o_g141_6, ↓o_g141_7, ↓o_g141_8, ↓o_g141_9, ↓o_g141_21, ↓o_g141_25, ↓o_g141_26, ↓o_g141_27, ↓o_g141_28, ↓o_g141_29, ↓o_g141_30, ↓o_g141_31, ↓o_g141_34, ↓o_g141_35, ↓o_g141_36, ↓nt, ↓a_st142]
