/-! where the reading of a school stands: the class, the reference -/
def CP (s0 : mS) (b : Int → Int) (n : Int) (T : mT) (G H : Int → Int) (th od gr : Int) (s : mS) : Prop := CT b n T s ∧ CS s 40 (shG G) (shN H) ∧ s.1 39 2 = th ∧ s.1 39 3 = od ∧ s.1 39 4 = gr ∧ Ag pcA pcG s0 s
def RP (t0 : mS) (b : Int → Int) (n : Int) (T : mT) (G H : Int → Int) (th od gr : Int) (t : mS) : Prop := RT1 b n T t ∧ t.2 142 = G ∧ t.2 143 = H ∧ t.1 141 18 = 0 ∧ tb (t.1 141 20) 0 = decide (th = 1 ∨ gr = 1) ∧ tb (t.1 141 20) 1 = decide (od = 1) ∧ Ag prA prG t0 t
def RFl (t0 : mS) (G0 H0 : Int → Int) (kd pl : Int) (t : mS) : Prop := t.1 141 18 = kd ∧ t.1 141 17 = pl ∧ Ag prA prF t0 t ∧ (∀ j, j < 1888 → t.2 142 j = G0 j) ∧ (∀ j, j < 48 → t.2 143 j = H0 j)
theorem cp_fr {s0 s s' : mS} {b : Int → Int} {n : Int} {T T' : mT} {G H : Int → Int} {th od gr : Int} (h : CP s0 b n T G H th od gr s) (x : CT b n T' s') (g : Ag txA tyF s s') : CP s0 b n T' G H th od gr s' := by
  obtain ⟨h1, h2, h3, h4, h5, h6⟩ := h
  refine ⟨x, CS_fr h2 (fun k => g.2 40 k (by unfold tyF; omega)) (fun j _ _ => g.1 _ (fun x => x)), ?_, ?_, ?_, Ag_trans h6 (ty_pc g)⟩
  · rw [g.2 39 2 (by unfold tyF; omega)]; exact h3
  · rw [g.2 39 3 (by unfold tyF; omega)]; exact h4
  · rw [g.2 39 4 (by unfold tyF; omega)]; exact h5
theorem cp_39 {s0 s : mS} {b : Int → Int} {n : Int} {T : mT} {G H : Int → Int} {th od gr th' od' gr' : Int} (h : CP s0 b n T G H th od gr s) {k : Nat} {v : Int} (hk : (k = 2 ∧ th' = v ∧ od' = od ∧ gr' = gr) ∨ (k = 3 ∧ th' = th ∧ od' = v ∧ gr' = gr) ∨ (k = 4 ∧ th' = th ∧ od' = od ∧ gr' = v)) : CP s0 b n T G H th' od' gr' (uF s 39 k v) := by
  obtain ⟨h1, h2, h3, h4, h5, h6⟩ := h
  refine ⟨CT_fr h1 (fun k _ => by rw [uF_1, if_neg (by omega)]) rfl, CS_fr h2 (fun k => by rw [uF_1, if_neg (by omega)]) (fun j _ _ => rfl), ?_, ?_, ?_, Ag_uF (F := pcG) h6 (by unfold pcG; omega) _⟩
  all_goals
    rw [uF_1]
    rcases hk with ⟨rfl, rfl, rfl, rfl⟩ | ⟨rfl, rfl, rfl, rfl⟩ | ⟨rfl, rfl, rfl, rfl⟩ <;> simp <;> assumption
theorem cp_39' {s0 s : mS} {b : Int → Int} {n : Int} {T : mT} {G H : Int → Int} {th od gr : Int} (h : CP s0 b n T G H th od gr s) {k : Nat} (hk : k = 5 ∨ k = 6) (v : Int) : CP s0 b n T G H th od gr (uF s 39 k v) := by
  obtain ⟨h1, h2, h3, h4, h5, h6⟩ := h
  refine ⟨CT_fr h1 (fun k _ => by rw [uF_1, if_neg (by omega)]) rfl, CS_fr h2 (fun k => by rw [uF_1, if_neg (by omega)]) (fun j _ _ => rfl), ?_, ?_, ?_, Ag_uF (F := pcG) h6 (by unfold pcG; omega) _⟩
  · rw [uF_1, if_neg (by omega)]; exact h3
  · rw [uF_1, if_neg (by omega)]; exact h4
  · rw [uF_1, if_neg (by omega)]; exact h5
/-- the class's draft changed -/
theorem cp_40 {s0 s s' : mS} {b : Int → Int} {n : Int} {T : mT} {G H G' H' : Int → Int} {th od gr : Int} (h : CP s0 b n T G H th od gr s) (g : Ag (fun q => 41 ≤ q ∧ q ≤ 52) (fun q _ => q = 40) s s') (c : CS s' 40 (shG G') (shN H')) : CP s0 b n T G' H' th od gr s' := by
  obtain ⟨h1, h2, h3, h4, h5, h6⟩ := h
  refine ⟨CT_fr h1 (fun k _ => g.2 5 k (by omega)) (g.1 6 (by omega)), c, ?_, ?_, ?_, Ag_trans h6 (Ag_mono g (fun q hq => by unfold pcA; omega) (fun q k hq => by unfold pcG; omega))⟩
  · rw [g.2 39 2 (by omega)]; exact h3
  · rw [g.2 39 3 (by omega)]; exact h4
  · rw [g.2 39 4 (by omega)]; exact h5
theorem cp_adv {Z : mX} {s0 s : mS} {b : Int → Int} {n : Int} {T T' : mT} {G H : Int → Int} {th od gr : Int} (hN : NC Z b n T T') (h : CP s0 b n T G H th od gr s) : ∃ s', (∀ f : mW → mO, mm_kV (mm_run (zP Z) 94 [.inr (.inr (some 5))] (mk s)) f = f (mk s')) ∧ CP s0 b n T' G H th od gr s' ∧ Ag txA tyF s s' := by
  obtain ⟨s', a, x, g⟩ := hN s h.1
  exact ⟨s', a, cp_fr h x (tx_ty g), tx_ty g⟩
theorem cp_word {Z : mX} {s0 s : mS} {b : Int → Int} {n : Int} {T T' : mT} {G H : Int → Int} {th od gr : Int} (hN : NC Z b n T T') (h : CP s0 b n T G H th od gr s) {w : Int} (hq : tK T = 2 ∧ tV T = w) : ∃ s', (∀ f : Int → mW → mO, mm_kI (mm_run (zP Z) 105 [.inr (.inr (some 5)), .inl w] (mk s)) f = f 1 (mk s')) ∧ CP s0 b n T' G H th od gr s' ∧ Ag txA tyF s s' := by
  obtain ⟨s', a, x, g⟩ := c_word_t Z hN h.1 hq.1 hq.2
  exact ⟨s', a, cp_fr h x (tx_ty g), tx_ty g⟩
theorem cp_semi {Z : mX} {s0 s : mS} {b : Int → Int} {n : Int} {T T' : mT} {G H : Int → Int} {th od gr : Int} (hN : NC Z b n T T') (h : CP s0 b n T G H th od gr s) (hq : tK T = 6 ∧ tV T = 59) : ∃ s', (∀ f : Int → mW → mO, mm_kI (mm_run (zP Z) 106 [.inr (.inr (some 5))] (mk s)) f = f 1 (mk s')) ∧ CP s0 b n T' G H th od gr s' ∧ Ag txA tyF s s' := by
  obtain ⟨s', a, x, g⟩ := c_semi_t Z hN h.1 hq.1 hq.2
  exact ⟨s', a, cp_fr h x (tx_ty g), tx_ty g⟩
theorem cp_num {Z : mX} {s0 s : mS} {b : Int → Int} {n : Int} {T T' : mT} {G H : Int → Int} {th od gr : Int} (hN : NC Z b n T T') (h : CP s0 b n T G H th od gr s) {l m : Int} (hq : tK T = 5 ∧ l ≤ tV T ∧ tV T ≤ m) : ∃ s', (∀ f : Int → mW → mO, mm_kI (mm_run (zP Z) 107 [.inr (.inr (some 5)), .inl l, .inl m] (mk s)) f = f 1 (mk s')) ∧ CP s0 b n T' G H th od gr s' ∧ s'.1 5 8 = tV T ∧ Ag txA tyF s s' := by
  obtain ⟨s', a, x, y, g⟩ := c_num_t Z hN h.1 hq.1 hq.2.1 hq.2.2
  exact ⟨s', a, cp_fr h x g, y, g⟩
theorem cp_fails (Z : mX) {s0 s : mS} {b : Int → Int} {n : Int} {T : mT} {G H : Int → Int} {th od gr : Int} (h : CP s0 b n T G H th od gr s) (k : Int) : ∃ s', (∀ f : Int → mW → mO, mm_kI (mm_run (zP Z) 103 [.inr (.inr (some 5)), .inl k] (mk s)) f = f 0 (mk s')) ∧ CFl s0 k (tF T) s' := ⟨_, fun f => c_fails Z h.1 k f, CFl_mk h.2.2.2.2.2 _ _⟩
theorem cp_strays (Z : mX) {s0 s : mS} {b : Int → Int} {n : Int} {T : mT} {G H : Int → Int} {th od gr : Int} (h : CP s0 b n T G H th od gr s) : ∃ s', (∀ f : Int → mW → mO, mm_kI (mm_run (zP Z) 104 [.inr (.inr (some 5))] (mk s)) f = f 0 (mk s')) ∧ CFl s0 (fkd T) (tF T) s' := ⟨_, fun f => c_strays Z h.1 f, CFl_mk h.2.2.2.2.2 _ _⟩
theorem cp_wordf (Z : mX) {s0 s : mS} {b : Int → Int} {n : Int} {T : mT} {G H : Int → Int} {th od gr : Int} (h : CP s0 b n T G H th od gr s) {w : Int} (hq : ¬ (tK T = 2 ∧ tV T = w)) : ∃ s', (∀ f : Int → mW → mO, mm_kI (mm_run (zP Z) 105 [.inr (.inr (some 5)), .inl w] (mk s)) f = f 0 (mk s')) ∧ CFl s0 (fkd T) (tF T) s' := ⟨_, fun f => c_word_f Z h.1 hq f, CFl_mk h.2.2.2.2.2 _ _⟩
theorem cp_semif (Z : mX) {s0 s : mS} {b : Int → Int} {n : Int} {T : mT} {G H : Int → Int} {th od gr : Int} (h : CP s0 b n T G H th od gr s) (hq : ¬ (tK T = 6 ∧ tV T = 59)) : ∃ s', (∀ f : Int → mW → mO, mm_kI (mm_run (zP Z) 106 [.inr (.inr (some 5))] (mk s)) f = f 0 (mk s')) ∧ CFl s0 (fkd T) (tF T) s' := ⟨_, fun f => c_semi_f Z h.1 hq f, CFl_mk h.2.2.2.2.2 _ _⟩
theorem cp_numf (Z : mX) {s0 s : mS} {b : Int → Int} {n : Int} {T : mT} {G H : Int → Int} {th od gr : Int} (h : CP s0 b n T G H th od gr s) {l m : Int} (hq : ¬ (tK T = 5 ∧ l ≤ tV T ∧ tV T ≤ m)) : ∃ s', (∀ f : Int → mW → mO, mm_kI (mm_run (zP Z) 107 [.inr (.inr (some 5)), .inl l, .inl m] (mk s)) f = f 0 (mk s')) ∧ CFl s0 (nkd T) (tF T) s' := ⟨_, fun f => c_num_f Z h.1 hq f, CFl_mk h.2.2.2.2.2 _ _⟩
/-! the reference -/
theorem rp_fr {t0 t t' : mS} {b : Int → Int} {n : Int} {T T' : mT} {G H : Int → Int} {th od gr : Int} (h : RP t0 b n T G H th od gr t) (x : RT1 b n T' t') (g : Ag ryA ryF t t') : RP t0 b n T' G H th od gr t' := by
  obtain ⟨h1, h2, h3, h4, h5, h6, h7⟩ := h
  refine ⟨x, (g.1 142 (fun x => x)).trans h2, (g.1 143 (fun x => x)).trans h3, (g.2 141 18 (by unfold ryF; omega)).trans h4, ?_, ?_, Ag_trans h7 (ry_pr g)⟩
  · rw [g.2 141 20 (by unfold ryF; omega)]; exact h5
  · rw [g.2 141 20 (by unfold ryF; omega)]; exact h6
theorem rp_142 {t0 t : mS} {b : Int → Int} {n : Int} {T : mT} {G H : Int → Int} {th od gr : Int} (h : RP t0 b n T G H th od gr t) (j v : Int) : RP t0 b n T (mm_upd G j v) H th od gr (uA t 142 j v) := by
  obtain ⟨h1, h2, h3, h4, h5, h6, h7⟩ := h
  exact ⟨RT_fr1 h1 (fun _ _ _ => rfl) (uA_n _ (by decide) _ _), by rw [uA_s, h2], by rw [uA_n _ (by decide)]; exact h3, h4, h5, h6, Ag_uA h7 (by unfold prA; omega) _ _⟩
theorem rp_143 {t0 t : mS} {b : Int → Int} {n : Int} {T : mT} {G H : Int → Int} {th od gr : Int} (h : RP t0 b n T G H th od gr t) (j v : Int) : RP t0 b n T G (mm_upd H j v) th od gr (uA t 143 j v) := by
  obtain ⟨h1, h2, h3, h4, h5, h6, h7⟩ := h
  exact ⟨RT_fr1 h1 (fun _ _ _ => rfl) (uA_n _ (by decide) _ _), by rw [uA_n _ (by decide)]; exact h2, by rw [uA_s, h3], h4, h5, h6, Ag_uA h7 (by unfold prA; omega) _ _⟩
theorem rp_told {t0 t : mS} {b : Int → Int} {n : Int} {T : mT} {G H : Int → Int} {th od gr th' od' gr' : Int} (h : RP t0 b n T G H th od gr t) {k e : Int} (k0 : 0 ≤ k) (k1 : k < 6) (he : e = 0 ∨ e = 1) (h1 : (th' = 1 ∨ gr' = 1) ↔ (th = 1 ∨ gr = 1 ∨ k = 0 ∨ e = 1)) (h2 : od' = 1 ↔ (od = 1 ∨ k = 1)) : RP t0 b n T G H th' od' gr' (uF t 141 20 (mm_ior (t.1 141 20) (mm_ior (mm_ishl 1 k) e))) := by
  obtain ⟨g1, g2, g3, g4, g5, g6, g7⟩ := h
  have q : ∀ i : Nat, tb (mm_ior (t.1 141 20) (mm_ior (mm_ishl 1 k) e)) i = (tb (t.1 141 20) i || (decide (i = k.toNat) || tb e i)) := fun i => by rw [tb_or, tb_or, tb_shl1 k0 (by omega)]
  have te : ∀ i : Nat, tb e i = decide (e = 1 ∧ i = 0) := by
    intro i
    rcases he with rfl | rfl
    · rw [tb_0]; simp
    · rw [tb_1]; simp
  refine ⟨RT_fr1 g1 (fun k _ _ => by rw [uF_1, if_neg (by omega)]) rfl, g2, g3, by rw [uF_1, if_neg (by omega)]; exact g4, ?_, ?_, Ag_uF (F := prG) g7 (by unfold prG; omega) _⟩
  · rw [uF_1, if_pos ⟨rfl, rfl⟩, q, g5, te]
    rw [Bool.eq_iff_iff]
    simp
    omega
  · rw [uF_1, if_pos ⟨rfl, rfl⟩, q, g6, te]
    rw [Bool.eq_iff_iff]
    simp
    omega
theorem rp_adv {Z : mX} {t0 t : mS} {b : Int → Int} {n : Int} {T T' : mT} {G H : Int → Int} {th od gr : Int} (hN : NR Z b n T T') (h : RP t0 b n T G H th od gr t) : ∃ t', (∀ f : mW → mO, mm_kV (mm_run (zP Z) 233 [.inr (.inr (some 141))] (mk t)) f = f (mk t')) ∧ RP t0 b n T' G H th od gr t' := by
  obtain ⟨t', a, x, g⟩ := hN t h.1
  exact ⟨t', a, rp_fr h x g⟩
theorem rp_word {Z : mX} {t0 t : mS} {b : Int → Int} {n : Int} (hT : TB0 b n) {T T' : mT} (hk : TT b n T) {G H : Int → Int} {th od gr : Int} (hN : NR Z b n T T') (h : RP t0 b n T G H th od gr t) {w k : Int} (hw : km w = k) (w0 : 0 ≤ w) (w1 : w < 27) (hq : tK T = 2 ∧ tV T = w) : ∃ t', (∀ f : Int → mW → mO, mm_kI (mm_run (zP Z) 239 [.inr (.inr (some 141)), .inr (.inr (some 1)), .inl k] (mk t)) f = f 1 (mk t')) ∧ RP t0 b n T' G H th od gr t' := by
  obtain ⟨t', a, x, g⟩ := r_wword_t Z hT hk hN h.1 hw w0 w1 hq.1 hq.2
  exact ⟨t', a, rp_fr h x g⟩
theorem rp_there {Z : mX} {t0 t : mS} {b : Int → Int} {n : Int} (hT : TB0 b n) {T T' : mT} (hk : TT b n T) {G H : Int → Int} {th od gr : Int} (hN : NR Z b n T T') (h : RP t0 b n T G H th od gr t) {w k : Int} (hw : km w = k) (w0 : 0 ≤ w) (w1 : w < 27) (hq : tK T = 2 ∧ tV T = w) : ∃ t', (∀ f : Int → mW → mO, mm_kI (mm_run (zP Z) 250 [.inr (.inr (some 141)), .inl k] (mk t)) f = f 1 (mk t')) ∧ RP t0 b n T' G H th od gr t' := by
  obtain ⟨t', a, x, g⟩ := r_there_t Z hT hk hN h.1 hw w0 w1 hq.1 hq.2
  exact ⟨t', a, rp_fr h x g⟩
theorem rp_semi {Z : mX} {t0 t : mS} {b : Int → Int} {n : Int} {T T' : mT} (hk : TT b n T) {G H : Int → Int} {th od gr : Int} (hN : NR Z b n T T') (h : RP t0 b n T G H th od gr t) (hq : tK T = 6 ∧ tV T = 59) : ∃ t', (∀ f : Int → mW → mO, mm_kI (mm_run (zP Z) 238 [.inr (.inr (some 141)), .inl 59] (mk t)) f = f 1 (mk t')) ∧ RP t0 b n T' G H th od gr t' := by
  obtain ⟨t', a, x, g⟩ := r_semi_t Z hk hN h.1 hq.1 hq.2
  exact ⟨t', a, rp_fr h x g⟩
theorem rp_num {Z : mX} {t0 t : mS} {b : Int → Int} {n : Int} {T T' : mT} (hk : TT b n T) {G H : Int → Int} {th od gr : Int} (hN : NR Z b n T T') (h : RP t0 b n T G H th od gr t) {to l m : Int} (q0 : 0 ≤ to) (q1 : to < 2464) (hq : tK T = 5 ∧ l ≤ tV T ∧ tV T ≤ m) : ∃ t', (∀ f : Int → mW → mO, mm_kI (mm_run (zP Z) 240 [.inr (.inr (some 141)), .inl to, .inl l, .inl m] (mk t)) f = f 1 (mk t')) ∧ RP t0 b n T' (mm_upd G to (tV T)) H th od gr t' := by
  obtain ⟨t', a, x, e, g, g2, g3⟩ := r_num_t Z hk hN h.1 h.2.1 q0 q1 hq.1 hq.2.1 hq.2.2
  obtain ⟨h1, h2, h3, h4, h5, h6, h7⟩ := h
  exact ⟨t', a, x, e, g3.trans h3, (g2 18 (by omega)).trans h4, by rw [g2 20 (by omega)]; exact h5, by rw [g2 20 (by omega)]; exact h6, Ag_trans h7 g⟩
theorem rfl_mk {t0 t : mS} {b : Int → Int} {n : Int} {T : mT} {G0 H0 G H : Int → Int} {th od gr : Int} (h : RP t0 b n T G H th od gr t) (hL : Lo G0 H0 G H) (k p : Int) : RFl t0 G0 H0 k p (uF (uF t 141 18 k) 141 17 p) := by
  obtain ⟨h1, h2, h3, h4, h5, h6, h7⟩ := h
  refine ⟨by rw [uF_1, if_neg (by omega), uF_1, if_pos ⟨rfl, rfl⟩], by rw [uF_1, if_pos ⟨rfl, rfl⟩], Ag_uF (F := prF) (Ag_uF (F := prF) (Ag_mono (B := prA) (G := prF) h7 (fun q h => h) (fun q k h => by unfold prG at h; unfold prF; omega)) (by unfold prF; omega) _) (by unfold prF; omega) _, fun j hj => ?_, fun j hj => ?_⟩
  · rw [uF_2, uF_2, h2]; exact hL.1 j hj
  · rw [uF_2, uF_2, h3]; exact hL.2 j hj
theorem rp_fails (Z : mX) {t0 t : mS} {b : Int → Int} {n : Int} {T : mT} (hk : TT b n T) {G0 H0 G H : Int → Int} {th od gr : Int} (h : RP t0 b n T G H th od gr t) (hL : Lo G0 H0 G H) {k : Int} (h1 : tK T ≠ 1) : ∃ t', (∀ f : Int → mW → mO, mm_kI (mm_run (zP Z) 236 [.inr (.inr (some 141)), .inl k] (mk t)) f = f 0 (mk t')) ∧ RFl t0 G0 H0 k (tF T) t' := ⟨_, fun f => by rw [r_fails Z hk h.1 h.2.2.2.1, rk_5 h1], rfl_mk h hL _ _⟩
theorem rp_fail2 (Z : mX) {t0 t : mS} {b : Int → Int} {n : Int} {T : mT} (hk : TT b n T) {G0 H0 G H : Int → Int} {th od gr : Int} (h : RP t0 b n T G H th od gr t) (hL : Lo G0 H0 G H) : ∃ t', (∀ f : Int → mW → mO, mm_kI (mm_run (zP Z) 236 [.inr (.inr (some 141)), .inl 2] (mk t)) f = f 0 (mk t')) ∧ RFl t0 G0 H0 (fkd T) (tF T) t' := ⟨_, fun f => by rw [r_fails Z hk h.1 h.2.2.2.1, rk_2], rfl_mk h hL _ _⟩
theorem rp_wordf (Z : mX) {t0 t : mS} {b : Int → Int} {n : Int} (hT : TB0 b n) {T : mT} (hk : TT b n T) {G0 H0 G H : Int → Int} {th od gr : Int} (h : RP t0 b n T G H th od gr t) (hL : Lo G0 H0 G H) {w k : Int} (hw : km w = k) (w0 : 0 ≤ w) (w1 : w < 27) (hq : ¬ (tK T = 2 ∧ tV T = w)) : ∃ t', (∀ f : Int → mW → mO, mm_kI (mm_run (zP Z) 239 [.inr (.inr (some 141)), .inr (.inr (some 1)), .inl k] (mk t)) f = f 0 (mk t')) ∧ RFl t0 G0 H0 (fkd T) (tF T) t' := ⟨_, fun f => r_wword_f Z hT hk h.1 h.2.2.2.1 hw w0 w1 hq f, rfl_mk h hL _ _⟩
theorem rp_semif (Z : mX) {t0 t : mS} {b : Int → Int} {n : Int} {T : mT} (hk : TT b n T) {G0 H0 G H : Int → Int} {th od gr : Int} (h : RP t0 b n T G H th od gr t) (hL : Lo G0 H0 G H) (hq : ¬ (tK T = 6 ∧ tV T = 59)) : ∃ t', (∀ f : Int → mW → mO, mm_kI (mm_run (zP Z) 238 [.inr (.inr (some 141)), .inl 59] (mk t)) f = f 0 (mk t')) ∧ RFl t0 G0 H0 (fkd T) (tF T) t' := ⟨_, fun f => r_semi_f Z hk h.1 h.2.2.2.1 hq f, rfl_mk h hL _ _⟩
theorem rp_numf (Z : mX) {t0 t : mS} {b : Int → Int} {n : Int} {T : mT} (hk : TT b n T) {G0 H0 G H : Int → Int} {th od gr : Int} (h : RP t0 b n T G H th od gr t) (hL : Lo G0 H0 G H) {to l m : Int} (hq : ¬ (tK T = 5 ∧ l ≤ tV T ∧ tV T ≤ m)) : ∃ t', (∀ f : Int → mW → mO, mm_kI (mm_run (zP Z) 240 [.inr (.inr (some 141)), .inl to, .inl l, .inl m] (mk t)) f = f 0 (mk t')) ∧ RFl t0 G0 H0 (nkd T) (tF T) t' := ⟨_, fun f => r_num_f Z hk h.1 h.2.2.2.1 hq f, rfl_mk h hL _ _⟩
