/-! what the constructors leave alone: cells never given out, places beyond a row -/
def zdf (w : mW) : Prop := 3 ≤ w.2.1 ∧ (∀ q, q < 3 ∨ w.2.1 ≤ q → w.1 q = .inr (99, 0, fun _ => 0)) ∧ ∀ q kd n f, w.1 q = .inr (kd, n, f) → ∀ i : Int, ¬ (0 ≤ i ∧ i < n) → f i = f (-1)
def zfr (a b : mW) : Prop := zdf a → zdf b
theorem zfr_rf (a : mW) : zfr a a := id
theorem zfr_tr {a b c : mW} (h : zfr a b) (h2 : zfr b c) : zfr a c := fun x => h2 (h x)
def nq (w : mW) (F : mCall → mK → mO) : Prop := ∀ (c : mCall) (k : mK) (r : mR × mW), (∀ y a w1 r, c y a w1 = some r → zfr w1 r.2) → (∀ pc l st w1 r, k pc l st w1 = some r → zfr w1 r.2) → F c k = some r → zfr w r.2
theorem nq_n (w : mW) : nq w (fun _ _ => none) := fun _ _ _ _ _ h => by cases h
theorem nq_r (w : mW) (x : mR) : nq w (fun _ _ => some (x, w)) := fun _ _ _ _ _ h => by cases h; exact zfr_rf w
theorem nq_k {w : mW} (pc : Nat) (l : mL) (st : List mV) (w1 : mW) (h : zfr w w1) : nq w (fun _ k => k pc l st w1) := fun _ _ _ _ hk hh => zfr_tr h (hk _ _ _ _ _ hh)
theorem nq_if {w : mW} {p : Prop} [Decidable p] {F G : mCall → mK → mO} (hF : nq w F) (hG : nq w G) : nq w (fun c k => if p then F c k else G c k) := by
  by_cases h : p
  · simpa [h] using hF
  · simpa [h] using hG
theorem nq_cond {w : mW} (b : Bool) {F G : mCall → mK → mO} (hF : nq w F) (hG : nq w G) : nq w (fun c k => cond b (F c k) (G c k)) := by
  cases b
  · exact hG
  · exact hF
theorem nq_b {w : mW} {α : Type} (x : Option α) {F : α → mCall → mK → mO} (hF : ∀ a, x = some a → nq w (F a)) : nq w (fun c k => x.bind fun a => F a c k) := by
  cases x with
  | none => exact nq_n w
  | some a => exact hF a rfl
theorem nq_call (y : Nat) (a : List mV) (w : mW) {F : mR × mW → mCall → mK → mO} (hF : ∀ r, nq r.2 (F r)) : nq w (fun c k => (c y a w).bind fun r => F r c k) := by
  intro c k r hc hk h
  obtain ⟨r1, h1, h2⟩ := Option.bind_eq_some_iff.mp h
  exact zfr_tr (hc _ _ _ _ h1) (hF r1 c k r hc hk h2)
theorem nq_sw {w : mW} (x : Int) (d : Nat) (g : Nat → mCall → mK → mO) (hg : ∀ t, nq w (g t)) : ∀ cs : List (Int × Nat), nq w (fun c k => mm_sw (fun t => g t c k) x d cs)
  | [] => hg d
  | (v, t) :: r => nq_if (hg t) (nq_sw x d g hg r)
theorem zdf_set {w : mW} (h : zdf w) {q : Nat} (c : mC) (hq : w.1 q ≠ .inr (99, 0, fun _ => 0)) (hc : ∀ kd n f, c = .inr (kd, n, f) → ∀ i : Int, ¬ (0 ≤ i ∧ i < n) → f i = f (-1)) : zdf (mm_set w q c) := by
  obtain ⟨h1, h2, h3⟩ := h
  refine ⟨h1, fun q' hq' => ?_, fun q' kd n f hx => ?_⟩
  · show (if q' = q then c else w.1 q') = _
    rw [if_neg (fun e => hq (by rw [← e]; exact h2 q' hq'))]
    exact h2 q' hq'
  · have hx : (if q' = q then c else w.1 q') = .inr (kd, n, f) := hx
    by_cases e : q' = q
    · rw [if_pos e] at hx
      exact hc kd n f hx
    · rw [if_neg e] at hx
      exact h3 q' kd n f hx
theorem mm_st_v {kd : Nat} {w w1 : mW} {q : Nat} {i v : Int} (h : mm_st kd w q i v = some w1) : zfr w w1 := by
  obtain ⟨n, f, e1, i0, i1, e2⟩ := mm_st_spec h
  intro hz
  rw [e2]
  refine zdf_set hz _ (fun e => ?_) (fun kd' n' f' e => ?_)
  · rw [e1] at e
    simp only [Sum.inr.injEq, Prod.mk.injEq] at e
    omega
  · simp only [Sum.inr.injEq, Prod.mk.injEq] at e
    obtain ⟨_, e3, e4⟩ := e
    have g := hz.2.2 q kd n f e1
    intro j hj
    rw [← e4]
    show (if j = i then v else f j) = (if -1 = i then v else f (-1))
    rw [if_neg (by omega), if_neg (by omega)]
    exact g j (by omega)
theorem mm_p_v {w w1 : mW} {q ci k : Nat} {v : mV} (h : mm_p w q ci k v = some w1) : zfr w w1 := by
  obtain ⟨fs, e1, _, e2⟩ := mm_p_spec h
  intro hz
  rw [e2]
  refine zdf_set hz _ (fun e => ?_) (fun kd' n' f' e => ?_)
  · rw [e1] at e; cases e
  · cases e
theorem mm_al_v (w : mW) (c : mC) (n : Nat) (hc : ∀ kd n f, c = .inr (kd, n, f) → ∀ i : Int, ¬ (0 ≤ i ∧ i < n) → f i = f (-1)) : zfr w (mm_alloc w c n) := by
  intro ⟨h1, h2, h3⟩
  refine ⟨Nat.le_succ_of_le h1, fun q' hq' => ?_, fun q' kd n f hx => ?_⟩
  · have hq' : q' < 3 ∨ w.2.1 + 1 ≤ q' := hq'
    show (if q' = w.2.1 then c else w.1 q') = _
    rw [if_neg (by omega)]
    exact h2 q' (by omega)
  · have hx : (if q' = w.2.1 then c else w.1 q') = .inr (kd, n, f) := hx
    by_cases e : q' = w.2.1
    · rw [if_pos e] at hx
      exact hc kd n f hx
    · rw [if_neg e] at hx
      exact h3 q' kd n f hx
theorem nq_s1 (E : mE) (pc op a : Nat) (v : Int) (l : mL) (st : List mV) (w : mW) : nq w (fun _ k => mm_s1 E k pc op a v l st w) := by
  unfold mm_s1
  repeat' (first | exact nq_n _ | exact nq_k _ _ _ _ (zfr_rf _) | apply nq_cond | split)
theorem nq_s2 (pc op : Nat) (l : mL) (st : List mV) (w : mW) : nq w (fun _ k => mm_s2 k pc op l st w) := by
  unfold mm_s2
  repeat' (first | exact nq_n _ | exact nq_k _ _ _ _ (zfr_rf _) | apply nq_if | split)
theorem nq_s3 (pc op : Nat) (l : mL) (st : List mV) (w : mW) : nq w (fun _ k => mm_s3 k pc op l st w) := by
  unfold mm_s3
  repeat' (first | exact nq_n _ | exact nq_k _ _ _ _ (zfr_rf _) | apply nq_if | split)
theorem nq_s4 (pc op a : Nat) (cs : List (Int × Nat)) (l : mL) (st : List mV) (w : mW) : nq w (fun _ k => mm_s4 k pc op a cs l st w) := by
  unfold mm_s4
  repeat' (first | exact nq_n _ | exact nq_k _ _ _ _ (zfr_rf _) | exact nq_sw _ _ _ (fun t => nq_k t _ _ _ (zfr_rf _)) _ | apply nq_if | split)
theorem nq_s5 (pc op a : Nat) (l : mL) (st : List mV) (w : mW) : nq w (fun _ k => mm_s5 k pc op a l st w) := by
  unfold mm_s5
  repeat' (first | exact nq_n _ | exact nq_k _ _ _ _ (zfr_rf _) | exact nq_k _ _ _ _ (mm_al_v _ _ _ (fun _ _ _ e => by cases e; exact fun _ _ => rfl)) | exact nq_k _ _ _ _ (mm_al_v _ _ _ (fun _ _ _ e => by cases e)) | exact nq_k _ _ _ _ (mm_st_v (by assumption)) | (apply nq_b; intro _ _) | apply nq_if | split)
theorem nq_s6 (E : mE) (pc op b c : Nat) (l : mL) (st : List mV) (w : mW) : nq w (fun _ k => mm_s6 E k pc op b c l st w) := by
  unfold mm_s6
  repeat' (first | exact nq_n _ | exact nq_k _ _ _ _ (zfr_rf _) | exact nq_k _ _ _ _ (mm_al_v _ _ _ (fun _ _ _ e => by cases e; exact fun _ _ => rfl)) | exact nq_k _ _ _ _ (mm_al_v _ _ _ (fun _ _ _ e => by cases e)) | exact nq_k _ _ _ _ (mm_p_v (by assumption)) | (apply nq_b; intro _ _) | apply nq_if | apply nq_cond | split)
theorem nq_s7 (E : mE) (pc op : Nat) (l : mL) (st : List mV) (w : mW) : nq w (fun _ k => mm_s7 E k pc op l st w) := by
  unfold mm_s7
  repeat' (first | exact nq_n _ | exact nq_r _ _ | exact nq_k _ _ _ _ (zfr_rf _) | (apply nq_b; intro _ _) | apply nq_if | apply nq_cond | split)
theorem nq_s8 (pc t b : Nat) (as : List mV) (l : mL) (s : List mV) (w : mW) : nq w (fun c k => mm_s8 c k pc t b as l s w) := by
  unfold mm_s8 mm_kV mm_kI mm_kJ mm_kR
  repeat' (first | exact nq_n _ | exact nq_k _ _ _ _ (zfr_rf _) | (apply nq_call; intro _) | split)
theorem nq_s9 (pc op b c : Nat) (v : Int) (l : mL) (st : List mV) (w : mW) : nq w (fun cl k => mm_s9 cl k pc op b c v l st w) := by
  unfold mm_s9
  refine nq_if (nq_n _) (nq_cond _ (nq_if (nq_s8 _ _ _ _ _ _ _) ?_) (nq_n _))
  rcases (st.take c).reverse with _ | ⟨x | x | x, as⟩
  · exact nq_n w
  · exact nq_n w
  · exact nq_n w
  · exact nq_b _ (fun q _ => nq_if (nq_s8 _ _ _ _ _ _ _) (nq_n _))
theorem nq_step (E : mE) (pc : Nat) (i : mI) (l : mL) (st : List mV) (w : mW) : nq w (fun c k => mm_step E c k pc i l st w) := by
  unfold mm_step
  refine nq_if (nq_s1 _ _ _ _ _ _ _ _) (nq_if (nq_s2 _ _ _ _ _) (nq_if (nq_s3 _ _ _ _ _) (nq_if (nq_s4 _ _ _ _ _ _ _) (nq_if (nq_s5 _ _ _ _ _ _) (nq_if (nq_s6 _ _ _ _ _ _ _ _) (nq_if (nq_s7 _ _ _ _ _ _) (nq_s9 _ _ _ _ _ _ _ _)))))))
theorem mm_exec_v (P : mP) : ∀ (n y pc : Nat) (l : mL) (st : List mV) (w : mW) (r : mR × mW), mm_exec P n y pc l st w = some r → zfr w r.2
  | 0, _, _, _, _, _, _, h => by cases h
  | n + 1, y, pc, l, st, w, r, h => by
    rw [mm_exec] at h
    exact nq_step P.1 pc (mm_ins P y pc) _ st w _ _ r (fun y a w1 r h => mm_exec_v P n _ _ _ _ _ _ (z_cond2 h).2) (fun pc l st w1 r h => mm_exec_v P n _ _ _ _ _ _ h) h
