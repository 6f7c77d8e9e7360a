/-! the mini machine never gives cells back -/
def zle (a b : mW) : Prop := a.2.1 ≤ b.2.1 ∧ a.2.2 ≤ b.2.2
theorem zle_rf (a : mW) : zle a a := ⟨Nat.le_refl _, Nat.le_refl _⟩
theorem zle_tr {a b c : mW} (h : zle a b) (h2 : zle b c) : zle a c := ⟨Nat.le_trans h.1 h2.1, Nat.le_trans h.2 h2.2⟩
def mq (w : mW) (F : mCall → mK → mO) : Prop := ∀ (c : mCall) (k : mK) (r : mR × mW), (∀ y a w1 r, c y a w1 = some r → zle w1 r.2) → (∀ pc l st w1 r, k pc l st w1 = some r → zle w1 r.2) → F c k = some r → zle w r.2
theorem mq_n (w : mW) : mq w (fun _ _ => none) := fun _ _ _ _ _ h => by cases h
theorem mq_r (w : mW) (x : mR) : mq w (fun _ _ => some (x, w)) := fun _ _ _ _ _ h => by cases h; exact zle_rf w
theorem mq_k {w : mW} (pc : Nat) (l : mL) (st : List mV) (w1 : mW) (h : zle w w1) : mq w (fun _ k => k pc l st w1) := fun _ _ _ _ hk hh => zle_tr h (hk _ _ _ _ _ hh)
theorem mq_if {w : mW} {p : Prop} [Decidable p] {F G : mCall → mK → mO} (hF : mq w F) (hG : mq w G) : mq w (fun c k => if p then F c k else G c k) := by
  by_cases h : p
  · simpa [h] using hF
  · simpa [h] using hG
theorem mq_cond {w : mW} (b : Bool) {F G : mCall → mK → mO} (hF : mq w F) (hG : mq w G) : mq w (fun c k => cond b (F c k) (G c k)) := by
  cases b
  · exact hG
  · exact hF
theorem mq_b {w : mW} {α : Type} (x : Option α) {F : α → mCall → mK → mO} (hF : ∀ a, x = some a → mq w (F a)) : mq w (fun c k => x.bind fun a => F a c k) := by
  cases x with
  | none => exact mq_n w
  | some a => exact hF a rfl
theorem mq_call (y : Nat) (a : List mV) (w : mW) {F : mR × mW → mCall → mK → mO} (hF : ∀ r, mq r.2 (F r)) : mq w (fun c k => (c y a w).bind fun r => F r c k) := by
  intro c k r hc hk h
  obtain ⟨r1, h1, h2⟩ := Option.bind_eq_some_iff.mp h
  exact zle_tr (hc _ _ _ _ h1) (hF r1 c k r hc hk h2)
theorem mq_sw {w : mW} (x : Int) (d : Nat) (g : Nat → mCall → mK → mO) (hg : ∀ t, mq w (g t)) : ∀ cs : List (Int × Nat), mq w (fun c k => mm_sw (fun t => g t c k) x d cs)
  | [] => hg d
  | (v, t) :: r => mq_if (hg t) (mq_sw x d g hg r)
theorem mm_st_w {kd : Nat} {w w1 : mW} {q : Nat} {i v : Int} (h : mm_st kd w q i v = some w1) : zle w w1 := by
  unfold mm_st at h
  split at h
  · cases h
  · split at h
    · cases h; exact zle_rf w
    · cases h
theorem mm_p_w {w w1 : mW} {q ci k : Nat} {v : mV} (h : mm_p w q ci k v = some w1) : zle w w1 := by
  unfold mm_p at h
  split at h
  · split at h
    · cases h; exact zle_rf w
    · cases h
  · cases h
theorem mm_al_w (w : mW) (c : mC) (n : Nat) : zle w (mm_alloc w c n) := ⟨Nat.le_succ _, Nat.le_add_right _ _⟩
theorem mq_s1 (E : mE) (pc op a : Nat) (v : Int) (l : mL) (st : List mV) (w : mW) : mq w (fun _ k => mm_s1 E k pc op a v l st w) := by
  unfold mm_s1
  repeat' (first | exact mq_n _ | exact mq_k _ _ _ _ (zle_rf _) | apply mq_cond | split)
theorem mq_s2 (pc op : Nat) (l : mL) (st : List mV) (w : mW) : mq w (fun _ k => mm_s2 k pc op l st w) := by
  unfold mm_s2
  repeat' (first | exact mq_n _ | exact mq_k _ _ _ _ (zle_rf _) | apply mq_if | split)
theorem mq_s3 (pc op : Nat) (l : mL) (st : List mV) (w : mW) : mq w (fun _ k => mm_s3 k pc op l st w) := by
  unfold mm_s3
  repeat' (first | exact mq_n _ | exact mq_k _ _ _ _ (zle_rf _) | apply mq_if | split)
theorem mq_s4 (pc op a : Nat) (cs : List (Int × Nat)) (l : mL) (st : List mV) (w : mW) : mq w (fun _ k => mm_s4 k pc op a cs l st w) := by
  unfold mm_s4
  repeat' (first | exact mq_n _ | exact mq_k _ _ _ _ (zle_rf _) | exact mq_sw _ _ _ (fun t => mq_k t _ _ _ (zle_rf _)) _ | apply mq_if | split)
theorem mq_s5 (pc op a : Nat) (l : mL) (st : List mV) (w : mW) : mq w (fun _ k => mm_s5 k pc op a l st w) := by
  unfold mm_s5
  repeat' (first | exact mq_n _ | exact mq_k _ _ _ _ (zle_rf _) | exact mq_k _ _ _ _ (mm_al_w _ _ _) | exact mq_k _ _ _ _ (mm_st_w (by assumption)) | (apply mq_b; intro _ _) | apply mq_if | split)
theorem mq_s6 (E : mE) (pc op b c : Nat) (l : mL) (st : List mV) (w : mW) : mq w (fun _ k => mm_s6 E k pc op b c l st w) := by
  unfold mm_s6
  repeat' (first | exact mq_n _ | exact mq_k _ _ _ _ (zle_rf _) | exact mq_k _ _ _ _ (mm_al_w _ _ _) | exact mq_k _ _ _ _ (mm_p_w (by assumption)) | (apply mq_b; intro _ _) | apply mq_if | apply mq_cond | split)
theorem mq_s7 (E : mE) (pc op : Nat) (l : mL) (st : List mV) (w : mW) : mq w (fun _ k => mm_s7 E k pc op l st w) := by
  unfold mm_s7
  repeat' (first | exact mq_n _ | exact mq_r _ _ | exact mq_k _ _ _ _ (zle_rf _) | (apply mq_b; intro _ _) | apply mq_if | apply mq_cond | split)
theorem mq_s8 (pc t b : Nat) (as : List mV) (l : mL) (s : List mV) (w : mW) : mq w (fun c k => mm_s8 c k pc t b as l s w) := by
  unfold mm_s8 mm_kV mm_kI mm_kJ mm_kR
  repeat' (first | exact mq_n _ | exact mq_k _ _ _ _ (zle_rf _) | (apply mq_call; intro _) | split)
theorem mq_s9 (pc op b c : Nat) (v : Int) (l : mL) (st : List mV) (w : mW) : mq w (fun cl k => mm_s9 cl k pc op b c v l st w) := by
  unfold mm_s9
  refine mq_if (mq_n _) (mq_cond _ (mq_if (mq_s8 _ _ _ _ _ _ _) ?_) (mq_n _))
  rcases (st.take c).reverse with _ | ⟨x | x | x, as⟩
  · exact mq_n w
  · exact mq_n w
  · exact mq_n w
  · exact mq_b _ (fun q _ => mq_if (mq_s8 _ _ _ _ _ _ _) (mq_n _))
theorem mq_step (E : mE) (pc : Nat) (i : mI) (l : mL) (st : List mV) (w : mW) : mq w (fun c k => mm_step E c k pc i l st w) := by
  unfold mm_step
  refine mq_if (mq_s1 _ _ _ _ _ _ _ _) (mq_if (mq_s2 _ _ _ _ _) (mq_if (mq_s3 _ _ _ _ _) (mq_if (mq_s4 _ _ _ _ _ _ _) (mq_if (mq_s5 _ _ _ _ _ _) (mq_if (mq_s6 _ _ _ _ _ _ _ _) (mq_if (mq_s7 _ _ _ _ _ _) (mq_s9 _ _ _ _ _ _ _ _)))))))
theorem mm_exec_w (P : mP) : ∀ (n y pc : Nat) (l : mL) (st : List mV) (w : mW) (r : mR × mW), mm_exec P n y pc l st w = some r → zle w r.2
  | 0, _, _, _, _, _, _, h => by cases h
  | n + 1, y, pc, l, st, w, r, h => by
    rw [mm_exec] at h
    exact mq_step P.1 pc (mm_ins P y pc) _ st w _ _ r (fun y a w1 r h => mm_exec_w P n _ _ _ _ _ _ (z_cond2 h).2) (fun pc l st w1 r h => mm_exec_w P n _ _ _ _ _ _ h) h
