/-! runs of the mini machine: with fuel, without (mm_at), and unfolded up to labels (mm_U) -/
abbrev mP : Type := mE × (Nat → List mI) × (Nat → Nat)
def mm_ins (P : mP) (y pc : Nat) : mI := mm_nth (P.2.1 y) pc
def mm_ks (P : mP) (y pc : Nat) : List Nat := (mm_ins P y pc).2.2.2.2.2.2
def mm_ent (P : mP) (y : Nat) (a : List mV) : mL := mm_pad (P.2.2 y) (mm_slots a)
def mm_exec (P : mP) : Nat → Nat → Nat → mL → List mV → mW → mO
  | 0, _, _, _, _, _ => none
  | n + 1, y, pc, l, st, w => mm_step P.1 (fun y' a w' => cond (Nat.ble (mm_slots a).length (P.2.2 y')) (mm_exec P n y' 0 (mm_ent P y' a) [] w') none) (fun pc' l' st' w' => mm_exec P n y pc' l' st' w') pc (mm_ins P y pc) (mm_kill (mm_ks P y pc) l) st w
noncomputable def mm_at (P : mP) (y pc : Nat) (l : mL) (st : List mV) (w : mW) : mO :=
  @dite mO (∃ r n, mm_exec P n y pc l st w = some r) (Classical.propDecidable _) (fun h => some (Classical.choose h)) (fun _ => none)
noncomputable def mm_run (P : mP) (y : Nat) (a : List mV) (w : mW) : mO := cond (Nat.ble (mm_slots a).length (P.2.2 y)) (mm_at P y 0 (mm_ent P y a) [] w) none
/-- a functional of (call, k) that is monotone and finite -/
def mm_good (F : mCall → mK → mO) : Prop :=
  ∀ (c0 : mCall) (k0 : mK) (r : mR × mW), F c0 k0 = some r →
    ∃ (cp : List (Nat × List mV × mW)) (kp : List (Nat × mL × List mV × mW)),
      (∀ x ∈ cp, ∃ r, c0 x.1 x.2.1 x.2.2 = some r) ∧ (∀ x ∈ kp, ∃ r, k0 x.1 x.2.1 x.2.2.1 x.2.2.2 = some r) ∧
      ∀ (c1 : mCall) (k1 : mK), (∀ x ∈ cp, c1 x.1 x.2.1 x.2.2 = c0 x.1 x.2.1 x.2.2) → (∀ x ∈ kp, k1 x.1 x.2.1 x.2.2.1 x.2.2.2 = k0 x.1 x.2.1 x.2.2.1 x.2.2.2) → F c1 k1 = some r
theorem mg_c (o : mO) : mm_good (fun _ _ => o) := fun _ _ _ h => ⟨[], [], by simp, by simp, fun _ _ _ _ => h⟩
theorem mg_k (pc : Nat) (l : mL) (st : List mV) (w : mW) : mm_good (fun _ k => k pc l st w) := fun _ _ r h =>
  ⟨[], [(pc, l, st, w)], by simp, fun x hx => by rw [List.mem_singleton] at hx; subst hx; exact ⟨r, h⟩, fun _ k1 _ hk => by
    have e := hk (pc, l, st, w) (List.mem_singleton.mpr rfl)
    exact e.trans h⟩
theorem mg_if {p : Prop} [Decidable p] {F G : mCall → mK → mO} (hF : mm_good F) (hG : mm_good G) : mm_good (fun c k => if p then F c k else G c k) := by
  by_cases h : p
  · simpa [h] using hF
  · simpa [h] using hG
theorem mg_cond (b : Bool) {F G : mCall → mK → mO} (hF : mm_good F) (hG : mm_good G) : mm_good (fun c k => cond b (F c k) (G c k)) := by
  cases b
  · exact hG
  · exact hF
theorem mg_b {α : Type} (x : Option α) {F : α → mCall → mK → mO} (hF : ∀ a, mm_good (F a)) : mm_good (fun c k => x.bind fun a => F a c k) := by
  cases x with
  | none => exact mg_c none
  | some a => exact hF a
theorem mg_call (y : Nat) (a : List mV) (w : mW) {F : mR × mW → mCall → mK → mO} (hF : ∀ r, mm_good (F r)) : mm_good (fun c k => (c y a w).bind fun r => F r c k) := by
  intro c0 k0 r h
  replace h : ((c0 y a w).bind fun r => F r c0 k0) = some r := h
  cases hc : c0 y a w with
  | none => rw [hc] at h; cases h
  | some r1 =>
    rw [hc] at h
    obtain ⟨cp, kp, h1, h2, h3⟩ := hF r1 c0 k0 r h
    refine ⟨(y, a, w) :: cp, kp, ?_, h2, fun c1 k1 g1 g2 => ?_⟩
    · intro x hx
      rcases List.mem_cons.mp hx with rfl | hx
      · exact ⟨r1, hc⟩
      · exact h1 x hx
    · have e := g1 (y, a, w) List.mem_cons_self
      show ((c1 y a w).bind fun r => F r c1 k1) = some r
      rw [show c1 y a w = some r1 from e.trans hc]
      exact h3 c1 k1 (fun x hx => g1 x (List.mem_cons_of_mem _ hx)) g2
theorem mg_sw (x : Int) (d : Nat) (g : Nat → mCall → mK → mO) (hg : ∀ t, mm_good (g t)) : ∀ cs : List (Int × Nat), mm_good (fun c k => mm_sw (fun t => g t c k) x d cs)
  | [] => hg d
  | (v, t) :: r => mg_if (hg t) (mg_sw x d g hg r)
theorem mg_s1 (E : mE) (pc op a : Nat) (v : Int) (l : mL) (st : List mV) (w : mW) : mm_good (fun _ k => mm_s1 E k pc op a v l st w) := by
  unfold mm_s1
  repeat' (first | exact mg_c _ | exact mg_k _ _ _ _ | apply mg_cond | split)
theorem mg_s2 (pc op : Nat) (l : mL) (st : List mV) (w : mW) : mm_good (fun _ k => mm_s2 k pc op l st w) := by
  unfold mm_s2
  repeat' (first | exact mg_c _ | exact mg_k _ _ _ _ | apply mg_if | split)
theorem mg_s3 (pc op : Nat) (l : mL) (st : List mV) (w : mW) : mm_good (fun _ k => mm_s3 k pc op l st w) := by
  unfold mm_s3
  repeat' (first | exact mg_c _ | exact mg_k _ _ _ _ | apply mg_if | split)
theorem mg_s4 (pc op a : Nat) (cs : List (Int × Nat)) (l : mL) (st : List mV) (w : mW) : mm_good (fun _ k => mm_s4 k pc op a cs l st w) := by
  unfold mm_s4
  repeat' (first | exact mg_c _ | exact mg_k _ _ _ _ | exact mg_sw _ _ _ (fun t => mg_k t _ _ _) _ | apply mg_if | split)
theorem mg_s5 (pc op a : Nat) (l : mL) (st : List mV) (w : mW) : mm_good (fun _ k => mm_s5 k pc op a l st w) := by
  unfold mm_s5
  repeat' (first | exact mg_c _ | exact mg_k _ _ _ _ | (apply mg_b; intro _) | apply mg_if | apply mg_cond | split)
theorem mg_s6 (E : mE) (pc op b c : Nat) (l : mL) (st : List mV) (w : mW) : mm_good (fun _ k => mm_s6 E k pc op b c l st w) := by
  unfold mm_s6
  repeat' (first | exact mg_c _ | exact mg_k _ _ _ _ | (apply mg_b; intro _) | apply mg_if | apply mg_cond | split)
theorem mg_s7 (E : mE) (pc op : Nat) (l : mL) (st : List mV) (w : mW) : mm_good (fun _ k => mm_s7 E k pc op l st w) := by
  unfold mm_s7
  repeat' (first | exact mg_c _ | exact mg_k _ _ _ _ | (apply mg_b; intro _) | apply mg_if | apply mg_cond | split)
theorem mg_s8 (pc t b : Nat) (as : List mV) (l : mL) (s : List mV) (w : mW) : mm_good (fun c k => mm_s8 c k pc t b as l s w) := by
  unfold mm_s8 mm_kV mm_kI mm_kJ mm_kR
  repeat' (first | exact mg_c _ | exact mg_k _ _ _ _ | (apply mg_call; intro _) | split)
theorem mg_s9 (pc op b c : Nat) (v : Int) (l : mL) (st : List mV) (w : mW) : mm_good (fun cl k => mm_s9 cl k pc op b c v l st w) := by
  unfold mm_s9
  refine mg_if (mg_c _) (mg_cond _ (mg_if (mg_s8 _ _ _ _ _ _ _) ?_) (mg_c _))
  rcases (st.take c).reverse with _ | ⟨x | x | x, as⟩
  · exact mg_c none
  · exact mg_c none
  · exact mg_c none
  · exact mg_b _ (fun q => mg_if (mg_s8 _ _ _ _ _ _ _) (mg_c _))
theorem mg_step (E : mE) (pc : Nat) (i : mI) (l : mL) (st : List mV) (w : mW) : mm_good (fun c k => mm_step E c k pc i l st w) := by
  unfold mm_step
  refine mg_if (mg_s1 _ _ _ _ _ _ _ _) (mg_if (mg_s2 _ _ _ _ _) (mg_if (mg_s3 _ _ _ _ _) (mg_if (mg_s4 _ _ _ _ _ _ _) (mg_if (mg_s5 _ _ _ _ _ _) (mg_if (mg_s6 _ _ _ _ _ _ _ _) (mg_if (mg_s7 _ _ _ _ _ _) (mg_s9 _ _ _ _ _ _ _ _)))))))
theorem mm_exec_succ (P : mP) : ∀ (n y pc : Nat) (l : mL) (st : List mV) (w : mW) (r : mR × mW), mm_exec P n y pc l st w = some r → mm_exec P (n + 1) y pc l st w = some r
  | 0, _, _, _, _, _, _, h => by cases h
  | n + 1, y, pc, l, st, w, r, h => by
    rw [mm_exec] at h
    obtain ⟨cp, kp, h1, h2, h3⟩ := mg_step P.1 pc (mm_ins P y pc) _ st w _ _ r h
    rw [mm_exec]
    refine h3 _ _ (fun x hx => ?_) (fun x hx => ?_)
    · obtain ⟨r1, e⟩ := h1 x hx
      rw [e]
      cases hb : Nat.ble (mm_slots x.2.1).length (P.2.2 x.1) with
      | false => rw [hb] at e; cases e
      | true => rw [hb] at e; exact mm_exec_succ P n _ _ _ _ _ _ e
    · obtain ⟨r1, e⟩ := h2 x hx
      rw [e]; exact mm_exec_succ P n _ _ _ _ _ _ e
theorem mm_exec_le (P : mP) {n m y pc : Nat} {l : mL} {st : List mV} {w : mW} {r : mR × mW} (h : mm_exec P n y pc l st w = some r) (hm : n ≤ m) : mm_exec P m y pc l st w = some r := by
  induction hm with
  | refl => exact h
  | step _ ih => exact mm_exec_succ P _ _ _ _ _ _ _ ih
theorem mm_at_of {P : mP} {n y pc : Nat} {l : mL} {st : List mV} {w : mW} {r : mR × mW} (h : mm_exec P n y pc l st w = some r) : mm_at P y pc l st w = some r := by
  have hx : ∃ r n, mm_exec P n y pc l st w = some r := ⟨r, n, h⟩
  unfold mm_at
  rw [dif_pos hx]
  obtain ⟨m, hm⟩ := Classical.choose_spec hx
  have h1 := mm_exec_le P h (Nat.le_max_left n m)
  have h2 := mm_exec_le P hm (Nat.le_max_right n m)
  rw [h1] at h2
  exact h2.symm
theorem mm_at_ex {P : mP} {y pc : Nat} {l : mL} {st : List mV} {w : mW} {r : mR × mW} (h : mm_at P y pc l st w = some r) : ∃ n, mm_exec P n y pc l st w = some r := by
  unfold mm_at at h
  by_cases hx : ∃ r n, mm_exec P n y pc l st w = some r
  · rw [dif_pos hx] at h
    obtain ⟨m, hm⟩ := Classical.choose_spec hx
    exact ⟨m, by rw [hm]; exact h⟩
  · rw [dif_neg hx] at h; cases h
theorem mm_fuel {α : Type} (Q : α → Nat → Prop) (mono : ∀ a n m, n ≤ m → Q a n → Q a m) : ∀ (L : List α), (∀ a ∈ L, ∃ n, Q a n) → ∃ n, ∀ a ∈ L, Q a n
  | [], _ => ⟨0, by simp⟩
  | a :: L, h => by
    obtain ⟨n, hn⟩ := h a List.mem_cons_self
    obtain ⟨m, hm⟩ := mm_fuel Q mono L (fun b hb => h b (List.mem_cons_of_mem _ hb))
    refine ⟨max n m, fun b hb => ?_⟩
    rcases List.mem_cons.mp hb with rfl | hb
    · exact mono _ _ _ (Nat.le_max_left _ _) hn
    · exact mono _ _ _ (Nat.le_max_right _ _) (hm b hb)
theorem mm_at_eq (P : mP) (y pc : Nat) (l : mL) (st : List mV) (w : mW) :
    mm_at P y pc l st w = mm_step P.1 (mm_run P) (mm_at P y) pc (mm_ins P y pc) (mm_kill (mm_ks P y pc) l) st w := by
  cases h : mm_step P.1 (mm_run P) (mm_at P y) pc (mm_ins P y pc) (mm_kill (mm_ks P y pc) l) st w with
  | some r =>
    obtain ⟨cp, kp, h1, h2, h3⟩ := mg_step P.1 pc (mm_ins P y pc) _ st w _ _ r h
    obtain ⟨n1, g1⟩ := mm_fuel (fun (x : Nat × List mV × mW) n => cond (Nat.ble (mm_slots x.2.1).length (P.2.2 x.1)) (mm_exec P n x.1 0 (mm_ent P x.1 x.2.1) [] x.2.2) none = mm_run P x.1 x.2.1 x.2.2 ∧ ∃ r, mm_run P x.1 x.2.1 x.2.2 = some r)
      (fun a n m hnm ⟨e, r, hr⟩ => ⟨by
        rw [hr] at e ⊢
        cases hb : Nat.ble (mm_slots a.2.1).length (P.2.2 a.1) with
        | false => rw [hb] at e; cases e
        | true => rw [hb] at e; exact mm_exec_le P e hnm, r, hr⟩) cp (fun x hx => by
        obtain ⟨r, hr⟩ := h1 x hx
        unfold mm_run at hr ⊢
        cases hb : Nat.ble (mm_slots x.2.1).length (P.2.2 x.1) with
        | false => rw [hb] at hr; cases hr
        | true =>
          rw [hb] at hr
          obtain ⟨n, hn⟩ := mm_at_ex hr
          exact ⟨n, by simp only [cond_true] at hr ⊢; rw [hr, hn], r, hr⟩)
    obtain ⟨n2, g2⟩ := mm_fuel (fun (x : Nat × mL × List mV × mW) n => mm_exec P n y x.1 x.2.1 x.2.2.1 x.2.2.2 = mm_at P y x.1 x.2.1 x.2.2.1 x.2.2.2 ∧ ∃ r, mm_at P y x.1 x.2.1 x.2.2.1 x.2.2.2 = some r)
      (fun a n m hnm ⟨e, r, hr⟩ => ⟨by rw [hr] at e ⊢; exact mm_exec_le P e hnm, r, hr⟩) kp (fun x hx => by
        obtain ⟨r, hr⟩ := h2 x hx
        obtain ⟨n, hn⟩ := mm_at_ex hr
        exact ⟨n, by rw [hr, hn], r, hr⟩)
    apply mm_at_of (n := max n1 n2 + 1)
    rw [mm_exec]
    refine h3 _ _ (fun x hx => ?_) (fun x hx => ?_)
    · obtain ⟨e, r, hr⟩ := g1 x hx
      rw [hr] at e ⊢
      cases hb : Nat.ble (mm_slots x.2.1).length (P.2.2 x.1) with
      | false => rw [hb] at e; cases e
      | true => rw [hb] at e; exact mm_exec_le P e (Nat.le_max_left _ _)
    · obtain ⟨e, r, hr⟩ := g2 x hx
      rw [hr] at e ⊢
      exact mm_exec_le P e (Nat.le_max_right _ _)
  | none =>
    cases h2 : mm_at P y pc l st w with
    | none => rfl
    | some r =>
      exfalso
      obtain ⟨n, hn⟩ := mm_at_ex h2
      cases n with
      | zero => cases hn
      | succ n =>
        rw [mm_exec] at hn
        obtain ⟨cp, kp, g1, g2, g3⟩ := mg_step P.1 pc (mm_ins P y pc) _ st w _ _ r hn
        have := g3 (mm_run P) (mm_at P y) (fun x hx => by
          obtain ⟨r, hr⟩ := g1 x hx
          rw [hr]
          unfold mm_run
          cases hb : Nat.ble (mm_slots x.2.1).length (P.2.2 x.1) with
          | false => rw [hb] at hr; cases hr
          | true => rw [hb] at hr; exact mm_at_of hr) (fun x hx => by
          obtain ⟨r, hr⟩ := g2 x hx
          rw [hr]; exact mm_at_of hr)
        rw [show mm_step P.1 (mm_run P) (mm_at P y) pc (mm_ins P y pc) (mm_kill (mm_ks P y pc) l) st w = some r from this] at h
        cases h
theorem mm_kill_get : ∀ (ks : List Nat) (l : mL) (i : Nat), (mm_kill ks l)[i]? = if i ∈ ks ∧ i < l.length then some none else l[i]?
  | [], l, i => by simp [mm_kill]
  | k :: ks, l, i => by
    rw [mm_kill, mm_kill_get ks]
    by_cases h : i = k
    · subst h
      by_cases hl : i < l.length
      · simp [hl]
      · simp [hl]
    · simp [h, Ne.symm h]
theorem mm_kill_len : ∀ (ks : List Nat) (l : mL), (mm_kill ks l).length = l.length
  | [], l => rfl
  | k :: ks, l => by rw [mm_kill, mm_kill_len ks, List.length_set]
theorem mm_kill_kill (ks : List Nat) (l : mL) : mm_kill ks (mm_kill ks l) = mm_kill ks l := by
  apply List.ext_getElem?
  intro i
  have hlen : ∀ (ks : List Nat) (l : mL), (mm_kill ks l).length = l.length := by
    intro ks
    induction ks with
    | nil => intro l; rfl
    | cons k ks ih => intro l; rw [mm_kill, ih]; simp
  rw [mm_kill_get, hlen]
  by_cases h : i ∈ ks ∧ i < l.length
  · rw [if_pos h, mm_kill_get, if_pos h]
  · rw [if_neg h]
theorem mm_at_kill (P : mP) (y pc : Nat) (l : mL) (st : List mV) (w : mW) : mm_at P y pc (mm_kill (mm_ks P y pc) l) st w = mm_at P y pc l st w := by
  rw [mm_at_eq, mm_kill_kill, ← mm_at_eq]
/-- the machine unfolded, up to the labels -/
noncomputable def mm_U (P : mP) (stops : List Nat) : Nat → Nat → Nat → mL → List mV → mW → mO
  | 0, y, pc, l, st, w => mm_at P y pc l st w
  | n + 1, y, pc, l, st, w => mm_step P.1 (mm_run P) (fun pc' l' st' w' => cond (stops.elem pc') (mm_at P y pc' (mm_kill (mm_ks P y pc') l') st' w') (mm_U P stops n y pc' l' st' w')) pc (mm_ins P y pc) (mm_kill (mm_ks P y pc) l) st w
theorem mm_U_eq (P : mP) (stops : List Nat) : ∀ (n y pc : Nat) (l : mL) (st : List mV) (w : mW), mm_U P stops n y pc l st w = mm_at P y pc l st w
  | 0, _, _, _, _, _ => rfl
  | n + 1, y, pc, l, st, w => by
    rw [mm_U, mm_at_eq]
    congr 1
    funext pc' l' st' w'
    cases stops.elem pc' with
    | true => exact mm_at_kill P y pc' l' st' w'
    | false => exact mm_U_eq P stops n y pc' l' st' w'
/-- the same over a method's own rows -/
def mm_V (E : mE) (cd : List mI) (call : mCall) (k : mK) (stops : List Nat) : Nat → Nat → mL → List mV → mW → mO
  | 0, pc, l, st, w => k pc l st w
  | n + 1, pc, l, st, w => mm_step E call (fun pc' l' st' w' => cond (stops.elem pc') (k pc' (mm_kill (mm_nth cd pc').2.2.2.2.2.2 l') st' w') (mm_V E cd call k stops n pc' l' st' w')) pc (mm_nth cd pc) (mm_kill (mm_nth cd pc).2.2.2.2.2.2 l) st w
theorem mm_V_eq {P : mP} {y : Nat} {cd : List mI} (h : P.2.1 y = cd) (stops : List Nat) (n pc : Nat) (l : mL) (st : List mV) (w : mW) : mm_at P y pc l st w = mm_V P.1 cd (mm_run P) (mm_at P y) stops n pc l st w := by
  subst h
  rw [← mm_U_eq P stops n]
  induction n generalizing pc l st w with
  | zero => rfl
  | succ n ih =>
    rw [mm_U, mm_V]
    simp only [ih]
    rfl
theorem mm_run_eq {P : mP} {y : Nat} {cd : List mI} {a : List mV} (h : P.2.1 y = cd) (hc : Nat.ble (mm_slots a).length (P.2.2 y) = true) {l : mL} (hl : mm_pad (P.2.2 y) (mm_slots a) = l) (stops : List Nat) (n : Nat) (w : mW) : mm_run P y a w = mm_V P.1 cd (mm_run P) (mm_at P y) stops n 0 l [] w := by
  subst hl
  unfold mm_run
  rw [hc]
  exact mm_V_eq h stops n 0 _ [] w
