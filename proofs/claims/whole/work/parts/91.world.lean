/-! the constructors run, and the world they leave -/
def ip_code (y : Nat) : List mI := if y < 365 then z_code y else []
def iP : mP := ((fun _ => 0, 0, z_strs, z_defs), ip_code, z_ml)
def okIns (i : mI) : Bool := !(i.1 == 124) && !(i.1 == 125)
theorem ip_ok : ((List.range 365).all fun y => (z_code y).all okIns) = true := by decide +kernel
theorem nth_ok : ∀ (l : List mI) (pc : Nat), l.all okIns = true → okIns (mm_nth l pc) = true
  | [], 0, _ => by decide
  | [], _ + 1, _ => rfl
  | x :: r, 0, h => by
    rw [List.all_cons, Bool.and_eq_true] at h
    exact h.1
  | x :: r, n + 1, h => by
    rw [List.all_cons, Bool.and_eq_true] at h
    exact nth_ok r n h.2
theorem step_E (Z : mX) (i : mI) (h : okIns i = true) (c : mCall) (k : mK) (pc : Nat) (l : mL) (st : List mV) (w : mW) : mm_step iP.1 c k pc i l st w = mm_step (zP Z).1 c k pc i l st w := by
  unfold okIns at h
  rw [Bool.and_eq_true, Bool.not_eq_true', Bool.not_eq_true', beq_eq_false_iff_ne, beq_eq_false_iff_ne] at h
  unfold mm_step
  have e7 : mm_s7 iP.1 k pc i.1 l st w = mm_s7 (zP Z).1 k pc i.1 l st w := by
    unfold mm_s7
    split
    all_goals first | rfl | exact absurd ‹i.1 = 124› h.1 | exact absurd ‹i.1 = 125› h.2 | skip
    all_goals (rename_i hh; first | exact absurd hh h.1 | exact absurd hh h.2 | skip)
  have e1 : mm_s1 iP.1 k pc i.1 i.2.1 i.2.2.2.2.1 l st w = mm_s1 (zP Z).1 k pc i.1 i.2.1 i.2.2.2.2.1 l st w := rfl
  have e6 : mm_s6 iP.1 k pc i.1 i.2.2.1 i.2.2.2.1 l st w = mm_s6 (zP Z).1 k pc i.1 i.2.2.1 i.2.2.2.1 l st w := rfl
  rw [e7, e1, e6]
theorem ip_ins {y pc : Nat} (h : y < 365) : mm_ins iP y pc = mm_ins (iP.1, z_code, z_ml) y pc ∧ okIns (mm_ins iP y pc) = true := by
  have e : iP.2.1 y = z_code y := if_pos h
  have g := ip_ok
  rw [List.all_eq_true] at g
  have g := g y (List.mem_range.mpr h)
  refine ⟨?_, ?_⟩
  · unfold mm_ins
    rw [e]
  · unfold mm_ins
    rw [e]
    exact nth_ok _ _ g
theorem nth_nil : ∀ pc : Nat, mm_nth [] pc = mm_nth [] 0
  | 0 => rfl
  | _ + 1 => rfl
theorem ip_none {y pc : Nat} (h : ¬ y < 365) (c : mCall) (k : mK) (l : mL) (st : List mV) (w : mW) : mm_step iP.1 c k pc (mm_ins iP y pc) l st w = none := by
  have e : iP.2.1 y = [] := if_neg h
  unfold mm_ins
  rw [e, nth_nil]
  rfl
theorem ex_E (Z : mX) : ∀ (n y pc : Nat) (l : mL) (st : List mV) (w : mW) (r : mR × mW), mm_exec iP n y pc l st w = some r → mm_exec (zP Z) n y pc l st w = some r
  | 0, _, _, _, _, _, _, h => by cases h
  | n + 1, y, pc, l, st, w, r, h => by
    rw [mm_exec] at h
    by_cases hy : y < 365
    · obtain ⟨e1, e2⟩ := ip_ins (pc := pc) hy
      have e3 : mm_ins (zP Z) y pc = mm_ins iP y pc := e1.symm
      have e4 : mm_ks (zP Z) y pc = mm_ks iP y pc := by unfold mm_ks; rw [e3]
      rw [step_E Z _ e2] at h
      obtain ⟨cp, kp, h1, h2, h3⟩ := mg_step (zP Z).1 pc (mm_ins iP y pc) _ st w _ _ r h
      rw [mm_exec, e3, e4]
      refine h3 _ _ (fun x hx => ?_) (fun x hx => ?_)
      · obtain ⟨r1, e⟩ := h1 x hx
        rw [e]
        cases hb : Nat.ble (mm_slots x.2.1).length (iP.2.2 x.1) with
        | false => rw [hb] at e; cases e
        | true =>
          rw [hb] at e
          have hb' : Nat.ble (mm_slots x.2.1).length ((zP Z).2.2 x.1) = true := hb
          rw [hb']
          exact ex_E Z n _ _ _ _ _ _ e
      · obtain ⟨r1, e⟩ := h2 x hx
        rw [e]
        exact ex_E Z n _ _ _ _ _ _ e
    · rw [ip_none hy] at h
      cases h
def gw (o : mO) : mW := match o with | some (_, w) => w | none => z_w0
def isN (o : mO) : Bool := match o with | some (none, _) => true | _ => false
theorem isN_gw {o : mO} (h : isN o = true) : o = some (none, gw o) := by
  rcases o with _ | ⟨_ | x, w⟩
  · cases h
  · rfl
  · cases h
def iA1 : mW := mm_alloc z_w0 (.inl (11, z_defs 11)) 18
def iE1 : mO := mm_exec iP 20000 135 0 (mm_ent iP 135 [.inr (.inr (some 3))]) [] iA1
def iA2 : mW := mm_alloc (gw iE1) (.inl (12, z_defs 12)) 39
def iE2 : mO := mm_exec iP 20000 210 0 (mm_ent iP 210 [.inr (.inr (some 141))]) [] iA2
def iW : mW := gw iE2
theorem iE1_n : isN iE1 = true := by decide +kernel
theorem iE1_c : ((gw iE1).2.1 == 141) = true := by decide +kernel
theorem iE2_n : isN iE2 = true := by decide +kernel
theorem iE2_c : (iW.2.1 == 160 && iW.2.2 == 11856) = true := by decide +kernel
