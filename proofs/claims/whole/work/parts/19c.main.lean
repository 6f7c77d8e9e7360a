/-! the simulation: what the mini machine answers, the machine answers -/
theorem zAll_spec {b : ByteArray} {ps : List Nat} {y c : Nat} : ∀ (code : List mI) (i j : Nat), zAll b ps y c i code = true → zF b ps y c (i + j) (mm_nth code j) = true ∨ mm_nth code j = (0, 0, 0, 0, 0, [], [])
  | [], i, j, _ => Or.inr rfl
  | I :: r, i, 0, h => by
    unfold zAll at h
    exact Or.inl (z_and h).1
  | I :: r, i, j + 1, h => by
    unfold zAll at h
    rw [show i + (j + 1) = (i + 1) + j by omega]
    exact zAll_spec r (i + 1) j (z_and h).2
theorem mm_nth_ge : ∀ (code : List mI) (j : Nat), code.length ≤ j → mm_nth code j = (0, 0, 0, 0, 0, [], [])
  | [], _, _ => rfl
  | _ :: _, 0, h => by simp at h
  | _ :: r, j + 1, h => mm_nth_ge r j (by simpa using h)
theorem zMeth_spec {y : Nat} (h : y < 366) (pc : Nat) : zF (z_by y) (z_pl y) y (z_oc y) pc (mm_nth (z_code y) pc) = true ∨ mm_nth (z_code y) pc = (0, 0, 0, 0, 0, [], []) := by
  by_cases hy : y < 365
  · have h2 := zm_all hy
    unfold zMeth at h2
    have := zAll_spec (z_code y) 0 pc (z_and h2).1
    rwa [Nat.zero_add] at this
  · have : y = 365 := by omega
    subst this
    by_cases hp : pc < 1369
    · exact Or.inl (zm_law hp)
    · refine Or.inr (mm_nth_ge _ _ ?_)
      have hl : (z_code 365).length = 1369 := by decide +kernel
      omega
theorem z_pl0 {y : Nat} (h : y < 365) : (z_pl y).getD 0 0 = 0 := by
  have h2 := zm_all h
  unfold zMeth at h2
  exact of_decide_eq_true (z_and h2).2
/-- the script, for the law alone -/
def zScr (g : zG) (s : State) : Prop := ∃ (L : Nat) (xs : Nat → Int32), va_X (zad g 2) L xs s s.heap ∧ zad g 2 < s.heap.size ∧ ¬ zA g (zad g 2) ∧ L ≤ 3072 ∧ g.2.2.2.2.2.1.2 = L ∧ ∀ i : Int, g.2.2.2.2.2.1.1 i = (xs i.toNat).toInt
def zSim (l : Launch) (g : zG) (n : Nat) : Prop := ∀ (y : Nat) (p : Program) (e : Env) (R : Room) (s : State) (m : MethodId) (args : Array Value) (below : List Frame) (meth : Method) (c : Code) (Q : State → Prop) (K0 S0 : Nat) (H : Heap) (locs : List Loc) (cells slots : Nat) (ls : Array Slot) (pc : Nat) (lc : mL) (st : List mV) (w : mW) (rw : mR × mW),
  y < 366 → zFr l g y p R s m args meth c K0 S0 → mm_exec (zP g.2.2.2.2.2.1) n y pc lc st w = some rw → zRel g s (z_ml y) K0 S0 w H locs cells slots lc ls → zOKl st → (rw.2.2.1 ≤ R.cells + K0 ∧ rw.2.2.2 ≤ R.slots + S0) →
  (z_oc y = 14 → zScr g s) → zEnd p l e R s m args below meth c Q g y K0 S0 rw → W p l e R s m args below meth c H locs cells slots Q (F0 m ((z_pl y).getD pc 0) ls (st.map (cv (zad g))))
theorem zlv_args (ad : Nat → Nat) : ∀ (as : List mV) (i k : Nat) (v : mV), (mm_slots as)[k]? = some (some v) → (i + k, cv ad v) ∈ lv_args i (as.map (cv ad))
  | [], _, _, _, h => by simp [mm_slots] at h
  | .inl x :: r, i, k, v, h => by
    rw [List.map_cons, lv_args]
    cases k with
    | zero =>
      rw [mm_slots] at h
      simp only [List.getElem?_cons_zero, Option.some.injEq] at h
      subst h
      exact List.mem_cons_self
    | succ k =>
      rw [mm_slots, List.getElem?_cons_succ] at h
      have := zlv_args ad r (i + 1) k v h
      rw [show i + (k + 1) = i + 1 + k by omega]
      exact List.mem_cons_of_mem _ this
  | .inr (.inl x) :: r, i, k, v, h => by
    rw [List.map_cons, lv_args]
    match k with
    | 0 =>
      rw [mm_slots] at h
      simp only [List.getElem?_cons_zero, Option.some.injEq] at h
      subst h
      exact List.mem_cons_self
    | 1 =>
      rw [mm_slots] at h
      simp at h
    | k + 2 =>
      rw [mm_slots, List.getElem?_cons_succ, List.getElem?_cons_succ] at h
      have := zlv_args ad r (i + 2) k v h
      rw [show i + (k + 2) = i + 2 + k by omega]
      exact List.mem_cons_of_mem _ this
  | .inr (.inr x) :: r, i, k, v, h => by
    rw [List.map_cons, lv_args, cv_cat3]
    cases k with
    | zero =>
      rw [mm_slots] at h
      simp only [List.getElem?_cons_zero, Option.some.injEq] at h
      subst h
      exact List.mem_cons_self
    | succ k =>
      rw [mm_slots, List.getElem?_cons_succ] at h
      have := zlv_args ad r (i + 1) k v h
      rw [show i + (k + 1) = i + 1 + k by omega]
      exact List.mem_cons_of_mem _ this
theorem mm_pad_get : ∀ (n : Nat) (l : mL) (k : Nat) (v : mV), (mm_pad n l)[k]? = some (some v) → l[k]? = some (some v)
  | 0, l, k, v, h => by simp [mm_pad] at h
  | n + 1, [], k, v, h => by
    rw [mm_pad] at h
    cases k with
    | zero => simp at h
    | succ k =>
      rw [List.getElem?_cons_succ] at h
      have := mm_pad_get n [] k v h
      simp at this
  | n + 1, x :: r, k, v, h => by
    rw [mm_pad] at h
    cases k with
    | zero => simpa using h
    | succ k =>
      rw [List.getElem?_cons_succ] at h ⊢
      exact mm_pad_get n r k v h
theorem mm_pad_len : ∀ (n : Nat) (l : mL), (mm_pad n l).length = n
  | 0, l => rfl
  | n + 1, [] => by rw [mm_pad, List.length_cons, mm_pad_len n]
  | n + 1, x :: r => by rw [mm_pad, List.length_cons, mm_pad_len n]
theorem zlg_len (ad : Nat → Nat) : ∀ (as : List mV), (lg_sl (as.map (cv ad))).length = (mm_slots as).length
  | [] => rfl
  | .inl x :: r => by
    have := zlg_len ad r
    unfold lg_sl at this ⊢
    rw [List.map_cons, List.flatMap_cons, List.length_append, this, mm_slots, List.length_cons]
    show 1 + _ = _
    omega
  | .inr (.inl x) :: r => by
    have := zlg_len ad r
    unfold lg_sl at this ⊢
    rw [List.map_cons, List.flatMap_cons, List.length_append, this, mm_slots, List.length_cons, List.length_cons]
    show 2 + _ = _
    omega
  | .inr (.inr x) :: r => by
    have := zlg_len ad r
    unfold lg_sl at this ⊢
    rw [List.map_cons, List.flatMap_cons, List.length_append, this, mm_slots, List.length_cons, cv_cat3]
    show 1 + _ = _
    omega
theorem mm_slots_ok : ∀ (as : List mV), zOKl as → ∀ (k : Nat) (v : mV), (mm_slots as)[k]? = some (some v) → zOKv v
  | [], _, k, v, h => by simp [mm_slots] at h
  | .inl x :: r, ho, k, v, h => by
    rw [mm_slots] at h
    cases k with
    | zero => simp only [List.getElem?_cons_zero, Option.some.injEq] at h; subst h; exact ho.1
    | succ k => rw [List.getElem?_cons_succ] at h; exact mm_slots_ok r ho.2 k v h
  | .inr (.inl x) :: r, ho, k, v, h => by
    rw [mm_slots] at h
    match k with
    | 0 => simp only [List.getElem?_cons_zero, Option.some.injEq] at h; subst h; exact ho.1
    | 1 => simp at h
    | k + 2 => rw [List.getElem?_cons_succ, List.getElem?_cons_succ] at h; exact mm_slots_ok r ho.2 k v h
  | .inr (.inr x) :: r, ho, k, v, h => by
    rw [mm_slots] at h
    cases k with
    | zero => simp only [List.getElem?_cons_zero, Option.some.injEq] at h; subst h; exact ho.1
    | succ k => rw [List.getElem?_cons_succ] at h; exact mm_slots_ok r ho.2 k v h
theorem zMet_of {l : Launch} {g : zG} {n : Nat} (hS : zSim l g n) {b : Nat} {as : List mV} {w w1 : mW} {r1 : mR} (hb : b < 365) (has : zOKl as) (hok : zOK w) (hc : Nat.ble (mm_slots as).length (z_ml b) = true) (h : mm_exec (zP g.2.2.2.2.2.1) n b 0 (mm_ent (zP g.2.2.2.2.2.1) b as) [] w = some (r1, w1)) : zMet l g b as w r1 w1 := by
  obtain ⟨h1, h2, h3, h4, h5⟩ := zSig_spec hb
  have hle := mm_exec_w _ _ _ _ _ _ _ _ h
  have hlen : (mm_slots as).length ≤ z_ml b := Nat.le_of_ble_eq_true hc
  refine Met.ofW (cc := z_by b) (maxL := z_ml b) (ret := z_rt b) h1 rfl ?_
  intro p e s m args below meth c s₁ B hml hv
  obtain ⟨rfl, hP, hsz, -, hSt, hSr⟩ := hv
  have hx := B.exec
  have hcb := B.bytes
  have hr := B.returns
  have hts0 := atoms_spec (ws := z_ws b) B.pre
  have hts : ∀ w ∈ zTs, w.before (as.map (cv (zad g))).toArray s = true := fun w hw => hts0 w (List.mem_cons_of_mem _ hw)
  have hown : s.vm.findClass (z_cn (z_oc b)) = some m.cls := by
    have := findClass_of_methodNamed B.named
    rwa [h2] at this
  have hlocks := B.notSynchronized
  have hl := lv_entry (as.map (cv (zad g))) (n := z_ml b) (by rw [zlg_len]; exact hlen)
  rw [lg_entry_eq]
  generalize (lg_sl (as.map (cv (zad g))) ++ List.replicate (z_ml b - (lg_sl (as.map (cv (zad g)))).length) Slot.unset).toArray = ls at hl ⊢
  have h3w : 3 ≤ w.2.1 := hok.1
  have hA0 : g.1 ≤ s.heap.size := by omega
  have hlr : lv_has ls (z_ml b) (zlp (zad g) (mm_ent (zP g.2.2.2.2.2.1) b as)) := by
    refine zl_less hl fun q hq => ?_
    obtain ⟨v, q1, q2⟩ := zlp_mem.mp hq
    have := zlv_args (zad g) as 0 q.1 v (mm_pad_get _ _ _ _ q1)
    rw [Nat.zero_add, ← q2] at this
    exact this
  have hokL : zOKL (mm_ent (zP g.2.2.2.2.2.1) b as) := fun k v hk => mm_slots_ok as has k v (mm_pad_get _ _ _ _ hk)
  have hrel : zRel g s (z_ml b) w.2.1 w.2.2 w s.heap [] 0 0 (mm_ent (zP g.2.2.2.2.2.1) b as) ls := ⟨hP, va_S.rf, hok, hlr, hokL, mm_pad_len _ _, by omega, by omega⟩
  have hfr : zFr l g b p (headSpec (z_ws b) (zRm b w w1)).room s m (as.map (cv (zad g))).toArray meth c w.2.1 w.2.2 := ⟨hx, hcb, hml, hown, hts, hSt, hSr, hA0, fun hi => by
      have h7 := (name_of_methodNamed B.named B.method).1
      rw [h7]
      exact of_decide_eq_true hi, Nat.le_refl _, Nat.le_refl _, hsz⟩
  have hns := hS b p e (headSpec (z_ws b) (zRm b w w1)).room s m (as.map (cv (zad g))).toArray below meth c (MQ below (zQc g r1 w1) (as.map (cv (zad g))).toArray s (w1.2.1 - w.2.1) (w1.2.2 - w.2.2) (zA g)) w.2.1 w.2.2 s.heap [] 0 0 ls 0 _ [] w (r1, w1) (by omega) hfr h hrel trivial
    ⟨by show w1.2.1 ≤ (w1.2.1 - w.2.1) + w.2.1; have := hle.1; simp only at this; omega, by show w1.2.2 ≤ (w1.2.2 - w.2.2) + w.2.2; have := hle.2; simp only at this; omega⟩ (fun hz => by omega) ?_
  · rw [z_pl0 hb] at hns
    exact hns
  · intro H locs cells slots ls pcb st hrt hokr hP1 hS1 hok1 hc1 hs1
    simp only at hrt hokr hP1 hok1 hc1 hs1
    have ec : cells = w1.2.1 - w.2.1 := by omega
    have es : slots = w1.2.2 - w.2.2 := by omega
    subst ec
    subst es
    have hq : ∀ t : State, t.heap = H → s.WarmedH t.vm → zQc g r1 w1 (as.map (cv (zad g))).toArray s (.returned (r1.map (cv (zad g)))) t := fun t ht _ => ⟨rfl, hokr, by rw [ht]; exact hP1, hok1, hS1.F ht⟩
    unfold zRt at hrt
    rcases r1 with _ | x | x | x
    · obtain ⟨a1, a2, a3⟩ := hrt
      subst a3
      exact W.vret hx hcb (by rw [hr, a2]) hq hS1.2.2 a1 hlocks
    · obtain ⟨a1, a2, a3⟩ := hrt
      subst a3
      rcases a2 with a2 | ⟨a2, a4⟩
      · exact W.iret hx hcb (by rw [hr, a2]) hq hS1.2.2 a1 hlocks
      · exact W.zret (ty := .boolean) hx hcb (by rw [hr, a2]) (by rcases a4 with rfl | rfl <;> rfl) hq hS1.2.2 a1 hlocks
    · obtain ⟨a1, a2, a3⟩ := hrt
      subst a3
      exact W.lret hx hcb (by rw [hr, a2]) hq hS1.2.2 a1 hlocks
    · obtain ⟨a1, a2, a3⟩ := hrt
      subst a3
      obtain ⟨ty, a4, a5⟩ := zRef_spec a2
      exact W.aret hx hcb (by rw [hr, a4]) a5 (by cases x; exact Or.inl rfl; exact Or.inr ⟨_, rfl⟩) hq hS1.2.2 a1 hlocks
theorem z_arrw : ∀ t ∈ [FieldType.int, .byte, .boolean, .long], (Cond.arrayClass t) ∈ zTs := by
  intro t ht
  simp only [List.mem_cons, List.not_mem_nil, or_false] at ht
  rcases ht with rfl | rfl | rfl | rfl
  · exact zj_arr_int
  · exact zj_arr_byte
  · exact zj_arr_boolean
  · exact zj_arr_long
set_option maxHeartbeats 4000000 in
theorem zsim (l : Launch) (g : zG) : ∀ n, zSim l g n
  | 0 => fun y p e R s m args below meth c Q K0 S0 H locs cells slots ls pc lc st w rw hy hfr h hrel hst hR hscr hend => by cases h
  | n + 1 => fun y p e R s m args below meth c Q K0 S0 H locs cells slots ls pc lc st w rw hy hfr h hrel hst hR hscr hend => by
    have ih := zsim l g n
    obtain ⟨hx, hb, hml, hown, hts, hSt, hSr, hA0, hini, hf1, hf2, hK0⟩ := id hfr
    rw [mm_exec] at h
    have hrk : zRel g s (z_ml y) K0 S0 w H locs cells slots (mm_kill (mm_ks (zP g.2.2.2.2.2.1) y pc) lc) ls := by
      obtain ⟨a1, a2, a3, a4, a5, a6, a7, a8⟩ := hrel
      exact ⟨a1, a2, a3, zl_kill _ a4, zOKL_kill _ a5, by rw [mm_kill_len]; exact a6, a7, a8⟩
    have hgo : zGo p l e R s m args below meth c Q g (z_pl y) (z_ml y) K0 S0 (fun pc' l' st' w' => mm_exec (zP g.2.2.2.2.2.1) n y pc' l' st' w') rw := fun pc lc st w H locs cells slots ls h1 h2 h3 => ih y p e R s m args below meth c Q K0 S0 H locs cells slots ls pc lc st w rw hy hfr h1 h2 h3 hR hscr hend
    have hmono : ∀ (pc : Nat) (lc : mL) (st : List mV) (w1 : mW), mm_exec (zP g.2.2.2.2.2.1) n y pc lc st w1 = some rw → w1.2.1 ≤ rw.2.2.1 ∧ w1.2.2 ≤ rw.2.2.2 := fun pc lc st w1 h1 => mm_exec_w _ _ _ _ _ _ _ _ h1
    have hcall : ∀ (b : Nat) (as : List mV) (w : mW) (r1 : mR) (w1 : mW), b < 365 → as.length = z_na b → zOKl as → zOK w → cond (Nat.ble (mm_slots as).length ((zP g.2.2.2.2.2.1).2.2 b)) (mm_exec (zP g.2.2.2.2.2.1) n b 0 (mm_ent (zP g.2.2.2.2.2.1) b as) [] w) none = some (r1, w1) → zMet l g b as w r1 w1 := by
      intro b as w r1 w1 hb365 _ has hok hc
      obtain ⟨hc1, hc2⟩ := z_cond2 hc
      exact zMet_of ih hb365 has hok hc1 hc2
    have hcw : ∀ (b : Nat) (as : List mV) (w : mW) (r1 : mR) (w1 : mW), cond (Nat.ble (mm_slots as).length ((zP g.2.2.2.2.2.1).2.2 b)) (mm_exec (zP g.2.2.2.2.2.1) n b 0 (mm_ent (zP g.2.2.2.2.2.1) b as) [] w) none = some (r1, w1) → zle w w1 := by
      intro b as w r1 w1 hc
      obtain ⟨-, hc2⟩ := z_cond2 hc
      exact mm_exec_w _ _ _ _ _ _ _ _ hc2
    have hF := zMeth_spec hy pc
    have hI : mm_ins (zP g.2.2.2.2.2.1) y pc = mm_nth (z_code y) pc := rfl
    rw [hI] at h
    generalize mm_nth (z_code y) pc = I at h hF
    rcases hF with hF | hF
    rotate_left
    · subst hF; cases h
    unfold mm_step at h
    unfold zF at hF
    by_cases c1 : I.1 < 20
    · rw [if_pos c1] at h hF
      exact zs1 hx hb hgo hrk hst hown hts hSt.2.2.2 hF h
    rw [if_neg c1] at h hF
    by_cases c2 : I.1 < 40
    · rw [if_pos c2] at h hF
      exact zs2 hx hb hgo hrk hst hF h
    rw [if_neg c2] at h hF
    by_cases c3 : I.1 < 60
    · rw [if_pos c3] at h hF
      exact zs3 hx hb hgo hrk hst hF h
    rw [if_neg c3] at h hF
    by_cases c4 : I.1 < 80
    · rw [if_pos c4] at h hF
      exact zs4 hx hb hgo hrk hst hF h
    rw [if_neg c4] at h hF
    by_cases c5 : I.1 < 100
    · rw [if_pos c5] at h hF
      exact zs5 hx hb hgo hrk hst hown hts (fun t ht => hts _ (z_arrw t ht)) hSt.2.2.1 hSt.1 hA0 hK0 hmono hR hF h
    rw [if_neg c5] at h hF
    by_cases c6 : I.1 < 120
    · rw [if_pos c6] at h hF
      exact zs6 rfl hx hb hml hgo hrk hst hown hts hini hSt.1 hA0 hK0 hmono hR ⟨hf1, hf2⟩ hF h
    rw [if_neg c6] at h hF
    by_cases c7 : I.1 < 150
    · rw [if_pos c7] at h hF
      exact zs7 (E := (zP g.2.2.2.2.2.1).1) rfl hx hb rfl hml hgo hend hrk hst hown hts hmono hR ⟨hf1, hf2⟩ (fun {a q pcb rest} => z_slen hfr hrk hR) (fun {a q pcb i rest} => z_schr hfr hrk hR) hscr hF h
    rw [if_neg c7] at h hF
    exact zs9 hx hb hml hgo hrk hst hown hts hSt hSr hK0 hA0 hmono hR ⟨hf1, hf2⟩ hcall hcw hF h
