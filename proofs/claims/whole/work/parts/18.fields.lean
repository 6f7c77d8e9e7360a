/-! the machine follows the mini machine: fields, objects, numbers' members, ends -/
theorem zlay_all : ∀ c, c < 13 → ∀ k, k < z_N c → (c, k) ∈ z_lay := by decide +kernel
theorem zw_u {c : Nat} (h : c < 13) : ∀ w ∈ u_ws (z_cn c) (zT c) (z_N c), w ∈ zTs := by
  intro w hw
  unfold u_ws at hw
  obtain ⟨k, hk, rfl⟩ := List.mem_map.mp hw
  exact z_el (f := fun e : Nat × Nat => u_lay (z_cn e.1) (zT e.1) e.2) zw_lay (zlay_all c h k (List.mem_range.mp hk))
theorem z_all13 {P : Nat → Prop} (h0 : P 0) (h1 : P 1) (h2 : P 2) (h3 : P 3) (h4 : P 4) (h5 : P 5) (h6 : P 6) (h7 : P 7) (h8 : P 8) (h9 : P 9) (h10 : P 10) (h11 : P 11) (h12 : P 12) {c : Nat} (h : c < 13) : P c := by
  rcases (show c = 0 ∨ c = 1 ∨ c = 2 ∨ c = 3 ∨ c = 4 ∨ c = 5 ∨ c = 6 ∨ c = 7 ∨ c = 8 ∨ c = 9 ∨ c = 10 ∨ c = 11 ∨ c = 12 by omega) with rfl | rfl | rfl | rfl | rfl | rfl | rfl | rfl | rfl | rfl | rfl | rfl | rfl <;> assumption
theorem z_hty {c : Nat} (h : c < 13) : ∀ k, k < z_N c → parseFieldDescriptor (zT c k).2.2.1 = some (zty c k) :=
  z_all13 (P := fun c => ∀ k, k < z_N c → parseFieldDescriptor (zT c k).2.2.1 = some (zty c k)) tyX0_ok tyX1_ok tyX2_ok tyX3_ok tyX4_ok tyX5_ok tyX6_ok tyX7_ok tyX8_ok tyX9_ok tyX10_ok tyX11_ok tyX12_ok h
theorem z_hnm {c : Nat} (h : c < 13) : ∀ a, a < z_N c → ∀ b, b < z_N c → a ≠ b → (zT c a).2.1 ≠ (zT c b).2.1 :=
  z_all13 (P := fun c => ∀ a, a < z_N c → ∀ b, b < z_N c → a ≠ b → (zT c a).2.1 ≠ (zT c b).2.1) nmX0 nmX1 nmX2 nmX3 nmX4 nmX5 nmX6 nmX7 nmX8 nmX9 nmX10 nmX11 nmX12 h
def z_dv (c : Nat) : List Value := (z_defs c).map (cv (fun _ => 0))
theorem z_dv_eq (ad : Nat → Nat) {c : Nat} (h : c < 13) : (z_defs c).map (cv ad) = z_dv c := z_all13 (P := fun c => (z_defs c).map (cv ad) = z_dv c) rfl rfl rfl rfl rfl rfl rfl rfl rfl rfl rfl rfl rfl h
theorem z_dflt_l {c : Nat} (h : c < 13) : (List.range (z_N c)).map (fun j => defaultValue (zty c j)) = z_dv c := z_all13 (P := fun c => (List.range (z_N c)).map (fun j => defaultValue (zty c j)) = z_dv c) rfl rfl rfl rfl rfl rfl rfl rfl rfl rfl rfl rfl rfl h
theorem z_dflt {c : Nat} (h : c < 13) (j : Nat) (hj : j < z_N c) : defaultValue (zty c j) = vp_V (z_dv c) j := by
  rw [← z_dflt_l h]
  unfold vp_V
  rw [List.getD_eq_getElem?_getD, List.getElem?_map, List.getElem?_range hj]
  rfl
theorem z_defs_ok {c : Nat} (h : c < 13) : (z_defs c).length = z_N c ∧ ∀ (k : Nat) (v : mV), (z_defs c)[k]? = some v → zOKv v := by
  have key : ∀ c, c < 13 → (z_defs c).length = z_N c ∧ (z_defs c).all (fun v => match v with | .inl x => decide (x = 0) | .inr (.inl x) => decide (x = 0) | .inr (.inr _) => true) = true := by decide +kernel
  obtain ⟨h1, h2⟩ := key c h
  refine ⟨h1, fun k v hv => ?_⟩
  have := List.all_eq_true.mp h2 v (List.mem_of_getElem? hv)
  rcases v with x | x | x
  · have hx : x = 0 := of_decide_eq_true this
    subst hx
    show zR32 0
    decide
  · have hx : x = 0 := of_decide_eq_true this
    subst hx
    show zR64 0
    decide
  · trivial
theorem mm_wt_ok (ad : Nat → Nat) : ∀ st : List mV, ((st.map (cv ad)).map fun v => v.category).sum = mm_wt st
  | [] => rfl
  | .inl x :: r => by
    rw [List.map_cons, List.map_cons, List.sum_cons, mm_wt_ok ad r, mm_wt]
    show 1 + _ = _
    omega
  | .inr (.inl x) :: r => by
    rw [List.map_cons, List.map_cons, List.sum_cons, mm_wt_ok ad r, mm_wt]
    show 2 + _ = _
    omega
  | .inr (.inr x) :: r => by
    rw [List.map_cons, List.map_cons, List.sum_cons, mm_wt_ok ad r, mm_wt, cv_cat3]
    omega
theorem mm_gI_spec {w : mW} {q ci k : Nat} {x : Int} (h : mm_gI w q ci k = some x) : ∃ fs, w.1 q = .inl (ci, fs) ∧ fs[k]? = some (.inl x) := by
  unfold mm_gI at h
  split at h
  · rename_i o ho
    obtain ⟨c, fs⟩ := o
    split at h
    · rename_i hc
      simp only at hc h
      subst hc
      split at h
      · rename_i hx
        cases h
        exact ⟨fs, ho, hx⟩
      · cases h
    · cases h
  · cases h
theorem mm_gJ_spec {w : mW} {q ci k : Nat} {x : Int} (h : mm_gJ w q ci k = some x) : ∃ fs, w.1 q = .inl (ci, fs) ∧ fs[k]? = some (.inr (.inl x)) := by
  unfold mm_gJ at h
  split at h
  · rename_i o ho
    obtain ⟨c, fs⟩ := o
    split at h
    · rename_i hc
      simp only at hc h
      subst hc
      split at h
      · rename_i hx
        cases h
        exact ⟨fs, ho, hx⟩
      · cases h
    · cases h
  · cases h
theorem mm_gR_spec {w : mW} {q ci k : Nat} {x : Option Nat} (h : mm_gR w q ci k = some x) : ∃ fs, w.1 q = .inl (ci, fs) ∧ fs[k]? = some (.inr (.inr x)) := by
  unfold mm_gR at h
  split at h
  · rename_i o ho
    obtain ⟨c, fs⟩ := o
    split at h
    · rename_i hc
      simp only at hc h
      subst hc
      split at h
      · rename_i hx
        cases h
        exact ⟨fs, ho, hx⟩
      · cases h
    · cases h
  · cases h
theorem mm_p_spec {w w1 : mW} {q ci k : Nat} {v : mV} (h : mm_p w q ci k v = some w1) : ∃ fs, w.1 q = .inl (ci, fs) ∧ k < fs.length ∧ w1 = mm_set w q (.inl (ci, fs.set k v)) := by
  unfold mm_p at h
  split at h
  · rename_i o ho
    obtain ⟨c, fs⟩ := o
    split at h
    · rename_i hc
      simp only at hc h
      obtain ⟨h1, h2⟩ := hc
      subst h1
      cases h
      exact ⟨fs, ho, h2, rfl⟩
    · cases h
  · cases h
theorem zFd_spec {c a ci k : Nat} (h : zFd c a ci k = true) : (c, a, ci, k) ∈ z_flds ∧ k < z_N ci ∧ ci < 13 := by
  unfold zFd at h
  obtain ⟨h, h3⟩ := z_and h
  obtain ⟨h1, h2⟩ := z_and h
  exact ⟨List.elem_iff.mp h1, of_decide_eq_true h2, of_decide_eq_true h3⟩
theorem zRef_spec {t : Option FieldType} (h : zRef t = true) : ∃ ty, t = some ty ∧ ((∃ n, ty = .object n) ∨ ∃ t', ty = .array t') := by
  unfold zRef at h
  split at h
  · exact ⟨_, rfl, Or.inl ⟨_, rfl⟩⟩
  · exact ⟨_, rfl, Or.inr ⟨_, rfl⟩⟩
  · cases h
theorem z_in13 {c : Nat} (h : c < 13) : c ∈ z_cinst := by
  have key : ∀ c, c < 13 → c ∈ z_cinst := by decide +kernel
  exact key c h
theorem z_in14 {c : Nat} (h : c < 14) : c ∈ z_cini := by
  have key : ∀ c, c < 14 → c ∈ z_cini := by decide +kernel
  exact key c h
section ZP6
variable {p : Program} {l : Launch} {e : Env} {R : Room} {s : State} {m : MethodId} {args : Array Value} {below : List Frame} {meth : Method} {c : Code} {Q : State → Prop}
variable {H : Heap} {locs : List Loc} {cells slots : Nat} {ls : Array Slot} {g : zG} {ps : List Nat} {k : mK} {rw : mR × mW} {pc nL : Nat} {lc : mL} {st : List mV} {w : mW} {cc : ByteArray}
variable {K0 S0 : Nat}
/-- a field is put -/
theorem z_putrow {y oc ci kk q a pcb : Nat} {ty : FieldType} {v : mV} {fs : List mV} {rest : List Value} (hx : p.tables.exec = Jvm.exec) (hb : c.code = cc) (hr : zRel g s nL K0 S0 w H locs cells slots lc ls)
    (hown : s.vm.findClass (z_cn oc) = some m.cls) (hts : ∀ w ∈ zTs, w.before args s = true) (hK : va_K g.2.2.2.2.1 vwCl (ztys g) s) (hini : zIn y = true → meth.name = "<init>")
    (hf : (oc, a, ci, kk) ∈ z_flds) (hkN : kk < z_N ci) (hci : ci < 13) (hfin : zFin y oc ci kk = true) (hd0 : parseFieldDescriptor (zT ci kk).2.2.1 = some ty) (hn : narrow ty (cv (zad g) v) = cv (zad g) v) (hfit : fits ty (cv (zad g) v) = true)
    (hq : w.1 q = .inl (ci, fs)) (hlen : kk < fs.length) (hv : zOKv v) (hd : decode cc pcb = .ok (.putfield a, 3))
    (kn : ∀ (H1 : Heap) (locs1 : List Loc), zRel g s nL K0 S0 (mm_set w q (.inl (ci, fs.set kk v))) H1 locs1 cells slots lc ls → W p l e R s m args below meth c H1 locs1 cells slots Q (F0 m (pcb + 3) ls rest)) :
    W p l e R s m args below meth c H locs cells slots Q (F0 m pcb ls (cv (zad g) v :: .ref (zad g q) :: rest)) := by
  obtain ⟨g1, g2, hok, hat⟩ := z_get hr hq (by intro f' e; cases e)
  unfold zE at hat
  simp only at hat
  have hlink := hts _ (z_el (f := fun e : Nat × Nat × Nat × Nat => (.fieldLink (z_cn e.1) e.2.1 (zT e.2.2.1 e.2.2.2).1 (zT e.2.2.1 e.2.2.2).2.1 (zT e.2.2.1 e.2.2.2).2.2.1 : Cond)) zw_flds hf)
  have fin : ∀ (H1 : Heap) (locs1 : List Loc), va_P g.2.2.2.2.1 vwCl ((zW g w).set (q - 3) (zad g q, .inr (ci, (fs.map (cv (zad g))).set kk (cv (zad g) v)))) H1 → va_S (zA g) s.heap H1 locs1 → W p l e R s m args below meth c H1 locs1 cells slots Q (F0 m (pcb + 3) ls rest) := by
    intro H1 locs1 hP1 hS1
    have e := zW_set g w (q := q) (.inl (ci, fs.set kk v)) g1 g2
    unfold zE at e
    simp only at e
    rw [List.map_set] at e
    rw [← e] at hP1
    refine kn H1 locs1 (hr.world hP1 hS1 (zOK_set hr.2.2.1 g1 g2 ⟨hok.1, by rw [List.length_set]; exact hok.2.1, fun j u hu => ?_⟩) rfl)
    rw [List.getElem?_set] at hu
    by_cases hj : kk = j
    · subst hj
      simp only [if_true, hlen] at hu
      cases hu
      exact hv
    · rw [if_neg hj] at hu
      exact hok.2.2 j u hu
  by_cases hf2 : (zT ci kk).2.2.2 = true
  · unfold zFin at hfin
    rcases z_or hfin with hfin | hfin
    · rw [hf2] at hfin; cases hfin
    · obtain ⟨hfin, h3⟩ := z_and hfin
      obtain ⟨h1, h2⟩ := z_and hfin
      exact va_putF hx hb hts (zw_u hci) (zty ci) (z_hty hci) (z_hnm hci) hown hK hr.1 (zD_w g w) hr.2.1 (q - 3) hat (zcl_at hci) kk hkN hlink (fun _ z => z) hf2 (hini h1) (of_decide_eq_true h3) hd0 hn hfit (by rw [List.length_map]; exact hlen) hd (fun H1 locs1 hP1 _ hS1 => fin H1 locs1 hP1 hS1)
  · exact va_put hx hb hts (zw_u hci) (zty ci) (z_hty hci) (z_hnm hci) hown hK hr.1 (zD_w g w) hr.2.1 (q - 3) hat (zcl_at hci) kk hkN hlink (fun _ z => z) (by simpa using hf2) hd0 hn hfit (by rw [List.length_map]; exact hlen) hd (fun H1 locs1 hP1 _ hS1 => fin H1 locs1 hP1 hS1)
set_option maxHeartbeats 4000000 in
theorem zs6 {op a bb kk oc y : Nat} {E : mE} (hE : E.2.2.2 = z_defs) (hx : p.tables.exec = Jvm.exec) (hb : c.code = cc) (hml : c.maxLocals = nL) (hgo : zGo p l e R s m args below meth c Q g ps nL K0 S0 k rw) (hr : zRel g s nL K0 S0 w H locs cells slots lc ls) (hw : zOKl st)
    (hown : s.vm.findClass (z_cn oc) = some m.cls) (hts : ∀ w ∈ zTs, w.before args s = true) (hini : zIn y = true → meth.name = "<init>")
    (hK : va_K g.2.2.2.2.1 vwCl (ztys g) s) (hA0 : g.1 ≤ s.heap.size) (hK0 : s.heap.size + 3 = g.1 + K0) (hmono : ∀ pc lc st w1, k pc lc st w1 = some rw → w1.2.1 ≤ rw.2.2.1 ∧ w1.2.2 ≤ rw.2.2.2) (hR : rw.2.2.1 ≤ R.cells + K0 ∧ rw.2.2.2 ≤ R.slots + S0) (hfr : z_fr y ≤ R.frames ∧ z_lo y ≤ R.locals)
    (hF : zF6 cc ps y oc pc op a bb kk = true) (h : mm_s6 E k pc op bb kk lc st w = some rw) : W p l e R s m args below meth c H locs cells slots Q (F0 m (ps.getD pc 0) ls (st.map (cv (zad g)))) := by
  have hP := hr.1
  have hS := hr.2.1
  have hAl : ∀ q, s.heap.size ≤ q → zA g q := fun q hq => Nat.le_trans hA0 hq
  have hsz : ls.size = nL := hr.hl.1
  unfold mm_s6 at h
  unfold zF6 at hF
  split at h
  · obtain ⟨hF, hf⟩ := z_and hF
    obtain ⟨hf, hkN, hci⟩ := zFd_spec hf
    obtain ⟨hd, hp⟩ := zD_spec hF
    split at h
    · rename_i r rr
      obtain ⟨-, hrr⟩ := hw
      obtain ⟨q, rfl, h0⟩ := Option.bind_eq_some_iff.mp h
      clear h
      have h := h0
      clear h0
      obtain ⟨x, hg, h⟩ := Option.bind_eq_some_iff.mp h
      obtain ⟨fs, hq, hfx⟩ := mm_gI_spec hg
      obtain ⟨g1, g2, hok, hat⟩ := z_get hr hq (by intro f' e; cases e)
      unfold zE at hat
      simp only at hat
      have q2 := hgo _ _ _ _ _ _ _ _ _ h hr ⟨hok.2.2 _ _ hfx, hrr⟩
      rw [hp] at q2
      refine va_get hx hb hts (zw_u hci) hown hK hP (q - 3) hat (zcl_at hci) kk hkN (hts _ (z_el (f := fun e : Nat × Nat × Nat × Nat => (.fieldLink (z_cn e.1) e.2.1 (zT e.2.2.1 e.2.2.2).1 (zT e.2.2.1 e.2.2.2).2.1 (zT e.2.2.1 e.2.2.2).2.2.1 : Cond)) zw_flds hf)) (fun _ z => z) (v := cv (zad g) (.inl x)) ?_ hd q2
      rw [List.getElem?_map, hfx]
      rfl
    · cases h
  · obtain ⟨hF, hf⟩ := z_and hF
    obtain ⟨hf, hkN, hci⟩ := zFd_spec hf
    obtain ⟨hd, hp⟩ := zD_spec hF
    split at h
    · rename_i r rr
      obtain ⟨-, hrr⟩ := hw
      obtain ⟨q, rfl, h0⟩ := Option.bind_eq_some_iff.mp h
      clear h
      have h := h0
      clear h0
      obtain ⟨x, hg, h⟩ := Option.bind_eq_some_iff.mp h
      obtain ⟨fs, hq, hfx⟩ := mm_gJ_spec hg
      obtain ⟨g1, g2, hok, hat⟩ := z_get hr hq (by intro f' e; cases e)
      unfold zE at hat
      simp only at hat
      have q2 := hgo _ _ _ _ _ _ _ _ _ h hr ⟨hok.2.2 _ _ hfx, hrr⟩
      rw [hp] at q2
      refine va_get hx hb hts (zw_u hci) hown hK hP (q - 3) hat (zcl_at hci) kk hkN (hts _ (z_el (f := fun e : Nat × Nat × Nat × Nat => (.fieldLink (z_cn e.1) e.2.1 (zT e.2.2.1 e.2.2.2).1 (zT e.2.2.1 e.2.2.2).2.1 (zT e.2.2.1 e.2.2.2).2.2.1 : Cond)) zw_flds hf)) (fun _ z => z) (v := cv (zad g) (.inr (.inl x))) ?_ hd q2
      rw [List.getElem?_map, hfx]
      rfl
    · cases h
  · obtain ⟨hF, hf⟩ := z_and hF
    obtain ⟨hf, hkN, hci⟩ := zFd_spec hf
    obtain ⟨hd, hp⟩ := zD_spec hF
    split at h
    · rename_i r rr
      obtain ⟨-, hrr⟩ := hw
      obtain ⟨q, rfl, h0⟩ := Option.bind_eq_some_iff.mp h
      clear h
      have h := h0
      clear h0
      obtain ⟨x, hg, h⟩ := Option.bind_eq_some_iff.mp h
      obtain ⟨fs, hq, hfx⟩ := mm_gR_spec hg
      obtain ⟨g1, g2, hok, hat⟩ := z_get hr hq (by intro f' e; cases e)
      unfold zE at hat
      simp only at hat
      have q2 := hgo _ _ _ _ _ _ _ _ _ h hr ⟨hok.2.2 _ _ hfx, hrr⟩
      rw [hp] at q2
      refine va_get hx hb hts (zw_u hci) hown hK hP (q - 3) hat (zcl_at hci) kk hkN (hts _ (z_el (f := fun e : Nat × Nat × Nat × Nat => (.fieldLink (z_cn e.1) e.2.1 (zT e.2.2.1 e.2.2.2).1 (zT e.2.2.1 e.2.2.2).2.1 (zT e.2.2.1 e.2.2.2).2.2.1 : Cond)) zw_flds hf)) (fun _ z => z) (v := cv (zad g) (.inr (.inr x))) ?_ hd q2
      rw [List.getElem?_map, hfx]
      rfl
    · cases h
  · obtain ⟨hF, hd0⟩ := z_and hF
    have hd0 := of_decide_eq_true hd0
    obtain ⟨hF, hfin⟩ := z_and hF
    obtain ⟨hF, hf⟩ := z_and hF
    obtain ⟨hf, hkN, hci⟩ := zFd_spec hf
    obtain ⟨hd, hp⟩ := zD_spec hF
    split at h
    · rename_i x r rr
      obtain ⟨hxx, -, hrr⟩ := hw
      obtain ⟨q, rfl, h0⟩ := Option.bind_eq_some_iff.mp h
      clear h
      have h := h0
      clear h0
      obtain ⟨w1, hg, h⟩ := Option.bind_eq_some_iff.mp h
      obtain ⟨fs, hq, hlen, rfl⟩ := mm_p_spec hg
      refine z_putrow (v := .inl x) (ty := .int) hx hb hr hown hts hK hini hf hkN hci hfin hd0 rfl rfl hq hlen hxx hd (fun H1 locs1 hr1 => ?_)
      have q2 := hgo _ _ _ _ _ _ _ _ _ h hr1 hrr
      rw [hp] at q2
      exact q2
    · cases h
  · obtain ⟨hF, hd0⟩ := z_and hF
    have hd0 := of_decide_eq_true hd0
    obtain ⟨hF, hfin⟩ := z_and hF
    obtain ⟨hF, hf⟩ := z_and hF
    obtain ⟨hf, hkN, hci⟩ := zFd_spec hf
    obtain ⟨hd, hp⟩ := zD_spec hF
    split at h
    · rename_i x r rr
      obtain ⟨hxx, -, hrr⟩ := hw
      obtain ⟨q, rfl, h0⟩ := Option.bind_eq_some_iff.mp h
      clear h
      have h := h0
      clear h0
      obtain ⟨w1, hg, h⟩ := Option.bind_eq_some_iff.mp h
      obtain ⟨fs, hq, hlen, rfl⟩ := mm_p_spec hg
      refine z_putrow (v := .inr (.inl x)) (ty := .long) hx hb hr hown hts hK hini hf hkN hci hfin hd0 rfl rfl hq hlen hxx hd (fun H1 locs1 hr1 => ?_)
      have q2 := hgo _ _ _ _ _ _ _ _ _ h hr1 hrr
      rw [hp] at q2
      exact q2
    · cases h
  · obtain ⟨hF, hty⟩ := z_and hF
    obtain ⟨hF, hfin⟩ := z_and hF
    obtain ⟨hF, hf⟩ := z_and hF
    obtain ⟨hf, hkN, hci⟩ := zFd_spec hf
    obtain ⟨hd, hp⟩ := zD_spec hF
    split at h
    · rename_i x r rr
      obtain ⟨hxx, -, hrr⟩ := hw
      obtain ⟨q, rfl, h0⟩ := Option.bind_eq_some_iff.mp h
      clear h
      have h := h0
      clear h0
      obtain ⟨w1, hg, h⟩ := Option.bind_eq_some_iff.mp h
      obtain ⟨fs, hq, hlen, rfl⟩ := mm_p_spec hg
      obtain ⟨ty, hd0, hty⟩ := zRef_spec hty
      refine z_putrow (v := .inr (.inr x)) (ty := ty) hx hb hr hown hts hK hini hf hkN hci hfin hd0 ?_ ?_ hq hlen hxx hd (fun H1 locs1 hr1 => ?_)
      · rcases hty with ⟨n, rfl⟩ | ⟨t, rfl⟩ <;> cases x <;> rfl
      · rcases hty with ⟨n, rfl⟩ | ⟨t, rfl⟩ <;> cases x <;> rfl
      · have q2 := hgo _ _ _ _ _ _ _ _ _ h hr1 hrr
        rw [hp] at q2
        exact q2
    · cases h
  · obtain ⟨hF, hd0⟩ := z_and hF
    have hd0 := of_decide_eq_true hd0
    obtain ⟨hF, hfin⟩ := z_and hF
    obtain ⟨hF, hf⟩ := z_and hF
    obtain ⟨hf, hkN, hci⟩ := zFd_spec hf
    obtain ⟨hd, hp⟩ := zD_spec hF
    split at h
    · rename_i x r rr
      obtain ⟨hxx, -, hrr⟩ := hw
      obtain ⟨q, rfl, h0⟩ := Option.bind_eq_some_iff.mp h
      clear h
      have h := h0
      clear h0
      split at h
      rotate_left
      · cases h
      rename_i hx01
      obtain ⟨w1, hg, h⟩ := Option.bind_eq_some_iff.mp h
      obtain ⟨fs, hq, hlen, rfl⟩ := mm_p_spec hg
      refine z_putrow (v := .inl x) (ty := .boolean) hx hb hr hown hts hK hini hf hkN hci hfin hd0 ?_ ?_ hq hlen hxx hd (fun H1 locs1 hr1 => ?_)
      · rcases hx01 with rfl | rfl <;> rfl
      · rcases hx01 with rfl | rfl <;> rfl
      · have q2 := hgo _ _ _ _ _ _ _ _ _ h hr1 hrr
        rw [hp] at q2
        exact q2
    · cases h
  · obtain ⟨hF, h21⟩ := z_and hF
    have h21 := of_decide_eq_true h21
    obtain ⟨hF, ho⟩ := z_and hF
    obtain ⟨hd, hp⟩ := zD_spec hF
    split at h
    · rename_i r rr
      obtain ⟨-, hrr⟩ := hw
      obtain ⟨q, rfl, h0⟩ := Option.bind_eq_some_iff.mp h
      clear h
      have h := h0
      clear h0
      obtain ⟨hwt, h⟩ := z_cond2 h
      have hwt : mm_wt rr ≤ 8 := Nat.le_of_ble_eq_true hwt
      have q2 := hgo _ _ _ _ _ _ _ _ _ h hr hrr
      rw [hp] at q2
      have hrm := lv_room (m := m) (pc := ps.getD pc 0) (ls := ls) (rest := ((.inr (.inr (some q)) :: rr : List mV).map (cv (zad g)))) (st := rr.map (cv (zad g))) (by rw [mm_wt_ok]; exact hwt)
      exact W.objInit hx hb hown (hts _ (z_el (f := fun e : Nat × Nat => (.methodLink (z_cn e.1) e.2 objectInit : Cond)) zw_oin (List.elem_iff.mp ho))) (hts _ zj_oinst) (hts _ zj_ocode) rfl (by show ls.size = _; rw [hml]; exact hsz) rfl hd (by omega) (by omega) q2
    · cases h
  · obtain ⟨hF, hbb⟩ := z_and hF
    have hbb : bb < 13 := of_decide_eq_true hbb
    obtain ⟨hF, hkN⟩ := z_and hF
    have hkN : kk = z_N bb := of_decide_eq_true hkN
    obtain ⟨hF, hn⟩ := z_and hF
    obtain ⟨hd, hp⟩ := zD_spec hF
    clear hF
    subst hkN
    rw [hE] at h
    obtain ⟨m1, m2⟩ := hmono _ _ _ _ h
    have m1 : w.2.1 + 1 ≤ rw.2.2.1 := m1
    have m2 : w.2.2 + z_N bb ≤ rw.2.2.2 := m2
    obtain ⟨-, -, hok, -, -, -, hc0, hs0⟩ := id hr
    refine va_new hx hb hts (zw_u hbb) (zty bb) (z_hty hbb) hown (hts _ (z_el (f := fun e : Nat × Nat × Nat => (.classLink (z_cn e.1) e.2.1 (z_cn e.2.2) : Cond)) zw_news (List.elem_iff.mp hn))) (hts _ (z_el (f := fun e : Nat => (.instantiable (z_cn e) (z_N e) : Cond)) zw_cinst (z_in13 hbb))) (hts _ (z_el (f := fun e : Nat => (.initialized (z_cn e) : Cond)) zw_cini (z_in14 (by omega)))) hK hP (zD_w g w) hS hAl (zcl_at hbb) (z_dflt hbb) (by omega) (by omega) hd (fun q H1 hP1 hD1 hS1 => z_up (fun hup => ?_))
    have hq := z_new hr hK0 hP1 hD1 hup
    subst hq
    have e := zW_alloc g w (.inl (bb, z_defs bb)) (z_N bb) hok.1
    unfold zE at e
    simp only at e
    rw [z_dv_eq _ hbb] at e
    rw [← e] at hP1
    have q2 := hgo _ _ _ _ H1 locs (cells + 1) (slots + z_N bb) ls h ⟨hP1, hS1, zOK_alloc hok ⟨hbb, (z_defs_ok hbb).1, (z_defs_ok hbb).2⟩, hr.2.2.2.1, hr.2.2.2.2.1, hr.2.2.2.2.2.1, by show cells + 1 + K0 = w.2.1 + 1; omega, by show slots + z_N bb + S0 = w.2.2 + z_N bb; omega⟩ ⟨trivial, hw⟩
    rw [hp] at q2
    exact q2
  · obtain ⟨hF, h21⟩ := z_and hF
    have h21 := of_decide_eq_true h21
    obtain ⟨hF, ho⟩ := z_and hF
    obtain ⟨hd, hp⟩ := zD_spec hF
    split at h
    · rename_i yy x rr
      obtain ⟨hy, hxx, hrr⟩ := hw
      obtain ⟨hwt, h⟩ := z_cond2 h
      have hwt : mm_wt rr ≤ 8 := Nat.le_of_ble_eq_true hwt
      have hz := hmono _ _ _ _ h
      have hc0 := hr.2.2.2.2.2.2
      have q2 := hgo _ _ _ _ _ _ _ _ _ h hr ⟨(by show zR32 (if _ then _ else _); split <;> assumption), hrr⟩
      rw [hp] at q2
      refine va_mmax hx hb (by rw [hml, hsz]) hown (hts _ (z_el (f := fun e : Nat × Nat × Nat => (.methodLink (z_cn e.1) e.2.1 (if e.2.2 = 0 then Lib.Math.max.name else if e.2.2 = 1 then Lib.Math.min.name else Lib.Math.abs.name) : Cond)) zw_math (List.elem_iff.mp ho))) (hts _ zj_st_max) (hts _ zj_ini_Math) (hts _ zj_cd_max) (by omega) (by rw [mm_wt_ok]; omega) (by omega) (by omega) hd ?_
      rw [List.map_cons] at q2
      by_cases hlt : x < yy
      · rw [if_pos hlt] at q2
        rw [if_pos ((ze_lt hxx hy).mpr hlt)]
        exact q2
      · rw [if_neg hlt] at q2
        rw [if_neg (fun z => hlt ((ze_lt hxx hy).mp z))]
        exact q2
    · cases h
  · cases h
end ZP6

