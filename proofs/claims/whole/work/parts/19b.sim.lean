/-! calls; the simulation -/
theorem z_size {p : Program} {l : Launch} {e : Env} {R : Room} {s : State} {m : MethodId} {args : Array Value} {below : List Frame} {meth : Method} {c : Code} {Q : State → Prop} {H : Heap} {locs : List Loc} {cells slots : Nat} {ls : Array Slot} {g : zG} {nL K0 S0 : Nat} {lc : mL} {w : mW} {fr : JFrame}
    (hr : zRel g s nL K0 S0 w H locs cells slots lc ls) (hK0 : s.heap.size + 3 = g.1 + K0) (hA0 : g.1 ≤ s.heap.size) (h : H.size + 3 = g.1 + w.2.1 → W p l e R s m args below meth c H locs cells slots Q fr) : W p l e R s m args below meth c H locs cells slots Q fr := by
  refine z_up fun hup => h ?_
  obtain ⟨hP, hS, hok, -, -, -, hc, -⟩ := hr
  have h1 : s.heap.size ≤ H.size := hS.1
  have h3 : 3 ≤ w.2.1 := hok.1
  by_cases h4 : w.2.1 = 3
  · omega
  · have hat := zW_at g w (q := w.2.1 - 1) (by omega) (by omega)
    have hlt := (hP _ _ hat).lt
    simp only [zad] at hlt
    rw [if_neg (by omega), if_neg (by omega), if_neg (by omega)] at hlt
    omega
theorem z_call {p : Program} {l : Launch} {e : Env} {R : Room} {s : State} {m : MethodId} {args : Array Value} {below : List Frame} {meth : Method} {c : Code} {Q : State → Prop} {H : Heap} {locs : List Loc} {cells slots : Nat} {ls : Array Slot} {g : zG} {pcb : Nat} {r : mR} {w1 : mW} {st0 rest : List Value} {mc ms : Nat} {a : Array Value}
    (hr : va_Run p l e R s m args below meth c H locs cells slots mc ms (F0 m pcb ls st0) rest (zQc g r w1 a) (zA g)) (hS : va_S (zA g) s.heap H locs)
    (kk : ∀ (H1 : Heap) (locs1 : List Loc), zOKr r → va_P g.2.2.2.2.1 vwCl (zW g w1) H1 → zOK w1 → va_S (zA g) s.heap H1 locs1 → W p l e R s m args below meth c H1 locs1 (cells + mc) (slots + ms) Q (F0 m (pcb + 3) ls ((r.map (cv (zad g))).toList ++ rest))) :
    W p l e R s m args below meth c H locs cells slots Q (F0 m pcb ls st0) := by
  intro T hT X
  obtain ⟨v, st₀, t, T', L, h0, X', hL, e1, e2, ⟨hv, hok, hP, hw, hz, hk⟩, st⟩ := hr T hT X
  cases hv
  rw [h0] at hz hk
  obtain ⟨t2, a1, b1⟩ := kk T'.heap (locs ++ L) hok (by rw [e1]; exact hP) hw
    ⟨Nat.le_trans hS.1 (by rw [e1]; exact hz), fun q h1 h2 => by rw [e1, hk q (Nat.lt_of_lt_of_le h1 hS.1) h2]; exact hS.2.1 q h1 h2, fun q hq => by
      rcases List.mem_append.mp hq with h | h
      · exact hS.2.2 q h
      · exact hL q h⟩ T' rfl X'
  exact ⟨t2, st t2 a1, b1⟩
/-- what a frame of method y knows -/
def zFr (l : Launch) (g : zG) (y : Nat) (p : Program) (R : Room) (s : State) (m : MethodId) (args : Array Value) (meth : Method) (c : Code) (K0 S0 : Nat) : Prop :=
  p.tables.exec = Jvm.exec ∧ c.code = z_by y ∧ c.maxLocals = z_ml y ∧ s.vm.findClass (z_cn (z_oc y)) = some m.cls ∧ (∀ w ∈ zTs, w.before args s = true) ∧ zSt g s ∧ zSr g s s.heap ∧ g.1 ≤ s.heap.size ∧ (zIn y = true → meth.name = "<init>") ∧ z_fr y ≤ R.frames ∧ z_lo y ≤ R.locals ∧ s.heap.size + 3 = g.1 + K0
section ZP8
variable {p : Program} {l : Launch} {e : Env} {R : Room} {s : State} {m : MethodId} {args : Array Value} {below : List Frame} {meth : Method} {c : Code} {Q : State → Prop}
variable {H : Heap} {locs : List Loc} {cells slots : Nat} {ls : Array Slot} {g : zG} {ps : List Nat} {k : mK} {rw : mR × mW} {pc nL : Nat} {lc : mL} {st : List mV} {w : mW} {cc : ByteArray}
variable {K0 S0 : Nat}
theorem zSig_spec {y : Nat} (h : y < 365) : plainName (z_nm y).cls = true ∧ (z_nm y).cls = z_cn (z_oc y) ∧ ((z_nm y).cls ≠ "java/lang/invoke/MethodHandle" ∧ (z_nm y).cls ≠ "java/lang/invoke/VarHandle") ∧ (parseMethodDescriptor (z_nm y).desc).map (fun d => d.parameters.length) = some (if z_st y then z_na y else z_na y - 1) ∧ z_oc y < 14 := by
  have h := zm_sigs h
  unfold zSig at h
  obtain ⟨h, h5⟩ := z_and h
  obtain ⟨h, h4⟩ := z_and h
  obtain ⟨h, h3⟩ := z_and h
  obtain ⟨h1, h2⟩ := z_and h
  exact ⟨h1, of_decide_eq_true h2, of_decide_eq_true h3, of_decide_eq_true h4, of_decide_eq_true h5⟩
theorem z_zl : ∀ (l : List mV), zOKl l → ∀ v ∈ l, zOKv v
  | [], _, v, h => by cases h
  | x :: r, h, v, hv => by
    rcases List.mem_cons.mp hv with rfl | hv
    · exact h.1
    · exact z_zl r h.2 v hv
theorem z_lz : ∀ (l : List mV), (∀ v ∈ l, zOKv v) → zOKl l
  | [], _ => trivial
  | x :: r, h => ⟨h x List.mem_cons_self, z_lz r fun v hv => h v (List.mem_cons_of_mem _ hv)⟩
/-- behind a call: by the kind of the answer -/
theorem zs8 {t b : Nat} {call : mCall} {as sd : List mV} {st0 : List Value} {pcb : Nat} (hgo : zGo p l e R s m args below meth c Q g ps nL K0 S0 k rw) (hr : zRel g s nL K0 S0 w H locs cells slots lc ls) (hsd : zOKl sd) (hcw : ∀ r1 w1, call b as w = some (r1, w1) → zle w w1) (hp : ps.getD (pc + 1) 0 = pcb + 3)
    (hrun : ∀ r1 w1, call b as w = some (r1, w1) → zle w1 rw.2 → va_Run p l e R s m args below meth c H locs cells slots (w1.2.1 - w.2.1) (w1.2.2 - w.2.2) (F0 m pcb ls st0) (sd.map (cv (zad g))) (zQc g r1 w1 (as.map (cv (zad g))).toArray) (zA g))
    (hmono : ∀ pc lc st w1, k pc lc st w1 = some rw → w1.2.1 ≤ rw.2.2.1 ∧ w1.2.2 ≤ rw.2.2.2)
    (h : mm_s8 call k pc t b as lc sd w = some rw) : W p l e R s m args below meth c H locs cells slots Q (F0 m pcb ls st0) := by
  have hS := hr.2.1
  obtain ⟨-, -, -, a4, a5, a6, a7, a8⟩ := id hr
  have rel : ∀ {w1 : mW} {H1 : Heap} {locs1 : List Loc}, zle w w1 → va_P g.2.2.2.2.1 vwCl (zW g w1) H1 → zOK w1 → va_S (zA g) s.heap H1 locs1 → zRel g s nL K0 S0 w1 H1 locs1 (cells + (w1.2.1 - w.2.1)) (slots + (w1.2.2 - w.2.2)) lc ls := by
    intro w1 H1 locs1 hle hP1 hok1 hS1
    obtain ⟨l1, l2⟩ := hle
    exact ⟨hP1, hS1, hok1, a4, a5, a6, by omega, by omega⟩
  unfold mm_s8 at h
  split at h
  · unfold mm_kV at h
    obtain ⟨⟨r1, w1⟩, hc, h⟩ := Option.bind_eq_some_iff.mp h
    split at h
    rotate_left
    · cases h
    rename_i hr1
    simp only at hr1 h
    subst hr1
    refine z_call (hrun _ _ hc (hmono _ _ _ _ h)) hS (fun H1 locs1 ho hP1 hok1 hS1 => ?_)
    have q2 := hgo _ _ _ _ _ _ _ _ _ h (rel (hcw _ _ hc) hP1 hok1 hS1) hsd
    rw [hp] at q2
    exact q2
  · unfold mm_kI at h
    obtain ⟨⟨r1, w1⟩, hc, h⟩ := Option.bind_eq_some_iff.mp h
    split at h
    rotate_left
    · cases h
    rename_i x hr1
    simp only at hr1 h
    subst hr1
    refine z_call (hrun _ _ hc (hmono _ _ _ _ h)) hS (fun H1 locs1 ho hP1 hok1 hS1 => ?_)
    have q2 := hgo _ _ _ _ _ _ _ _ _ h (rel (hcw _ _ hc) hP1 hok1 hS1) ⟨ho, hsd⟩
    rw [hp] at q2
    exact q2
  · unfold mm_kJ at h
    obtain ⟨⟨r1, w1⟩, hc, h⟩ := Option.bind_eq_some_iff.mp h
    split at h
    rotate_left
    · cases h
    rename_i x hr1
    simp only at hr1 h
    subst hr1
    refine z_call (hrun _ _ hc (hmono _ _ _ _ h)) hS (fun H1 locs1 ho hP1 hok1 hS1 => ?_)
    have q2 := hgo _ _ _ _ _ _ _ _ _ h (rel (hcw _ _ hc) hP1 hok1 hS1) ⟨ho, hsd⟩
    rw [hp] at q2
    exact q2
  · unfold mm_kR at h
    obtain ⟨⟨r1, w1⟩, hc, h⟩ := Option.bind_eq_some_iff.mp h
    split at h
    rotate_left
    · cases h
    rename_i x hr1
    simp only at hr1 h
    subst hr1
    refine z_call (hrun _ _ hc (hmono _ _ _ _ h)) hS (fun H1 locs1 ho hP1 hok1 hS1 => ?_)
    have q2 := hgo _ _ _ _ _ _ _ _ _ h (rel (hcw _ _ hc) hP1 hok1 hS1) ⟨ho, hsd⟩
    rw [hp] at q2
    exact q2
  · cases h
/-- the words of a call -/
theorem z_callB {a b oc n : Nat} {w1 : mW} (hb : b < 365) (hts : ∀ w ∈ zTs, w.before args s = true) (hl : (oc, a, b) ∈ z_links) (hn : (if z_st b then z_na b else z_na b - 1) = n) (hR : z_fr b + 1 ≤ R.frames ∧ 8 + (z_ml b + 11) + z_lo b ≤ R.locals) :
    CallB R s args (z_cn oc) a (z_nm b) (z_by b) (z_ml b) (z_rt b) (z_ws b) (zRm b w w1) (w1.2.1 - w.2.1) (w1.2.2 - w.2.2) n := by
  obtain ⟨h1, h2, h3, h4, h5⟩ := zSig_spec hb
  refine callB_of (ws' := zTs) n hts (z_ws_good hb) rfl rfl rfl (by rw [h2]; exact hts _ (z_el (f := fun e : Nat => (.initialized (z_cn e) : Cond)) zw_cini (z_in14 h5))) (hts _ (z_el (f := fun e : Nat × Nat × Nat => (.methodLink (z_cn e.1) e.2.1 (z_nm e.2.2) : Cond)) zw_links hl)) ⟨h3.1, h3.2, by rw [h4, hn]⟩ hR
theorem z_callN {a b oc n : Nat} {w1 : mW} (hb : b < 365) (hts : ∀ w ∈ zTs, w.before args s = true) (hl : va_Nw (.methodLinkNest (z_cn oc) a (z_nm b) RX11) s) (hn : (if z_st b then z_na b else z_na b - 1) = n) (hR : z_fr b + 1 ≤ R.frames ∧ 8 + (z_ml b + 11) + z_lo b ≤ R.locals) :
    va_CN R s args (z_cn oc) a (z_nm b) RX11 (z_by b) (z_ml b) (z_rt b) (z_ws b) (zRm b w w1) (w1.2.1 - w.2.1) (w1.2.2 - w.2.2) n := by
  obtain ⟨h1, h2, h3, h4, h5⟩ := zSig_spec hb
  exact va_cnB (ws' := zTs) n hts (z_ws_good hb) rfl rfl rfl hl (by rw [h2]; exact hts _ (z_el (f := fun e : Nat => (.initialized (z_cn e) : Cond)) zw_cini (z_in14 h5))) ⟨h3.1, h3.2, by rw [h4, hn]⟩ hR
theorem z_calls_ok : z_calls.all (fun e => if e.2.2.2 = 0 ∨ e.2.2.2 = 2 ∨ e.2.2.2 = 3 then z_links.elem (e.1, e.2.1, e.2.2.1) else z_nests.elem (e.1, e.2.1, e.2.2.1)) = true := by decide +kernel
theorem z_links_of {a b c d : Nat} (h : (a, b, c, d) ∈ z_calls) : if d = 0 ∨ d = 2 ∨ d = 3 then (a, b, c) ∈ z_links else (a, b, c) ∈ z_nests := by
  have h2 := List.all_eq_true.mp z_calls_ok _ h
  simp only at h2
  by_cases hd : d = 0 ∨ d = 2 ∨ d = 3
  · rw [if_pos hd] at h2 ⊢
    exact List.elem_iff.mp h2
  · rw [if_neg hd] at h2 ⊢
    exact List.elem_iff.mp h2
theorem z_kinds : ∀ y, y < 365 → (z_st y = true → y ∈ z_mstat) ∧ (z_st y = false → y ∈ z_minst) ∧ (z_st y = false → zIn y = false → y ∈ z_msel) ∧ (z_st y = false → z_oc y < 13) := by decide +kernel
set_option maxHeartbeats 4000000 in
theorem zs9 {op a b n oc y : Nat} {v : Int} {call : mCall} (hx : p.tables.exec = Jvm.exec) (hb : c.code = cc) (hml : c.maxLocals = nL) (hgo : zGo p l e R s m args below meth c Q g ps nL K0 S0 k rw) (hr : zRel g s nL K0 S0 w H locs cells slots lc ls) (hw : zOKl st)
    (hown : s.vm.findClass (z_cn oc) = some m.cls) (hts : ∀ w ∈ zTs, w.before args s = true) (hSt : zSt g s) (hSr : zSr g s s.heap) (hK0 : s.heap.size + 3 = g.1 + K0) (hA0 : g.1 ≤ s.heap.size)
    (hmono : ∀ pc lc st w1, k pc lc st w1 = some rw → w1.2.1 ≤ rw.2.2.1 ∧ w1.2.2 ≤ rw.2.2.2) (hR : rw.2.2.1 ≤ R.cells + K0 ∧ rw.2.2.2 ≤ R.slots + S0) (hfr : z_fr y ≤ R.frames ∧ z_lo y ≤ R.locals)
    (hcall : ∀ b as w r1 w1, b < 365 → as.length = z_na b → zOKl as → zOK w → call b as w = some (r1, w1) → zMet l g b as w r1 w1) (hcw : ∀ b as w r1 w1, call b as w = some (r1, w1) → zle w w1)
    (hF : zF8 cc ps y oc pc op a b n v = true) (h : mm_s9 call k pc op b n v lc st w = some rw) : W p l e R s m args below meth c H locs cells slots Q (F0 m (ps.getD pc 0) ls (st.map (cv (zad g)))) := by
  have hsz : ls.size = nL := hr.hl.1
  unfold zF8 at hF
  obtain ⟨hF, hF6⟩ := z_and hF
  obtain ⟨hF, h5⟩ := z_and hF
  obtain ⟨hF, h4⟩ := z_and hF
  obtain ⟨hF, h3⟩ := z_and hF
  obtain ⟨h1, h2⟩ := z_and hF
  have hb365 : b < 365 := of_decide_eq_true h1
  have hn : n = z_na b := of_decide_eq_true h2
  have hRm : z_fr b + 1 ≤ R.frames ∧ 8 + (z_ml b + 11) + z_lo b ≤ R.locals := ⟨by have := of_decide_eq_true h4; omega, by have := of_decide_eq_true h5; omega⟩
  obtain ⟨k1, k2, k3, k4⟩ := z_kinds b hb365
  unfold mm_s9 at h
  split at h
  · cases h
  rename_i hlen
  obtain ⟨hwt, h⟩ := z_cond2 h
  have hwt : mm_wt (st.drop n) ≤ 8 := Nat.le_of_ble_eq_true hwt
  have hsd : zOKl (st.drop n) := z_lz _ fun v hv => z_zl st hw v (List.mem_of_mem_drop hv)
  have has : zOKl (st.take n).reverse := z_lz _ fun v hv => z_zl st hw v (List.mem_of_mem_take (List.mem_reverse.mp hv))
  have hstk : st.map (cv (zad g)) = ((st.take n).reverse.map (cv (zad g))).reverse ++ (st.drop n).map (cv (zad g)) := by
    rw [List.map_reverse, List.reverse_reverse, ← List.map_append, List.take_append_drop]
  have hal : (st.take n).reverse.length = n := by rw [List.length_reverse, List.length_take]; omega
  have hrm := lv_room (m := m) (pc := ps.getD pc 0) (ls := ls) (rest := st.map (cv (zad g))) (st := (st.drop n).map (cv (zad g))) (by rw [mm_wt_ok]; exact hwt)
  have S : CallFix p m c cc nL s args zTs (z_cn oc) := ⟨hx, hb, hml, hown, hts⟩
  refine z_size hr hK0 hA0 fun hsize => ?_
  obtain ⟨hP, hS, hok, -, -, -, hc0, hs0⟩ := id hr
  have pre : ∀ U : State, U.heap = H → s.WarmedH U.vm → zPre g w U := fun U hU hW => ⟨by rw [hU]; exact hP, by rw [hU]; exact hsize, hok, zSt.moved hW hSt, by
    rw [hU]
    exact zSr.moved hW.alike (zSr.kept (fun q h1 h2 => hS.2.1 q h1 h2) hSr)⟩
  have hcs : ∀ {w1 : mW}, zle w w1 → zle w1 rw.2 → cells + (w1.2.1 - w.2.1) ≤ R.cells ∧ slots + (w1.2.2 - w.2.2) ≤ R.slots := by
    intro w1 a1 a2
    obtain ⟨b1, b2⟩ := a1
    obtain ⟨b3, b4⟩ := a2
    exact ⟨by omega, by omega⟩
  split at h
  · rename_i hop
    rw [if_pos hop] at hF6
    obtain ⟨hF6, h8⟩ := z_and hF6
    obtain ⟨hF6, h7⟩ := z_and hF6
    obtain ⟨hd, hp⟩ := zD_spec hF6
    have hna : (if z_st b then z_na b else z_na b - 1) = n := by rw [if_pos h7, hn]
    refine zs8 (st0 := st.map (cv (zad g))) hgo hr hsd (fun r1 w1 hc => hcw _ _ _ _ _ hc) hp (fun r1 w1 hc hle => ?_) hmono h
    have hM := hcall _ _ _ _ _ hb365 (by rw [hal, hn]) has hok hc
    have hst : (Cond.static (z_nm b)).before args s = true := hts _ (z_el (f := fun e : Nat => (.static (z_nm e) : Cond)) zw_mstat (k1 h7))
    have hpre : PreS s H (va_Pc ((st.take n).reverse.map (cv (zad g))) (zPre g w)) ((st.take n).reverse.map (cv (zad g))) := ⟨zPre_blind g w _, fun U hU hW => ⟨rfl, pre U hU hW⟩⟩
    rcases z_or h8 with h8 | h8
    · have hlk := z_links_of (List.elem_iff.mp h8)
      rw [if_pos (Or.inl rfl)] at hlk
      exact va_runS S hM ⟨z_callB hb365 hts hlk hna hRm, hst⟩ hpre rfl (by rw [List.length_map, hal]) hsz hstk hrm hd (hcs (hcw _ _ _ _ _ hc) hle)
    · have hlk := z_links_of (List.elem_iff.mp h8)
      rw [if_neg (by decide)] at hlk
      exact va_runSN S hM ⟨z_callN hb365 hts (hSt.2.1 _ hlk) hna hRm, hst, trivial⟩ hpre rfl (by rw [List.length_map, hal]) hsz hstk hrm hd (hcs (hcw _ _ _ _ _ hc) hle)
  · rename_i hop
    rw [if_neg hop] at hF6
    obtain ⟨hF6, hF7⟩ := z_and hF6
    obtain ⟨hF6, h10⟩ := z_and hF6
    obtain ⟨hF6, h9⟩ := z_and hF6
    obtain ⟨h7, h8⟩ := z_and hF6
    have hns : z_st b = false := by simpa using h8
    have hv : v = (z_oc b : Int) := of_decide_eq_true h9
    have hn1 : 1 ≤ n := of_decide_eq_true h10
    split at h
    rotate_left
    · cases h
    rename_i r as hrev
    obtain ⟨q, rfl, h0⟩ := Option.bind_eq_some_iff.mp h
    clear h
    have h := h0
    clear h0
    split at h
    rotate_left
    · cases h
    rename_i hcls
    rw [hv] at hcls
    have hcls : mm_cls w q = z_oc b := hcls
    have hoc := k4 hns
    rw [hrev] at hstk hal has
    have hna : (if z_st b then z_na b else z_na b - 1) = as.length := by
      rw [hns]
      simp only [List.length_cons] at hal
      simp only [Bool.false_eq_true, if_false]
      omega
    have hstk2 : st.map (cv (zad g)) = (as.map (cv (zad g))).reverse ++ .ref (zad g q) :: (st.drop n).map (cv (zad g)) := by
      rw [hstk, List.map_cons, List.reverse_cons, List.append_assoc]
      rfl
    unfold mm_cls at hcls
    split at hcls
    rotate_left
    · omega
    rename_i ob hob
    obtain ⟨g1, g2, hokc, hat⟩ := z_get hr hob (by intro f' e; cases e)
    unfold zE at hat
    simp only at hat
    rw [hcls] at hat
    have hrecv := va_recv hSt.1 hP (zcl_at hoc) hat
    have hin : (Cond.instanceMethod (z_nm b)).before args s = true := hts _ (z_el (f := fun e : Nat => (.instanceMethod (z_nm e) : Cond)) zw_minst (k2 hns))
    have hpreA : ∀ U : State, U.heap = H → s.WarmedH U.vm → va_Pc ((.inr (.inr (some q)) :: as : List mV).map (cv (zad g))) (zPre g w) (Value.ref (zad g q) :: as.map (cv (zad g))).toArray U := fun U hU hW => ⟨rfl, pre U hU hW⟩
    split at hF7
    · rename_i hini
      obtain ⟨hF7, hrt⟩ := z_and hF7
      have hrt : z_rt b = none := of_decide_eq_true hrt
      obtain ⟨hF7, h11⟩ := z_and hF7
      obtain ⟨hd, hp⟩ := zD_spec hF7
      have hnm : (z_nm b).name = "<init>" := of_decide_eq_true hini
      refine zs8 (st0 := st.map (cv (zad g))) hgo hr hsd (fun r1 w1 hc => hcw _ _ _ _ _ hc) hp (fun r1 w1 hc hle => ?_) hmono h
      have hM := hcall _ _ _ _ _ hb365 (by rw [hal, hn]) has hok hc
      have hpre : PreS s H (va_Pc ((.inr (.inr (some q)) :: as : List mV).map (cv (zad g))) (zPre g w)) (.ref (zad g q) :: as.map (cv (zad g))) := ⟨zPre_blind g w _, hpreA⟩
      rcases z_or h11 with h11 | h11
      · have hlk := z_links_of (List.elem_iff.mp h11)
        rw [if_pos (Or.inr (Or.inr rfl))] at hlk
        have cb := z_callB (w := w) (w1 := w1) (R := R) hb365 hts hlk hna hRm
        rw [hrt] at cb
        exact va_runI S hM ⟨cb, hnm, hin⟩ hpre rfl (by rw [List.length_map]) hsz hstk2 hrm hd (hcs (hcw _ _ _ _ _ hc) hle)
      · have hlk := z_links_of (List.elem_iff.mp h11)
        rw [if_neg (by decide)] at hlk
        have cb := z_callN (w := w) (w1 := w1) (R := R) hb365 hts (hSt.2.1 _ hlk) hna hRm
        rw [hrt] at cb
        exact va_runIN S hM ⟨cb, hnm, hin⟩ hpre rfl (by rw [List.length_map]) hsz hstk2 hrm hd (hcs (hcw _ _ _ _ _ hc) hle)
    · rename_i hini
      obtain ⟨hF7, h11⟩ := z_and hF7
      obtain ⟨hd, hp⟩ := zD_spec hF7
      refine zs8 (st0 := st.map (cv (zad g))) hgo hr hsd (fun r1 w1 hc => hcw _ _ _ _ _ hc) hp (fun r1 w1 hc hle => ?_) hmono h
      have hM := hcall _ _ _ _ _ hb365 (by rw [hal, hn]) has hok hc
      have hpre : PreV s H (z_cn (z_oc b)) (zad g q) (va_Pc ((.inr (.inr (some q)) :: as : List mV).map (cv (zad g))) (zPre g w)) (as.map (cv (zad g))) := ⟨zPre_blind g w _, hrecv, hpreA⟩
      have hlk := z_links_of (List.elem_iff.mp h11)
      rw [if_pos (Or.inr (Or.inl rfl))] at hlk
      have hse : (Cond.selects (z_cn (z_oc b)) (z_nm b) (z_nm b)).before args s = true := hts _ (z_el (f := fun e : Nat => (.selects (z_cn (z_oc e)) (z_nm e) (z_nm e) : Cond)) zw_msel (k3 hns (by simpa using hini)))
      exact va_runV S hM ⟨z_callB hb365 hts hlk hna hRm, hin, hse⟩ hpre rfl (by rw [List.length_map]) hsz hstk2 hrm hd (hcs (hcw _ _ _ _ _ hc) hle)
end ZP8
