/-! the machine follows the mini machine: ends, calls -/
def z_bytes (q : Nat) : List Int32 := (z_strs q).map Int32.ofInt
def zSr (g : zG) (U : State) (H : Heap) : Prop := (∃ adV : Nat → Nat, vk_S 2 [(z_strs 0).length, (z_strs 1).length] [z_bytes 0, z_bytes 1] (zad g) adV (zA g) U H) ∧ va_Z "java/lang/String" "COMPACT_STRINGS" "Z" (.int 1) (zA g) U H ∧ va_Zq "jdk/internal/util/Preconditions" "SIOOBE_FORMATTER" "Ljava/util/function/BiFunction;" (zA g) U H
def zSt (g : zG) (U : State) : Prop := va_K g.2.2.2.2.1 vwCl (ztys g) U ∧ (∀ x ∈ z_nests, va_Nw (.methodLinkNest (z_cn x.1) x.2.1 (z_nm x.2.2) RX11) U) ∧ (∀ k, zAok k = true → va_AO (z_cn (k - 10)) U) ∧ ∀ x ∈ z_strc, vk_R (z_cn x.1) x.2.1 (ztx x.2.2) (zad g x.2.2) U
theorem zSt.moved {g : zG} {s U : State} (hW : s.WarmedH U.vm) (h : zSt g s) : zSt g U :=
  ⟨va_K.moved hW.alike h.1, fun x hx => va_Nw.warmM hW (h.2.1 x hx), fun k hk => va_AO.moved hW.alike (h.2.2.1 k hk), fun x hx => vk_R.warm hW (h.2.2.2 x hx)⟩
theorem zSt.same {g : zG} {u U : State} (hv : U.vm = u.vm) (h : zSt g u) : zSt g U :=
  ⟨va_K.moved (by rw [hv]; exact Vm.Alike.refl u.vm) h.1, fun x hx => va_Nw.same rfl hv.symm (h.2.1 x hx), fun k hk => va_AO.moved (by rw [hv]; exact Vm.Alike.refl u.vm) (h.2.2.1 k hk), fun x hx => vk_R.same hv (h.2.2.2 x hx)⟩
theorem zSr.moved {g : zG} {s U : State} {H : Heap} (hW : s.vm.Alike U.vm) (h : zSr g s H) : zSr g U H := by
  obtain ⟨⟨adV, h1⟩, h2, h3⟩ := h
  exact ⟨⟨adV, h1.moved hW⟩, h2.moved hW, h3.moved hW⟩
theorem zSr.kept {g : zG} {s : State} {H H1 : Heap} (hq : ∀ a : Nat, a < H.size → ¬ zA g a → H1[a]? = H[a]?) (h : zSr g s H) : zSr g s H1 := by
  obtain ⟨⟨adV, h1⟩, h2, h3⟩ := h
  refine ⟨⟨adV, h1.kept hq⟩, h2.kept hq, ?_⟩
  rcases h3 with h3 | ⟨t, h3⟩
  · exact Or.inl (h3.kept hq)
  · exact Or.inr ⟨t, h3.kept hq⟩
def z_ws (y : Nat) : List Cond := .code (z_nm y) (z_by y) (z_ml y) (z_rt y) :: zTs
theorem zTs_good : ∀ w ∈ zTs, ((w.onTables && w.keeps) = true ∨ ∃ ty, w = .arrayClass ty) := fun w hw => good_of_word (List.mem_filter.mp hw).2
theorem z_ws_in {y : Nat} (h : y < 365) : ∀ w ∈ z_ws y, w ∈ zTs := fun w hw => by
  rcases List.mem_cons.mp hw with rfl | hw
  · exact zw_code h
  · exact hw
theorem z_ws_good {y : Nat} (h : y < 365) : GoodIn zTs (z_ws y) := fun w hw => ⟨z_ws_in h w hw, zTs_good w (z_ws_in h w hw)⟩
def zOKr : mR → Prop
  | none => True
  | some v => zOKv v
/-- a method's start, its end -/
def zPre (g : zG) (w : mW) (U : State) : Prop := va_P g.2.2.2.2.1 vwCl (zW g w) U.heap ∧ U.heap.size + 3 = g.1 + w.2.1 ∧ zOK w ∧ zSt g U ∧ zSr g U U.heap
def zQc (g : zG) (r : mR) (w : mW) : Array Value → State → Outcome → State → Prop := fun _ st oc t => oc = .returned (r.map (cv (zad g))) ∧ zOKr r ∧ va_P g.2.2.2.2.1 vwCl (zW g w) t.heap ∧ zOK w ∧ va_F (zA g) st t
def zRm (y : Nat) (w w1 : mW) : Room := { frames := z_fr y, cells := w1.2.1 - w.2.1, slots := w1.2.2 - w.2.2, locals := z_lo y }
def zMet (l : Launch) (g : zG) (y : Nat) (a : List mV) (w : mW) (r : mR) (w1 : mW) : Prop :=
  Met l (z_nm y) (z_ws y) (zRm y w w1) (va_Pc (a.map (cv (zad g))) (zPre g w)) (zQc g r w1) (w1.2.1 - w.2.1) (w1.2.2 - w.2.2) (zA g)
theorem zPre_blind (g : zG) (w : mW) (av : List Value) : FrameBlind (va_Pc av (zPre g w)) := by
  intro a U fr mk h
  obtain ⟨h0, h1, h2, h3, h4, h5⟩ := h
  exact ⟨h0, h1, h2, h3, zSt.same (u := U) (U := U.calling fr mk a) rfl h4, zSr.moved (s := U) (U := U.calling fr mk a) (Vm.Alike.refl U.vm) h5⟩
/-- a return instruction with its answer on the stack -/
def zRt (y pcb : Nat) (g : zG) (r : mR) (st : List Value) : Prop := match r with
  | none => decode (z_by y) pcb = .ok (.return_, 1) ∧ z_rt y = none ∧ st = []
  | some (.inl x) => decode (z_by y) pcb = .ok (.ireturn, 1) ∧ (z_rt y = some .int ∨ (z_rt y = some .boolean ∧ (x = 0 ∨ x = 1))) ∧ st = [.int (Int32.ofInt x)]
  | some (.inr (.inl x)) => decode (z_by y) pcb = .ok (.lreturn, 1) ∧ z_rt y = some .long ∧ st = [.long (Int64.ofInt x)]
  | some (.inr (.inr x)) => decode (z_by y) pcb = .ok (.areturn, 1) ∧ zRef (z_rt y) = true ∧ st = [cv (zad g) (.inr (.inr x))]
def zEnd (p : Program) (l : Launch) (e : Env) (R : Room) (s : State) (m : MethodId) (args : Array Value) (below : List Frame) (meth : Method) (c : Code) (Q : State → Prop) (g : zG) (y K0 S0 : Nat) (rw : mR × mW) : Prop :=
  ∀ (H : Heap) (locs : List Loc) (cells slots : Nat) (ls : Array Slot) (pcb : Nat) (st : List Value), zRt y pcb g rw.1 st → zOKr rw.1 → va_P g.2.2.2.2.1 vwCl (zW g rw.2) H → va_S (zA g) s.heap H locs → zOK rw.2 → cells + K0 = rw.2.2.1 → slots + S0 = rw.2.2.2 →
    W p l e R s m args below meth c H locs cells slots Q (F0 m pcb ls st)
section ZP7
variable {p : Program} {l : Launch} {e : Env} {R : Room} {s : State} {m : MethodId} {args : Array Value} {below : List Frame} {meth : Method} {c : Code} {Q : State → Prop}
variable {H : Heap} {locs : List Loc} {cells slots : Nat} {ls : Array Slot} {g : zG} {ps : List Nat} {k : mK} {rw : mR × mW} {pc nL : Nat} {lc : mL} {st : List mV} {w : mW} {cc : ByteArray}
variable {K0 S0 : Nat}
set_option maxHeartbeats 4000000 in
theorem zs7 {op a oc y : Nat} {E : mE} (hE : E.2.2.1 = z_strs) (hx : p.tables.exec = Jvm.exec) (hb : c.code = cc) (hby : cc = z_by y) (hml : c.maxLocals = nL) (hgo : zGo p l e R s m args below meth c Q g ps nL K0 S0 k rw) (hend : zEnd p l e R s m args below meth c Q g y K0 S0 rw) (hr : zRel g s nL K0 S0 w H locs cells slots lc ls) (hw : zOKl st)
    (hown : s.vm.findClass (z_cn oc) = some m.cls) (hts : ∀ w ∈ zTs, w.before args s = true)
    (hmono : ∀ pc lc st w1, k pc lc st w1 = some rw → w1.2.1 ≤ rw.2.2.1 ∧ w1.2.2 ≤ rw.2.2.2) (hR : rw.2.2.1 ≤ R.cells + K0 ∧ rw.2.2.2 ≤ R.slots + S0) (hfr : z_fr y ≤ R.frames ∧ z_lo y ≤ R.locals)
    (hslen : ∀ {a q pcb : Nat} {rest : List mV}, (oc, a, 0) ∈ z_strm → q < 2 → mm_wt rest ≤ 8 → 2 ≤ z_fr y ∧ 40 ≤ z_lo y → decode cc pcb = .ok (.invokevirtual a, 3) → (w.2.1 ≤ rw.2.2.1 ∧ w.2.2 ≤ rw.2.2.2) →
      (∀ (H1 : Heap) (locs1 : List Loc), zRel g s nL K0 S0 w H1 locs1 cells slots lc ls → W p l e R s m args below meth c H1 locs1 cells slots Q (F0 m (pcb + 3) ls (.int (Int32.ofInt (z_strs q).length) :: rest.map (cv (zad g))))) → W p l e R s m args below meth c H locs cells slots Q (F0 m pcb ls (.ref (zad g q) :: rest.map (cv (zad g)))))
    (hschr : ∀ {a q pcb : Nat} {i : Int} {rest : List mV}, (oc, a, 1) ∈ z_strm → q < 2 → zR32 i → 0 ≤ i → i < (z_strs q).length → mm_wt rest ≤ 8 → 4 ≤ z_fr y ∧ 85 ≤ z_lo y → decode cc pcb = .ok (.invokevirtual a, 3) → (w.2.1 ≤ rw.2.2.1 ∧ w.2.2 ≤ rw.2.2.2) →
      (∀ (H1 : Heap) (locs1 : List Loc), zRel g s nL K0 S0 w H1 locs1 cells slots lc ls → W p l e R s m args below meth c H1 locs1 cells slots Q (F0 m (pcb + 3) ls (.int (Int32.ofInt ((z_strs q).getD i.toNat 0)) :: rest.map (cv (zad g))))) → W p l e R s m args below meth c H locs cells slots Q (F0 m pcb ls (.int (Int32.ofInt i) :: .ref (zad g q) :: rest.map (cv (zad g)))))
    (hscr : oc = 14 → ∃ (L : Nat) (xs : Nat → Int32), va_X (zad g 2) L xs s s.heap ∧ zad g 2 < s.heap.size ∧ ¬ zA g (zad g 2) ∧ L ≤ 3072 ∧ E.2.1 = L ∧ ∀ i : Int, E.1 i = (xs i.toNat).toInt)
    (hF : zF7 cc ps y oc pc op a = true) (h : mm_s7 E k pc op lc st w = some rw) : W p l e R s m args below meth c H locs cells slots Q (F0 m (ps.getD pc 0) ls (st.map (cv (zad g)))) := by
  have hsz : ls.size = nL := hr.hl.1
  have hrr0 := hr
  obtain ⟨hP, hS, hok, -, -, -, hc0, hs0⟩ := hr
  have hr := hrr0
  unfold mm_s7 at h
  unfold zF7 at hF
  split at h
  · obtain ⟨hF, h21⟩ := z_and hF
    have h21 := of_decide_eq_true h21
    obtain ⟨hF, ho⟩ := z_and hF
    obtain ⟨hd, hp⟩ := zD_spec hF
    split at h
    · rename_i yy x rr
      obtain ⟨hy, hxx, hrr⟩ := hw
      obtain ⟨hwt, h⟩ := z_cond2 h
      have hwt : mm_wt rr ≤ 8 := Nat.le_of_ble_eq_true hwt
      have hz := hmono _ _ _ _ h
      have q2 := hgo _ _ _ _ _ _ _ _ _ h hr ⟨(by show zR32 (if _ then _ else _); split <;> assumption), hrr⟩
      rw [hp] at q2
      refine va_mmin hx hb (by rw [hml, hsz]) hown (hts _ (z_el (f := fun e : Nat × Nat × Nat => (.methodLink (z_cn e.1) e.2.1 (if e.2.2 = 0 then Lib.Math.max.name else if e.2.2 = 1 then Lib.Math.min.name else Lib.Math.abs.name) : Cond)) zw_math (List.elem_iff.mp ho))) (hts _ zj_st_min) (hts _ zj_ini_Math) (hts _ zj_cd_min) (by omega) (by rw [mm_wt_ok]; omega) (by omega) (by omega) hd ?_
      rw [List.map_cons] at q2
      by_cases hlt : yy < x
      · rw [if_pos hlt] at q2
        rw [if_pos ((ze_lt hy hxx).mpr hlt)]
        exact q2
      · rw [if_neg hlt] at q2
        rw [if_neg (fun z => hlt ((ze_lt hy hxx).mp z))]
        exact q2
    · cases h
  · obtain ⟨hF, h21⟩ := z_and hF
    have h21 := of_decide_eq_true h21
    obtain ⟨hF, ho⟩ := z_and hF
    obtain ⟨hd, hp⟩ := zD_spec hF
    split at h
    · rename_i x rr
      obtain ⟨hxx, hrr⟩ := hw
      obtain ⟨hwt, h⟩ := z_cond2 h
      have hwt : mm_wt rr ≤ 8 := Nat.le_of_ble_eq_true hwt
      have hz := hmono _ _ _ _ h
      have q2 := hgo _ _ _ _ _ _ _ _ _ h hr ⟨(by show zR32 (if _ then _ else _); split; exact hxx; exact zr_w32 _), hrr⟩
      rw [hp] at q2
      refine va_mabs hx hb (by rw [hml, hsz]) hown (hts _ (z_el (f := fun e : Nat × Nat × Nat => (.methodLink (z_cn e.1) e.2.1 (if e.2.2 = 0 then Lib.Math.max.name else if e.2.2 = 1 then Lib.Math.min.name else Lib.Math.abs.name) : Cond)) zw_math (List.elem_iff.mp ho))) (hts _ zj_st_abs) (hts _ zj_ini_Math) (hts _ zj_cd_abs) (by omega) (by rw [mm_wt_ok]; omega) (by omega) (by omega) hd ?_
      rw [List.map_cons] at q2
      have z0 : zR32 0 := by decide
      by_cases hlt : 0 ≤ x
      · rw [if_pos hlt] at q2
        rw [if_pos (show (0 : Int32) ≤ Int32.ofInt x from (ze_le z0 hxx).mpr hlt)]
        exact q2
      · rw [if_neg hlt] at q2
        rw [if_neg (show ¬ (0 : Int32) ≤ Int32.ofInt x from fun z => hlt ((ze_le z0 hxx).mp z))]
        simp only [cv, ze_sub] at q2
        exact q2
    · cases h
  · obtain ⟨hF, h21⟩ := z_and hF
    have h21 := of_decide_eq_true h21
    obtain ⟨hF, ho⟩ := z_and hF
    obtain ⟨hd, hp⟩ := zD_spec hF
    split at h
    · rename_i r rr
      obtain ⟨-, hrr⟩ := hw
      obtain ⟨q, rfl, h0⟩ := Option.bind_eq_some_iff.mp h
      clear h
      have h := h0
      clear h0
      split at h
      rotate_left
      · cases h
      rename_i hq2
      obtain ⟨hwt, h⟩ := z_cond2 h
      rw [hE] at h
      have hlen : zR32 ((z_strs q).length : Int) := by
        have key : ∀ q, q < 2 → zR32 ((z_strs q).length : Int) := by decide +kernel
        exact key q hq2
      refine hslen (List.elem_iff.mp ho) hq2 (Nat.le_of_ble_eq_true hwt) h21 hd (hmono _ _ _ _ h) (fun H1 locs1 hr1 => ?_)
      have q2 := hgo _ _ _ _ _ _ _ _ _ h hr1 ⟨hlen, hrr⟩
      rw [hp] at q2
      exact q2
    · cases h
  · obtain ⟨hF, h21⟩ := z_and hF
    have h21 := of_decide_eq_true h21
    obtain ⟨hF, ho⟩ := z_and hF
    obtain ⟨hd, hp⟩ := zD_spec hF
    split at h
    · rename_i i r rr
      obtain ⟨hi, -, hrr⟩ := hw
      obtain ⟨q, rfl, h0⟩ := Option.bind_eq_some_iff.mp h
      clear h
      have h := h0
      clear h0
      split at h
      rotate_left
      · cases h
      rename_i hq2
      rw [hE] at hq2
      obtain ⟨hq2, i0, i1⟩ := hq2
      obtain ⟨hwt, h⟩ := z_cond2 h
      rw [hE] at h
      have hch : zR32 ((z_strs q).getD i.toNat 0) := by
        have key : ∀ q, q < 2 → (z_strs q).all (fun x => decide (zR32 x)) = true := by decide +kernel
        have hk := key q hq2
        rw [List.getD_eq_getElem?_getD]
        cases hg : (z_strs q)[i.toNat]? with
        | none => decide
        | some v => exact of_decide_eq_true (List.all_eq_true.mp hk v (List.mem_of_getElem? hg))
      refine hschr (List.elem_iff.mp ho) hq2 hi i0 i1 (Nat.le_of_ble_eq_true hwt) h21 hd (hmono _ _ _ _ h) (fun H1 locs1 hr1 => ?_)
      have q2 := hgo _ _ _ _ _ _ _ _ _ h hr1 ⟨hch, hrr⟩
      rw [hp] at q2
      exact q2
    · cases h
  · obtain ⟨hF, h14⟩ := z_and hF
    have h14 := of_decide_eq_true h14
    obtain ⟨hd, hp⟩ := zD_spec hF
    obtain ⟨L, xs, hX, hbl, hbA, hL, hE1, hE2⟩ := hscr h14
    split at h
    · rename_i i r rr
      obtain ⟨hi, -, hrr⟩ := hw
      obtain ⟨q, rfl, h0⟩ := Option.bind_eq_some_iff.mp h
      clear h
      have h := h0
      clear h0
      split at h
      rotate_left
      · cases h
      rename_i hc
      obtain ⟨rfl, hc⟩ := hc
      rw [hE1] at hc
      rw [hE2] at h
      have q2 := hgo _ _ _ _ _ _ _ _ _ h hr ⟨zr_32 _, hrr⟩
      rw [hp] at q2
      refine va_sld hx hb hX hbl hbA hS (ze_in hi hc.1 hc.2) hd ?_
      rw [ze_nat hi hc.1]
      rw [List.map_cons] at q2
      have e : cv (zad g) (.inl (xs i.toNat).toInt) = .int (xs i.toNat) := by
        show Value.int (Int32.ofInt (xs i.toNat).toInt) = _
        rw [ze_o32]
      rw [e] at q2
      exact q2
    · cases h
  · obtain ⟨hF, h14⟩ := z_and hF
    have h14 := of_decide_eq_true h14
    obtain ⟨hd, hp⟩ := zD_spec hF
    obtain ⟨L, xs, hX, hbl, hbA, hL, hE1, hE2⟩ := hscr h14
    split at h
    · rename_i r rr
      obtain ⟨-, hrr⟩ := hw
      obtain ⟨q, rfl, h0⟩ := Option.bind_eq_some_iff.mp h
      clear h
      have h := h0
      clear h0
      split at h
      rotate_left
      · cases h
      rename_i hq2
      subst hq2
      rw [hE1] at h
      have q2 := hgo _ _ _ _ _ _ _ _ _ h hr ⟨(⟨by omega, by omega⟩ : zR32 (L : Int)), hrr⟩
      rw [hp] at q2
      exact va_slen hx hb hX hbl hbA hS hd (by rw [← Int32.ofInt_eq_ofNat]; exact q2)
    · cases h
  · obtain ⟨hF, hrt⟩ := z_and hF
    have hrt := of_decide_eq_true hrt
    obtain ⟨hd, hp⟩ := zD_spec hF
    split at h
    · rename_i x
      cases h
      rw [hby] at hd
      exact hend _ _ _ _ _ _ _ ⟨hd, Or.inl hrt, rfl⟩ hw.1 hP hS hok hc0 hs0
    · cases h
  · obtain ⟨hF, hrt⟩ := z_and hF
    have hrt := of_decide_eq_true hrt
    obtain ⟨hd, hp⟩ := zD_spec hF
    split at h
    · rename_i x
      split at h
      rotate_left
      · cases h
      rename_i h01
      cases h
      rw [hby] at hd
      exact hend _ _ _ _ _ _ _ ⟨hd, Or.inr ⟨hrt, h01⟩, rfl⟩ hw.1 hP hS hok hc0 hs0
    · cases h
  · obtain ⟨hF, hrt⟩ := z_and hF
    have hrt := of_decide_eq_true hrt
    obtain ⟨hd, hp⟩ := zD_spec hF
    split at h
    · rename_i x
      cases h
      rw [hby] at hd
      exact hend _ _ _ _ _ _ _ ⟨hd, hrt, rfl⟩ hw.1 hP hS hok hc0 hs0
    · cases h
  · obtain ⟨hF, hrt⟩ := z_and hF
    obtain ⟨hd, hp⟩ := zD_spec hF
    split at h
    · rename_i x
      cases h
      rw [hby] at hd
      exact hend _ _ _ _ _ _ _ ⟨hd, hrt, rfl⟩ hw.1 hP hS hok hc0 hs0
    · cases h
  · obtain ⟨hF, hrt⟩ := z_and hF
    have hrt := of_decide_eq_true hrt
    obtain ⟨hd, hp⟩ := zD_spec hF
    split at h
    · cases h
      rw [hby] at hd
      exact hend _ _ _ _ _ _ _ ⟨hd, hrt, rfl⟩ trivial hP hS hok hc0 hs0
    · cases h
  · cases h
end ZP7
