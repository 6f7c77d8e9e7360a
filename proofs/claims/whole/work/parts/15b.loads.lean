/-! the machine follows the mini machine: loads, stores, constants -/
theorem zRel.hl {g : zG} {s : State} {nL K0 S0 : Nat} {w : mW} {H : Heap} {locs : List Loc} {cells slots : Nat} {lc : mL} {ls : Array Slot} (h : zRel g s nL K0 S0 w H locs cells slots lc ls) : lv_has ls nL (zlp (zad g) lc) := h.2.2.2.1
theorem zRel.okL {g : zG} {s : State} {nL K0 S0 : Nat} {w : mW} {H : Heap} {locs : List Loc} {cells slots : Nat} {lc : mL} {ls : Array Slot} (h : zRel g s nL K0 S0 w H locs cells slots lc ls) : zOKL lc := h.2.2.2.2.1
theorem z4_ok {a : Nat} (h : a < 4) : ((z4 a : Fin 4) : Nat) = a := by
  rcases (show a = 0 ∨ a = 1 ∨ a = 2 ∨ a = 3 by omega) with rfl | rfl | rfl | rfl <;> rfl
theorem z_or {a b : Bool} (h : (a || b) = true) : a = true ∨ b = true := by cases a <;> simp_all
theorem z_and {a b : Bool} (h : (a && b) = true) : a = true ∧ b = true := by cases a <;> simp_all
theorem z_el {α : Type} {f : α → Cond} {L : List α} {x : α} (hm : ∀ w ∈ L.map f, w ∈ zTs) (h : x ∈ L) : f x ∈ zTs := hm _ (List.mem_map_of_mem h)
theorem z_cond {α : Type} {b : Bool} {x : Option α} {r : α} (h : cond b none x = some r) : b = false ∧ x = some r := by cases b <;> simp_all
theorem z_cond2 {α : Type} {b : Bool} {x : Option α} {r : α} (h : cond b x none = some r) : b = true ∧ x = some r := by cases b <;> simp_all
theorem cv_cat1 (ad : Nat → Nat) (x : Int) : (cv ad (.inl x)).category = 1 := rfl
theorem cv_cat3 (ad : Nat → Nat) (r : Option Nat) : (cv ad (.inr (.inr r))).category = 1 := by cases r <;> rfl
def ztx (q : Nat) : String := if q = 0 then "thicket by odds thorns berries lesson hours needs pupil at want knows go left right up down free tear pick year any when caught loop end stop " else " thicket odds thorns berries lesson pupil by hours needs at want knows left right up down go free tear pick year any when loop end stop caught "
section ZP1
variable {p : Program} {l : Launch} {e : Env} {R : Room} {s : State} {m : MethodId} {args : Array Value} {below : List Frame} {meth : Method} {c : Code} {Q : State → Prop}
variable {H : Heap} {locs : List Loc} {cells slots : Nat} {ls : Array Slot} {g : zG} {ps : List Nat} {k : mK} {rw : mR × mW} {pc nL : Nat} {lc : mL} {st : List mV} {w : mW} {cc : ByteArray}
variable {K0 S0 : Nat}
set_option maxHeartbeats 4000000 in
theorem zs1 {op a bb oc : Nat} {v : Int} {E : mE} (hx : p.tables.exec = Jvm.exec) (hb : c.code = cc) (hgo : zGo p l e R s m args below meth c Q g ps nL K0 S0 k rw) (hr : zRel g s nL K0 S0 w H locs cells slots lc ls) (hw : zOKl st)
    (hown : s.vm.findClass (z_cn oc) = some m.cls) (hts : ∀ w ∈ zTs, w.before args s = true) (hstr : ∀ x ∈ z_strc, vk_R (z_cn x.1) x.2.1 (ztx x.2.2) (zad g x.2.2) s)
    (hF : zF1 cc ps oc nL pc op a bb v = true) (h : mm_s1 E k pc op a v lc st w = some rw) : W p l e R s m args below meth c H locs cells slots Q (F0 m (ps.getD pc 0) ls (st.map (cv (zad g)))) := by
  unfold mm_s1 at h
  unfold zF1 at hF
  split at h
  · split at h
    · rename_i x hv
      rcases z_or hF with hF | hF
      · obtain ⟨hd, hp⟩ := zD_spec hF
        have q := hgo _ _ _ _ _ _ _ _ _ h hr ⟨hr.okL _ _ hv, hw⟩
        rw [hp] at q
        exact lv_iload hx hb hd (zl_at hr.hl hv) q
      · obtain ⟨hF, h4⟩ := z_and hF
        obtain ⟨hd, hp⟩ := zD_spec hF
        have q := hgo _ _ _ _ _ _ _ _ _ h hr ⟨hr.okL _ _ hv, hw⟩
        rw [hp] at q
        exact lv_iload_n hx hb hd (z4_ok (of_decide_eq_true h4)) (zl_at hr.hl hv) q
    · cases h
  · split at h
    · rename_i x hv
      rcases z_or hF with hF | hF
      · obtain ⟨hd, hp⟩ := zD_spec hF
        have q := hgo _ _ _ _ _ _ _ _ _ h hr ⟨hr.okL _ _ hv, hw⟩
        rw [hp] at q
        exact lv_lload hx hb hd (zl_at hr.hl hv) q
      · obtain ⟨hF, h4⟩ := z_and hF
        obtain ⟨hd, hp⟩ := zD_spec hF
        have q := hgo _ _ _ _ _ _ _ _ _ h hr ⟨hr.okL _ _ hv, hw⟩
        rw [hp] at q
        exact lv_lload_n hx hb hd (z4_ok (of_decide_eq_true h4)) (zl_at hr.hl hv) q
    · cases h
  · split at h
    · rename_i x hv
      rcases z_or hF with hF | hF
      · obtain ⟨hd, hp⟩ := zD_spec hF
        have q := hgo _ _ _ _ _ _ _ _ _ h hr ⟨hr.okL _ _ hv, hw⟩
        rw [hp] at q
        cases x with
        | none => exact lv_aloadN hx hb hd (zl_at hr.hl hv) q
        | some x => exact lv_aload hx hb hd (zl_at hr.hl hv) q
      · obtain ⟨hF, h4⟩ := z_and hF
        obtain ⟨hd, hp⟩ := zD_spec hF
        have q := hgo _ _ _ _ _ _ _ _ _ h hr ⟨hr.okL _ _ hv, hw⟩
        rw [hp] at q
        cases x with
        | none => exact lv_aload_nN hx hb hd (z4_ok (of_decide_eq_true h4)) (zl_at hr.hl hv) q
        | some x => exact lv_aload_n hx hb hd (z4_ok (of_decide_eq_true h4)) (zl_at hr.hl hv) q
    · cases h
  · obtain ⟨hF, hn⟩ := z_and hF
    split at h
    · rename_i x rr
      obtain ⟨hxx, hrr⟩ := hw
      obtain ⟨hJ, h⟩ := z_cond h
      rcases z_or hF with hF | hF
      · obtain ⟨hd, hp⟩ := zD_spec hF
        refine lv_istore hx hb hd hr.hl (of_decide_eq_true hn) rfl (fun ls' hl => ?_)
        have q := hgo _ _ _ _ _ _ _ _ _ h (hr.set hJ hxx rfl hl) hrr
        rw [hp] at q
        exact q
      · obtain ⟨hF, h4⟩ := z_and hF
        obtain ⟨hd, hp⟩ := zD_spec hF
        refine lv_istore_n hx hb hd (z4_ok (of_decide_eq_true h4)) hr.hl (of_decide_eq_true hn) rfl (fun ls' hl => ?_)
        have q := hgo _ _ _ _ _ _ _ _ _ h (hr.set hJ hxx rfl hl) hrr
        rw [hp] at q
        exact q
    · cases h
  · obtain ⟨hF, hn⟩ := z_and hF
    split at h
    · rename_i x rr
      obtain ⟨hxx, hrr⟩ := hw
      obtain ⟨hJ, h⟩ := z_cond h
      rcases z_or hF with hF | hF
      · obtain ⟨hd, hp⟩ := zD_spec hF
        refine lv_lstore hx hb hd hr.hl (of_decide_eq_true hn) rfl (fun ls' hl => ?_)
        have q := hgo _ _ _ _ _ _ _ _ _ h (hr.setJ hJ hxx rfl hl) hrr
        rw [hp] at q
        exact q
      · obtain ⟨hF, h4⟩ := z_and hF
        obtain ⟨hd, hp⟩ := zD_spec hF
        refine lv_lstore_n hx hb hd (z4_ok (of_decide_eq_true h4)) hr.hl (of_decide_eq_true hn) rfl (fun ls' hl => ?_)
        have q := hgo _ _ _ _ _ _ _ _ _ h (hr.setJ hJ hxx rfl hl) hrr
        rw [hp] at q
        exact q
    · cases h
  · obtain ⟨hF, hn⟩ := z_and hF
    split at h
    · rename_i x rr
      obtain ⟨hxx, hrr⟩ := hw
      obtain ⟨hJ, h⟩ := z_cond h
      rcases z_or hF with hF | hF
      · obtain ⟨hd, hp⟩ := zD_spec hF
        cases x with
        | none =>
          refine lv_astoreN hx hb hd hr.hl (of_decide_eq_true hn) rfl (fun ls' hl => ?_)
          have q := hgo _ _ _ _ _ _ _ _ _ h (hr.set hJ hxx rfl hl) hrr
          rw [hp] at q
          exact q
        | some x =>
          refine lv_astore hx hb hd hr.hl (of_decide_eq_true hn) rfl (fun ls' hl => ?_)
          have q := hgo _ _ _ _ _ _ _ _ _ h (hr.set hJ hxx rfl hl) hrr
          rw [hp] at q
          exact q
      · obtain ⟨hF, h4⟩ := z_and hF
        obtain ⟨hd, hp⟩ := zD_spec hF
        cases x with
        | none =>
          refine lv_astore_nN hx hb hd (z4_ok (of_decide_eq_true h4)) hr.hl (of_decide_eq_true hn) rfl (fun ls' hl => ?_)
          have q := hgo _ _ _ _ _ _ _ _ _ h (hr.set hJ hxx rfl hl) hrr
          rw [hp] at q
          exact q
        | some x =>
          refine lv_astore_n hx hb hd (z4_ok (of_decide_eq_true h4)) hr.hl (of_decide_eq_true hn) rfl (fun ls' hl => ?_)
          have q := hgo _ _ _ _ _ _ _ _ _ h (hr.set hJ hxx rfl hl) hrr
          rw [hp] at q
          exact q
    · cases h
  · obtain ⟨hF, hn⟩ := z_and hF
    obtain ⟨hd, hp⟩ := zD_spec hF
    split at h
    · rename_i x hv
      obtain ⟨hJ, h⟩ := z_cond h
      obtain ⟨j, hj⟩ := List.getElem?_of_mem (zlp_mem.mpr ⟨_, hv, rfl⟩ : (a, cv (zad g) (.inl x)) ∈ zlp (zad g) lc)
      refine lv_iinc hx hb hd hr.hl hj (ze_add x v).symm (of_decide_eq_true hn) rfl (fun ls' hl => ?_)
      have q := hgo _ _ _ _ _ _ _ _ _ h (hr.set hJ (zr_w32 _ : zOKv (.inl (mm_w32 (x + v)))) rfl hl) hw
      rw [hp] at q
      exact q
    · cases h
  · obtain ⟨hv, hF⟩ := z_and hF
    have hv : zR32 v := of_decide_eq_true hv
    have q := hgo _ _ _ _ _ _ _ _ _ h hr ⟨hv, hw⟩
    rcases z_or hF with hF | hF
    · rcases z_or hF with hF | hF
      · rcases z_or hF with hF | hF
        · rcases z_or hF with hF | hF
          · obtain ⟨hd, hp⟩ := zD_spec hF
            rw [hp] at q
            exact lv_iconst hx hb hd rfl q
          · obtain ⟨hF, h4⟩ := z_and hF
            obtain ⟨hd, hp⟩ := zD_spec hF
            rw [hp] at q
            exact lv_bipush hx hb hd (of_decide_eq_true h4) q
        · obtain ⟨hF, h4⟩ := z_and hF
          obtain ⟨hd, hp⟩ := zD_spec hF
          rw [hp] at q
          exact lv_sipush hx hb hd (of_decide_eq_true h4) q
      · obtain ⟨hF, h4⟩ := z_and hF
        obtain ⟨hd, hp⟩ := zD_spec hF
        rw [hp] at q
        exact lv_ldc hx hb hown (hts _ (z_el (f := fun e : Nat × Nat × Int => (.constant (z_cn e.1) e.2.1 (Int32.ofInt e.2.2) : Cond)) zw_cons (List.elem_iff.mp h4))) hd q
    · obtain ⟨hF, h4⟩ := z_and hF
      obtain ⟨hd, hp⟩ := zD_spec hF
      rw [hp] at q
      exact lv_ldcw hx hb hown (hts _ (z_el (f := fun e : Nat × Nat × Int => (.constant (z_cn e.1) e.2.1 (Int32.ofInt e.2.2) : Cond)) zw_cons (List.elem_iff.mp h4))) hd q
  · obtain ⟨hv, hF⟩ := z_and hF
    have hv : zR64 v := of_decide_eq_true hv
    have q := hgo _ _ _ _ _ _ _ _ _ h hr ⟨hv, hw⟩
    rcases z_or hF with hF | hF
    · rcases z_or hF with hF | hF
      · obtain ⟨hF, h4⟩ := z_and hF
        obtain ⟨hd, hp⟩ := zD_spec hF
        rw [hp] at q
        have h4 : v = 0 := of_decide_eq_true h4
        subst h4
        exact lv_lconst hx hb hd rfl q
      · obtain ⟨hF, h4⟩ := z_and hF
        obtain ⟨hd, hp⟩ := zD_spec hF
        rw [hp] at q
        have h4 : v = 1 := of_decide_eq_true h4
        subst h4
        exact lv_lconst hx hb hd rfl q
    · obtain ⟨hF, h4⟩ := z_and hF
      obtain ⟨hd, hp⟩ := zD_spec hF
      rw [hp] at q
      exact lv_ldc2 hx hb hown (hts _ (z_el (f := fun e : Nat × Nat × Int => (.constantLong (z_cn e.1) e.2.1 (Int64.ofInt e.2.2) : Cond)) zw_conl (List.elem_iff.mp h4))) hd q
  · obtain ⟨hd, hp⟩ := zD_spec hF
    have q := hgo _ _ _ _ _ _ _ _ _ h hr ⟨trivial, hw⟩
    rw [hp] at q
    exact lv_null hx hb hd q
  · obtain ⟨hF, h4⟩ := z_and hF
    obtain ⟨hd, hp⟩ := zD_spec hF
    have q := hgo _ _ _ _ _ _ _ _ _ h hr ⟨trivial, hw⟩
    rw [hp] at q
    exact va_ldcS hx hb hown (hstr _ (List.elem_iff.mp h4)) hd q
  · obtain ⟨hd, hp⟩ := zD_spec hF
    split at h
    · rename_i x rr
      have q := hgo _ _ _ _ _ _ _ _ _ h hr ⟨hw.1, hw⟩
      rw [hp] at q
      exact lv_dup hx hb hd rfl q
    · rename_i x rr
      have q := hgo _ _ _ _ _ _ _ _ _ h hr ⟨trivial, hw⟩
      rw [hp] at q
      exact lv_dup hx hb hd (cv_cat3 _ x) q
    · cases h
  · obtain ⟨hd, hp⟩ := zD_spec hF
    split at h
    · rename_i x y rr
      have q := hgo _ _ _ _ _ _ _ _ _ h hr ⟨hw.1, trivial, hw⟩
      rw [hp] at q
      exact lv_dup2_11 hx hb hd rfl (cv_cat3 _ y) q
    · cases h
  · obtain ⟨hd, hp⟩ := zD_spec hF
    split at h
    · rename_i x rr
      have q := hgo _ _ _ _ _ _ _ _ _ h hr hw.2
      rw [hp] at q
      exact lv_pop hx hb hd rfl q
    · cases h
  · cases h
end ZP1
