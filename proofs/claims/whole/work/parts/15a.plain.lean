/-! the machine follows the mini machine: plain instructions -/
theorem zD_spec {b : ByteArray} {ps : List Nat} {i : Nat} {I : Instr} {n : Nat} (h : zD b ps i I n = true) : decode b (ps.getD i 0) = .ok (I, n) ∧ ps.getD (i + 1) 0 = ps.getD i 0 + n := by
  unfold zD at h
  rw [Bool.and_eq_true, decide_eq_true_eq, decide_eq_true_eq] at h
  exact h
theorem zr_lcmp (x y : Int) : zR32 (mm_lcmp x y) := by
  unfold mm_lcmp
  split
  · decide
  · split <;> decide
theorem ze_rem2 {x y : Int} (hx : zR32 x) (hy : zR32 y) : Int32.ofInt (mm_irem x y) = Int32.ofInt x - Int32.ofInt x / Int32.ofInt y * Int32.ofInt y := by
  rw [← ze_div hx hy]
  unfold mm_irem mm_idiv
  rw [ze_w32, ze_w32, ← Int32.ofInt_mul, ← Int32.ofInt_sub, Int.tmod_def, Int.mul_comm]
theorem ze_lrem2 {x y : Int} (hx : zR64 x) (hy : zR64 y) : Int64.ofInt (mm_lrem x y) = Int64.ofInt x - Int64.ofInt x / Int64.ofInt y * Int64.ofInt y := by
  rw [← ze_ldiv hx hy]
  unfold mm_lrem mm_ldiv
  rw [ze_w64, ze_w64, ← Int64.ofInt_mul, ← Int64.ofInt_sub, Int.tmod_def, Int.mul_comm]
/-- what the rest of the run has: the world, the locals -/
def zRel (g : zG) (s : State) (nL : Nat) (K0 S0 : Nat) (w : mW) (H : Heap) (locs : List Loc) (cells slots : Nat) (lc : mL) (ls : Array Slot) : Prop :=
  va_P g.2.2.2.2.1 vwCl (zW g w) H ∧ va_S (zA g) s.heap H locs ∧ zOK w ∧ lv_has ls nL (zlp (zad g) lc) ∧ zOKL lc ∧ lc.length = nL ∧ cells + K0 = w.2.1 ∧ slots + S0 = w.2.2
/-- from wherever the mini machine goes on, the machine comes to its end -/
def zGo (p : Program) (l : Launch) (e : Env) (R : Room) (s : State) (m : MethodId) (args : Array Value) (below : List Frame) (meth : Method) (c : Code) (Q : State → Prop) (g : zG) (ps : List Nat) (nL K0 S0 : Nat) (k : mK) (rw : mR × mW) : Prop :=
  ∀ (pc : Nat) (lc : mL) (st : List mV) (w : mW) (H : Heap) (locs : List Loc) (cells slots : Nat) (ls : Array Slot), k pc lc st w = some rw → zRel g s nL K0 S0 w H locs cells slots lc ls → zOKl st →
    W p l e R s m args below meth c H locs cells slots Q (F0 m (ps.getD pc 0) ls (st.map (cv (zad g))))
theorem zRel.set {g : zG} {s : State} {nL K0 S0 : Nat} {w : mW} {H : Heap} {locs : List Loc} {cells slots : Nat} {lc : mL} {ls ls' : Array Slot} {a : Nat} {v : mV} (h : zRel g s nL K0 S0 w H locs cells slots lc ls) (hJ : mm_isJ lc a = false) (hv : zOKv v)
    {lv : List (Nat × Value)} (hlv : (a, cv (zad g) v) :: (zlp (zad g) lc).filter (fun q => !(q.1 == a) && !(q.1 + 1 == a && q.2.category == 2)) = lv) (hl : lv_has ls' nL lv) : zRel g s nL K0 S0 w H locs cells slots (lc.set a (some v)) ls' := by
  obtain ⟨h1, h2, h3, h4, h5, h6, h7⟩ := h
  exact ⟨h1, h2, h3, zl_set hJ hlv hl, zOKL_set h5 (fun u hu => by cases hu; exact hv), by rw [List.length_set]; exact h6, h7⟩
theorem zRel.setJ {g : zG} {s : State} {nL K0 S0 : Nat} {w : mW} {H : Heap} {locs : List Loc} {cells slots : Nat} {lc : mL} {ls ls' : Array Slot} {a : Nat} {x : Int} (h : zRel g s nL K0 S0 w H locs cells slots lc ls) (hJ : mm_isJ lc a = false) (hv : zR64 x)
    {lv : List (Nat × Value)} (hlv : (a, cv (zad g) (.inr (.inl x))) :: (zlp (zad g) lc).filter (fun q => !(q.1 == a) && (!(q.1 == a + 1) && !(q.1 + 1 == a && q.2.category == 2))) = lv) (hl : lv_has ls' nL lv) : zRel g s nL K0 S0 w H locs cells slots ((lc.set a (some (.inr (.inl x)))).set (a + 1) none) ls' := by
  obtain ⟨h1, h2, h3, h4, h5, h6, h7⟩ := h
  exact ⟨h1, h2, h3, zl_setJ hJ hlv hl, zOKL_set (zOKL_set h5 (fun u hu => by cases hu; exact hv)) (fun u hu => by cases hu), by rw [List.length_set, List.length_set]; exact h6, h7⟩
section ZP
variable {p : Program} {l : Launch} {e : Env} {R : Room} {s : State} {m : MethodId} {args : Array Value} {below : List Frame} {meth : Method} {c : Code} {Q : State → Prop}
variable {H : Heap} {locs : List Loc} {cells slots : Nat} {ls : Array Slot} {g : zG} {ps : List Nat} {k : mK} {rw : mR × mW} {pc nL : Nat} {lc : mL} {st : List mV} {w : mW} {cc : ByteArray}
variable {K0 S0 : Nat}
set_option maxHeartbeats 4000000 in
theorem zs2 {op : Nat} (hx : p.tables.exec = Jvm.exec) (hb : c.code = cc) (hgo : zGo p l e R s m args below meth c Q g ps nL K0 S0 k rw) (hr : zRel g s nL K0 S0 w H locs cells slots lc ls) (hw : zOKl st) (hF : zF2 cc ps pc op = true) (h : mm_s2 k pc op lc st w = some rw) : W p l e R s m args below meth c H locs cells slots Q (F0 m (ps.getD pc 0) ls (st.map (cv (zad g)))) := by
  unfold mm_s2 at h
  unfold zF2 at hF
  split at h
  · obtain ⟨hd, hp⟩ := zD_spec hF
    split at h
    · rename_i y x rr
      obtain ⟨hy, hxx, hrr⟩ := hw
      refine lv_iadd hx hb hd ?_
      have q := hgo _ _ _ _ _ _ _ _ _ h hr ⟨zr_w32 _, hrr⟩
      rw [hp] at q
      simpa only [List.map_cons, cv, ze_add] using q
    · cases h
  · obtain ⟨hd, hp⟩ := zD_spec hF
    split at h
    · rename_i y x rr
      obtain ⟨hy, hxx, hrr⟩ := hw
      refine lv_isub hx hb hd ?_
      have q := hgo _ _ _ _ _ _ _ _ _ h hr ⟨zr_w32 _, hrr⟩
      rw [hp] at q
      simpa only [List.map_cons, cv, ze_sub] using q
    · cases h
  · obtain ⟨hd, hp⟩ := zD_spec hF
    split at h
    · rename_i y x rr
      obtain ⟨hy, hxx, hrr⟩ := hw
      refine lv_imul hx hb hd ?_
      have q := hgo _ _ _ _ _ _ _ _ _ h hr ⟨zr_w32 _, hrr⟩
      rw [hp] at q
      simpa only [List.map_cons, cv, ze_mul] using q
    · cases h
  · obtain ⟨hd, hp⟩ := zD_spec hF
    split at h
    · rename_i y x rr
      obtain ⟨hy, hxx, hrr⟩ := hw
      split at h
      · cases h
      · rename_i hne
        refine lv_idiv hx hb hd (fun q => hne ((ze_eq hy (by decide)).mp q)) ?_
        have q := hgo _ _ _ _ _ _ _ _ _ h hr ⟨zr_w32 _, hrr⟩
        rw [hp] at q
        simpa only [List.map_cons, cv, ze_div hxx hy] using q
    · cases h
  · obtain ⟨hd, hp⟩ := zD_spec hF
    split at h
    · rename_i y x rr
      obtain ⟨hy, hxx, hrr⟩ := hw
      split at h
      · cases h
      · rename_i hne
        refine lv_irem hx hb hd (fun q => hne ((ze_eq hy (by decide)).mp q)) ?_
        have q := hgo _ _ _ _ _ _ _ _ _ h hr ⟨zr_w32 _, hrr⟩
        rw [hp] at q
        simpa only [List.map_cons, cv, ze_rem2 hxx hy] using q
    · cases h
  · obtain ⟨hd, hp⟩ := zD_spec hF
    split at h
    · rename_i y x rr
      obtain ⟨hy, hxx, hrr⟩ := hw
      refine lv_iand hx hb hd ?_
      have q := hgo _ _ _ _ _ _ _ _ _ h hr ⟨zr_32 _, hrr⟩
      rw [hp] at q
      simpa only [List.map_cons, cv, mm_iand, ze_o32] using q
    · cases h
  · obtain ⟨hd, hp⟩ := zD_spec hF
    split at h
    · rename_i y x rr
      obtain ⟨hy, hxx, hrr⟩ := hw
      refine lv_ior hx hb hd ?_
      have q := hgo _ _ _ _ _ _ _ _ _ h hr ⟨zr_32 _, hrr⟩
      rw [hp] at q
      simpa only [List.map_cons, cv, mm_ior, ze_o32] using q
    · cases h
  · obtain ⟨hd, hp⟩ := zD_spec hF
    split at h
    · rename_i y x rr
      obtain ⟨hy, hxx, hrr⟩ := hw
      refine lv_ixor hx hb hd ?_
      have q := hgo _ _ _ _ _ _ _ _ _ h hr ⟨zr_32 _, hrr⟩
      rw [hp] at q
      simpa only [List.map_cons, cv, mm_ixor, ze_o32] using q
    · cases h
  · obtain ⟨hd, hp⟩ := zD_spec hF
    split at h
    · rename_i y x rr
      obtain ⟨hy, hxx, hrr⟩ := hw
      refine lv_ishl hx hb hd ?_
      have q := hgo _ _ _ _ _ _ _ _ _ h hr ⟨zr_32 _, hrr⟩
      rw [hp] at q
      simpa only [List.map_cons, cv, mm_ishl, ze_o32] using q
    · cases h
  · obtain ⟨hd, hp⟩ := zD_spec hF
    split at h
    · rename_i y x rr
      obtain ⟨hy, hxx, hrr⟩ := hw
      refine lv_ishr hx hb hd ?_
      have q := hgo _ _ _ _ _ _ _ _ _ h hr ⟨zr_32 _, hrr⟩
      rw [hp] at q
      simpa only [List.map_cons, cv, mm_ishr, ze_o32] using q
    · cases h
  · obtain ⟨hd, hp⟩ := zD_spec hF
    split at h
    · rename_i y x rr
      obtain ⟨hy, hxx, hrr⟩ := hw
      refine lv_iushr (v := Int32.ofInt (mm_iushr x y)) hx hb hd (by unfold mm_iushr; rw [ze_o32]) ?_
      have q := hgo _ _ _ _ _ _ _ _ _ h hr ⟨zr_32 _, hrr⟩
      rw [hp] at q
      exact q
    · cases h
  · cases h
set_option maxHeartbeats 4000000 in
theorem zs3 {op : Nat} (hx : p.tables.exec = Jvm.exec) (hb : c.code = cc) (hgo : zGo p l e R s m args below meth c Q g ps nL K0 S0 k rw) (hr : zRel g s nL K0 S0 w H locs cells slots lc ls) (hw : zOKl st) (hF : zF3 cc ps pc op = true) (h : mm_s3 k pc op lc st w = some rw) : W p l e R s m args below meth c H locs cells slots Q (F0 m (ps.getD pc 0) ls (st.map (cv (zad g)))) := by
  unfold mm_s3 at h
  unfold zF3 at hF
  split at h
  · obtain ⟨hd, hp⟩ := zD_spec hF
    split at h
    · rename_i y x rr
      obtain ⟨hy, hxx, hrr⟩ := hw
      refine lv_ladd hx hb hd ?_
      have q := hgo _ _ _ _ _ _ _ _ _ h hr ⟨zr_w64 _, hrr⟩
      rw [hp] at q
      simpa only [List.map_cons, cv, ze_ladd] using q
    · cases h
  · obtain ⟨hd, hp⟩ := zD_spec hF
    split at h
    · rename_i y x rr
      obtain ⟨hy, hxx, hrr⟩ := hw
      refine lv_lsub hx hb hd ?_
      have q := hgo _ _ _ _ _ _ _ _ _ h hr ⟨zr_w64 _, hrr⟩
      rw [hp] at q
      simpa only [List.map_cons, cv, ze_lsub] using q
    · cases h
  · obtain ⟨hd, hp⟩ := zD_spec hF
    split at h
    · rename_i y x rr
      obtain ⟨hy, hxx, hrr⟩ := hw
      refine lv_lmul hx hb hd ?_
      have q := hgo _ _ _ _ _ _ _ _ _ h hr ⟨zr_w64 _, hrr⟩
      rw [hp] at q
      simpa only [List.map_cons, cv, ze_lmul] using q
    · cases h
  · obtain ⟨hd, hp⟩ := zD_spec hF
    split at h
    · rename_i y x rr
      obtain ⟨hy, hxx, hrr⟩ := hw
      split at h
      · cases h
      · rename_i hne
        refine lv_ldiv hx hb hd (fun q => hne ((ze_leq hy (by decide)).mp q)) ?_
        have q := hgo _ _ _ _ _ _ _ _ _ h hr ⟨zr_w64 _, hrr⟩
        rw [hp] at q
        simpa only [List.map_cons, cv, ze_ldiv hxx hy] using q
    · cases h
  · obtain ⟨hd, hp⟩ := zD_spec hF
    split at h
    · rename_i y x rr
      obtain ⟨hy, hxx, hrr⟩ := hw
      split at h
      · cases h
      · rename_i hne
        refine lv_lrem hx hb hd (fun q => hne ((ze_leq hy (by decide)).mp q)) ?_
        have q := hgo _ _ _ _ _ _ _ _ _ h hr ⟨zr_w64 _, hrr⟩
        rw [hp] at q
        simpa only [List.map_cons, cv, ze_lrem2 hxx hy] using q
    · cases h
  · obtain ⟨hd, hp⟩ := zD_spec hF
    split at h
    · rename_i y x rr
      obtain ⟨hy, hxx, hrr⟩ := hw
      refine lv_land hx hb hd ?_
      have q := hgo _ _ _ _ _ _ _ _ _ h hr ⟨zr_64 _, hrr⟩
      rw [hp] at q
      simpa only [List.map_cons, cv, mm_land, ze_o64] using q
    · cases h
  · obtain ⟨hd, hp⟩ := zD_spec hF
    split at h
    · rename_i y x rr
      obtain ⟨hy, hxx, hrr⟩ := hw
      refine lv_lor hx hb hd ?_
      have q := hgo _ _ _ _ _ _ _ _ _ h hr ⟨zr_64 _, hrr⟩
      rw [hp] at q
      simpa only [List.map_cons, cv, mm_lor, ze_o64] using q
    · cases h
  · obtain ⟨hd, hp⟩ := zD_spec hF
    split at h
    · rename_i y x rr
      obtain ⟨hy, hxx, hrr⟩ := hw
      refine lv_lshl (v := Int64.ofInt (mm_lshl x y)) hx hb hd (by unfold mm_lshl; rw [ze_o64]) ?_
      have q := hgo _ _ _ _ _ _ _ _ _ h hr ⟨zr_64 _, hrr⟩
      rw [hp] at q
      exact q
    · cases h
  · obtain ⟨hd, hp⟩ := zD_spec hF
    split at h
    · rename_i y x rr
      obtain ⟨hy, hxx, hrr⟩ := hw
      refine W.lcmp hx hb hd ?_
      have q := hgo _ _ _ _ _ _ _ _ _ h hr ⟨zr_lcmp x y, hrr⟩
      rw [hp] at q
      have e : lg_cmp (Int64.ofInt x) (Int64.ofInt y) = Int32.ofInt (mm_lcmp x y) := by
        unfold lg_cmp mm_lcmp
        simp only [ze_llt hxx hy, ze_llt hy hxx, ze_leq hxx hy]
        split <;> split <;> (try split) <;> first | rfl | omega
      simpa only [List.map_cons, cv, e] using q
    · cases h
  · obtain ⟨hd, hp⟩ := zD_spec hF
    split at h
    · rename_i x rr
      obtain ⟨hxx, hrr⟩ := hw
      refine lv_i2l hx hb hd (ze_i2l hxx) ?_
      have q := hgo _ _ _ _ _ _ _ _ _ h hr ⟨(⟨by have := hxx.1; omega, by have := hxx.2; omega⟩ : zR64 x), hrr⟩
      rw [hp] at q
      exact q
    · cases h
  · obtain ⟨hd, hp⟩ := zD_spec hF
    split at h
    · rename_i x rr
      obtain ⟨hxx, hrr⟩ := hw
      refine lv_l2i hx hb hd (ze_l2i hxx) ?_
      have q := hgo _ _ _ _ _ _ _ _ _ h hr ⟨zr_w32 _, hrr⟩
      rw [hp] at q
      exact q
    · cases h
  · obtain ⟨hd, hp⟩ := zD_spec hF
    split at h
    · rename_i x rr
      obtain ⟨hxx, hrr⟩ := hw
      refine lv_i2b hx hb hd (ze_i2b hxx) ?_
      have q := hgo _ _ _ _ _ _ _ _ _ h hr ⟨zr_i2b _, hrr⟩
      rw [hp] at q
      exact q
    · cases h
  · obtain ⟨hd, hp⟩ := zD_spec hF
    split at h
    · rename_i x rr
      obtain ⟨hxx, hrr⟩ := hw
      refine lv_i2s hx hb hd (ze_i2s hxx) ?_
      have q := hgo _ _ _ _ _ _ _ _ _ h hr ⟨zr_i2s _, hrr⟩
      rw [hp] at q
      exact q
    · cases h
  · cases h
theorem zOff_ok (ps : List Nat) (i a : Nat) : ((ps.getD i 0 : Nat) : Int) + zOff ps i a = ((ps.getD a 0 : Nat) : Int) := by unfold zOff; omega
def mm_tgt (x : Int) (d : Nat) : List (Int × Nat) → Nat
  | [] => d
  | (v, t) :: r => if x = v then t else mm_tgt x d r
theorem mm_sw_tgt (k : Nat → mO) (x : Int) (d : Nat) : ∀ cs : List (Int × Nat), mm_sw k x d cs = k (mm_tgt x d cs)
  | [] => rfl
  | (v, t) :: r => by
    rw [mm_sw, mm_tgt]
    split
    · rfl
    · exact mm_sw_tgt k x d r
theorem z_lookup (ps : List Nat) (i a : Nat) (x : Int) : ∀ cs : List (Int × Nat), Op.lookupswitch.offset (cs.map (fun e => (e.1, zOff ps i e.2))) (zOff ps i a) x = zOff ps i (mm_tgt x a cs)
  | [] => rfl
  | (v, t) :: r => by
    rw [List.map_cons, Op.lookupswitch.offset_cons, mm_tgt]
    simp only [z_lookup ps i a x r]
    by_cases h : x = v
    · subst h; simp
    · simp [h, Ne.symm h]
theorem z_table (x : Int) (d : Nat) : ∀ (cs : List (Int × Nat)) (lo : Int), cs.map (fun e => e.1) = (List.range cs.length).map (fun (j : Nat) => lo + (j : Int)) →
    ((x < lo ∨ lo + cs.length ≤ x) → mm_tgt x d cs = d) ∧ (¬ x < lo → ¬ lo + cs.length ≤ x → ∃ e, cs[(x - lo).toNat]? = some e ∧ mm_tgt x d cs = e.2)
  | [], lo, _ => ⟨fun _ => rfl, fun h1 h2 => absurd (by simp only [List.length_nil]; omega) h2⟩
  | (v, t) :: r, lo, hc => by
    rw [List.length_cons, List.range_succ_eq_map, List.map_cons, List.map_cons, List.map_map] at hc
    simp only [List.cons.injEq] at hc
    obtain ⟨hv, hc⟩ := hc
    have hv : v = lo := by rw [hv]; simp
    subst hv
    have hc2 : r.map (fun e => e.1) = (List.range r.length).map (fun (j : Nat) => (v + 1) + (j : Int)) := by
      rw [hc]
      apply List.map_congr_left
      intro j _
      simp only [Function.comp_apply, Nat.succ_eq_add_one, Int.natCast_add]
      omega
    obtain ⟨i1, i2⟩ := z_table x d r (v + 1) hc2
    rw [mm_tgt]
    constructor
    · intro h
      rw [List.length_cons] at h
      rw [if_neg (by omega)]
      exact i1 (by omega)
    · intro h1 h2
      rw [List.length_cons] at h2
      by_cases he : x = v
      · subst he
        refine ⟨(x, t), ?_, by simp⟩
        rw [Int.sub_self]
        rfl
      · rw [if_neg he]
        obtain ⟨e, e1, e2⟩ := i2 (by omega) (by omega)
        refine ⟨e, ?_, e2⟩
        have hn : (x - v).toNat = (x - (v + 1)).toNat + 1 := by omega
        rw [hn, List.getElem?_cons_succ]
        exact e1
set_option maxHeartbeats 4000000 in
theorem zs4 {op a : Nat} {cs : List (Int × Nat)} (hx : p.tables.exec = Jvm.exec) (hb : c.code = cc) (hgo : zGo p l e R s m args below meth c Q g ps nL K0 S0 k rw) (hr : zRel g s nL K0 S0 w H locs cells slots lc ls) (hw : zOKl st) (hF : zF4 cc ps pc op a cs = true) (h : mm_s4 k pc op a cs lc st w = some rw) : W p l e R s m args below meth c H locs cells slots Q (F0 m (ps.getD pc 0) ls (st.map (cv (zad g)))) := by
  unfold mm_s4 at h
  unfold zF4 at hF
  split at h
  · obtain ⟨hd, hp⟩ := zD_spec hF
    split at h
    · rename_i x rr
      obtain ⟨hxx, hrr⟩ := hw
      have z0 : zR32 0 := by decide
      refine lv_if_eq (tgt := ps.getD a 0) hx hb hd (zOff_ok ps pc a) (fun q => ?_) (fun q => ?_)
      · rw [if_pos ((ze_eq hxx z0).mp q)] at h
        exact hgo _ _ _ _ _ _ _ _ _ h hr hrr
      · rw [if_neg (fun z => q ((ze_eq hxx z0).mpr z))] at h
        have q2 := hgo _ _ _ _ _ _ _ _ _ h hr hrr
        rw [hp] at q2
        exact q2
    · cases h
  · obtain ⟨hd, hp⟩ := zD_spec hF
    split at h
    · rename_i x rr
      obtain ⟨hxx, hrr⟩ := hw
      have z0 : zR32 0 := by decide
      refine lv_if_ne (tgt := ps.getD a 0) hx hb hd (zOff_ok ps pc a) (fun q => ?_) (fun q => ?_)
      · rw [if_neg (fun z => q ((ze_eq hxx z0).mpr z))] at h
        exact hgo _ _ _ _ _ _ _ _ _ h hr hrr
      · rw [if_pos ((ze_eq hxx z0).mp q)] at h
        have q2 := hgo _ _ _ _ _ _ _ _ _ h hr hrr
        rw [hp] at q2
        exact q2
    · cases h
  · obtain ⟨hd, hp⟩ := zD_spec hF
    split at h
    · rename_i x rr
      obtain ⟨hxx, hrr⟩ := hw
      have z0 : zR32 0 := by decide
      refine lv_if_lt (tgt := ps.getD a 0) hx hb hd (zOff_ok ps pc a) (fun q => ?_) (fun q => ?_)
      · rw [if_pos ((ze_lt hxx z0).mp q)] at h
        exact hgo _ _ _ _ _ _ _ _ _ h hr hrr
      · rw [if_neg (fun z => q ((ze_lt hxx z0).mpr z))] at h
        have q2 := hgo _ _ _ _ _ _ _ _ _ h hr hrr
        rw [hp] at q2
        exact q2
    · cases h
  · obtain ⟨hd, hp⟩ := zD_spec hF
    split at h
    · rename_i x rr
      obtain ⟨hxx, hrr⟩ := hw
      have z0 : zR32 0 := by decide
      refine lv_if_ge (tgt := ps.getD a 0) hx hb hd (zOff_ok ps pc a) (fun q => ?_) (fun q => ?_)
      · rw [if_neg (fun z => Int.not_lt.mpr ((ze_le z0 hxx).mp q) z)] at h
        exact hgo _ _ _ _ _ _ _ _ _ h hr hrr
      · rw [if_pos (Int.not_le.mp fun z => q ((ze_le z0 hxx).mpr z))] at h
        have q2 := hgo _ _ _ _ _ _ _ _ _ h hr hrr
        rw [hp] at q2
        exact q2
    · cases h
  · obtain ⟨hd, hp⟩ := zD_spec hF
    split at h
    · rename_i x rr
      obtain ⟨hxx, hrr⟩ := hw
      have z0 : zR32 0 := by decide
      refine lv_if_gt (tgt := ps.getD a 0) hx hb hd (zOff_ok ps pc a) (fun q => ?_) (fun q => ?_)
      · rw [if_pos ((ze_lt z0 hxx).mp q)] at h
        exact hgo _ _ _ _ _ _ _ _ _ h hr hrr
      · rw [if_neg (fun z => q ((ze_lt z0 hxx).mpr z))] at h
        have q2 := hgo _ _ _ _ _ _ _ _ _ h hr hrr
        rw [hp] at q2
        exact q2
    · cases h
  · obtain ⟨hd, hp⟩ := zD_spec hF
    split at h
    · rename_i x rr
      obtain ⟨hxx, hrr⟩ := hw
      have z0 : zR32 0 := by decide
      refine lv_if_le (tgt := ps.getD a 0) hx hb hd (zOff_ok ps pc a) (fun q => ?_) (fun q => ?_)
      · rw [if_neg (fun z => Int.not_lt.mpr ((ze_le hxx z0).mp q) z)] at h
        exact hgo _ _ _ _ _ _ _ _ _ h hr hrr
      · rw [if_pos (Int.not_le.mp fun z => q ((ze_le hxx z0).mpr z))] at h
        have q2 := hgo _ _ _ _ _ _ _ _ _ h hr hrr
        rw [hp] at q2
        exact q2
    · cases h
  · obtain ⟨hd, hp⟩ := zD_spec hF
    split at h
    · rename_i y x rr
      obtain ⟨hy, hxx, hrr⟩ := hw
      refine lv_icmp_eq (tgt := ps.getD a 0) hx hb hd (zOff_ok ps pc a) (fun q => ?_) (fun q => ?_)
      · rw [if_pos ((ze_eq hxx hy).mp q)] at h
        exact hgo _ _ _ _ _ _ _ _ _ h hr hrr
      · rw [if_neg (fun z => q ((ze_eq hxx hy).mpr z))] at h
        have q2 := hgo _ _ _ _ _ _ _ _ _ h hr hrr
        rw [hp] at q2
        exact q2
    · cases h
  · obtain ⟨hd, hp⟩ := zD_spec hF
    split at h
    · rename_i y x rr
      obtain ⟨hy, hxx, hrr⟩ := hw
      refine lv_icmp_ne (tgt := ps.getD a 0) hx hb hd (zOff_ok ps pc a) (fun q => ?_) (fun q => ?_)
      · rw [if_neg (fun z => q ((ze_eq hxx hy).mpr z))] at h
        exact hgo _ _ _ _ _ _ _ _ _ h hr hrr
      · rw [if_pos ((ze_eq hxx hy).mp q)] at h
        have q2 := hgo _ _ _ _ _ _ _ _ _ h hr hrr
        rw [hp] at q2
        exact q2
    · cases h
  · obtain ⟨hd, hp⟩ := zD_spec hF
    split at h
    · rename_i y x rr
      obtain ⟨hy, hxx, hrr⟩ := hw
      refine lv_icmp_lt (tgt := ps.getD a 0) hx hb hd (zOff_ok ps pc a) (fun q => ?_) (fun q => ?_)
      · rw [if_pos ((ze_lt hxx hy).mp q)] at h
        exact hgo _ _ _ _ _ _ _ _ _ h hr hrr
      · rw [if_neg (fun z => q ((ze_lt hxx hy).mpr z))] at h
        have q2 := hgo _ _ _ _ _ _ _ _ _ h hr hrr
        rw [hp] at q2
        exact q2
    · cases h
  · obtain ⟨hd, hp⟩ := zD_spec hF
    split at h
    · rename_i y x rr
      obtain ⟨hy, hxx, hrr⟩ := hw
      refine lv_icmp_ge (tgt := ps.getD a 0) hx hb hd (zOff_ok ps pc a) (fun q => ?_) (fun q => ?_)
      · rw [if_neg (fun z => Int.not_lt.mpr ((ze_le hy hxx).mp q) z)] at h
        exact hgo _ _ _ _ _ _ _ _ _ h hr hrr
      · rw [if_pos (Int.not_le.mp fun z => q ((ze_le hy hxx).mpr z))] at h
        have q2 := hgo _ _ _ _ _ _ _ _ _ h hr hrr
        rw [hp] at q2
        exact q2
    · cases h
  · obtain ⟨hd, hp⟩ := zD_spec hF
    split at h
    · rename_i y x rr
      obtain ⟨hy, hxx, hrr⟩ := hw
      refine lv_icmp_gt (tgt := ps.getD a 0) hx hb hd (zOff_ok ps pc a) (fun q => ?_) (fun q => ?_)
      · rw [if_pos ((ze_lt hy hxx).mp q)] at h
        exact hgo _ _ _ _ _ _ _ _ _ h hr hrr
      · rw [if_neg (fun z => q ((ze_lt hy hxx).mpr z))] at h
        have q2 := hgo _ _ _ _ _ _ _ _ _ h hr hrr
        rw [hp] at q2
        exact q2
    · cases h
  · obtain ⟨hd, hp⟩ := zD_spec hF
    split at h
    · rename_i y x rr
      obtain ⟨hy, hxx, hrr⟩ := hw
      refine lv_icmp_le (tgt := ps.getD a 0) hx hb hd (zOff_ok ps pc a) (fun q => ?_) (fun q => ?_)
      · rw [if_neg (fun z => Int.not_lt.mpr ((ze_le hxx hy).mp q) z)] at h
        exact hgo _ _ _ _ _ _ _ _ _ h hr hrr
      · rw [if_pos (Int.not_le.mp fun z => q ((ze_le hxx hy).mpr z))] at h
        have q2 := hgo _ _ _ _ _ _ _ _ _ h hr hrr
        rw [hp] at q2
        exact q2
    · cases h
  · obtain ⟨hd, hp⟩ := zD_spec hF
    split at h
    · rename_i x rr
      obtain ⟨-, hrr⟩ := hw
      cases x with
      | none =>
        rw [if_pos rfl] at h
        refine lv_ifnullN (tgt := ps.getD a 0) hx hb hd (zOff_ok ps pc a) ?_
        exact hgo _ _ _ _ _ _ _ _ _ h hr hrr
      | some x =>
        rw [if_neg (by simp)] at h
        refine lv_ifnull hx hb hd ?_
        have q2 := hgo _ _ _ _ _ _ _ _ _ h hr hrr
        rw [hp] at q2
        exact q2
    · cases h
  · obtain ⟨hd, hp⟩ := zD_spec hF
    split at h
    · rename_i x rr
      obtain ⟨-, hrr⟩ := hw
      cases x with
      | none =>
        rw [if_pos rfl] at h
        refine lv_ifnonnullN hx hb hd ?_
        have q2 := hgo _ _ _ _ _ _ _ _ _ h hr hrr
        rw [hp] at q2
        exact q2
      | some x =>
        rw [if_neg (by simp)] at h
        refine lv_ifnonnull (tgt := ps.getD a 0) hx hb hd (zOff_ok ps pc a) ?_
        exact hgo _ _ _ _ _ _ _ _ _ h hr hrr
    · cases h
  · obtain ⟨hd, hp⟩ := zD_spec hF
    refine lv_goto (tgt := ps.getD a 0) hx hb hd (zOff_ok ps pc a) ?_
    exact hgo _ _ _ _ _ _ _ _ _ h hr hw
  · split at h
    · rename_i x rr
      obtain ⟨hxx, hrr⟩ := hw
      rw [mm_sw_tgt] at h
      have q := hgo _ _ _ _ _ _ _ _ _ h hr hrr
      replace hF : zSw cc ps pc a cs = true := hF
      unfold zSw at hF
      split at hF
      · rename_i d lo hi offs len hd
        simp only [Bool.and_eq_true, decide_eq_true_eq] at hF
        obtain ⟨⟨⟨h1, h2⟩, h3⟩, h4⟩ := hF
        obtain ⟨t1, t2⟩ := z_table x a cs lo h3
        have ex : (Int32.ofInt x).toInt = x := ze_t32 hxx
        by_cases hout : x < lo ∨ hi < x
        · rw [t1 (by omega)] at q
          exact lv_tableOut (tgt := ps.getD a 0) hx hb hd (by rw [ex]; exact hout) (by rw [h1]; exact zOff_ok ps pc a) q
        · have hlo : ¬ x < lo := fun z => hout (Or.inl z)
          have hhi : ¬ hi < x := fun z => hout (Or.inr z)
          obtain ⟨e0, e1, e2⟩ := t2 hlo (by omega)
          rw [e2] at q
          refine lv_tableIn (tgt := ps.getD e0.2 0) (off := zOff ps pc e0.2) hx hb hd (by rw [ex]; exact hlo) (by rw [ex]; exact hhi) ?_ (zOff_ok ps pc e0.2) q
          rw [ex, ← Array.getElem?_toList, h2, List.getElem?_map, e1]
          rfl
      · rename_i d prs len hd
        simp only [Bool.and_eq_true, decide_eq_true_eq] at hF
        obtain ⟨⟨h1, h2⟩, h3⟩ := hF
        have ex : (Int32.ofInt x).toInt = x := ze_t32 hxx
        refine lv_lookup (tgt := ps.getD (mm_tgt x a cs) 0) (off := zOff ps pc (mm_tgt x a cs)) hx hb hd h3 ?_ (zOff_ok ps pc _) q
        rw [ex, h2, h1]
        exact z_lookup ps pc a x cs
      · cases hF
    · cases h
  · cases h
end ZP
