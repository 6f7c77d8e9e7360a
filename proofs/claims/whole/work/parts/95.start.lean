/-! THE CLAIM OUT OF ONE WALK OF THE LAW'S BODY. Your part is whole_start (and what it stands on); all else here is the same for every law, but numbers. -/
def R_law : String := "ThornSchoolLaw"
def lw_P (b : Addr) (xs : List Int32) (args : Array Value) (s : State) : Prop := args = #[.ref b] ∧ s.IntsAt b xs ∧ xs.length ≤ 3072 ∧ (Jvm.Cond.and given_1 narrow_1).before args s = true
def lw_Q (_ : Array Value) (s : State) (o : Outcome) (t : State) : Prop := o = .returned (some (.int 1)) ∧ Framed s o t [] 600000 7302250
def lw_Z (below : List Frame) (a : Array Value) (s : State) : State → Prop := fun t => ∃ o, t.status = .running ∧ Ended t below o ∧ lw_Q a s o t
/-- the law's own end, with 1 on the stack, nothing written that was there before, its room as the claim has it -/
theorem lw_ret {p : Program} {l : Launch} {e : Env} {s : State} {m : MethodId} {below : List Frame} {meth : Method} {c : Code} {b : Nat} (hx : p.tables.exec = Jvm.exec) (hb : c.code = code) (hr : meth.sig.returnType = ret) (hlocks : meth.locks = false) {pc : Nat} {H : Heap} {ls : Array Slot} (hdg : decode code pc = .ok (.ireturn, 1)) : W p l e room_1 s m #[Value.ref b] below meth c H [] 600000 7302250 (lw_Z below #[Value.ref b] s) (F0 m pc ls [.int 1]) := by
  intro T hT X
  obtain ⟨fs, hret, hrun, hended, hW, hframe⟩ := X.leave (v := some (.int 1)) (hlocks := hlocks) (fun h => by rw [hr] at h; cases h)
  have hmeth' : T.vm.method? m = some meth := X.method'
  refine ⟨T.setFrames fs, ?_, .returned (some (.int 1)), hrun, hended, rfl, ⟨_, rfl⟩, hW, hframe⟩
  jvm_step X.here [X.here.top, hx, hb, hdg, hmeth', hr, ret, narrow_b1]
  (try refine ⟨rfl, ?_⟩); (try refine ⟨rfl, ?_⟩)
  first | (intro acts; rw [hret _ acts rfl rfl rfl]) | rw [hret _ _ rfl rfl rfl]
  exact Steps.refl _
/-- what holds at the law's entry: the machine, the code, the tables' words (any of lw_tbl by 'hts w (by decide +kernel)'), the script of L ints xs at the cell b, what the Statement gives of the start (any of its parts by flat_of_before) -/
def lw_At (p : Program) (s : State) (m : MethodId) (meth : Method) (c : Code) (b L : Nat) (xs : Nat → Int32) : Prop :=
  p.tables.exec = Jvm.exec ∧ c.code = code ∧ meth.sig.returnType = ret ∧ c.maxLocals = 4 ∧ s.vm.findClass R_law = some m.cls ∧ (∀ w ∈ lw_tbl, w.before #[Value.ref b] s = true) ∧ va_X b L xs s s.heap ∧ b < s.heap.size ∧ meth.locks = false ∧ (Jvm.Cond.and given_1 narrow_1).before #[Value.ref b] s = true
-- ===== YOUR PART BEGINS =====
/-! FROM THE MINI MACHINE TO THE LAW -/
def z_own (i : Nat) : String := if i = 0 then "ThornSchool$Text" else "ThornSchoolModel"
def z_idx (i : Nat) : Nat := if i = 0 then 78 else 181
def z_tm (i : Nat) : Term := .string (z_own i) (z_idx i)
def zelw (i j : Nat) : Cond := .eq (.elem (.field (z_tm i) "java/lang/String" "value" "[B") (.int (Int32.ofNat j))) (.int ((z_bytes i).getD j 0))
set_option maxRecDepth 100000 in
theorem z_els0 : (List.range 142).map (fun j => zelw 0 j) = ((flatC (Jvm.Cond.and given_1 narrow_1)).drop 13).take 142 := by decide +kernel
set_option maxRecDepth 100000 in
theorem z_els1 : (List.range 143).map (fun j => zelw 1 j) = ((flatC (Jvm.Cond.and given_1 narrow_1)).drop 159).take 143 := by decide +kernel
theorem z_len01 : (z_strs 0).length = 142 ∧ (z_strs 1).length = 143 := by decide +kernel
set_option maxRecDepth 100000 in
theorem z_exl : ∀ i, i < 2 → (Cond.exactly (z_tm i) "java/lang/String") ∈ flatC (Jvm.Cond.and given_1 narrow_1) := fun i hi => by
  rcases (show i = 0 ∨ i = 1 by omega) with rfl | rfl
  · exact List.mem_of_getElem? (i := 9) (by decide +kernel)
  · exact List.mem_of_getElem? (i := 155) (by decide +kernel)
set_option maxRecDepth 100000 in
theorem z_col : ∀ i, i < 2 → (Cond.eq (.field (z_tm i) "java/lang/String" "coder" "B") (.int 0)) ∈ flatC (Jvm.Cond.and given_1 narrow_1) := fun i hi => by
  rcases (show i = 0 ∨ i = 1 by omega) with rfl | rfl
  · exact List.mem_of_getElem? (i := 10) (by decide +kernel)
  · exact List.mem_of_getElem? (i := 156) (by decide +kernel)
set_option maxRecDepth 100000 in
theorem z_arl : ∀ i, i < 2 → (Cond.arrayOf (.field (z_tm i) "java/lang/String" "value" "[B") .byte) ∈ flatC (Jvm.Cond.and given_1 narrow_1) := fun i hi => by
  rcases (show i = 0 ∨ i = 1 by omega) with rfl | rfl
  · exact List.mem_of_getElem? (i := 11) (by decide +kernel)
  · exact List.mem_of_getElem? (i := 157) (by decide +kernel)
set_option maxRecDepth 100000 in
theorem z_lel : ∀ i, i < 2 → (Cond.eq (.length (.field (z_tm i) "java/lang/String" "value" "[B")) (.int (Int32.ofNat ([(z_strs 0).length, (z_strs 1).length].getD i 0)))) ∈ flatC (Jvm.Cond.and given_1 narrow_1) := fun i hi => by
  rcases (show i = 0 ∨ i = 1 by omega) with rfl | rfl
  · exact List.mem_of_getElem? (i := 12) (by decide +kernel)
  · exact List.mem_of_getElem? (i := 158) (by decide +kernel)
set_option maxRecDepth 100000 in
theorem z_nel : (Cond.not (Cond.eq (z_tm 0) (z_tm 1))) ∈ flatC (Jvm.Cond.and given_1 narrow_1) := List.mem_of_getElem? (i := 302) (by decide +kernel)
set_option maxRecDepth 100000 in
theorem z_csl : (Cond.eq (.static "java/lang/String" "COMPACT_STRINGS" "Z") (.int 1)) ∈ flatC (Jvm.Cond.and given_1 narrow_1) := List.mem_of_getElem? (i := 4) (by decide +kernel)
set_option maxRecDepth 100000 in
theorem z_sil : (Cond.isRef (.static "jdk/internal/util/Preconditions" "SIOOBE_FORMATTER" "Ljava/util/function/BiFunction;")) ∈ flatC (Jvm.Cond.and given_1 narrow_1) := List.mem_of_getElem? (i := 5) (by decide +kernel)
set_option maxHeartbeats 4000000 in
theorem z_texts {args : Array Value} {s : State} {A : Nat → Prop} (hg : (Jvm.Cond.and given_1 narrow_1).before args s = true) (hA : ∀ a : Nat, a < s.heap.size → ¬ A a) :
    ∃ adK adV : Nat → Nat, vk_S 2 [(z_strs 0).length, (z_strs 1).length] [z_bytes 0, z_bytes 1] adK adV A s s.heap ∧ ∀ i : Nat, i < 2 → (z_tm i).eval args s none [] s = some (.ref (adK i)) := by
  have hf := flat_of_before _ hg
  refine vk_Sof (tm := z_tm) (fun i hi => ?_) (fun i hi => hf _ (z_exl i hi)) (fun i hi => hf _ (z_col i hi)) (fun i hi => hf _ (z_arl i hi)) (fun i hi => hf _ (z_lel i hi)) (fun i hi j hj => ?_) (fun i j hi hj hij => ?_) hA
  · rcases (show i = 0 ∨ i = 1 by omega) with rfl | rfl
    · show (z_strs 0).length < _; rw [z_len01.1]; decide
    · show (z_strs 1).length < _; rw [z_len01.2]; decide
  · rcases (show i = 0 ∨ i = 1 by omega) with rfl | rfl
    · have hj : j < 142 := by rw [← z_len01.1]; exact hj
      exact hf (zelw 0 j) (List.mem_of_mem_drop (List.mem_of_mem_take (by rw [← z_els0]; exact List.mem_map_of_mem (List.mem_range.mpr hj))))
    · have hj : j < 143 := by rw [← z_len01.2]; exact hj
      exact hf (zelw 1 j) (List.mem_of_mem_drop (List.mem_of_mem_take (by rw [← z_els1]; exact List.mem_map_of_mem (List.mem_range.mpr hj))))
  · rcases (show (i = 0 ∧ j = 1) ∨ (i = 1 ∧ j = 0) by omega) with ⟨rfl, rfl⟩ | ⟨rfl, rfl⟩
    · exact Or.inl (hf _ z_nel)
    · exact Or.inr (hf _ z_nel)
theorem vk_S.ad {N : Nat} {len : List Nat} {byt : List (List Int32)} {adK ad2 adV : Nat → Nat} {A : Nat → Prop} {U : State} {H : Heap} (he : ∀ i, i < N → adK i = ad2 i) (h : vk_S N len byt adK adV A U H) : vk_S N len byt ad2 adV A U H :=
  ⟨fun i hi => by rw [← he i hi]; exact h.1 i hi, fun i j hi hj e => h.2 i j hi hj (by rw [he i hi, he j hj]; exact e)⟩
set_option maxHeartbeats 4000000 in
theorem z_classes {args : Array Value} {s : State} (hts : ∀ w ∈ zTs, w.before args s = true) : ∃ D : va_G, ∀ (c : Nat) (q : vw_C), vwCl[c]? = some q → u_Kn s q.1 q.2.1 q.2.2 (D.1 c) (D.2 c) := by
  have h0 : ∀ c : Nat, ∃ x : ClassId × (Nat → Nat), c < 13 → u_Kn s (z_cn c) (zT c) (z_N c) x.1 x.2 := by
    intro c
    by_cases hc : c < 13
    · obtain ⟨cC, iS, h⟩ := u_known (n := z_N c) hts (zw_u hc) (hts _ (z_el (f := fun e : Nat => (.instantiable (z_cn e) (z_N e) : Cond)) zw_cinst (z_in13 hc)))
      exact ⟨(cC, iS), fun _ => h⟩
    · exact ⟨(0, fun _ => 0), fun h => absurd h hc⟩
  obtain ⟨f, hf⟩ := Classical.axiomOfChoice h0
  refine ⟨(fun c => (f c).1, fun c => (f c).2), fun c q hq => ?_⟩
  have hc : c < 13 := (List.getElem?_eq_some_iff.mp hq).1
  have := zcl_at hc
  rw [hq] at this
  cases this
  exact hf c hc
theorem z_arrays {args : Array Value} {s : State} (hts : ∀ w ∈ zTs, w.before args s = true) (hao : ∀ k, zAok k = true → va_AO (z_cn (k - 10)) s) : ∃ cA : Nat → ClassId, ∀ k, (k < 4 ∨ zAok k = true) → ArrOfT s (cA k) (zft k) ∧ va_RA s (cA k) (zft k) := by
  have h0 : ∀ k : Nat, ∃ c : ClassId, (k < 4 ∨ zAok k = true) → ArrOfT s c (zft k) ∧ va_RA s c (zft k) := by
    intro k
    by_cases hk : k < 4
    · have harr : (Cond.arrayClass (zft k)).before args s = true := hts _ (z_arrw _ (by rcases (show k = 0 ∨ k = 1 ∨ k = 2 ∨ k = 3 by omega) with rfl | rfl | rfl | rfl <;> simp [zft]))
      obtain ⟨c, kA, comp, h1, h2, h3⟩ := Cond.arrayClass_spec harr
      refine ⟨c, fun _ => ⟨fun n z => ⟨fun k h => (by cases h), kA, h2, comp, h3⟩, ?_⟩⟩
      rcases (show k = 0 ∨ k = 1 ∨ k = 2 ∨ k = 3 by omega) with rfl | rfl | rfl | rfl <;> exact h1
    · by_cases hz : zAok k = true
      · have h := hao k hz
        unfold va_AO at h
        obtain ⟨comp, c, kA, h1, -, h3, h4, h5⟩ := Cond.arrayOver_spec h
        have hty : zft k = .object (z_cn (k - 10)) := by
          unfold zAok at hz
          rcases of_decide_eq_true hz with rfl | rfl | rfl <;> rfl
        refine ⟨c, fun _ => ?_⟩
        rw [hty]
        exact ⟨fun N z => ⟨fun k h => (by cases h), kA, h3, comp, h4⟩, kA, comp, h3, h4, h1, h5⟩
      · exact ⟨0, fun h => by rcases h with h | h; exact absurd h hk; exact absurd h hz⟩
  obtain ⟨f, hf⟩ := Classical.axiomOfChoice h0
  exact ⟨f, hf⟩
set_option maxHeartbeats 4000000 in
theorem whole_start {p : Program} {e : Env} {s : State} {m : MethodId} {below : List Frame} {meth : Method} {c : Code} (l : Launch) (hflags : l.flags = flags0) {b L : Nat} {xs : Nat → Int32} (hL : L ≤ 3072) (C0 : lw_At p s m meth c b L xs) : W p l e room_1 s m #[Value.ref b] below meth c s.heap [] 0 0 (lw_Z below #[Value.ref b] s) (entryFrame m ([Value.ref b] : List Value).toArray 4) := by
  obtain ⟨hx, hb, hr, hml, hown, htl, hX, hbl, hlocks, hgv⟩ := id C0
  have hts : ∀ w ∈ zTs, w.before #[Value.ref b] s = true := fun w hw => htl w (List.mem_filter.mp hw).1
  have hA1 : ∀ a : Nat, a < s.heap.size → ¬ (fun q : Nat => s.heap.size ≤ q) a := fun a h => Nat.not_le.mpr h
  have hao : ∀ k, zAok k = true → va_AO (z_cn (k - 10)) s := by
    intro k hk
    unfold zAok at hk
    rcases of_decide_eq_true hk with rfl | rfl | rfl
    · exact va_AO.of (htl _ zt_ao_10)
    · exact va_AO.of (htl _ zt_ao_15)
    · exact va_AO.of (htl _ zt_ao_18)
  obtain ⟨adK, adV, hV, hE⟩ := z_texts (A := fun q : Nat => s.heap.size ≤ q) hgv hA1
  obtain ⟨D, hD⟩ := z_classes hts
  obtain ⟨cA, hcA⟩ := z_arrays hts hao
  obtain ⟨Z, hZ⟩ : ∃ Z : mX, Z = (fun i : Int => (xs i.toNat).toInt, (L : Int)) := ⟨_, rfl⟩
  obtain ⟨g, hg⟩ : ∃ g : zG, g = (s.heap.size, adK 0, adK 1, cA, D, Z, b) := ⟨_, rfl⟩
  have g1 : g.1 = s.heap.size := by rw [hg]
  have g4 : g.2.2.2.1 = cA := by rw [hg]
  have g5 : g.2.2.2.2.1 = D := by rw [hg]
  have g6 : g.2.2.2.2.2.1 = Z := by rw [hg]
  have gz0 : zad g 0 = adK 0 := by rw [hg]; rfl
  have gz1 : zad g 1 = adK 1 := by rw [hg]; rfl
  have gz2 : zad g 2 = b := by rw [hg]; rfl
  have gA : zA g = fun q : Nat => s.heap.size ≤ q := by funext q; unfold zA; rw [g1]
  obtain ⟨w', hrun, hw1, hw2⟩ := zlaw Z ⟨L, by rw [hZ], hL⟩ (fun i => by rw [hZ]; exact zr_32 _)
  unfold mm_run at hrun
  obtain ⟨-, hrun⟩ := z_cond2 hrun
  obtain ⟨n, hn⟩ := mm_at_ex hrun
  have hK : va_K g.2.2.2.2.1 vwCl (ztys g) s := by
    rw [g5]
    refine ⟨hD, fun k q hk => ?_⟩
    unfold ztys at hk
    rw [g4] at hk
    have hlen : k < 7 := (List.getElem?_eq_some_iff.mp hk).1
    rcases (show k = 0 ∨ k = 1 ∨ k = 2 ∨ k = 3 ∨ k = 4 ∨ k = 5 ∨ k = 6 by omega) with rfl | rfl | rfl | rfl | rfl | rfl | rfl <;> (cases hk)
    · exact hcA 0 (Or.inl (by decide))
    · exact hcA 1 (Or.inl (by decide))
    · exact hcA 2 (Or.inl (by decide))
    · exact hcA 3 (Or.inl (by decide))
    · exact hcA 10 (Or.inr rfl)
    · exact hcA 15 (Or.inr rfl)
    · exact hcA 18 (Or.inr rfl)
  have hSt : zSt g s := ⟨hK, fun x hx => va_Nw.of rfl (htl _ (zn_all x hx)), hao, fun x hx => by
    simp only [z_strc, List.mem_cons, List.not_mem_nil, or_false] at hx
    rcases hx with rfl | rfl
    · show vk_R "ThornSchool$Text" 78 (ztx 0) (zad g 0) s
      rw [gz0]
      exact vk_R.of (htl _ zt_s0) (hE 0 (by decide))
    · show vk_R "ThornSchoolModel" 181 (ztx 1) (zad g 1) s
      rw [gz1]
      exact vk_R.of (htl _ zt_s1) (hE 1 (by decide))⟩
  have hf := flat_of_before _ hgv
  have hSr : zSr g s s.heap := by
    unfold zSr
    rw [gA]
    refine ⟨⟨adV, hV.ad (fun i hi => ?_)⟩, va_Zof (htl _ zt_ls_compact) (hts _ zj_ini_String) (va_eqt (hf _ z_csl)) hA1, va_Zqof (htl _ zt_ls_sioobe) (hts _ zj_ini_Pre) (hf _ z_sil) hA1⟩
    rcases (show i = 0 ∨ i = 1 by omega) with rfl | rfl
    · exact gz0.symm
    · exact gz1.symm
  have hfr : zFr l g 365 p room_1 s m #[Value.ref b] meth c 3 0 := ⟨hx, hb, hml, hown, hts, hSt, hSr, by rw [g1]; exact Nat.le_refl _, fun h => absurd h (by decide +kernel), by decide +kernel, by decide +kernel, by rw [g1]⟩
  have hl := lv_entry ([.ref b]) (n := 4) (Nat.le_of_ble_eq_true rfl)
  rw [lg_entry_eq]
  generalize (lg_sl ([.ref b]) ++ List.replicate (4 - (lg_sl ([.ref b])).length) Slot.unset).toArray = ls at hl ⊢
  have hent : mm_ent (zP g.2.2.2.2.2.1) 365 [.inr (.inr (some 2))] = [some (.inr (.inr (some 2))), none, none, none] := by
    rw [g6]; rfl
  have hlr : lv_has ls 4 (zlp (zad g) (mm_ent (zP g.2.2.2.2.2.1) 365 [.inr (.inr (some 2))])) := by
    refine zl_less hl fun q hq => ?_
    obtain ⟨v, q1, q2⟩ := zlp_mem.mp hq
    have := zlv_args (zad g) [.inr (.inr (some 2))] 0 q.1 v (mm_pad_get _ _ _ _ q1)
    rw [Nat.zero_add, ← q2] at this
    have e2 : ([.inr (.inr (some 2))] : List mV).map (cv (zad g)) = [.ref b] := by
      show [Value.ref (zad g 2)] = [.ref b]
      rw [gz2]
    rw [e2] at this
    exact this
  have hzw : zW g z_w0 = [] := rfl
  have hrel : zRel g s (z_ml 365) 3 0 z_w0 s.heap [] 0 0 (mm_ent (zP g.2.2.2.2.2.1) 365 [.inr (.inr (some 2))]) ls := by
    refine ⟨by rw [hzw]; exact fun k q h => by simp at h, va_S.rf, ⟨Nat.le_refl _, fun k h1 h2 => absurd h2 (by show ¬ k < 3; omega), fun k _ => ⟨_, rfl⟩⟩, hlr, ?_, mm_pad_len _ _, rfl, rfl⟩
    rw [hent]
    intro k v hk
    have hk4 : k < 4 := (List.getElem?_eq_some_iff.mp hk).1
    rcases (show k = 0 ∨ k = 1 ∨ k = 2 ∨ k = 3 by omega) with rfl | rfl | rfl | rfl
    · cases hk; trivial
    · cases hk
    · cases hk
    · cases hk
  have hscr : zScr g s := ⟨L, xs, by rw [gz2]; exact hX, by rw [gz2]; exact hbl, by rw [gz2, gA]; exact Nat.not_le.mpr hbl, hL, by rw [g6, hZ], fun i => by rw [g6, hZ]⟩
  rw [← g6] at hn
  have hfin := zsim l g n 365 p e room_1 s m #[Value.ref b] below meth c (lw_Z below #[Value.ref b] s) 3 0 s.heap [] 0 0 ls 0 _ [] z_w0 (some (.inl 1), w') (by decide) hfr hn hrel trivial ⟨by show w'.2.1 ≤ 600000 + 3; omega, by show w'.2.2 ≤ 7302250 + 0; omega⟩ (fun _ => hscr) ?_
  · exact hfin
  · intro H locs cells slots ls pcb st hrt hokr hP1 hS1 hok1 hc1 hs1
    obtain ⟨a1, a2, a3⟩ := hrt
    subst a3
    refine va_forget (fun q hq => by have := hS1.2.2 q hq; rw [gA] at this; exact this) ?_
    refine W.widen (k := 600000) (n := 7302250) (by have : cells + 3 = w'.2.1 := hc1; omega) (by have : slots + 0 = w'.2.2 := hs1; omega) ?_
    exact lw_ret hx hb hr hlocks a1
-- ===== YOUR PART ENDS =====
set_option maxHeartbeats 4000000 in
theorem lw_walk (l : Launch) (hflags : l.flags = flags0) (b : Addr) (xs : List Int32) : MetFree l x (headSpec (Jvm.Cond.code x code maxLocals ret :: tables_1) room_1) (lw_P b xs) (fun _ _ _ _ _ => True) lw_Q := by
  refine MetFree.of_bodyS (code := code) (maxLocals := maxLocals) (ret := ret) (by decide) ?_ ?_
  · intro args s m h hn
    obtain ⟨meth, c, h1, h2, h3, h4, h5, h6, -, -⟩ := Cond.code_spec hn (atoms_spec (ws := Jvm.Cond.code x code maxLocals ret :: tables_1) h _ List.mem_cons_self)
    exact ⟨meth, c, h1, h2, h3, h4, h5, h6⟩
  · intro p e s m args below meth c s₁ B hml0 hP _
    obtain ⟨rfl, hx, hbd, hgv⟩ := hP
    obtain ⟨scr, harrAt, hlist, hof, hsmall⟩ := hx
    obtain ⟨hcb, hkn, -, -⟩ := State.arrayAt?_spec harrAt
    have hown : s.vm.findClass R_law = some m.cls := findClass_of_methodNamed B.named
    have hts0 : ∀ c ∈ (Jvm.Cond.code x code maxLocals ret :: tables_1), c.before #[Value.ref b] s = true := atoms_spec (ws := Jvm.Cond.code x code maxLocals ret :: tables_1) B.pre
    have hts : ∀ w ∈ lw_tbl, w.before #[Value.ref b] s = true := k2_hts_sels lw_privs (fun w hw => hts0 w (List.mem_cons_of_mem _ hw)) lw_privs_ok
    have hml : c.maxLocals = 4 := B.maxLocals_eq (hts0 _ List.mem_cons_self)
    have X₀ : Stand p l e room_1 s m #[Value.ref b] below meth c s₁ [] 0 0 := Stand.of_body B
    have hh0 : s₁.heap = s.heap := by rw [B.state]; rfl
    have hsz : scr.slots.size = xs.length := by rw [← Array.length_toList, hlist, List.length_map]
    have hval : ∀ j : Nat, j < xs.length → scr.slots[j]? = some (.int (xs.getD j 0)) := fun j hj => by
      rw [← Array.getElem?_toList, hlist]
      simp [hj]
    have hbl : b < s.heap.size := (Array.getElem?_eq_some_iff.mp hcb).1
    have hX : va_X b xs.length (fun j => xs.getD j 0) s s.heap := ⟨scr, hcb, hof, hkn, hsz, hval⟩
    have K : W p l e room_1 s m #[Value.ref b] below meth c s₁.heap [] 0 0 (lw_Z below #[Value.ref b] s) (entryFrame m ([Value.ref b] : List Value).toArray 4) := by
      rw [hh0]
      exact whole_start l hflags hbd ⟨B.exec, B.bytes, B.returns, hml, hown, hts, hX, hbl, B.notSynchronized, hgv⟩
    obtain ⟨t, a1, o, b1, b2, b3⟩ := K s₁ rfl X₀
    exact ⟨t, o, a1, b1, b2, b3⟩
theorem lw_pre_spec {args : Array Value} {s : State} (h : (Jvm.Cond.and given_1 narrow_1).before args s = true) (hr : rest_1_c.before args s = true) : ∃ (b : Addr) (xs : List Int32), lw_P b xs args s := by
  have hs := flat_of_before _ h
  have hq := flat_of_before _ hr
  have hc : (Cond.count 1).before args s = true := hs _ (by decide +kernel)
  have harr : (Cond.arrayOf (.arg 0) .int).before args s = true := hs _ (by decide +kernel)
  have hle : (Cond.le (.length (.arg 0)) (.int 3072)).before args s = true := hs _ (by decide +kernel)
  have hlen : (Cond.isInt (.length (.arg 0))).before args s = true := hq _ (by decide +kernel)
  have hall : (Cond.all (.arg 0) (.isInt (.elem (.arg 0) (.index 0)))).before args s = true := hq _ (by decide +kernel)
  obtain ⟨b, xs, hb, hx⟩ := State.ints_of_pre rfl harr hlen hall
  have hsm : xs.length < 2 ^ 31 := hx.choose_spec.2.2.2
  have hev : (Term.length (.arg 0)).eval args s none [] s = some (.int xs.length.toInt32) := hx.length_eval hb
  have hv := Cond.le_ints hev (show (Term.int 3072).eval args s none [] s = some (.int 3072) from rfl)
  have hd : xs.length.toInt32 ≤ 3072 := by
    simpa [Cond.before, Cond.holds, hv] using hle
  have hN : xs.length ≤ 3072 := (Int32.ofNat_le_ofNat hsm (by decide)).mp (show Int32.ofNat xs.length ≤ Int32.ofNat 3072 from hd)
  exact ⟨b, xs, Cond.one_arg hc (show args[0]? = some (.ref b) from hb), hx, hN, h⟩
theorem lw_comes (l : Launch) (hflags : l.flags = flags0) : Comes l x (Jvm.Cond.code x code maxLocals ret :: tables_1) room_1 (fun tb e args s => Calls_1 tb e args s ∧ rest_1 tb e args s ∧ Pre_1 tb e args s)
    (fun _ _ args s o t => lw_Q args s o t) := by
  intro p e ha hc hk s m args below hf hfit hheap happ hpre
  obtain ⟨b, xs, hP⟩ := lw_pre_spec hpre.2.2 hpre.2.1
  obtain ⟨k, o, h1, h2, h3, hQ⟩ := lw_walk l hflags b xs p e ha hc hk s m args below hf ((Spec.applies_iff_loose hf).mp happ).1 hP trivial
  exact ⟨k, o, h1, h2, h3, hQ⟩
theorem lw_frame {s t : State} {o : Outcome} {args : Array Value} (h : Framed s o t [] 600000 7302250) :
    Framed s o t (fieldLocs frame_1_writes args s ++ arrayLocs frame_1_arrays args s ++ staticLocs frame_1_statics s) 600000 7302250 := h
theorem lw_limb (L : Cond) (hL : ∀ (args : Array Value) (s t : State), L.after args s (.returned (some (.int 1))) t = true) :
    ArmFor flags0 classFile x code maxLocals ret World_1 tables_1 room_1 Calls_1 rest_1 Pre_1
      (fun tb e a s o t => postC L tb e a s o t ∧ Framed s o t (fieldLocs frame_1_writes a s ++ arrayLocs frame_1_arrays a s ++ staticLocs frame_1_statics s) 600000 7302250) := by
  intro l hflags _ _ p e ha hc hk s m args below hf hfit hheap happ hpre
  obtain ⟨k, o, h1, h2, h3, rfl, hF⟩ := lw_comes l hflags p e ha hc hk s m args below hf hfit hheap happ hpre
  exact ⟨k, _, h1, h2, h3, hL args s _, lw_frame hF⟩
theorem i_vc : Claimed_1_1 ∧ Claimed_1_2 := ⟨lw_limb limb_1_1 (fun args s t => by simp [limb_1_1, Cond.after, Cond.holds, Cond.value]), lw_limb limb_1_2 (fun args s t => Cond.after_iff.mpr (by
  first | (rw [show limb_1_2 = Cond.eq .result (.int 1) from rfl, Cond.eq_ints (x := 1) (y := 1) rfl rfl]; simp; done) | (simp [limb_1_2, Cond.value, Term.eval]; done)))⟩

