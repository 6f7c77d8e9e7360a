/-! the texts: length(), charAt(k), by contract -/
def zPreJ (g : zG) (w : mW) (U : State) : Prop := va_P g.2.2.2.2.1 vwCl (zW g w) U.heap ∧ zSr g U U.heap
def zQj (g : zG) (w : mW) (r : Option Value) : Array Value → State → Outcome → State → Prop := fun _ st oc t => oc = .returned r ∧ va_P g.2.2.2.2.1 vwCl (zW g w) t.heap ∧ va_F (zA g) st t
def zRj (fr lo : Nat) : Room := { frames := fr, cells := 0, slots := 0, locals := lo }
theorem zPreJ_blind (g : zG) (w : mW) (av : List Value) : FrameBlind (va_Pc av (zPreJ g w)) := by
  intro a U fr mk h
  obtain ⟨h0, h1, h2⟩ := h
  exact ⟨h0, h1, zSr.moved (s := U) (U := U.calling fr mk a) (Vm.Alike.refl U.vm) h2⟩
theorem z_callJ {p : Program} {l : Launch} {e : Env} {R : Room} {s : State} {m : MethodId} {args : Array Value} {below : List Frame} {meth : Method} {c : Code} {Q : State → Prop} {H : Heap} {locs : List Loc} {cells slots : Nat} {ls : Array Slot} {g : zG} {w : mW} {pcb : Nat} {r : Option Value} {st0 rest : List Value} {a : Array Value}
    (hr : va_Run p l e R s m args below meth c H locs cells slots 0 0 (F0 m pcb ls st0) rest (zQj g w r a) (zA g)) (hS : va_S (zA g) s.heap H locs)
    (kk : ∀ (H1 : Heap) (locs1 : List Loc), va_P g.2.2.2.2.1 vwCl (zW g w) H1 → va_S (zA g) s.heap H1 locs1 → W p l e R s m args below meth c H1 locs1 cells slots Q (F0 m (pcb + 3) ls (r.toList ++ rest))) :
    W p l e R s m args below meth c H locs cells slots Q (F0 m pcb ls st0) := by
  intro T hT X
  obtain ⟨v, st₀, t, T', L, h0, X', hL, e1, e2, ⟨hv, hP, hz, hk⟩, st⟩ := hr T hT X
  cases hv
  rw [h0] at hz hk
  obtain ⟨t2, a1, b1⟩ := kk T'.heap (locs ++ L) (by rw [e1]; exact hP)
    ⟨Nat.le_trans hS.1 (by rw [e1]; exact hz), fun q h1 h2 => by rw [e1, hk q (Nat.lt_of_lt_of_le h1 hS.1) h2]; exact hS.2.1 q h1 h2, fun q hq => by
      rcases List.mem_append.mp hq with h | h
      · exact hS.2.2 q h
      · exact hL q h⟩ T' rfl X'
  exact ⟨t2, st t2 a1, b1⟩
theorem zTs_in : GoodIn zTs zTs := fun w hw => ⟨hw, zTs_good w hw⟩
theorem zGj {k : Cond} (h : k ∈ zTs) : GoodIn zTs (k :: zTs) := fun w hw => by
  rcases List.mem_cons.mp hw with rfl | hw
  · exact ⟨h, zTs_good _ h⟩
  · exact ⟨hw, zTs_good _ hw⟩
set_option maxHeartbeats 4000000 in
theorem cj_coder (l : Launch) (g : zG) (w : mW) {q : Nat} (hq : q < 2) : Met l yJ0_coder_7d493 (.code yJ0_coder_7d493 cJ0_coder_7d493 1 (some .byte) :: zTs) (zRj 0 0) (va_Pc [.ref (zad g q)] (zPreJ g w)) (zQj g w (some (.int 0))) 0 0 (zA g) := by
  refine Met.ofW (cc := cJ0_coder_7d493) (maxL := 1) (ret := some .byte) (by decide) rfl ?_
  intro p e s m args below meth c s₁ B hml hv
  obtain ⟨rfl, hP, ⟨adV, hV⟩, hZ, hZq⟩ := hv
  have hx := B.exec
  have hb := B.bytes
  have hr := B.returns
  have hts0 := atoms_spec (ws := (.code yJ0_coder_7d493 cJ0_coder_7d493 1 (some .byte) :: zTs)) B.pre
  have hts : ∀ w ∈ zTs, w.before ([.ref (zad g q)] : List Value).toArray s = true := fun w hw => hts0 w (List.mem_cons_of_mem _ hw)
  have hown : s.vm.findClass "java/lang/String" = some m.cls := findClass_of_methodNamed B.named
  have hlocks := B.notSynchronized
  obtain ⟨hO, hco, hva, hT⟩ := hV.1 q hq
  have hS : va_S (zA g) s.heap s.heap [] := va_S.rf
  have hl := lv_entry ([.ref (zad g q)]) (n := 1) (Nat.le_of_ble_eq_true rfl)
  rw [lg_entry_eq]
  generalize (lg_sl ([.ref (zad g q)]) ++ List.replicate (1 - (lg_sl ([.ref (zad g q)])).length) Slot.unset).toArray = ls at hl ⊢
  refine va_gets hx hb hZ hS hown (hts _ zj_fl_compact) (fun _ h => h) (by decide +kernel) ?_
  refine lv_if_eq (off := 10) (tgt := 13) hx hb (by decide +kernel) (by decide) (fun h => absurd h (by decide)) (fun _ => ?_)
  refine lv_aload_n (k := 0) hx hb (by decide +kernel) rfl (lv_at hl 0 rfl) ?_
  refine vk_getf hx hb hco hS hown (hts _ zj_fl_scoder) (fun _ h => h) (by decide +kernel) ?_
  refine lv_goto (off := 4) (tgt := 14) hx hb (by decide +kernel) (by decide) ?_
  exact W.zret (ty := .byte) hx hb (by rw [hr]) rfl (fun t ht _ => ⟨rfl, by rw [ht]; exact hP, hS.F ht⟩) (fun _ h => by cases h) (by decide +kernel) hlocks
set_option maxHeartbeats 4000000 in
theorem cj_latin (l : Launch) (g : zG) (w : mW) {q : Nat} (hq : q < 2) : Met l yJ0_isLatin1_aae02 (.code yJ0_isLatin1_aae02 cJ0_isLatin1_aae02 1 (some .boolean) :: zTs) (zRj 0 0) (va_Pc [.ref (zad g q)] (zPreJ g w)) (zQj g w (some (.int 1))) 0 0 (zA g) := by
  refine Met.ofW (cc := cJ0_isLatin1_aae02) (maxL := 1) (ret := some .boolean) (by decide) rfl ?_
  intro p e s m args below meth c s₁ B hml hv
  obtain ⟨rfl, hP, ⟨adV, hV⟩, hZ, hZq⟩ := hv
  have hx := B.exec
  have hb := B.bytes
  have hr := B.returns
  have hts0 := atoms_spec (ws := (.code yJ0_isLatin1_aae02 cJ0_isLatin1_aae02 1 (some .boolean) :: zTs)) B.pre
  have hts : ∀ w ∈ zTs, w.before ([.ref (zad g q)] : List Value).toArray s = true := fun w hw => hts0 w (List.mem_cons_of_mem _ hw)
  have hown : s.vm.findClass "java/lang/String" = some m.cls := findClass_of_methodNamed B.named
  have hlocks := B.notSynchronized
  obtain ⟨hO, hco, hva, hT⟩ := hV.1 q hq
  have hS : va_S (zA g) s.heap s.heap [] := va_S.rf
  have hl := lv_entry ([.ref (zad g q)]) (n := 1) (Nat.le_of_ble_eq_true rfl)
  rw [lg_entry_eq]
  generalize (lg_sl ([.ref (zad g q)]) ++ List.replicate (1 - (lg_sl ([.ref (zad g q)])).length) Slot.unset).toArray = ls at hl ⊢
  refine va_gets hx hb hZ hS hown (hts _ zj_fl_compact) (fun _ h => h) (by decide +kernel) ?_
  refine lv_if_eq (off := 14) (tgt := 17) hx hb (by decide +kernel) (by decide) (fun h => absurd h (by decide)) (fun _ => ?_)
  refine lv_aload_n (k := 0) hx hb (by decide +kernel) rfl (lv_at hl 0 rfl) ?_
  refine vk_getf hx hb hco hS hown (hts _ zj_fl_scoder) (fun _ h => h) (by decide +kernel) ?_
  refine lv_if_ne (off := 7) (tgt := 17) hx hb (by decide +kernel) (by decide) (fun h => absurd rfl h) (fun _ => ?_)
  refine lv_iconst (n := 1) (v := 1) hx hb (by decide +kernel) (by decide) ?_
  refine lv_goto (off := 4) (tgt := 18) hx hb (by decide +kernel) (by decide) ?_
  exact W.zret (ty := .boolean) hx hb (by rw [hr]) rfl (fun t ht _ => ⟨rfl, by rw [ht]; exact hP, hS.F ht⟩) (fun _ h => by cases h) (by decide +kernel) hlocks
theorem zlen_getD {q : Nat} (hq : q < 2) : [(z_strs 0).length, (z_strs 1).length].getD q 0 = (z_strs q).length ∧ [z_bytes 0, z_bytes 1].getD q [] = z_bytes q := by
  rcases (show q = 0 ∨ q = 1 by omega) with rfl | rfl <;> exact ⟨rfl, rfl⟩
theorem z_pre_moved {g : zG} {w : mW} {s U : State} {H : Heap} {locs : List Loc} (hP : va_P g.2.2.2.2.1 vwCl (zW g w) H) (hS : va_S (zA g) s.heap H locs) (hSr : zSr g s s.heap) (hU : U.heap = H) (hW : s.WarmedH U.vm) : zPreJ g w U :=
  ⟨by rw [hU]; exact hP, by rw [hU]; exact zSr.moved hW.alike (zSr.kept (fun q h1 h2 => hS.2.1 q h1 h2) hSr)⟩
set_option maxHeartbeats 4000000 in
theorem cj_length (l : Launch) (g : zG) (w : mW) {q : Nat} (hq : q < 2) : Met l yJ0_length_8abf5 (.code yJ0_length_8abf5 cJ0_length_8abf5 1 (some .int) :: zTs) (zRj 1 20) (va_Pc [.ref (zad g q)] (zPreJ g w)) (zQj g w (some (.int (Int32.ofInt (z_strs q).length)))) 0 0 (zA g) := by
  refine Met.ofW (cc := cJ0_length_8abf5) (maxL := 1) (ret := some .int) (by decide) rfl ?_
  intro p e s m args below meth c s₁ B hml hv
  obtain ⟨rfl, hP, hSr⟩ := hv
  obtain ⟨⟨adV, hV⟩, hZ, hZq⟩ := id hSr
  have hx := B.exec
  have hb := B.bytes
  have hr := B.returns
  have hts0 := atoms_spec (ws := (.code yJ0_length_8abf5 cJ0_length_8abf5 1 (some .int) :: zTs)) B.pre
  have hts : ∀ w ∈ zTs, w.before ([.ref (zad g q)] : List Value).toArray s = true := fun w hw => hts0 w (List.mem_cons_of_mem _ hw)
  have hown : s.vm.findClass "java/lang/String" = some m.cls := findClass_of_methodNamed B.named
  have hlocks := B.notSynchronized
  obtain ⟨hO, hco, hva, hT⟩ := hV.1 q hq
  rw [(zlen_getD hq).1] at hT
  have hS : va_S (zA g) s.heap s.heap [] := va_S.rf
  have hl := lv_entry ([.ref (zad g q)]) (n := 1) (Nat.le_of_ble_eq_true rfl)
  rw [lg_entry_eq]
  generalize (lg_sl ([.ref (zad g q)]) ++ List.replicate (1 - (lg_sl ([.ref (zad g q)])).length) Slot.unset).toArray = ls at hl ⊢
  refine lv_aload_n (k := 0) hx hb (by decide +kernel) rfl (lv_at hl 0 rfl) ?_
  refine vk_getf hx hb hva hS hown (hts _ zj_fl_value) (fun _ h => h) (by decide +kernel) ?_
  refine va_tlen hx hb hT hS rfl (by decide +kernel) ?_
  refine lv_aload_n (k := 0) hx hb (by decide +kernel) rfl (lv_at hl 0 rfl) ?_
  refine z_callJ (va_runV (As := []) (rest := [.int (Int32.ofNat (z_strs q).length)]) ⟨hx, hb, hml, hown, hts⟩ (cj_coder l g w hq) ⟨callB_of (ws' := zTs) 0 hts (zGj zj_cd_coder) rfl rfl rfl (hts _ zj_ini_String) (hts _ zj_ln_coder) ⟨by decide, by decide, by decide +kernel⟩ ⟨Nat.le_of_ble_eq_true rfl, Nat.le_of_ble_eq_true rfl⟩, hts _ zj_in_coder, hts _ zj_se_coder⟩ ⟨zPreJ_blind g w _, vk_recv hV hq hS, fun U hU hW => ⟨rfl, z_pre_moved hP hS hSr hU hW⟩⟩ rfl rfl hl.1 rfl (lv_room (Nat.le_of_ble_eq_true rfl)) (show decode cJ0_length_8abf5 6 = .ok (.invokevirtual 335, 3) by decide +kernel) ⟨Nat.le_of_ble_eq_true rfl, Nat.le_of_ble_eq_true rfl⟩) hS (fun H1 locs1 hP1 hS1 => ?_)
  refine lv_ishr (x := Int32.ofNat (z_strs q).length) (y := 0) hx hb (by decide +kernel) ?_
  have e : (Int32.ofNat (z_strs q).length) >>> ((0 : Int32) &&& 31) = Int32.ofInt (z_strs q).length := by
    have key : ∀ q, q < 2 → (Int32.ofNat (z_strs q).length) >>> ((0 : Int32) &&& 31) = Int32.ofInt (z_strs q).length := by decide +kernel
    exact key q hq
  rw [e]
  exact W.iret hx hb (by rw [hr]) (fun t ht _ => ⟨rfl, by rw [ht]; exact hP1, hS1.F ht⟩) hS1.2.2 (by decide +kernel) hlocks
set_option maxHeartbeats 4000000 in
theorem cj_pcheck (l : Launch) (g : zG) (w : mW) {i n : Int32} {fv : Value} (hf : fv.category = 1) (h0 : ¬ i < 0) (h1 : i < n) : Met l yJ3_checkIndex_8e157 (.code yJ3_checkIndex_8e157 cJ3_checkIndex_8e157 3 (some .int) :: zTs) (zRj 0 0) (va_Pc [.int i, .int n, fv] (zPreJ g w)) (zQj g w (some (.int i))) 0 0 (zA g) := by
  refine Met.ofW (cc := cJ3_checkIndex_8e157) (maxL := 3) (ret := some .int) (by decide) rfl ?_
  intro p e s m args below meth c s₁ B hml hv
  obtain ⟨rfl, hP, hSr⟩ := hv
  have hx := B.exec
  have hb := B.bytes
  have hr := B.returns
  have hlocks := B.notSynchronized
  have hS : va_S (zA g) s.heap s.heap [] := va_S.rf
  have hl := lv_entry ([.int i, .int n, fv]) (n := 3) (by cases fv <;> first | exact Nat.le_of_ble_eq_true rfl | (simp [Value.category] at hf))
  rw [lg_entry_eq]
  generalize (lg_sl ([.int i, .int n, fv]) ++ List.replicate (3 - (lg_sl ([.int i, .int n, fv])).length) Slot.unset).toArray = ls at hl ⊢
  refine lv_iload_n (k := 0) hx hb (by decide +kernel) rfl (lv_at hl 0 rfl) ?_
  refine lv_if_lt (off := 8) (tgt := 9) hx hb (by decide +kernel) (by decide) (fun h => absurd h h0) (fun _ => ?_)
  refine lv_iload_n (k := 0) hx hb (by decide +kernel) rfl (lv_at hl 0 rfl) ?_
  refine lv_iload_n (k := 1) hx hb (by decide +kernel) rfl (lv_at hl 1 rfl) ?_
  refine lv_icmp_lt (off := 10) (tgt := 16) hx hb (by decide +kernel) (by decide) (fun _ => ?_) (fun h => absurd h1 h)
  refine lv_iload_n (k := 0) hx hb (by decide +kernel) rfl (lv_at hl 0 rfl) ?_
  exact W.iret hx hb (by rw [hr]) (fun t ht _ => ⟨rfl, by rw [ht]; exact hP, hS.F ht⟩) (fun _ h => by cases h) (by decide +kernel) hlocks
set_option maxHeartbeats 4000000 in
theorem cj_scheck (l : Launch) (g : zG) (w : mW) {i n : Int32} (h0 : ¬ i < 0) (h1 : i < n) : Met l yJ0_checkIndex_df160 (.code yJ0_checkIndex_df160 cJ0_checkIndex_df160 2 none :: zTs) (zRj 1 22) (va_Pc [.int i, .int n] (zPreJ g w)) (zQj g w none) 0 0 (zA g) := by
  refine Met.ofW (cc := cJ0_checkIndex_df160) (maxL := 2) (ret := none) (by decide) rfl ?_
  intro p e s m args below meth c s₁ B hml hv
  obtain ⟨rfl, hP, hSr⟩ := hv
  obtain ⟨⟨adV, hV⟩, hZ, hZq⟩ := id hSr
  have hx := B.exec
  have hb := B.bytes
  have hr := B.returns
  have hts0 := atoms_spec (ws := (.code yJ0_checkIndex_df160 cJ0_checkIndex_df160 2 none :: zTs)) B.pre
  have hts : ∀ w ∈ zTs, w.before ([.int i, .int n] : List Value).toArray s = true := fun w hw => hts0 w (List.mem_cons_of_mem _ hw)
  have hown : s.vm.findClass "java/lang/String" = some m.cls := findClass_of_methodNamed B.named
  have hlocks := B.notSynchronized
  have hS : va_S (zA g) s.heap s.heap [] := va_S.rf
  have hl := lv_entry ([.int i, .int n]) (n := 2) (Nat.le_of_ble_eq_true rfl)
  rw [lg_entry_eq]
  generalize (lg_sl ([.int i, .int n]) ++ List.replicate (2 - (lg_sl ([.int i, .int n])).length) Slot.unset).toArray = ls at hl ⊢
  obtain ⟨fv, hfv, hcat⟩ : ∃ fv : Value, va_Z "jdk/internal/util/Preconditions" "SIOOBE_FORMATTER" "Ljava/util/function/BiFunction;" fv (zA g) s s.heap ∧ fv.category = 1 := by
    rcases hZq with h | ⟨t, h⟩
    · exact ⟨_, h, rfl⟩
    · exact ⟨_, h, rfl⟩
  refine lv_iload_n (k := 0) hx hb (by decide +kernel) rfl (lv_at hl 0 rfl) ?_
  refine lv_iload_n (k := 1) hx hb (by decide +kernel) rfl (lv_at hl 1 rfl) ?_
  refine va_gets hx hb hfv hS hown (hts _ zj_fl_sioobe) (fun _ h => h) (by decide +kernel) ?_
  refine z_callJ (va_runS (As := [.int i, .int n, fv]) (rest := []) ⟨hx, hb, hml, hown, hts⟩ (cj_pcheck l g w hcat h0 h1) ⟨callB_of (ws' := zTs) 3 hts (zGj zj_cd_pcheck) rfl rfl rfl (hts _ zj_ini_Pre) (hts _ zj_ln_pcheck) ⟨by decide, by decide, by decide +kernel⟩ ⟨Nat.le_of_ble_eq_true rfl, Nat.le_of_ble_eq_true rfl⟩, hts _ zj_st_pcheck⟩ ⟨zPreJ_blind g w _, fun U hU hW => ⟨rfl, z_pre_moved hP hS hSr hU hW⟩⟩ rfl rfl hl.1 rfl (lv_room (Nat.le_of_ble_eq_true rfl)) (show decode cJ0_checkIndex_df160 5 = .ok (.invokestatic 1059, 3) by decide +kernel) ⟨Nat.le_of_ble_eq_true rfl, Nat.le_of_ble_eq_true rfl⟩) hS (fun H1 locs1 hP1 hS1 => ?_)
  refine lv_pop (va := .int i) hx hb (by decide +kernel) rfl ?_
  exact W.vret hx hb (by rw [hr]) (fun t ht _ => ⟨rfl, by rw [ht]; exact hP1, hS1.F ht⟩) hS1.2.2 (by decide +kernel) hlocks
theorem zCh_ok {q k : Nat} (hq : q < 2) (hk : k < (z_strs q).length) : (((z_bytes q).getD k 0) &&& 255) = Int32.ofInt ((z_strs q).getD k 0) ∧ 0 ≤ (z_strs q).getD k 0 ∧ (z_strs q).getD k 0 < 128 := by
  have key : ∀ q, q < 2 → ∀ k, k < (z_strs q).length → (((z_bytes q).getD k 0) &&& 255) = Int32.ofInt ((z_strs q).getD k 0) ∧ 0 ≤ (z_strs q).getD k 0 ∧ (z_strs q).getD k 0 < 128 := by decide +kernel
  exact key q hq k hk
set_option maxHeartbeats 4000000 in
theorem cj_lchar (l : Launch) (g : zG) (w : mW) {q k : Nat} {adV : Nat → Nat} (hq : q < 2) (hk : k < (z_strs q).length) : Met l yJ1_charAt_3b067 (.code yJ1_charAt_3b067 cJ1_charAt_3b067 2 (some .char) :: zTs) (zRj 2 43) (va_Pc [.ref (adV q), .int (Int32.ofInt k)] (fun U => zPreJ g w U ∧ va_T .byte (adV q) (z_strs q).length (fun j => .int ((z_bytes q).getD j 0)) (zA g) U U.heap)) (zQj g w (some (.int (Int32.ofInt ((z_strs q).getD k 0))))) 0 0 (zA g) := by
  refine Met.ofW (cc := cJ1_charAt_3b067) (maxL := 2) (ret := some .char) (by decide) rfl ?_
  intro p e s m args below meth c s₁ B hml hv
  obtain ⟨rfl, ⟨hP, hSr⟩, hT⟩ := hv
  have hx := B.exec
  have hb := B.bytes
  have hr := B.returns
  have hts0 := atoms_spec (ws := (.code yJ1_charAt_3b067 cJ1_charAt_3b067 2 (some .char) :: zTs)) B.pre
  have hts : ∀ w ∈ zTs, w.before ([.ref (adV q), .int (Int32.ofInt k)] : List Value).toArray s = true := fun w hw => hts0 w (List.mem_cons_of_mem _ hw)
  have hown : s.vm.findClass "java/lang/StringLatin1" = some m.cls := findClass_of_methodNamed B.named
  have hlocks := B.notSynchronized
  have hS : va_S (zA g) s.heap s.heap [] := va_S.rf
  have hl := lv_entry ([.ref (adV q), .int (Int32.ofInt k)]) (n := 2) (Nat.le_of_ble_eq_true rfl)
  rw [lg_entry_eq]
  generalize (lg_sl ([.ref (adV q), .int (Int32.ofInt k)]) ++ List.replicate (2 - (lg_sl ([.ref (adV q), .int (Int32.ofInt k)])).length) Slot.unset).toArray = ls at hl ⊢
  have hL : (z_strs q).length < 2147483648 := by
    have key : ∀ q, q < 2 → (z_strs q).length < 2147483648 := by decide +kernel
    exact key q hq
  have hk32 : zR32 (k : Int) := ⟨by omega, by omega⟩
  have hn32 : zR32 ((z_strs q).length : Int) := ⟨by omega, by omega⟩
  have hneg : ¬ Int32.ofInt k < 0 := by
    have : ¬ Int32.ofInt k < Int32.ofInt 0 := by rw [ze_lt hk32 (by decide)]; omega
    exact this
  have hlt : Int32.ofInt k < Int32.ofNat (z_strs q).length := by
    rw [← Int32.ofInt_eq_ofNat, ze_lt hk32 hn32]; omega
  refine lv_iload_n (k := 1) hx hb (by decide +kernel) rfl (lv_at hl 1 rfl) ?_
  refine lv_aload_n (k := 0) hx hb (by decide +kernel) rfl (lv_at hl 0 rfl) ?_
  refine va_tlen hx hb hT hS rfl (by decide +kernel) ?_
  refine z_callJ (va_runS (As := [.int (Int32.ofInt k), .int (Int32.ofNat (z_strs q).length)]) (rest := []) ⟨hx, hb, hml, hown, hts⟩ (cj_scheck l g w hneg hlt) ⟨callB_of (ws' := zTs) 2 hts (zGj zj_cd_scheck) rfl rfl rfl (hts _ zj_ini_String) (hts _ zj_ln_scheck) ⟨by decide, by decide, by decide +kernel⟩ ⟨Nat.le_of_ble_eq_true rfl, Nat.le_of_ble_eq_true rfl⟩, hts _ zj_st_scheck⟩ ⟨zPreJ_blind g w _, fun U hU hW => ⟨rfl, z_pre_moved hP hS hSr hU hW⟩⟩ rfl rfl hl.1 rfl (lv_room (Nat.le_of_ble_eq_true rfl)) (show decode cJ1_charAt_3b067 3 = .ok (.invokestatic 9, 3) by decide +kernel) ⟨Nat.le_of_ble_eq_true rfl, Nat.le_of_ble_eq_true rfl⟩) hS (fun H1 locs1 hP1 hS1 => ?_)
  refine lv_aload_n (k := 0) hx hb (by decide +kernel) rfl (lv_at hl 0 rfl) ?_
  refine lv_iload_n (k := 1) hx hb (by decide +kernel) rfl (lv_at hl 1 rfl) ?_
  have hvp : vp_in (Int32.ofInt k) (z_strs q).length := ze_in hk32 (by omega) (by omega)
  refine va_tb hx hb hT hS1 hvp rfl (by decide +kernel) ?_
  rw [ze_nat hk32 (by omega), Int.toNat_natCast]
  refine lv_sipush (n := 255) (v := 255) hx hb (by decide +kernel) (by decide) ?_
  refine lv_iand hx hb (by decide +kernel) ?_
  obtain ⟨e1, e2, e3⟩ := zCh_ok hq hk
  rw [e1]
  have ec : ((Int32.ofInt ((z_strs q).getD k 0)).toUInt32 % 65536).toInt32 = Int32.ofInt ((z_strs q).getD k 0) ∧ narrow .char (.int (Int32.ofInt ((z_strs q).getD k 0))) = .int (Int32.ofInt ((z_strs q).getD k 0)) := by
    have key : ∀ n : Nat, n < 128 → ((Int32.ofInt (n : Int)).toUInt32 % 65536).toInt32 = Int32.ofInt (n : Int) ∧ narrow .char (.int (Int32.ofInt (n : Int))) = .int (Int32.ofInt (n : Int)) := by decide +kernel
    have := key ((z_strs q).getD k 0).toNat (by omega)
    rw [Int.toNat_of_nonneg e2] at this
    exact this
  refine lv_i2c hx hb (by decide +kernel) ec.1 ?_
  exact W.zret (ty := .char) hx hb (by rw [hr]) ec.2 (fun t ht _ => ⟨rfl, by rw [ht]; exact hP1, hS1.F ht⟩) hS1.2.2 (by decide +kernel) hlocks
set_option maxHeartbeats 4000000 in
theorem cj_charAt (l : Launch) (g : zG) (w : mW) {q k : Nat} (hq : q < 2) (hk : k < (z_strs q).length) : Met l yJ0_charAt_5068e (.code yJ0_charAt_5068e cJ0_charAt_5068e 2 (some .char) :: zTs) (zRj 3 64) (va_Pc [.ref (zad g q), .int (Int32.ofInt k)] (zPreJ g w)) (zQj g w (some (.int (Int32.ofInt ((z_strs q).getD k 0))))) 0 0 (zA g) := by
  refine Met.ofW (cc := cJ0_charAt_5068e) (maxL := 2) (ret := some .char) (by decide) rfl ?_
  intro p e s m args below meth c s₁ B hml hv
  obtain ⟨rfl, hP, hSr⟩ := hv
  obtain ⟨⟨adV, hV⟩, hZ, hZq⟩ := id hSr
  have hx := B.exec
  have hb := B.bytes
  have hr := B.returns
  have hts0 := atoms_spec (ws := (.code yJ0_charAt_5068e cJ0_charAt_5068e 2 (some .char) :: zTs)) B.pre
  have hts : ∀ w ∈ zTs, w.before ([.ref (zad g q), .int (Int32.ofInt k)] : List Value).toArray s = true := fun w hw => hts0 w (List.mem_cons_of_mem _ hw)
  have hown : s.vm.findClass "java/lang/String" = some m.cls := findClass_of_methodNamed B.named
  have hlocks := B.notSynchronized
  obtain ⟨hO, hco, hva, hT⟩ := hV.1 q hq
  rw [(zlen_getD hq).1, (zlen_getD hq).2] at hT
  have hS : va_S (zA g) s.heap s.heap [] := va_S.rf
  have hl := lv_entry ([.ref (zad g q), .int (Int32.ofInt k)]) (n := 2) (Nat.le_of_ble_eq_true rfl)
  rw [lg_entry_eq]
  generalize (lg_sl ([.ref (zad g q), .int (Int32.ofInt k)]) ++ List.replicate (2 - (lg_sl ([.ref (zad g q), .int (Int32.ofInt k)])).length) Slot.unset).toArray = ls at hl ⊢
  refine lv_aload_n (k := 0) hx hb (by decide +kernel) rfl (lv_at hl 0 rfl) ?_
  refine z_callJ (va_runV (As := []) (rest := []) ⟨hx, hb, hml, hown, hts⟩ (cj_latin l g w hq) ⟨callB_of (ws' := zTs) 0 hts (zGj zj_cd_isLatin1) rfl rfl rfl (hts _ zj_ini_String) (hts _ zj_ln_isLatin1) ⟨by decide, by decide, by decide +kernel⟩ ⟨Nat.le_of_ble_eq_true rfl, Nat.le_of_ble_eq_true rfl⟩, hts _ zj_in_isLatin1, hts _ zj_se_isLatin1⟩ ⟨zPreJ_blind g w _, vk_recv hV hq hS, fun U hU hW => ⟨rfl, z_pre_moved hP hS hSr hU hW⟩⟩ rfl rfl hl.1 rfl (lv_room (Nat.le_of_ble_eq_true rfl)) (show decode cJ0_charAt_5068e 1 = .ok (.invokevirtual 492, 3) by decide +kernel) ⟨Nat.le_of_ble_eq_true rfl, Nat.le_of_ble_eq_true rfl⟩) hS (fun H1 locs1 hP1 hS1 => ?_)
  refine lv_if_eq (x := 1) (off := 12) (tgt := 16) hx hb (by decide +kernel) (by decide) (fun h => absurd h (by decide)) (fun _ => ?_)
  refine lv_aload_n (k := 0) hx hb (by decide +kernel) rfl (lv_at hl 0 rfl) ?_
  refine vk_getf hx hb hva hS1 hown (hts _ zj_fl_value) (fun _ h => h) (by decide +kernel) ?_
  refine lv_iload_n (k := 1) hx hb (by decide +kernel) rfl (lv_at hl 1 rfl) ?_
  have hbl : FrameBlind (va_Pc [.ref (adV q), .int (Int32.ofInt k)] (fun U => zPreJ g w U ∧ va_T .byte (adV q) (z_strs q).length (fun j => .int ((z_bytes q).getD j 0)) (zA g) U U.heap)) := by
    intro a U fr mk h
    obtain ⟨h0, ⟨h1, h2⟩, h3⟩ := h
    exact ⟨h0, ⟨h1, zSr.moved (s := U) (U := U.calling fr mk a) (Vm.Alike.refl U.vm) h2⟩, va_T.moved (u := U) (U := U.calling fr mk a) (Vm.Alike.refl U.vm) h3⟩
  refine z_callJ (va_runS (As := [.ref (adV q), .int (Int32.ofInt k)]) (rest := []) ⟨hx, hb, hml, hown, hts⟩ (cj_lchar l g w (adV := adV) hq hk) ⟨callB_of (ws' := zTs) 2 hts (zGj zj_cd_lcharAt) rfl rfl rfl (hts _ zj_ini_StringLatin1) (hts _ zj_ln_lcharAt) ⟨by decide, by decide, by decide +kernel⟩ ⟨Nat.le_of_ble_eq_true rfl, Nat.le_of_ble_eq_true rfl⟩, hts _ zj_st_lcharAt⟩ ⟨hbl, fun U hU hW => ⟨rfl, z_pre_moved hP1 hS1 hSr hU hW, by rw [hU]; exact va_T.moved hW.alike (va_T.kept hT (fun q h1 h2 => hS1.2.1 q h1 h2))⟩⟩ rfl rfl hl.1 rfl (lv_room (Nat.le_of_ble_eq_true rfl)) (show decode cJ0_charAt_5068e 12 = .ok (.invokestatic 495, 3) by decide +kernel) ⟨Nat.le_of_ble_eq_true rfl, Nat.le_of_ble_eq_true rfl⟩) hS1 (fun H2 locs2 hP2 hS2 => ?_)
  obtain ⟨e1, e2, e3⟩ := zCh_ok hq hk
  have ec : narrow .char (.int (Int32.ofInt ((z_strs q).getD k 0))) = .int (Int32.ofInt ((z_strs q).getD k 0)) := by
    have key : ∀ n : Nat, n < 128 → narrow .char (.int (Int32.ofInt (n : Int))) = .int (Int32.ofInt (n : Int)) := by decide +kernel
    have := key ((z_strs q).getD k 0).toNat (by omega)
    rw [Int.toNat_of_nonneg e2] at this
    exact this
  exact W.zret (ty := .char) hx hb (by rw [hr]) ec (fun t ht _ => ⟨rfl, by rw [ht]; exact hP2, hS2.F ht⟩) hS2.2.2 (by decide +kernel) hlocks
section ZPS
variable {p : Program} {l : Launch} {e : Env} {R : Room} {s : State} {m : MethodId} {args : Array Value} {below : List Frame} {meth : Method} {c : Code} {Q : State → Prop}
variable {H : Heap} {locs : List Loc} {cells slots : Nat} {ls : Array Slot} {g : zG} {rw : mR × mW} {nL : Nat} {lc : mL} {w : mW} {y : Nat}
variable {K0 S0 : Nat}
theorem z_slen (hfr : zFr l g y p R s m args meth c K0 S0) (hr : zRel g s (z_ml y) K0 S0 w H locs cells slots lc ls) (hR : rw.2.2.1 ≤ R.cells + K0 ∧ rw.2.2.2 ≤ R.slots + S0) {a q pcb : Nat} {rest : List mV} (hm : (z_oc y, a, 0) ∈ z_strm) (hq : q < 2) (hwt : mm_wt rest ≤ 8) (hroom : 2 ≤ z_fr y ∧ 40 ≤ z_lo y) (hd : decode (z_by y) pcb = .ok (.invokevirtual a, 3)) (hle : w.2.1 ≤ rw.2.2.1 ∧ w.2.2 ≤ rw.2.2.2)
    (kk : ∀ (H1 : Heap) (locs1 : List Loc), zRel g s (z_ml y) K0 S0 w H1 locs1 cells slots lc ls → W p l e R s m args below meth c H1 locs1 cells slots Q (F0 m (pcb + 3) ls (.int (Int32.ofInt (z_strs q).length) :: rest.map (cv (zad g))))) : W p l e R s m args below meth c H locs cells slots Q (F0 m pcb ls (.ref (zad g q) :: rest.map (cv (zad g)))) := by
  obtain ⟨hx, hb, hml, hown, hts, hSt, hSr, hA0, hini, hf1, hf2, hK0⟩ := hfr
  obtain ⟨⟨adV, hV⟩, hZ, hZq⟩ := id hSr
  obtain ⟨hP, hS, hok, a4, a5, a6, hc0, hs0⟩ := id hr
  have hrm := lv_room (m := m) (pc := pcb) (ls := ls) (rest := .ref (zad g q) :: rest.map (cv (zad g))) (st := rest.map (cv (zad g))) (by rw [mm_wt_ok]; exact hwt)
  have hlk := hts _ (z_el (f := fun e : Nat × Nat × Nat => (.methodLink (z_cn e.1) e.2.1 (if e.2.2 = 0 then yJ0_length_8abf5 else yJ0_charAt_5068e) : Cond)) zw_strm hm)
  refine z_callJ (va_runV (As := []) (rest := rest.map (cv (zad g))) ⟨hx, hb, hml, hown, hts⟩ (cj_length l g w hq) ⟨callB_of (ws' := zTs) 0 hts (zGj zj_cd_length) rfl rfl rfl (hts _ zj_ini_String) hlk ⟨by decide, by decide, by decide +kernel⟩ ⟨by show 1 + 1 ≤ _; omega, by show 8 + (1 + 11) + 20 ≤ _; omega⟩, hts _ zj_in_length, hts _ zj_se_length⟩ ⟨zPreJ_blind g w _, vk_recv hV hq hS, fun U hU hW => ⟨rfl, z_pre_moved hP hS hSr hU hW⟩⟩ rfl rfl hr.hl.1 rfl hrm hd ⟨by omega, by omega⟩) hS (fun H1 locs1 hP1 hS1 => ?_)
  exact kk H1 locs1 ⟨hP1, hS1, hok, a4, a5, a6, hc0, hs0⟩
theorem z_schr (hfr : zFr l g y p R s m args meth c K0 S0) (hr : zRel g s (z_ml y) K0 S0 w H locs cells slots lc ls) (hR : rw.2.2.1 ≤ R.cells + K0 ∧ rw.2.2.2 ≤ R.slots + S0) {a q pcb : Nat} {i : Int} {rest : List mV} (hm : (z_oc y, a, 1) ∈ z_strm) (hq : q < 2) (hi : zR32 i) (i0 : 0 ≤ i) (i1 : i < (z_strs q).length) (hwt : mm_wt rest ≤ 8) (hroom : 4 ≤ z_fr y ∧ 85 ≤ z_lo y) (hd : decode (z_by y) pcb = .ok (.invokevirtual a, 3)) (hle : w.2.1 ≤ rw.2.2.1 ∧ w.2.2 ≤ rw.2.2.2)
    (kk : ∀ (H1 : Heap) (locs1 : List Loc), zRel g s (z_ml y) K0 S0 w H1 locs1 cells slots lc ls → W p l e R s m args below meth c H1 locs1 cells slots Q (F0 m (pcb + 3) ls (.int (Int32.ofInt ((z_strs q).getD i.toNat 0)) :: rest.map (cv (zad g))))) : W p l e R s m args below meth c H locs cells slots Q (F0 m pcb ls (.int (Int32.ofInt i) :: .ref (zad g q) :: rest.map (cv (zad g)))) := by
  obtain ⟨hx, hb, hml, hown, hts, hSt, hSr, hA0, hini, hf1, hf2, hK0⟩ := hfr
  obtain ⟨⟨adV, hV⟩, hZ, hZq⟩ := id hSr
  obtain ⟨hP, hS, hok, a4, a5, a6, hc0, hs0⟩ := id hr
  obtain ⟨k, rfl⟩ : ∃ k : Nat, i = (k : Int) := ⟨i.toNat, by omega⟩
  rw [Int.toNat_natCast] at kk
  have hrm := lv_room (m := m) (pc := pcb) (ls := ls) (rest := .int (Int32.ofInt k) :: .ref (zad g q) :: rest.map (cv (zad g))) (st := rest.map (cv (zad g))) (by rw [mm_wt_ok]; exact hwt)
  have hlk := hts _ (z_el (f := fun e : Nat × Nat × Nat => (.methodLink (z_cn e.1) e.2.1 (if e.2.2 = 0 then yJ0_length_8abf5 else yJ0_charAt_5068e) : Cond)) zw_strm hm)
  refine z_callJ (va_runV (As := [.int (Int32.ofInt k)]) (rest := rest.map (cv (zad g))) ⟨hx, hb, hml, hown, hts⟩ (cj_charAt l g w hq (k := k) (by omega)) ⟨callB_of (ws' := zTs) 1 hts (zGj zj_cd_charAt) rfl rfl rfl (hts _ zj_ini_String) hlk ⟨by decide, by decide, by decide +kernel⟩ ⟨by show 3 + 1 ≤ _; omega, by show 8 + (2 + 11) + 64 ≤ _; omega⟩, hts _ zj_in_charAt, hts _ zj_se_charAt⟩ ⟨zPreJ_blind g w _, vk_recv hV hq hS, fun U hU hW => ⟨rfl, z_pre_moved hP hS hSr hU hW⟩⟩ rfl rfl hr.hl.1 rfl hrm hd ⟨by omega, by omega⟩) hS (fun H1 locs1 hP1 hS1 => ?_)
  exact kk H1 locs1 ⟨hP1, hS1, hok, a4, a5, a6, hc0, hs0⟩
end ZPS
