/-! the machine follows the mini machine: cells -/
def zft (k : Nat) : FieldType := if k = 0 then .int else if k = 1 then .byte else if k = 2 then .boolean else if k = 3 then .long else if k = 10 then .object RX0 else if k = 15 then .object RX5 else .object RX8
def ztp (k : Nat) : Nat := if k < 4 then k else if k = 10 then 4 else if k = 15 then 5 else 6
def ztys (g : zG) : List (ClassId × FieldType) := [(g.2.2.2.1 0, .int), (g.2.2.2.1 1, .byte), (g.2.2.2.1 2, .boolean), (g.2.2.2.1 3, .long), (g.2.2.2.1 10, .object RX0), (g.2.2.2.1 15, .object RX5), (g.2.2.2.1 18, .object RX8)]
theorem ztys_at (g : zG) {k : Nat} (h : k < 4 ∨ zAok k = true) : (ztys g)[ztp k]? = some (g.2.2.2.1 k, zft k) := by
  rcases h with h | h
  · rcases (show k = 0 ∨ k = 1 ∨ k = 2 ∨ k = 3 by omega) with rfl | rfl | rfl | rfl <;> rfl
  · unfold zAok at h
    rcases of_decide_eq_true h with rfl | rfl | rfl <;> rfl
theorem zcl_at {c : Nat} (h : c < 13) : vwCl[c]? = some (z_cn c, zT c, z_N c) := by
  rcases (show c = 0 ∨ c = 1 ∨ c = 2 ∨ c = 3 ∨ c = 4 ∨ c = 5 ∨ c = 6 ∨ c = 7 ∨ c = 8 ∨ c = 9 ∨ c = 10 ∨ c = 11 ∨ c = 12 by omega) with rfl | rfl | rfl | rfl | rfl | rfl | rfl | rfl | rfl | rfl | rfl | rfl | rfl <;> rfl
theorem zW_len (g : zG) (w : mW) : (zW g w).length = w.2.1 - 3 := by simp [zW]
theorem zW_at (g : zG) (w : mW) {q : Nat} (h1 : 3 ≤ q) (h2 : q < w.2.1) : (zW g w)[q - 3]? = some (zad g q, zE g (w.1 q)) := by
  unfold zW
  rw [List.getElem?_map, List.getElem?_range (by omega)]
  simp only [Option.map_some, Option.some.injEq, Prod.mk.injEq]
  refine ⟨?_, by rw [Nat.sub_add_cancel h1]⟩
  unfold zad
  rw [if_neg (by omega), if_neg (by omega), if_neg (by omega)]
theorem zW_of {g : zG} {w : mW} {j : Nat} {x : Nat × va_E} (h : (zW g w)[j]? = some x) : j < w.2.1 - 3 ∧ x = (g.1 + j, zE g (w.1 (j + 3))) := by
  have hj : j < w.2.1 - 3 := by rw [← zW_len g w]; exact (List.getElem?_eq_some_iff.mp h).1
  refine ⟨hj, ?_⟩
  unfold zW at h
  rw [List.getElem?_map, List.getElem?_range hj] at h
  simpa using h.symm
theorem zD_w (g : zG) (w : mW) : va_D (zA g) (zW g w) := by
  refine ⟨fun i j x y hi hj hxy => ?_, fun k q hk => ?_⟩
  · obtain ⟨-, rfl⟩ := zW_of hi
    obtain ⟨-, rfl⟩ := zW_of hj
    simp only at hxy
    omega
  · obtain ⟨-, rfl⟩ := zW_of hk
    exact Nat.le_add_right _ _
theorem zW_set (g : zG) (w : mW) {q : Nat} (c : mC) (h1 : 3 ≤ q) (h2 : q < w.2.1) : zW g (mm_set w q c) = (zW g w).set (q - 3) (zad g q, zE g c) := by
  apply List.ext_getElem?
  intro j
  rw [List.getElem?_set, zW_len]
  by_cases hj : q - 3 = j
  · subst hj
    rw [if_pos rfl, if_pos (by omega)]
    have := zW_at g (mm_set w q c) h1 h2
    rw [this]
    simp [mm_set]
  · rw [if_neg hj]
    unfold zW
    rw [List.getElem?_map, List.getElem?_map]
    show Option.map _ (List.range (w.2.1 - 3))[j]? = _
    cases hr : (List.range (w.2.1 - 3))[j]? with
    | none => rfl
    | some t =>
      obtain ⟨h3, h4⟩ := List.getElem?_eq_some_iff.mp hr
      simp only [List.getElem_range] at h4
      subst h4
      simp only [Option.map_some, mm_set]
      rw [if_neg (by omega)]
theorem zW_alloc (g : zG) (w : mW) (c : mC) (n : Nat) (h : 3 ≤ w.2.1) : zW g (mm_alloc w c n) = zW g w ++ [(zad g w.2.1, zE g c)] := by
  have e : zad g w.2.1 = g.1 + (w.2.1 - 3) := by unfold zad; rw [if_neg (by omega), if_neg (by omega), if_neg (by omega)]
  unfold zW mm_alloc
  simp only
  rw [show w.2.1 + 1 - 3 = (w.2.1 - 3) + 1 by omega, List.range_succ, List.map_append]
  congr 1
  · apply List.map_congr_left
    intro j hj
    rw [List.mem_range] at hj
    rw [if_neg (by omega)]
  · simp only [List.map_cons, List.map_nil, e]
    rw [if_pos (by omega)]
theorem z_cell {w : mW} (hok : zOK w) {q : Nat} (hq : ∀ f, w.1 q ≠ .inr (99, 0, f)) : 3 ≤ q ∧ q < w.2.1 ∧ zOKc (w.1 q) := by
  obtain ⟨h0, h1, h2⟩ := hok
  by_cases h : q < 3 ∨ w.2.1 ≤ q
  · obtain ⟨f, hf⟩ := h2 q h
    exact absurd hf (hq f)
  · exact ⟨by omega, by omega, h1 q (by omega) (by omega)⟩
theorem zOK_set {w : mW} (hok : zOK w) {q : Nat} {c : mC} (h1 : 3 ≤ q) (h2 : q < w.2.1) (hc : zOKc c) : zOK (mm_set w q c) := by
  obtain ⟨g0, g1, g2⟩ := hok
  refine ⟨g0, fun k a b => ?_, fun k hk => ?_⟩
  · simp only [mm_set]
    by_cases hkq : k = q
    · rw [if_pos hkq]; exact hc
    · rw [if_neg hkq]; exact g1 k a b
  · simp only [mm_set]
    have hk' : k < 3 ∨ w.2.1 ≤ k := hk
    rw [if_neg (by omega)]
    exact g2 k hk
theorem zOK_alloc {w : mW} (hok : zOK w) {c : mC} {n : Nat} (hc : zOKc c) : zOK (mm_alloc w c n) := by
  obtain ⟨g0, g1, g2⟩ := hok
  refine ⟨by show 3 ≤ w.2.1 + 1; omega, fun k a b => ?_, fun k hk => ?_⟩
  · simp only [mm_alloc] at b ⊢
    by_cases hkq : k = w.2.1
    · rw [if_pos hkq]; exact hc
    · rw [if_neg hkq]; exact g1 k a (by omega)
  · simp only [mm_alloc] at hk ⊢
    rw [if_neg (by omega)]
    exact g2 k (by omega)
theorem zArr_i {ad : Nat → Nat} {kd n : Nat} {f : Int → Int} (h : kd < 3) : zArr ad (kd, n, f) = (n, .inl fun j => Int32.ofInt (f j)) := by
  unfold zArr
  rw [if_neg (by omega), if_pos h]
theorem zArr_j {ad : Nat → Nat} {n : Nat} {f : Int → Int} : zArr ad (3, n, f) = (n, .inr (.inl fun j => Int64.ofInt (f j))) := rfl
theorem zArr_r {ad : Nat → Nat} {kd n : Nat} {f : Int → Int} (h : zAok kd = true) : zArr ad (kd, n, f) = (n, .inr (.inr (.inr (.inr fun j => if f j < 0 then none else some (ad (f j).toNat))))) := by
  unfold zAok at h
  rcases of_decide_eq_true h with rfl | rfl | rfl <;> rfl
theorem z_upd {f : Int → Int} {i x : Int} (h : 0 ≤ i) : upd (fun j : Nat => Int32.ofInt (f j)) i.toNat (Int32.ofInt x) = fun j : Nat => Int32.ofInt (mm_upd f i x j) := by
  funext j
  unfold upd mm_upd
  by_cases hj : j = i.toNat
  · rw [if_pos hj, if_pos (by omega)]
  · rw [if_neg hj, if_neg (by omega)]
theorem z_updL {f : Int → Int} {i x : Int} (h : 0 ≤ i) : vp_updL (fun j : Nat => Int64.ofInt (f j)) i.toNat (Int64.ofInt x) = fun j : Nat => Int64.ofInt (mm_upd f i x j) := by
  funext j
  unfold vp_updL mm_upd
  by_cases hj : j = i.toNat
  · rw [if_pos hj, if_pos (by omega)]
  · rw [if_neg hj, if_neg (by omega)]
theorem z_updR {ad : Nat → Nat} {f : Int → Int} {i : Int} {y : Nat} (h : 0 ≤ i) : va_up (fun j : Nat => if f j < 0 then none else some (ad (f j).toNat)) i.toNat (some (ad y)) = fun j : Nat => if mm_upd f i y j < 0 then none else some (ad (mm_upd f i y j).toNat) := by
  funext j
  unfold va_up mm_upd
  by_cases hj : j = i.toNat
  · have e : (if (j : Int) = i then (y : Int) else f j) = y := if_pos (by omega)
    rw [if_pos hj, e, if_neg (by omega)]
    simp
  · have e : (if (j : Int) = i then (y : Int) else f j) = f j := if_neg (by omega)
    rw [if_neg hj, e]
theorem mm_ld_spec {kd : Nat} {w : mW} {q : Nat} {i x : Int} (h : mm_ld kd w q i = some x) : ∃ (n : Nat) (f : Int → Int), w.1 q = .inr (kd, n, f) ∧ 0 ≤ i ∧ i < n ∧ x = f i := by
  unfold mm_ld at h
  split at h
  · cases h
  · rename_i a ha
    obtain ⟨kd', n, f⟩ := a
    split at h
    · rename_i hc
      obtain ⟨h1, h2, h3⟩ := hc
      simp only at h1 h3
      subst h1
      cases h
      exact ⟨n, f, ha, h2, h3, rfl⟩
    · cases h
theorem mm_st_spec {kd : Nat} {w w1 : mW} {q : Nat} {i v : Int} (h : mm_st kd w q i v = some w1) : ∃ (n : Nat) (f : Int → Int), w.1 q = .inr (kd, n, f) ∧ 0 ≤ i ∧ i < n ∧ w1 = mm_set w q (.inr (kd, n, mm_upd f i v)) := by
  unfold mm_st at h
  split at h
  · cases h
  · rename_i a ha
    obtain ⟨kd', n, f⟩ := a
    split at h
    · rename_i hc
      obtain ⟨h1, h2, h3⟩ := hc
      simp only at h1 h3
      subst h1
      cases h
      exact ⟨n, f, ha, h2, h3, rfl⟩
    · cases h
theorem zRel.world {g : zG} {s : State} {nL K0 S0 : Nat} {w w1 : mW} {H H1 : Heap} {locs locs1 : List Loc} {cells slots : Nat} {lc : mL} {ls : Array Slot} (h : zRel g s nL K0 S0 w H locs cells slots lc ls) (hP : va_P g.2.2.2.2.1 vwCl (zW g w1) H1) (hS : va_S (zA g) s.heap H1 locs1) (hok : zOK w1) (h2 : w1.2 = w.2) : zRel g s nL K0 S0 w1 H1 locs1 cells slots lc ls := by
  obtain ⟨a1, a2, a3, a4, a5, a6, a7, a8⟩ := h
  exact ⟨hP, hS, hok, a4, a5, a6, by rw [h2]; exact a7, by rw [h2]; exact a8⟩
theorem z_up {p : Program} {l : Launch} {e : Env} {R : Room} {s : State} {m : MethodId} {args : Array Value} {below : List Frame} {meth : Method} {c : Code} {Q : State → Prop} {H : Heap} {locs : List Loc} {cells slots : Nat} {fr : JFrame}
    (h : H.size ≤ s.heap.size + cells → W p l e R s m args below meth c H locs cells slots Q fr) : W p l e R s m args below meth c H locs cells slots Q fr := by
  intro T hT X
  refine h ?_ T hT X
  have := X.same.2.2.1
  rw [← hT]
  exact this
section ZP5
variable {p : Program} {l : Launch} {e : Env} {R : Room} {s : State} {m : MethodId} {args : Array Value} {below : List Frame} {meth : Method} {c : Code} {Q : State → Prop}
variable {H : Heap} {locs : List Loc} {cells slots : Nat} {ls : Array Slot} {g : zG} {ps : List Nat} {k : mK} {rw : mR × mW} {pc nL : Nat} {lc : mL} {st : List mV} {w : mW} {cc : ByteArray}
variable {K0 S0 : Nat}
/-- a new cell lies where the mini machine counts it -/
theorem z_new {q : Nat} {x : va_E} {H1 : Heap} (hr : zRel g s nL K0 S0 w H locs cells slots lc ls) (hK0 : s.heap.size + 3 = g.1 + K0) (hP : va_P g.2.2.2.2.1 vwCl (zW g w ++ [(q, x)]) H1) (hD : va_D (zA g) (zW g w ++ [(q, x)])) (hup : H1.size ≤ s.heap.size + (cells + 1)) : q = zad g w.2.1 := by
  obtain ⟨-, -, hok, -, -, -, hc, -⟩ := hr
  have h2 : 3 ≤ w.2.1 := hok.1
  have hlast : (zW g w ++ [(q, x)])[w.2.1 - 3]? = some (q, x) := by
    rw [List.getElem?_append_right (by rw [zW_len]; exact Nat.le_refl _), zW_len, Nat.sub_self]
    rfl
  have h3 : q < H1.size := (hP _ _ hlast).lt
  have h4 : g.1 ≤ q := hD.2 _ _ hlast
  unfold zad
  rw [if_neg (by omega), if_neg (by omega), if_neg (by omega)]
  by_cases hq : q = g.1 + (w.2.1 - 3)
  · exact hq
  · exfalso
    have hlt : q - g.1 < w.2.1 - 3 := by omega
    have hat := zW_at g w (q := q - g.1 + 3) (by omega) (by omega)
    have hin : (zW g w ++ [(q, x)])[q - g.1]? = some (zad g (q - g.1 + 3), zE g (w.1 (q - g.1 + 3))) := by
      rw [List.getElem?_append_left (by rw [zW_len]; exact hlt)]
      rw [show q - g.1 + 3 - 3 = q - g.1 by omega] at hat
      exact hat
    have := hD.1 _ _ _ _ hin hlast (by
      show zad g (q - g.1 + 3) = q
      unfold zad
      rw [if_neg (by omega), if_neg (by omega), if_neg (by omega)]
      omega)
    omega
theorem z_get {q : Nat} (hr : zRel g s nL K0 S0 w H locs cells slots lc ls) {cl : mC} (hq : w.1 q = cl) (hn : ∀ f, cl ≠ .inr (99, 0, f)) : 3 ≤ q ∧ q < w.2.1 ∧ zOKc cl ∧ (zW g w)[q - 3]? = some (zad g q, zE g cl) := by
  obtain ⟨h1, h2, h3⟩ := z_cell hr.2.2.1 (q := q) (by rw [hq]; exact hn)
  rw [hq] at h3
  refine ⟨h1, h2, h3, ?_⟩
  rw [← hq]
  exact zW_at g w h1 h2
theorem z_k99 {kd n : Nat} {f : Int → Int} (h : kd < 4 ∨ zAok kd = true) : ∀ f', (.inr (kd, n, f) : mC) ≠ .inr (99, 0, f') := by
  intro f' e
  cases e
  rcases h with h | h
  · omega
  · exact absurd h (by decide)
set_option maxHeartbeats 4000000 in
theorem zs5 {op a bb oc : Nat} (hx : p.tables.exec = Jvm.exec) (hb : c.code = cc) (hgo : zGo p l e R s m args below meth c Q g ps nL K0 S0 k rw) (hr : zRel g s nL K0 S0 w H locs cells slots lc ls) (hw : zOKl st)
    (hown : s.vm.findClass (z_cn oc) = some m.cls) (hts : ∀ w ∈ zTs, w.before args s = true) (harr : ∀ t ∈ [FieldType.int, .byte, .boolean, .long], (Cond.arrayClass t).before args s = true) (hao : ∀ k, zAok k = true → va_AO (z_cn (k - 10)) s)
    (hK : va_K g.2.2.2.2.1 vwCl (ztys g) s) (hA0 : g.1 ≤ s.heap.size) (hK0 : s.heap.size + 3 = g.1 + K0) (hmono : ∀ pc lc st w1, k pc lc st w1 = some rw → w1.2.1 ≤ rw.2.2.1 ∧ w1.2.2 ≤ rw.2.2.2) (hR : rw.2.2.1 ≤ R.cells + K0 ∧ rw.2.2.2 ≤ R.slots + S0)
    (hF : zF5 cc ps oc pc op a bb = true) (h : mm_s5 k pc op a lc st w = some rw) : W p l e R s m args below meth c H locs cells slots Q (F0 m (ps.getD pc 0) ls (st.map (cv (zad g)))) := by
  have hP := hr.1
  have hS := hr.2.1
  have hD := zD_w g w
  have hAl : ∀ q, s.heap.size ≤ q → zA g q := fun q hq => Nat.le_trans hA0 hq
  unfold mm_s5 at h
  unfold zF5 at hF
  split at h
  · obtain ⟨hd, hp⟩ := zD_spec hF
    split at h
    · rename_i i r rr
      obtain ⟨hi, -, hrr⟩ := hw
      obtain ⟨q, rfl, h0⟩ := Option.bind_eq_some_iff.mp h
      clear h
      have h := h0
      clear h0
      obtain ⟨x, hld, h⟩ := Option.bind_eq_some_iff.mp h
      obtain ⟨n, f, hq, i0, i1, rfl⟩ := mm_ld_spec hld
      obtain ⟨g1, g2, hok, hat⟩ := z_get hr hq (z_k99 (Or.inl (by decide)))
      have hat : (zW g w)[q - 3]? = some (zad g q, .inl (g.2.2.2.1 0, n, .inl fun j : Nat => Int32.ofInt (f j))) := by rw [hat]; unfold zE; simp only; rw [zArr_i (by decide)]
      have q2 := hgo _ _ _ _ _ _ _ _ _ h hr ⟨(hok.2.2.1 (Nat.le_of_ble_eq_true rfl) _ : zR32 _), hrr⟩
      rw [hp] at q2
      refine va_iald hx hb hK hP (q - 3) (ztp 0) hat (ztys_at g (Or.inl (by decide))) (ze_in hi i0 i1) hd ?_
      rw [ze_nat hi i0, Int.toNat_of_nonneg i0]
      exact q2
    · cases h
  · obtain ⟨hd, hp⟩ := zD_spec hF
    split at h
    · rename_i i r rr
      obtain ⟨hi, -, hrr⟩ := hw
      obtain ⟨q, rfl, h0⟩ := Option.bind_eq_some_iff.mp h
      clear h
      have h := h0
      clear h0
      obtain ⟨x, hld, h⟩ := Option.bind_eq_some_iff.mp h
      obtain ⟨n, f, hq, i0, i1, rfl⟩ := mm_ld_spec hld
      obtain ⟨g1, g2, hok, hat⟩ := z_get hr hq (z_k99 (Or.inl (by decide)))
      have hat : (zW g w)[q - 3]? = some (zad g q, .inl (g.2.2.2.1 1, n, .inl fun j : Nat => Int32.ofInt (f j))) := by rw [hat]; unfold zE; simp only; rw [zArr_i (by decide)]
      have q2 := hgo _ _ _ _ _ _ _ _ _ h hr ⟨(hok.2.2.1 (Nat.le_of_ble_eq_true rfl) _ : zR32 _), hrr⟩
      rw [hp] at q2
      refine va_bald hx hb hK hP (q - 3) (ztp 1) hat (ztys_at g (Or.inl (by decide))) (ze_in hi i0 i1) hd ?_
      rw [ze_nat hi i0, Int.toNat_of_nonneg i0]
      exact q2
    · cases h
  · obtain ⟨hd, hp⟩ := zD_spec hF
    split at h
    · rename_i i r rr
      obtain ⟨hi, -, hrr⟩ := hw
      obtain ⟨q, rfl, h0⟩ := Option.bind_eq_some_iff.mp h
      clear h
      have h := h0
      clear h0
      obtain ⟨x, hld, h⟩ := Option.bind_eq_some_iff.mp h
      obtain ⟨n, f, hq, i0, i1, rfl⟩ := mm_ld_spec hld
      obtain ⟨g1, g2, hok, hat⟩ := z_get hr hq (z_k99 (Or.inl (by decide)))
      have hat : (zW g w)[q - 3]? = some (zad g q, .inl (g.2.2.2.1 2, n, .inl fun j : Nat => Int32.ofInt (f j))) := by rw [hat]; unfold zE; simp only; rw [zArr_i (by decide)]
      have q2 := hgo _ _ _ _ _ _ _ _ _ h hr ⟨(hok.2.2.1 (Nat.le_of_ble_eq_true rfl) _ : zR32 _), hrr⟩
      rw [hp] at q2
      refine va_zald hx hb hK hP (q - 3) (ztp 2) hat (ztys_at g (Or.inl (by decide))) (ze_in hi i0 i1) hd ?_
      rw [ze_nat hi i0, Int.toNat_of_nonneg i0]
      exact q2
    · cases h
  · obtain ⟨hd, hp⟩ := zD_spec hF
    split at h
    · rename_i i r rr
      obtain ⟨hi, -, hrr⟩ := hw
      obtain ⟨q, rfl, h0⟩ := Option.bind_eq_some_iff.mp h
      clear h
      have h := h0
      clear h0
      obtain ⟨x, hld, h⟩ := Option.bind_eq_some_iff.mp h
      obtain ⟨n, f, hq, i0, i1, rfl⟩ := mm_ld_spec hld
      obtain ⟨g1, g2, hok, hat⟩ := z_get hr hq (z_k99 (Or.inl (by decide)))
      have hat : (zW g w)[q - 3]? = some (zad g q, .inl (g.2.2.2.1 3, n, .inr (.inl fun j : Nat => Int64.ofInt (f j)))) := by rw [hat]; unfold zE; simp only; rw [zArr_j]
      have q2 := hgo _ _ _ _ _ _ _ _ _ h hr ⟨(hok.2.2.2 rfl _ : zR64 _), hrr⟩
      rw [hp] at q2
      refine va_lald hx hb hK hP (q - 3) (ztp 3) hat (ztys_at g (Or.inl (by decide))) (ze_in hi i0 i1) hd ?_
      rw [ze_nat hi i0, Int.toNat_of_nonneg i0]
      exact q2
    · cases h
  · obtain ⟨hF, hka⟩ := z_and hF
    obtain ⟨hd, hp⟩ := zD_spec hF
    split at h
    · rename_i i r rr
      obtain ⟨hi, -, hrr⟩ := hw
      obtain ⟨q, rfl, h0⟩ := Option.bind_eq_some_iff.mp h
      clear h
      have h := h0
      clear h0
      obtain ⟨x, hld, h⟩ := Option.bind_eq_some_iff.mp h
      obtain ⟨n, f, hq, i0, i1, rfl⟩ := mm_ld_spec hld
      obtain ⟨g1, g2, hok, hat⟩ := z_get hr hq (z_k99 (Or.inr hka))
      have hat : (zW g w)[q - 3]? = some (zad g q, .inl (g.2.2.2.1 a, n, .inr (.inr (.inr (.inr fun j : Nat => if f j < 0 then none else some (zad g (f j).toNat)))))) := by rw [hat]; unfold zE; simp only; rw [zArr_r hka]
      have q2 := hgo _ _ _ _ _ _ _ _ _ h hr ⟨trivial, hrr⟩
      rw [hp] at q2
      have hty : ∃ C, zft a = .object C := by
        unfold zAok at hka
        rcases of_decide_eq_true hka with rfl | rfl | rfl <;> exact ⟨_, rfl⟩
      obtain ⟨C, hC⟩ := hty
      refine va_aldq hx hb hK hP (q - 3) (ztp a) (C := C) hat (by rw [ztys_at g (Or.inr hka), hC]) (ze_in hi i0 i1) hd ?_
      rw [ze_nat hi i0, Int.toNat_of_nonneg i0]
      rw [List.map_cons, cv_r] at q2
      by_cases hneg : f i < 0
      · rw [if_pos hneg] at q2 ⊢
        exact q2
      · rw [if_neg hneg] at q2 ⊢
        exact q2
    · cases h
  · obtain ⟨hd, hp⟩ := zD_spec hF
    split at h
    · rename_i x i r rr
      obtain ⟨hxx, hi, -, hrr⟩ := hw
      obtain ⟨q, rfl, h0⟩ := Option.bind_eq_some_iff.mp h
      clear h
      have h := h0
      clear h0
      obtain ⟨w1, hst, h⟩ := Option.bind_eq_some_iff.mp h
      obtain ⟨n, f, hq, i0, i1, rfl⟩ := mm_st_spec hst
      obtain ⟨g1, g2, hok, hat⟩ := z_get hr hq (z_k99 (Or.inl (by decide)))
      have hat : (zW g w)[q - 3]? = some (zad g q, .inl (g.2.2.2.1 0, n, .inl fun j : Nat => Int32.ofInt (f j))) := by rw [hat]; unfold zE; simp only; rw [zArr_i (by decide)]
      refine va_iast hx hb hK hP hD hS (q - 3) (ztp 0) hat (ztys_at g (Or.inl (by decide))) (ze_in hi i0 i1) hd (fun H1 locs1 hP1 hD1 hS1 => ?_)
      rw [ze_nat hi i0, z_upd i0] at hP1
      have e := zW_set g w (q := q) (.inr (0, n, mm_upd f i x)) g1 g2
      unfold zE at e
      simp only at e
      rw [zArr_i (by decide)] at e
      rw [← e] at hP1
      have q2 := hgo _ _ _ _ _ _ _ _ _ h (hr.world hP1 hS1 (zOK_set hr.2.2.1 g1 g2 ⟨hok.1, hok.2.1, fun _ j => by simp only [mm_upd]; split; exact hxx; exact hok.2.2.1 (Nat.le_of_ble_eq_true rfl) j, fun z => by simp at z⟩) rfl) hrr
      rw [hp] at q2
      exact q2
    · cases h
  · obtain ⟨hd, hp⟩ := zD_spec hF
    split at h
    · rename_i x i r rr
      obtain ⟨hxx, hi, -, hrr⟩ := hw
      obtain ⟨q, rfl, h0⟩ := Option.bind_eq_some_iff.mp h
      clear h
      have h := h0
      clear h0
      obtain ⟨w1, hst, h⟩ := Option.bind_eq_some_iff.mp h
      obtain ⟨n, f, hq, i0, i1, rfl⟩ := mm_st_spec hst
      obtain ⟨g1, g2, hok, hat⟩ := z_get hr hq (z_k99 (Or.inl (by decide)))
      have hat : (zW g w)[q - 3]? = some (zad g q, .inl (g.2.2.2.1 1, n, .inl fun j : Nat => Int32.ofInt (f j))) := by rw [hat]; unfold zE; simp only; rw [zArr_i (by decide)]
      refine va_bast hx hb hK hP hD hS (q - 3) (ztp 1) hat (ztys_at g (Or.inl (by decide))) (ze_in hi i0 i1) hd (fun H1 locs1 hP1 hD1 hS1 => ?_)
      have en : vp_nar .byte (Int32.ofInt x) = Int32.ofInt (mm_i2b x) := by
        show (Int32.ofInt x).toInt8.toInt32 = _
        exact ze_i2b hxx
      rw [en] at hP1
      rw [ze_nat hi i0, z_upd i0] at hP1
      have e := zW_set g w (q := q) (.inr (1, n, mm_upd f i (mm_i2b x))) g1 g2
      unfold zE at e
      simp only at e
      rw [zArr_i (by decide)] at e
      rw [← e] at hP1
      have q2 := hgo _ _ _ _ _ _ _ _ _ h (hr.world hP1 hS1 (zOK_set hr.2.2.1 g1 g2 ⟨hok.1, hok.2.1, fun _ j => by simp only [mm_upd]; split; exact zr_i2b _; exact hok.2.2.1 (Nat.le_of_ble_eq_true rfl) j, fun z => by simp at z⟩) rfl) hrr
      rw [hp] at q2
      exact q2
    · cases h
  · obtain ⟨hd, hp⟩ := zD_spec hF
    split at h
    · rename_i x i r rr
      obtain ⟨hxx, hi, -, hrr⟩ := hw
      obtain ⟨q, rfl, h0⟩ := Option.bind_eq_some_iff.mp h
      clear h
      have h := h0
      clear h0
      split at h
      rotate_left
      · cases h
      rename_i hx01
      obtain ⟨w1, hst, h⟩ := Option.bind_eq_some_iff.mp h
      obtain ⟨n, f, hq, i0, i1, rfl⟩ := mm_st_spec hst
      obtain ⟨g1, g2, hok, hat⟩ := z_get hr hq (z_k99 (Or.inl (by decide)))
      have hat : (zW g w)[q - 3]? = some (zad g q, .inl (g.2.2.2.1 2, n, .inl fun j : Nat => Int32.ofInt (f j))) := by rw [hat]; unfold zE; simp only; rw [zArr_i (by decide)]
      refine va_zast hx hb hK hP hD hS (q - 3) (ztp 2) hat (ztys_at g (Or.inl (by decide))) (ze_in hi i0 i1) hd (fun H1 locs1 hP1 hD1 hS1 => ?_)
      have en : vp_nar .boolean (Int32.ofInt x) = Int32.ofInt x := by
        rcases hx01 with rfl | rfl <;> decide
      rw [en] at hP1
      rw [ze_nat hi i0, z_upd i0] at hP1
      have e := zW_set g w (q := q) (.inr (2, n, mm_upd f i x)) g1 g2
      unfold zE at e
      simp only at e
      rw [zArr_i (by decide)] at e
      rw [← e] at hP1
      have q2 := hgo _ _ _ _ _ _ _ _ _ h (hr.world hP1 hS1 (zOK_set hr.2.2.1 g1 g2 ⟨hok.1, hok.2.1, fun _ j => by simp only [mm_upd]; split; exact hxx; exact hok.2.2.1 (Nat.le_of_ble_eq_true rfl) j, fun z => by simp at z⟩) rfl) hrr
      rw [hp] at q2
      exact q2
    · cases h
  · obtain ⟨hd, hp⟩ := zD_spec hF
    split at h
    · rename_i x i r rr
      obtain ⟨hxx, hi, -, hrr⟩ := hw
      obtain ⟨q, rfl, h0⟩ := Option.bind_eq_some_iff.mp h
      clear h
      have h := h0
      clear h0
      obtain ⟨w1, hst, h⟩ := Option.bind_eq_some_iff.mp h
      obtain ⟨n, f, hq, i0, i1, rfl⟩ := mm_st_spec hst
      obtain ⟨g1, g2, hok, hat⟩ := z_get hr hq (z_k99 (Or.inl (by decide)))
      have hat : (zW g w)[q - 3]? = some (zad g q, .inl (g.2.2.2.1 3, n, .inr (.inl fun j : Nat => Int64.ofInt (f j)))) := by rw [hat]; unfold zE; simp only; rw [zArr_j]
      refine va_last hx hb hK hP hD hS (q - 3) (ztp 3) hat (ztys_at g (Or.inl (by decide))) (ze_in hi i0 i1) hd (fun H1 locs1 hP1 hD1 hS1 => ?_)
      rw [ze_nat hi i0, z_updL i0] at hP1
      have e := zW_set g w (q := q) (.inr (3, n, mm_upd f i x)) g1 g2
      unfold zE at e
      simp only at e
      rw [zArr_j] at e
      rw [← e] at hP1
      have q2 := hgo _ _ _ _ _ _ _ _ _ h (hr.world hP1 hS1 (zOK_set hr.2.2.1 g1 g2 ⟨hok.1, hok.2.1, fun z => by simp at z, fun _ j => by simp only [mm_upd]; split; exact hxx; exact hok.2.2.2 rfl j⟩) rfl) hrr
      rw [hp] at q2
      exact q2
    · cases h
  · obtain ⟨hF, hka⟩ := z_and hF
    obtain ⟨hd, hp⟩ := zD_spec hF
    split at h
    · rename_i x i r rr
      obtain ⟨hxx, hi, -, hrr⟩ := hw
      obtain ⟨q, rfl, h0⟩ := Option.bind_eq_some_iff.mp h
      clear h
      have h := h0
      clear h0
      obtain ⟨y, rfl, h0⟩ := Option.bind_eq_some_iff.mp h
      clear h
      have h := h0
      clear h0
      split at h
      rotate_left
      · cases h
      rename_i hcy
      obtain ⟨w1, hst, h⟩ := Option.bind_eq_some_iff.mp h
      obtain ⟨n, f, hq, i0, i1, rfl⟩ := mm_st_spec hst
      obtain ⟨g1, g2, hok, hat⟩ := z_get hr hq (z_k99 (Or.inr hka))
      have hat : (zW g w)[q - 3]? = some (zad g q, .inl (g.2.2.2.1 a, n, .inr (.inr (.inr (.inr fun j : Nat => if f j < 0 then none else some (zad g (f j).toNat)))))) := by rw [hat]; unfold zE; simp only; rw [zArr_r hka]
      have ha13 : a - 10 < 13 := by
        unfold zAok at hka
        rcases of_decide_eq_true hka with rfl | rfl | rfl <;> decide
      unfold mm_cls at hcy
      split at hcy
      rotate_left
      · unfold zAok at hka
        rcases of_decide_eq_true hka with rfl | rfl | rfl <;> simp at hcy
      rename_i ob hob
      have hci : ob.1 = a - 10 := by omega
      obtain ⟨u1, u2, uok, uat⟩ := z_get hr hob (by intro f' e; cases e)
      unfold zE at uat
      simp only at uat
      rw [hci] at uat
      have hty : zft a = .object (z_cn (a - 10)) := by
        unfold zAok at hka
        rcases of_decide_eq_true hka with rfl | rfl | rfl <;> rfl
      refine va_astq hx hb hK hP hD hS (q - 3) (ztp a) (y - 3) (a - 10) (r := (z_cn (a - 10), zT (a - 10), z_N (a - 10))) hat (by rw [ztys_at g (Or.inr hka), hty]) uat (zcl_at ha13) (ze_in hi i0 i1) hd (fun H1 locs1 hP1 hD1 hS1 => ?_)
      rw [ze_nat hi i0, z_updR i0] at hP1
      have e := zW_set g w (q := q) (.inr (a, n, mm_upd f i y)) g1 g2
      unfold zE at e
      simp only at e
      rw [zArr_r hka] at e
      rw [← e] at hP1
      have q2 := hgo _ _ _ _ _ _ _ _ _ h (hr.world hP1 hS1 (zOK_set hr.2.2.1 g1 g2 ⟨hok.1, hok.2.1, fun z => by
          unfold zAok at hka
          rcases of_decide_eq_true hka with rfl | rfl | rfl <;> simp at z, fun z => by
          unfold zAok at hka
          rcases of_decide_eq_true hka with rfl | rfl | rfl <;> simp at z⟩) rfl) hrr
      rw [hp] at q2
      exact q2
    · cases h
  · obtain ⟨hd, hp⟩ := zD_spec hF
    split at h
    · rename_i r rr
      obtain ⟨-, hrr⟩ := hw
      obtain ⟨q, rfl, h0⟩ := Option.bind_eq_some_iff.mp h
      clear h
      have h := h0
      clear h0
      obtain ⟨x, hld, h⟩ := Option.bind_eq_some_iff.mp h
      unfold mm_ln at hld
      split at hld
      · cases hld
      · rename_i ar har
        split at hld
        rotate_left
        · cases hld
        rename_i h90
        cases hld
        obtain ⟨g1, g2, hok, hat⟩ := z_get hr har (by intro f' e; cases e; simp at h90)
        unfold zE at hat
        simp only at hat
        have hlen : zR32 (ar.2.1 : Int) := ⟨by omega, by have := hok.1; omega⟩
        have q2 := hgo _ _ _ _ _ _ _ _ _ h hr ⟨hlen, hrr⟩
        rw [hp] at q2
        exact va_alen hx hb hK hP (q - 3) (ztp ar.1) hat (ztys_at g hok.2.1) (v := Int32.ofInt ar.2.1) (Int32.ofInt_eq_ofNat (n := ar.2.1)).symm hd q2
    · cases h
  · split at h
    rotate_left
    · cases h
    rename_i n rr
    obtain ⟨hn32, hrr⟩ := hw
    split at h
    · cases h
    rename_i hn
    have hn0 : 0 ≤ n := by omega
    have hn1 : n ≤ 100000 := by omega
    obtain ⟨m1, m2⟩ := hmono _ _ _ _ h
    have m1 : w.2.1 + 1 ≤ rw.2.2.1 := m1
    have m2 : w.2.2 + n.toNat ≤ rw.2.2.2 := m2
    obtain ⟨-, -, hok, -, -, -, hc0, hs0⟩ := id hr
    have hneg : ¬ Int32.ofInt n < 0 := by
      have : ¬ Int32.ofInt n < Int32.ofInt 0 := by rw [ze_lt hn32 (by decide)]; omega
      exact this
    have fin : ∀ (ty : FieldType) (at_ : ArrayType), newarray.typeOf at_ = ty → zft a = ty → a < 4 → zD cc ps pc (.newarray at_) 2 = true → (Cond.arrayClass ty).before args s = true → n.toNat * componentBytes ty ≤ 536870912 → (∀ cA : ClassId, vp_cell cA (zArr (zad g) (a, n.toNat, fun _ => 0)) = arrV cA n.toNat (fun _ => defaultValue ty)) → (∀ cA : ClassId, va_RA s cA ty → cA = g.2.2.2.1 a) → W p l e R s m args below meth c H locs cells slots Q (F0 m (ps.getD pc 0) ls ((.inl n :: rr : List mV).map (cv (zad g)))) := by
      intro ty at_ e1 e2 e3 hD1 harr1 hby hcell hra
      obtain ⟨hd, hp⟩ := zD_spec hD1
      refine va_newa hx hb (by rw [e1]; exact harr1) e1 hK hP hD hS hAl (N' := n.toNat) (a0 := zArr (zad g) (a, n.toNat, fun _ => 0)) hcell hneg (ze_nat hn32 hn0) hby (by omega) (by omega) hd (fun q cA H1 hK1 hP1 hD1 hS1 => z_up (fun hup => ?_))
      have hcA : cA = g.2.2.2.1 a := hra cA (hK1.2 (ztys g).length _ (by rw [List.getElem?_append_right (Nat.le_refl _), Nat.sub_self]; rfl)).2
      have hq := z_new hr hK0 hP1 hD1 hup
      subst hcA
      subst hq
      have e := zW_alloc g w (.inr (a, n.toNat, fun _ => 0)) n.toNat hok.1
      unfold zE at e
      simp only at e
      rw [← e] at hP1
      have q2 := hgo _ _ _ _ H1 locs (cells + 1) (slots + n.toNat) ls h ⟨hP1, hS1, zOK_alloc hok ⟨by show n.toNat ≤ 100000; omega, Or.inl e3, fun _ j => by show zR32 0; decide, fun _ j => by show zR64 0; decide⟩, hr.2.2.2.1, hr.2.2.2.2.1, hr.2.2.2.2.2.1, by show cells + 1 + K0 = w.2.1 + 1; omega, by show slots + n.toNat + S0 = w.2.2 + n.toNat; omega⟩ ⟨trivial, hrr⟩
      rw [hp] at q2
      exact q2
    have ra : ∀ (cA : ClassId) (ty : FieldType) (kd : Nat), (∀ C, ty ≠ .object C) → (ztys g)[ztp kd]? = some (g.2.2.2.1 kd, ty) → va_RA s cA ty → cA = g.2.2.2.1 kd := by
      intro cA ty kd hno h1 h2
      have h3 := (hK.2 _ _ h1).2
      cases ty with
      | object C => exact absurd rfl (hno C)
      | _ => exact Option.some.inj (Eq.trans (Eq.symm h2) h3)
    rcases z_or hF with hF | hF
    · rcases z_or hF with hF | hF
      · rcases z_or hF with hF | hF
        · obtain ⟨hF1, h4⟩ := z_and hF
          have h4 : a = 0 := of_decide_eq_true h4
          subst h4
          exact fin .int .int rfl rfl (by decide) hF1 (harr _ (by simp)) (by simp only [componentBytes]; omega) (fun cA => rfl) (fun cA z => ra cA _ 0 (fun C z => by cases z) rfl z)
        · obtain ⟨hF1, h4⟩ := z_and hF
          have h4 : a = 1 := of_decide_eq_true h4
          subst h4
          exact fin .byte .byte rfl rfl (by decide) hF1 (harr _ (by simp)) (by simp only [componentBytes]; omega) (fun cA => rfl) (fun cA z => ra cA _ 1 (fun C z => by cases z) rfl z)
      · obtain ⟨hF1, h4⟩ := z_and hF
        have h4 : a = 2 := of_decide_eq_true h4
        subst h4
        exact fin .boolean .boolean rfl rfl (by decide) hF1 (harr _ (by simp)) (by simp only [componentBytes]; omega) (fun cA => rfl) (fun cA z => ra cA _ 2 (fun C z => by cases z) rfl z)
    · obtain ⟨hF1, h4⟩ := z_and hF
      have h4 : a = 3 := of_decide_eq_true h4
      subst h4
      exact fin .long .long rfl rfl (by decide) hF1 (harr _ (by simp)) (by simp only [componentBytes]; omega) (fun cA => rfl) (fun cA z => ra cA _ 3 (fun C z => by cases z) rfl z)
  · obtain ⟨hF, h5⟩ := z_and hF
    obtain ⟨hF, hka⟩ := z_and hF
    obtain ⟨hd, hp⟩ := zD_spec hF
    split at h
    rotate_left
    · cases h
    rename_i n rr
    obtain ⟨hn32, hrr⟩ := hw
    split at h
    · cases h
    rename_i hn
    have hn0 : 0 ≤ n := by omega
    have hn1 : n ≤ 100000 := by omega
    obtain ⟨m1, m2⟩ := hmono _ _ _ _ h
    have m1 : w.2.1 + 1 ≤ rw.2.2.1 := m1
    have m2 : w.2.2 + n.toNat ≤ rw.2.2.2 := m2
    obtain ⟨-, -, hok, -, -, -, hc0, hs0⟩ := id hr
    have hneg : ¬ Int32.ofInt n < 0 := by
      have : ¬ Int32.ofInt n < Int32.ofInt 0 := by rw [ze_lt hn32 (by decide)]; omega
      exact this
    have hty : zft a = .object (z_cn (a - 10)) := by
      unfold zAok at hka
      rcases of_decide_eq_true hka with rfl | rfl | rfl <;> rfl
    refine va_newq hx hb hown (hts _ (z_el (f := fun e : Nat × Nat × Nat => (.classLink (z_cn e.1) e.2.1 (z_cn (e.2.2 - 10)) : Cond)) zw_anews (List.elem_iff.mp h5))) (hao a hka) hK hP hD hS hAl hneg (ze_nat hn32 hn0) (by omega) (by omega) (by omega) hd (fun q cA H1 hK1 hP1 hD1 hS1 => z_up (fun hup => ?_))
    have h1 := (hK1.2 (ztys g).length _ (by rw [List.getElem?_append_right (Nat.le_refl _), Nat.sub_self]; rfl)).2
    have h2 := (hK.2 _ _ (ztys_at g (Or.inr hka))).2
    simp only [hty] at h2
    obtain ⟨kA, comp, -, -, -, f1⟩ := h1
    obtain ⟨kA2, comp2, -, -, -, f2⟩ := h2
    have hcA : cA = g.2.2.2.1 a := Option.some.inj (f1.symm.trans f2)
    have hq := z_new hr hK0 hP1 hD1 hup
    subst hcA
    subst hq
    have e := zW_alloc g w (.inr (a, n.toNat, fun _ => -1)) n.toNat hok.1
    unfold zE at e
    simp only at e
    rw [zArr_r hka] at e
    simp only [show ((-1 : Int) < 0) = True by decide, if_true] at e
    rw [← e] at hP1
    have q2 := hgo _ _ _ _ H1 locs (cells + 1) (slots + n.toNat) ls h ⟨hP1, hS1, zOK_alloc hok ⟨by show n.toNat ≤ 100000; omega, Or.inr hka, fun _ j => by show zR32 (-1); decide, fun _ j => by show zR64 (-1); decide⟩, hr.2.2.2.1, hr.2.2.2.2.1, hr.2.2.2.2.2.1, by show cells + 1 + K0 = w.2.1 + 1; omega, by show slots + n.toNat + S0 = w.2.2 + n.toNat; omega⟩ ⟨trivial, hrr⟩
    rw [hp] at q2
    exact q2
  · cases h
end ZP5
