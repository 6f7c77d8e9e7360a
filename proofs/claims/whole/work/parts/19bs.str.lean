/-! the texts: length(), charAt(k) -/
section ZPS
variable {p : Program} {l : Launch} {e : Env} {R : Room} {s : State} {m : MethodId} {args : Array Value} {below : List Frame} {meth : Method} {c : Code} {Q : State → Prop}
variable {H : Heap} {locs : List Loc} {cells slots : Nat} {ls : Array Slot} {g : zG} {rw : mR × mW} {nL : Nat} {lc : mL} {w : mW} {y : Nat}
variable {K0 S0 : Nat}
theorem z_slen (hfr : zFr l g y p R s m args meth c K0 S0) (hr : zRel g s (z_ml y) K0 S0 w H locs cells slots lc ls) (hR : rw.2.2.1 ≤ R.cells + K0 ∧ rw.2.2.2 ≤ R.slots + S0) {a q pcb : Nat} {rest : List mV} (hm : (z_oc y, a, 0) ∈ z_strm) (hq : q < 2) (hwt : mm_wt rest ≤ 8) (hroom : 2 ≤ z_fr y ∧ 40 ≤ z_lo y) (hd : decode (z_by y) pcb = .ok (.invokevirtual a, 3)) (hle : w.2.1 ≤ rw.2.2.1 ∧ w.2.2 ≤ rw.2.2.2)
    (kk : ∀ (H1 : Heap) (locs1 : List Loc), zRel g s (z_ml y) K0 S0 w H1 locs1 cells slots lc ls → W p l e R s m args below meth c H1 locs1 cells slots Q (F0 m (pcb + 3) ls (.int (Int32.ofInt (z_strs q).length) :: rest.map (cv (zad g))))) : W p l e R s m args below meth c H locs cells slots Q (F0 m pcb ls (.ref (zad g q) :: rest.map (cv (zad g)))) := by
  sorry
theorem z_schr (hfr : zFr l g y p R s m args meth c K0 S0) (hr : zRel g s (z_ml y) K0 S0 w H locs cells slots lc ls) (hR : rw.2.2.1 ≤ R.cells + K0 ∧ rw.2.2.2 ≤ R.slots + S0) {a q pcb : Nat} {i : Int} {rest : List mV} (hm : (z_oc y, a, 1) ∈ z_strm) (hq : q < 2) (hi : zR32 i) (i0 : 0 ≤ i) (i1 : i < (z_strs q).length) (hwt : mm_wt rest ≤ 8) (hroom : 4 ≤ z_fr y ∧ 85 ≤ z_lo y) (hd : decode (z_by y) pcb = .ok (.invokevirtual a, 3)) (hle : w.2.1 ≤ rw.2.2.1 ∧ w.2.2 ≤ rw.2.2.2)
    (kk : ∀ (H1 : Heap) (locs1 : List Loc), zRel g s (z_ml y) K0 S0 w H1 locs1 cells slots lc ls → W p l e R s m args below meth c H1 locs1 cells slots Q (F0 m (pcb + 3) ls (.int (Int32.ofInt ((z_strs q).getD i.toNat 0)) :: rest.map (cv (zad g))))) : W p l e R s m args below meth c H locs cells slots Q (F0 m pcb ls (.int (Int32.ofInt i) :: .ref (zad g q) :: rest.map (cv (zad g)))) := by
  sorry
end ZPS
