/-! printed by wip/whole/gen/emit.py: each method of the mini machine up to its labels -/
-- ThornSchoolLaw.law([I)Z
set_option maxRecDepth 100000 in
theorem B_L_law (Z : mX) (a0 : Option Nat) (w : mW) : mm_run (zP Z) 365 [.inr (.inr a0)] w =
  if mm_cls (mm_alloc w (.inl (11, z_defs 11)) 18) w.2.1 = 11 then
   (mm_kV (mm_run (zP Z) 135 [.inr (.inr (some w.2.1))] (mm_alloc w (.inl (11, z_defs 11)) 18)) fun w1 =>
  if mm_cls (mm_alloc w1 (.inl (12, z_defs 12)) 39) w1.2.1 = 12 then
   (mm_kV (mm_run (zP Z) 210 [.inr (.inr (some w1.2.1))] (mm_alloc w1 (.inl (12, z_defs 12)) 39)) fun w2 =>
  mm_at (zP Z) 365 10 [some (.inr (.inr a0)), some (.inr (.inr (some w.2.1))), some (.inr (.inr (some w1.2.1))), some (.inl 0)] [] w2)
  else none)
  else none :=
  (mm_run_eq (P := zP Z) (y := 365) z_cd365 (l := [some (.inr (.inr a0)), none, none, none]) rfl [10, 650, 671] 11 w).trans rfl

set_option maxRecDepth 100000 in
theorem B_L_law_10 (Z : mX) (l0 : Option Nat) (l1 : Option Nat) (l2 : Option Nat) (l3 : Int) (w : mW) : mm_at (zP Z) 365 10 [some (.inr (.inr l0)), some (.inr (.inr l1)), some (.inr (.inr l2)), some (.inl l3)] [] w =
  if mm_w32 (Z.2 - 6) < l3 then
   some (some (.inl 1), w)
  else
   if 0 ≤ l3 ∧ l3 < Z.2 then
    (if mm_iand (Z.1 l3) 63 = 0 then
    l1.bind fun q1 =>
    if mm_cls w q1 = 11 then
     (mm_kI (mm_run (zP Z) 136 [.inr (.inr (some q1))] w) fun x3 w2 =>
    l2.bind fun q4 =>
    if mm_cls w2 q4 = 12 then
     (mm_kI (mm_run (zP Z) 212 [.inr (.inr (some q4))] w2) fun x6 w5 =>
    if x3 = x6 then
     mm_at (zP Z) 365 10 [some (.inr (.inr l0)), some (.inr (.inr l1)), some (.inr (.inr l2)), some (.inl (mm_w32 (l3 + 6)))] [] w5
    else
     some (some (.inl 0), w5))
    else none)
    else none
   else if mm_iand (Z.1 l3) 63 = 1 then
    l1.bind fun q7 =>
    if mm_cls w q7 = 11 then
     (mm_kJ (mm_run (zP Z) 137 [.inr (.inr (some q7))] w) fun x9 w8 =>
    l2.bind fun q10 =>
    if mm_cls w8 q10 = 12 then
     (mm_kJ (mm_run (zP Z) 213 [.inr (.inr (some q10))] w8) fun x12 w11 =>
    if mm_lcmp x9 x12 = 0 then
     mm_at (zP Z) 365 10 [some (.inr (.inr l0)), some (.inr (.inr l1)), some (.inr (.inr l2)), some (.inl (mm_w32 (l3 + 6)))] [] w11
    else
     some (some (.inl 0), w11))
    else none)
    else none
   else if mm_iand (Z.1 l3) 63 = 2 then
    l1.bind fun q13 =>
    if mm_cls w q13 = 11 then
     (mm_kJ (mm_run (zP Z) 138 [.inr (.inr (some q13))] w) fun x15 w14 =>
    l2.bind fun q16 =>
    if mm_cls w14 q16 = 12 then
     (mm_kJ (mm_run (zP Z) 214 [.inr (.inr (some q16))] w14) fun x18 w17 =>
    if mm_lcmp x15 x18 = 0 then
     mm_at (zP Z) 365 10 [some (.inr (.inr l0)), some (.inr (.inr l1)), some (.inr (.inr l2)), some (.inl (mm_w32 (l3 + 6)))] [] w17
    else
     some (some (.inl 0), w17))
    else none)
    else none
   else if mm_iand (Z.1 l3) 63 = 3 then
    if 0 ≤ mm_w32 (l3 + 1) ∧ mm_w32 (l3 + 1) < Z.2 then
     (if 0 ≤ mm_w32 (l3 + 2) ∧ mm_w32 (l3 + 2) < Z.2 then
     (if 0 ≤ mm_w32 (l3 + 3) ∧ mm_w32 (l3 + 3) < Z.2 then
     (l1.bind fun q19 =>
    if mm_cls w q19 = 11 then
     (mm_kI (mm_run (zP Z) 139 [.inr (.inr (some q19)), .inl (Z.1 (mm_w32 (l3 + 1))), .inl (Z.1 (mm_w32 (l3 + 2))), .inl (Z.1 (mm_w32 (l3 + 3)))] w) fun x21 w20 =>
    if 0 ≤ mm_w32 (l3 + 1) ∧ mm_w32 (l3 + 1) < Z.2 then
     (if 0 ≤ mm_w32 (l3 + 2) ∧ mm_w32 (l3 + 2) < Z.2 then
     (if 0 ≤ mm_w32 (l3 + 3) ∧ mm_w32 (l3 + 3) < Z.2 then
     (l2.bind fun q22 =>
    if mm_cls w20 q22 = 12 then
     (mm_kI (mm_run (zP Z) 222 [.inr (.inr (some q22)), .inl (Z.1 (mm_w32 (l3 + 1))), .inl (Z.1 (mm_w32 (l3 + 2))), .inl (Z.1 (mm_w32 (l3 + 3)))] w20) fun x24 w23 =>
    if x21 = x24 then
     mm_at (zP Z) 365 10 [some (.inr (.inr l0)), some (.inr (.inr l1)), some (.inr (.inr l2)), some (.inl (mm_w32 (l3 + 6)))] [] w23
    else
     some (some (.inl 0), w23))
    else none)
    else none)
    else none)
    else none)
    else none)
    else none)
    else none)
    else none
   else if mm_iand (Z.1 l3) 63 = 4 then
    if 0 ≤ mm_w32 (l3 + 1) ∧ mm_w32 (l3 + 1) < Z.2 then
     (if 0 ≤ mm_w32 (l3 + 2) ∧ mm_w32 (l3 + 2) < Z.2 then
     (if 0 ≤ mm_w32 (l3 + 3) ∧ mm_w32 (l3 + 3) < Z.2 then
     (if 0 ≤ mm_w32 (l3 + 4) ∧ mm_w32 (l3 + 4) < Z.2 then
     (l1.bind fun q25 =>
    if mm_cls w q25 = 11 then
     (mm_kI (mm_run (zP Z) 140 [.inr (.inr (some q25)), .inl (Z.1 (mm_w32 (l3 + 1))), .inl (Z.1 (mm_w32 (l3 + 2))), .inr (.inl (mm_lor (mm_lshl (Z.1 (mm_w32 (l3 + 3))) 32) (mm_land (Z.1 (mm_w32 (l3 + 4))) 4294967295)))] w) fun x27 w26 =>
    if 0 ≤ mm_w32 (l3 + 1) ∧ mm_w32 (l3 + 1) < Z.2 then
     (if 0 ≤ mm_w32 (l3 + 2) ∧ mm_w32 (l3 + 2) < Z.2 then
     (if 0 ≤ mm_w32 (l3 + 3) ∧ mm_w32 (l3 + 3) < Z.2 then
     (if 0 ≤ mm_w32 (l3 + 4) ∧ mm_w32 (l3 + 4) < Z.2 then
     (l2.bind fun q28 =>
    if mm_cls w26 q28 = 12 then
     (mm_kI (mm_run (zP Z) 224 [.inr (.inr (some q28)), .inl (Z.1 (mm_w32 (l3 + 1))), .inl (Z.1 (mm_w32 (l3 + 2))), .inr (.inl (mm_lor (mm_lshl (Z.1 (mm_w32 (l3 + 3))) 32) (mm_land (Z.1 (mm_w32 (l3 + 4))) 4294967295)))] w26) fun x30 w29 =>
    if x27 = x30 then
     mm_at (zP Z) 365 10 [some (.inr (.inr l0)), some (.inr (.inr l1)), some (.inr (.inr l2)), some (.inl (mm_w32 (l3 + 6)))] [] w29
    else
     some (some (.inl 0), w29))
    else none)
    else none)
    else none)
    else none)
    else none)
    else none)
    else none)
    else none)
    else none)
    else none
   else if mm_iand (Z.1 l3) 63 = 5 then
    if 0 ≤ mm_w32 (l3 + 1) ∧ mm_w32 (l3 + 1) < Z.2 then
     (if 0 ≤ mm_w32 (l3 + 2) ∧ mm_w32 (l3 + 2) < Z.2 then
     (l1.bind fun q31 =>
    if mm_cls w q31 = 11 then
     (mm_kJ (mm_run (zP Z) 141 [.inr (.inr (some q31)), .inl (Z.1 (mm_w32 (l3 + 1))), .inl (Z.1 (mm_w32 (l3 + 2)))] w) fun x33 w32 =>
    if 0 ≤ mm_w32 (l3 + 1) ∧ mm_w32 (l3 + 1) < Z.2 then
     (if 0 ≤ mm_w32 (l3 + 2) ∧ mm_w32 (l3 + 2) < Z.2 then
     (l2.bind fun q34 =>
    if mm_cls w32 q34 = 12 then
     (mm_kJ (mm_run (zP Z) 225 [.inr (.inr (some q34)), .inl (Z.1 (mm_w32 (l3 + 1))), .inl (Z.1 (mm_w32 (l3 + 2)))] w32) fun x36 w35 =>
    if mm_lcmp x33 x36 = 0 then
     mm_at (zP Z) 365 10 [some (.inr (.inr l0)), some (.inr (.inr l1)), some (.inr (.inr l2)), some (.inl (mm_w32 (l3 + 6)))] [] w35
    else
     some (some (.inl 0), w35))
    else none)
    else none)
    else none)
    else none)
    else none)
    else none
   else if mm_iand (Z.1 l3) 63 = 6 then
    if 0 ≤ mm_w32 (l3 + 1) ∧ mm_w32 (l3 + 1) < Z.2 then
     (if 0 ≤ mm_w32 (l3 + 2) ∧ mm_w32 (l3 + 2) < Z.2 then
     (if 0 ≤ mm_w32 (l3 + 3) ∧ mm_w32 (l3 + 3) < Z.2 then
     (if 0 ≤ mm_w32 (l3 + 4) ∧ mm_w32 (l3 + 4) < Z.2 then
     (if 0 ≤ mm_w32 (l3 + 5) ∧ mm_w32 (l3 + 5) < Z.2 then
     (l1.bind fun q37 =>
    if mm_cls w q37 = 11 then
     (mm_kI (mm_run (zP Z) 142 [.inr (.inr (some q37)), .inl (Z.1 (mm_w32 (l3 + 1))), .inl (Z.1 (mm_w32 (l3 + 2))), .inl (Z.1 (mm_w32 (l3 + 3))), .inl (Z.1 (mm_w32 (l3 + 4))), .inl (Z.1 (mm_w32 (l3 + 5)))] w) fun x39 w38 =>
    if 0 ≤ mm_w32 (l3 + 1) ∧ mm_w32 (l3 + 1) < Z.2 then
     (if 0 ≤ mm_w32 (l3 + 2) ∧ mm_w32 (l3 + 2) < Z.2 then
     (if 0 ≤ mm_w32 (l3 + 3) ∧ mm_w32 (l3 + 3) < Z.2 then
     (if 0 ≤ mm_w32 (l3 + 4) ∧ mm_w32 (l3 + 4) < Z.2 then
     (if 0 ≤ mm_w32 (l3 + 5) ∧ mm_w32 (l3 + 5) < Z.2 then
     (l2.bind fun q40 =>
    if mm_cls w38 q40 = 12 then
     (mm_kI (mm_run (zP Z) 226 [.inr (.inr (some q40)), .inl (Z.1 (mm_w32 (l3 + 1))), .inl (Z.1 (mm_w32 (l3 + 2))), .inl (Z.1 (mm_w32 (l3 + 3))), .inl (Z.1 (mm_w32 (l3 + 4))), .inl (Z.1 (mm_w32 (l3 + 5)))] w38) fun x42 w41 =>
    if x39 = x42 then
     mm_at (zP Z) 365 10 [some (.inr (.inr l0)), some (.inr (.inr l1)), some (.inr (.inr l2)), some (.inl (mm_w32 (l3 + 6)))] [] w41
    else
     some (some (.inl 0), w41))
    else none)
    else none)
    else none)
    else none)
    else none)
    else none)
    else none)
    else none)
    else none)
    else none)
    else none)
    else none
   else if mm_iand (Z.1 l3) 63 = 7 then
    if 0 ≤ mm_w32 (l3 + 1) ∧ mm_w32 (l3 + 1) < Z.2 then
     (if 0 ≤ mm_w32 (l3 + 2) ∧ mm_w32 (l3 + 2) < Z.2 then
     (if 0 ≤ mm_w32 (l3 + 3) ∧ mm_w32 (l3 + 3) < Z.2 then
     (if 0 ≤ mm_w32 (l3 + 4) ∧ mm_w32 (l3 + 4) < Z.2 then
     (if 0 ≤ mm_w32 (l3 + 5) ∧ mm_w32 (l3 + 5) < Z.2 then
     (l1.bind fun q43 =>
    if mm_cls w q43 = 11 then
     (mm_kI (mm_run (zP Z) 143 [.inr (.inr (some q43)), .inl (Z.1 (mm_w32 (l3 + 1))), .inl (Z.1 (mm_w32 (l3 + 2))), .inl (Z.1 (mm_w32 (l3 + 3))), .inl (Z.1 (mm_w32 (l3 + 4))), .inl (Z.1 (mm_w32 (l3 + 5)))] w) fun x45 w44 =>
    if 0 ≤ mm_w32 (l3 + 1) ∧ mm_w32 (l3 + 1) < Z.2 then
     (if 0 ≤ mm_w32 (l3 + 2) ∧ mm_w32 (l3 + 2) < Z.2 then
     (if 0 ≤ mm_w32 (l3 + 3) ∧ mm_w32 (l3 + 3) < Z.2 then
     (if 0 ≤ mm_w32 (l3 + 4) ∧ mm_w32 (l3 + 4) < Z.2 then
     (if 0 ≤ mm_w32 (l3 + 5) ∧ mm_w32 (l3 + 5) < Z.2 then
     (l2.bind fun q46 =>
    if mm_cls w44 q46 = 12 then
     (mm_kI (mm_run (zP Z) 228 [.inr (.inr (some q46)), .inl (Z.1 (mm_w32 (l3 + 1))), .inl (Z.1 (mm_w32 (l3 + 2))), .inl (Z.1 (mm_w32 (l3 + 3))), .inl (Z.1 (mm_w32 (l3 + 4))), .inl (Z.1 (mm_w32 (l3 + 5)))] w44) fun x48 w47 =>
    if x45 = x48 then
     mm_at (zP Z) 365 10 [some (.inr (.inr l0)), some (.inr (.inr l1)), some (.inr (.inr l2)), some (.inl (mm_w32 (l3 + 6)))] [] w47
    else
     some (some (.inl 0), w47))
    else none)
    else none)
    else none)
    else none)
    else none)
    else none)
    else none)
    else none)
    else none)
    else none)
    else none)
    else none
   else if mm_iand (Z.1 l3) 63 = 8 then
    if 0 ≤ mm_w32 (l3 + 1) ∧ mm_w32 (l3 + 1) < Z.2 then
     (l1.bind fun q49 =>
    if mm_cls w q49 = 11 then
     (mm_kI (mm_run (zP Z) 144 [.inr (.inr (some q49)), .inl (Z.1 (mm_w32 (l3 + 1)))] w) fun x51 w50 =>
    if 0 ≤ mm_w32 (l3 + 1) ∧ mm_w32 (l3 + 1) < Z.2 then
     (l2.bind fun q52 =>
    if mm_cls w50 q52 = 12 then
     (mm_kI (mm_run (zP Z) 262 [.inr (.inr (some q52)), .inl (Z.1 (mm_w32 (l3 + 1)))] w50) fun x54 w53 =>
    if x51 = x54 then
     mm_at (zP Z) 365 10 [some (.inr (.inr l0)), some (.inr (.inr l1)), some (.inr (.inr l2)), some (.inl (mm_w32 (l3 + 6)))] [] w53
    else
     some (some (.inl 0), w53))
    else none)
    else none)
    else none)
    else none
   else if mm_iand (Z.1 l3) 63 = 9 then
    if 0 ≤ mm_w32 (l3 + 1) ∧ mm_w32 (l3 + 1) < Z.2 then
     (l1.bind fun q55 =>
    if mm_cls w q55 = 11 then
     (mm_kI (mm_run (zP Z) 145 [.inr (.inr (some q55)), .inl (Z.1 (mm_w32 (l3 + 1)))] w) fun x57 w56 =>
    if 0 ≤ mm_w32 (l3 + 1) ∧ mm_w32 (l3 + 1) < Z.2 then
     (l2.bind fun q58 =>
    if mm_cls w56 q58 = 12 then
     (mm_kI (mm_run (zP Z) 269 [.inr (.inr (some q58)), .inl (Z.1 (mm_w32 (l3 + 1)))] w56) fun x60 w59 =>
    if x57 = x60 then
     mm_at (zP Z) 365 10 [some (.inr (.inr l0)), some (.inr (.inr l1)), some (.inr (.inr l2)), some (.inl (mm_w32 (l3 + 6)))] [] w59
    else
     some (some (.inl 0), w59))
    else none)
    else none)
    else none)
    else none
   else if mm_iand (Z.1 l3) 63 = 10 then
    if 0 ≤ mm_w32 (l3 + 1) ∧ mm_w32 (l3 + 1) < Z.2 then
     (l1.bind fun q61 =>
    if mm_cls w q61 = 11 then
     (mm_kI (mm_run (zP Z) 146 [.inr (.inr (some q61)), .inl (Z.1 (mm_w32 (l3 + 1)))] w) fun x63 w62 =>
    if 0 ≤ mm_w32 (l3 + 1) ∧ mm_w32 (l3 + 1) < Z.2 then
     (l2.bind fun q64 =>
    if mm_cls w62 q64 = 12 then
     (mm_kI (mm_run (zP Z) 244 [.inr (.inr (some q64)), .inl (Z.1 (mm_w32 (l3 + 1)))] w62) fun x66 w65 =>
    if x63 = x66 then
     mm_at (zP Z) 365 10 [some (.inr (.inr l0)), some (.inr (.inr l1)), some (.inr (.inr l2)), some (.inl (mm_w32 (l3 + 6)))] [] w65
    else
     some (some (.inl 0), w65))
    else none)
    else none)
    else none)
    else none
   else if mm_iand (Z.1 l3) 63 = 11 then
    if 0 ≤ mm_w32 (l3 + 1) ∧ mm_w32 (l3 + 1) < Z.2 then
     (l1.bind fun q67 =>
    if mm_cls w q67 = 11 then
     (mm_kI (mm_run (zP Z) 147 [.inr (.inr (some q67)), .inl (Z.1 (mm_w32 (l3 + 1)))] w) fun x69 w68 =>
    if 0 ≤ mm_w32 (l3 + 1) ∧ mm_w32 (l3 + 1) < Z.2 then
     (l2.bind fun q70 =>
    if mm_cls w68 q70 = 12 then
     (mm_kI (mm_run (zP Z) 282 [.inr (.inr (some q70)), .inl (Z.1 (mm_w32 (l3 + 1)))] w68) fun x72 w71 =>
    if x69 = x72 then
     mm_at (zP Z) 365 10 [some (.inr (.inr l0)), some (.inr (.inr l1)), some (.inr (.inr l2)), some (.inl (mm_w32 (l3 + 6)))] [] w71
    else
     some (some (.inl 0), w71))
    else none)
    else none)
    else none)
    else none
   else if mm_iand (Z.1 l3) 63 = 12 then
    if 0 ≤ mm_w32 (l3 + 1) ∧ mm_w32 (l3 + 1) < Z.2 then
     (if 0 ≤ mm_w32 (l3 + 2) ∧ mm_w32 (l3 + 2) < Z.2 then
     (l1.bind fun q73 =>
    if mm_cls w q73 = 11 then
     (mm_kI (mm_run (zP Z) 148 [.inr (.inr (some q73)), .inl (Z.1 (mm_w32 (l3 + 1))), .inl (Z.1 (mm_w32 (l3 + 2)))] w) fun x75 w74 =>
    if 0 ≤ mm_w32 (l3 + 1) ∧ mm_w32 (l3 + 1) < Z.2 then
     (if 0 ≤ mm_w32 (l3 + 2) ∧ mm_w32 (l3 + 2) < Z.2 then
     (l2.bind fun q76 =>
    if mm_cls w74 q76 = 12 then
     (mm_kI (mm_run (zP Z) 284 [.inr (.inr (some q76)), .inl (Z.1 (mm_w32 (l3 + 1))), .inl (Z.1 (mm_w32 (l3 + 2)))] w74) fun x78 w77 =>
    if x75 = x78 then
     mm_at (zP Z) 365 10 [some (.inr (.inr l0)), some (.inr (.inr l1)), some (.inr (.inr l2)), some (.inl (mm_w32 (l3 + 6)))] [] w77
    else
     some (some (.inl 0), w77))
    else none)
    else none)
    else none)
    else none)
    else none)
    else none
   else if mm_iand (Z.1 l3) 63 = 13 then
    if 0 ≤ mm_w32 (l3 + 1) ∧ mm_w32 (l3 + 1) < Z.2 then
     (if 0 ≤ mm_w32 (l3 + 2) ∧ mm_w32 (l3 + 2) < Z.2 then
     (l1.bind fun q79 =>
    if mm_cls w q79 = 11 then
     (mm_kI (mm_run (zP Z) 149 [.inr (.inr (some q79)), .inl (Z.1 (mm_w32 (l3 + 1))), .inl (Z.1 (mm_w32 (l3 + 2)))] w) fun x81 w80 =>
    if 0 ≤ mm_w32 (l3 + 1) ∧ mm_w32 (l3 + 1) < Z.2 then
     (if 0 ≤ mm_w32 (l3 + 2) ∧ mm_w32 (l3 + 2) < Z.2 then
     (l2.bind fun q82 =>
    if mm_cls w80 q82 = 12 then
     (mm_kI (mm_run (zP Z) 285 [.inr (.inr (some q82)), .inl (Z.1 (mm_w32 (l3 + 1))), .inl (Z.1 (mm_w32 (l3 + 2)))] w80) fun x84 w83 =>
    if x81 = x84 then
     mm_at (zP Z) 365 10 [some (.inr (.inr l0)), some (.inr (.inr l1)), some (.inr (.inr l2)), some (.inl (mm_w32 (l3 + 6)))] [] w83
    else
     some (some (.inl 0), w83))
    else none)
    else none)
    else none)
    else none)
    else none)
    else none
   else if mm_iand (Z.1 l3) 63 = 14 then
    if 0 ≤ mm_w32 (l3 + 1) ∧ mm_w32 (l3 + 1) < Z.2 then
     (if 0 ≤ mm_w32 (l3 + 2) ∧ mm_w32 (l3 + 2) < Z.2 then
     (l1.bind fun q85 =>
    if mm_cls w q85 = 11 then
     (mm_kI (mm_run (zP Z) 150 [.inr (.inr (some q85)), .inl (Z.1 (mm_w32 (l3 + 1))), .inl (Z.1 (mm_w32 (l3 + 2)))] w) fun x87 w86 =>
    if 0 ≤ mm_w32 (l3 + 1) ∧ mm_w32 (l3 + 1) < Z.2 then
     (if 0 ≤ mm_w32 (l3 + 2) ∧ mm_w32 (l3 + 2) < Z.2 then
     (l2.bind fun q88 =>
    if mm_cls w86 q88 = 12 then
     (mm_kI (mm_run (zP Z) 286 [.inr (.inr (some q88)), .inl (Z.1 (mm_w32 (l3 + 1))), .inl (Z.1 (mm_w32 (l3 + 2)))] w86) fun x90 w89 =>
    if x87 = x90 then
     mm_at (zP Z) 365 10 [some (.inr (.inr l0)), some (.inr (.inr l1)), some (.inr (.inr l2)), some (.inl (mm_w32 (l3 + 6)))] [] w89
    else
     some (some (.inl 0), w89))
    else none)
    else none)
    else none)
    else none)
    else none)
    else none
   else if mm_iand (Z.1 l3) 63 = 15 then
    if 0 ≤ mm_w32 (l3 + 1) ∧ mm_w32 (l3 + 1) < Z.2 then
     (if 0 ≤ mm_w32 (l3 + 2) ∧ mm_w32 (l3 + 2) < Z.2 then
     (l1.bind fun q91 =>
    if mm_cls w q91 = 11 then
     (mm_kI (mm_run (zP Z) 151 [.inr (.inr (some q91)), .inl (Z.1 (mm_w32 (l3 + 1))), .inl (Z.1 (mm_w32 (l3 + 2)))] w) fun x93 w92 =>
    if 0 ≤ mm_w32 (l3 + 1) ∧ mm_w32 (l3 + 1) < Z.2 then
     (if 0 ≤ mm_w32 (l3 + 2) ∧ mm_w32 (l3 + 2) < Z.2 then
     (l2.bind fun q94 =>
    if mm_cls w92 q94 = 12 then
     (mm_kI (mm_run (zP Z) 287 [.inr (.inr (some q94)), .inl (Z.1 (mm_w32 (l3 + 1))), .inl (Z.1 (mm_w32 (l3 + 2)))] w92) fun x96 w95 =>
    if x93 = x96 then
     mm_at (zP Z) 365 10 [some (.inr (.inr l0)), some (.inr (.inr l1)), some (.inr (.inr l2)), some (.inl (mm_w32 (l3 + 6)))] [] w95
    else
     some (some (.inl 0), w95))
    else none)
    else none)
    else none)
    else none)
    else none)
    else none
   else if mm_iand (Z.1 l3) 63 = 16 then
    if 0 ≤ mm_w32 (l3 + 1) ∧ mm_w32 (l3 + 1) < Z.2 then
     (if 0 ≤ mm_w32 (l3 + 2) ∧ mm_w32 (l3 + 2) < Z.2 then
     (l1.bind fun q97 =>
    if mm_cls w q97 = 11 then
     (mm_kI (mm_run (zP Z) 152 [.inr (.inr (some q97)), .inl (Z.1 (mm_w32 (l3 + 1))), .inl (Z.1 (mm_w32 (l3 + 2)))] w) fun x99 w98 =>
    if 0 ≤ mm_w32 (l3 + 1) ∧ mm_w32 (l3 + 1) < Z.2 then
     (if 0 ≤ mm_w32 (l3 + 2) ∧ mm_w32 (l3 + 2) < Z.2 then
     (l2.bind fun q100 =>
    if mm_cls w98 q100 = 12 then
     (mm_kI (mm_run (zP Z) 291 [.inr (.inr (some q100)), .inl (Z.1 (mm_w32 (l3 + 1))), .inl (Z.1 (mm_w32 (l3 + 2)))] w98) fun x102 w101 =>
    if x99 = x102 then
     mm_at (zP Z) 365 10 [some (.inr (.inr l0)), some (.inr (.inr l1)), some (.inr (.inr l2)), some (.inl (mm_w32 (l3 + 6)))] [] w101
    else
     some (some (.inl 0), w101))
    else none)
    else none)
    else none)
    else none)
    else none)
    else none
   else if mm_iand (Z.1 l3) 63 = 17 then
    if 0 ≤ mm_w32 (l3 + 1) ∧ mm_w32 (l3 + 1) < Z.2 then
     (if 0 ≤ mm_w32 (l3 + 2) ∧ mm_w32 (l3 + 2) < Z.2 then
     (l1.bind fun q103 =>
    if mm_cls w q103 = 11 then
     (mm_kI (mm_run (zP Z) 153 [.inr (.inr (some q103)), .inl (Z.1 (mm_w32 (l3 + 1))), .inl (Z.1 (mm_w32 (l3 + 2)))] w) fun x105 w104 =>
    if 0 ≤ mm_w32 (l3 + 1) ∧ mm_w32 (l3 + 1) < Z.2 then
     (if 0 ≤ mm_w32 (l3 + 2) ∧ mm_w32 (l3 + 2) < Z.2 then
     (l2.bind fun q106 =>
    if mm_cls w104 q106 = 12 then
     (mm_kI (mm_run (zP Z) 295 [.inr (.inr (some q106)), .inl (Z.1 (mm_w32 (l3 + 1))), .inl (Z.1 (mm_w32 (l3 + 2)))] w104) fun x108 w107 =>
    if x105 = x108 then
     mm_at (zP Z) 365 10 [some (.inr (.inr l0)), some (.inr (.inr l1)), some (.inr (.inr l2)), some (.inl (mm_w32 (l3 + 6)))] [] w107
    else
     some (some (.inl 0), w107))
    else none)
    else none)
    else none)
    else none)
    else none)
    else none
   else if mm_iand (Z.1 l3) 63 = 18 then
    if 0 ≤ mm_w32 (l3 + 1) ∧ mm_w32 (l3 + 1) < Z.2 then
     (l1.bind fun q109 =>
    if mm_cls w q109 = 11 then
     (mm_kI (mm_run (zP Z) 154 [.inr (.inr (some q109)), .inl (Z.1 (mm_w32 (l3 + 1)))] w) fun x111 w110 =>
    if 0 ≤ mm_w32 (l3 + 1) ∧ mm_w32 (l3 + 1) < Z.2 then
     (l2.bind fun q112 =>
    if mm_cls w110 q112 = 12 then
     (mm_kI (mm_run (zP Z) 297 [.inr (.inr (some q112)), .inl (Z.1 (mm_w32 (l3 + 1)))] w110) fun x114 w113 =>
    if x111 = x114 then
     mm_at (zP Z) 365 10 [some (.inr (.inr l0)), some (.inr (.inr l1)), some (.inr (.inr l2)), some (.inl (mm_w32 (l3 + 6)))] [] w113
    else
     some (some (.inl 0), w113))
    else none)
    else none)
    else none)
    else none
   else if mm_iand (Z.1 l3) 63 = 19 then
    if 0 ≤ mm_w32 (l3 + 1) ∧ mm_w32 (l3 + 1) < Z.2 then
     (l1.bind fun q115 =>
    if mm_cls w q115 = 11 then
     (mm_kI (mm_run (zP Z) 155 [.inr (.inr (some q115)), .inl (Z.1 (mm_w32 (l3 + 1)))] w) fun x117 w116 =>
    if 0 ≤ mm_w32 (l3 + 1) ∧ mm_w32 (l3 + 1) < Z.2 then
     (l2.bind fun q118 =>
    if mm_cls w116 q118 = 12 then
     (mm_kI (mm_run (zP Z) 299 [.inr (.inr (some q118)), .inl (Z.1 (mm_w32 (l3 + 1)))] w116) fun x120 w119 =>
    if x117 = x120 then
     mm_at (zP Z) 365 10 [some (.inr (.inr l0)), some (.inr (.inr l1)), some (.inr (.inr l2)), some (.inl (mm_w32 (l3 + 6)))] [] w119
    else
     some (some (.inl 0), w119))
    else none)
    else none)
    else none)
    else none
   else if mm_iand (Z.1 l3) 63 = 20 then
    if 0 ≤ mm_w32 (l3 + 1) ∧ mm_w32 (l3 + 1) < Z.2 then
     (l1.bind fun q121 =>
    if mm_cls w q121 = 11 then
     (mm_kI (mm_run (zP Z) 156 [.inr (.inr (some q121)), .inl (Z.1 (mm_w32 (l3 + 1)))] w) fun x123 w122 =>
    if 0 ≤ mm_w32 (l3 + 1) ∧ mm_w32 (l3 + 1) < Z.2 then
     (l2.bind fun q124 =>
    if mm_cls w122 q124 = 12 then
     (mm_kI (mm_run (zP Z) 302 [.inr (.inr (some q124)), .inl (Z.1 (mm_w32 (l3 + 1)))] w122) fun x126 w125 =>
    if x123 = x126 then
     mm_at (zP Z) 365 10 [some (.inr (.inr l0)), some (.inr (.inr l1)), some (.inr (.inr l2)), some (.inl (mm_w32 (l3 + 6)))] [] w125
    else
     some (some (.inl 0), w125))
    else none)
    else none)
    else none)
    else none
   else if mm_iand (Z.1 l3) 63 = 21 then
    if 0 ≤ mm_w32 (l3 + 1) ∧ mm_w32 (l3 + 1) < Z.2 then
     (if 0 ≤ mm_w32 (l3 + 2) ∧ mm_w32 (l3 + 2) < Z.2 then
     (if 0 ≤ mm_w32 (l3 + 3) ∧ mm_w32 (l3 + 3) < Z.2 then
     (l1.bind fun q127 =>
    if mm_cls w q127 = 11 then
     (mm_kI (mm_run (zP Z) 157 [.inr (.inr (some q127)), .inl (Z.1 (mm_w32 (l3 + 1))), .inl (Z.1 (mm_w32 (l3 + 2))), .inl (Z.1 (mm_w32 (l3 + 3)))] w) fun x129 w128 =>
    if 0 ≤ mm_w32 (l3 + 1) ∧ mm_w32 (l3 + 1) < Z.2 then
     (if 0 ≤ mm_w32 (l3 + 2) ∧ mm_w32 (l3 + 2) < Z.2 then
     (if 0 ≤ mm_w32 (l3 + 3) ∧ mm_w32 (l3 + 3) < Z.2 then
     (l2.bind fun q130 =>
    if mm_cls w128 q130 = 12 then
     (mm_kI (mm_run (zP Z) 303 [.inr (.inr (some q130)), .inl (Z.1 (mm_w32 (l3 + 1))), .inl (Z.1 (mm_w32 (l3 + 2))), .inl (Z.1 (mm_w32 (l3 + 3)))] w128) fun x132 w131 =>
    if x129 = x132 then
     mm_at (zP Z) 365 10 [some (.inr (.inr l0)), some (.inr (.inr l1)), some (.inr (.inr l2)), some (.inl (mm_w32 (l3 + 6)))] [] w131
    else
     some (some (.inl 0), w131))
    else none)
    else none)
    else none)
    else none)
    else none)
    else none)
    else none)
    else none
   else if mm_iand (Z.1 l3) 63 = 22 then
    if 0 ≤ mm_w32 (l3 + 1) ∧ mm_w32 (l3 + 1) < Z.2 then
     (if 0 ≤ mm_w32 (l3 + 2) ∧ mm_w32 (l3 + 2) < Z.2 then
     (l1.bind fun q133 =>
    if mm_cls w q133 = 11 then
     (mm_kI (mm_run (zP Z) 158 [.inr (.inr (some q133)), .inl (Z.1 (mm_w32 (l3 + 1))), .inl (Z.1 (mm_w32 (l3 + 2)))] w) fun x135 w134 =>
    if 0 ≤ mm_w32 (l3 + 1) ∧ mm_w32 (l3 + 1) < Z.2 then
     (if 0 ≤ mm_w32 (l3 + 2) ∧ mm_w32 (l3 + 2) < Z.2 then
     (l2.bind fun q136 =>
    if mm_cls w134 q136 = 12 then
     (mm_kI (mm_run (zP Z) 304 [.inr (.inr (some q136)), .inl (Z.1 (mm_w32 (l3 + 1))), .inl (Z.1 (mm_w32 (l3 + 2)))] w134) fun x138 w137 =>
    if x135 = x138 then
     mm_at (zP Z) 365 10 [some (.inr (.inr l0)), some (.inr (.inr l1)), some (.inr (.inr l2)), some (.inl (mm_w32 (l3 + 6)))] [] w137
    else
     some (some (.inl 0), w137))
    else none)
    else none)
    else none)
    else none)
    else none)
    else none
   else if mm_iand (Z.1 l3) 63 = 23 then
    if 0 ≤ mm_w32 (l3 + 1) ∧ mm_w32 (l3 + 1) < Z.2 then
     (if 0 ≤ mm_w32 (l3 + 2) ∧ mm_w32 (l3 + 2) < Z.2 then
     (if 0 ≤ mm_w32 (l3 + 3) ∧ mm_w32 (l3 + 3) < Z.2 then
     (if Z.1 (mm_w32 (l3 + 3)) = 0 then
     mm_at (zP Z) 365 650 [some (.inr (.inr l0)), some (.inr (.inr l1)), some (.inr (.inr l2)), some (.inl l3)] [.inl 0, .inl (Z.1 (mm_w32 (l3 + 2))), .inl (Z.1 (mm_w32 (l3 + 1))), .inr (.inr l1)] w
    else
     mm_at (zP Z) 365 650 [some (.inr (.inr l0)), some (.inr (.inr l1)), some (.inr (.inr l2)), some (.inl l3)] [.inl 1, .inl (Z.1 (mm_w32 (l3 + 2))), .inl (Z.1 (mm_w32 (l3 + 1))), .inr (.inr l1)] w)
    else none)
    else none)
    else none
   else if mm_iand (Z.1 l3) 63 = 24 then
    if 0 ≤ mm_w32 (l3 + 1) ∧ mm_w32 (l3 + 1) < Z.2 then
     (l1.bind fun q139 =>
    if mm_cls w q139 = 11 then
     (mm_kI (mm_run (zP Z) 160 [.inr (.inr (some q139)), .inl (Z.1 (mm_w32 (l3 + 1)))] w) fun x141 w140 =>
    if 0 ≤ mm_w32 (l3 + 1) ∧ mm_w32 (l3 + 1) < Z.2 then
     (l2.bind fun q142 =>
    if mm_cls w140 q142 = 12 then
     (mm_kI (mm_run (zP Z) 306 [.inr (.inr (some q142)), .inl (Z.1 (mm_w32 (l3 + 1)))] w140) fun x144 w143 =>
    if x141 = x144 then
     mm_at (zP Z) 365 10 [some (.inr (.inr l0)), some (.inr (.inr l1)), some (.inr (.inr l2)), some (.inl (mm_w32 (l3 + 6)))] [] w143
    else
     some (some (.inl 0), w143))
    else none)
    else none)
    else none)
    else none
   else if mm_iand (Z.1 l3) 63 = 25 then
    if 0 ≤ mm_w32 (l3 + 1) ∧ mm_w32 (l3 + 1) < Z.2 then
     (l1.bind fun q145 =>
    if mm_cls w q145 = 11 then
     (mm_kI (mm_run (zP Z) 161 [.inr (.inr (some q145)), .inl (Z.1 (mm_w32 (l3 + 1)))] w) fun x147 w146 =>
    if 0 ≤ mm_w32 (l3 + 1) ∧ mm_w32 (l3 + 1) < Z.2 then
     (l2.bind fun q148 =>
    if mm_cls w146 q148 = 12 then
     (mm_kI (mm_run (zP Z) 307 [.inr (.inr (some q148)), .inl (Z.1 (mm_w32 (l3 + 1)))] w146) fun x150 w149 =>
    if x147 = x150 then
     mm_at (zP Z) 365 10 [some (.inr (.inr l0)), some (.inr (.inr l1)), some (.inr (.inr l2)), some (.inl (mm_w32 (l3 + 6)))] [] w149
    else
     some (some (.inl 0), w149))
    else none)
    else none)
    else none)
    else none
   else if mm_iand (Z.1 l3) 63 = 26 then
    if 0 ≤ mm_w32 (l3 + 1) ∧ mm_w32 (l3 + 1) < Z.2 then
     (l1.bind fun q151 =>
    if mm_cls w q151 = 11 then
     (mm_kI (mm_run (zP Z) 162 [.inr (.inr (some q151)), .inl (Z.1 (mm_w32 (l3 + 1)))] w) fun x153 w152 =>
    if 0 ≤ mm_w32 (l3 + 1) ∧ mm_w32 (l3 + 1) < Z.2 then
     (l2.bind fun q154 =>
    if mm_cls w152 q154 = 12 then
     (mm_kI (mm_run (zP Z) 312 [.inr (.inr (some q154)), .inl (Z.1 (mm_w32 (l3 + 1)))] w152) fun x156 w155 =>
    if x153 = x156 then
     mm_at (zP Z) 365 10 [some (.inr (.inr l0)), some (.inr (.inr l1)), some (.inr (.inr l2)), some (.inl (mm_w32 (l3 + 6)))] [] w155
    else
     some (some (.inl 0), w155))
    else none)
    else none)
    else none)
    else none
   else if mm_iand (Z.1 l3) 63 = 27 then
    if 0 ≤ mm_w32 (l3 + 1) ∧ mm_w32 (l3 + 1) < Z.2 then
     (if 0 ≤ mm_w32 (l3 + 2) ∧ mm_w32 (l3 + 2) < Z.2 then
     (l1.bind fun q157 =>
    if mm_cls w q157 = 11 then
     (mm_kI (mm_run (zP Z) 163 [.inr (.inr (some q157)), .inl (Z.1 (mm_w32 (l3 + 1))), .inl (Z.1 (mm_w32 (l3 + 2)))] w) fun x159 w158 =>
    if 0 ≤ mm_w32 (l3 + 1) ∧ mm_w32 (l3 + 1) < Z.2 then
     (if 0 ≤ mm_w32 (l3 + 2) ∧ mm_w32 (l3 + 2) < Z.2 then
     (l2.bind fun q160 =>
    if mm_cls w158 q160 = 12 then
     (mm_kI (mm_run (zP Z) 313 [.inr (.inr (some q160)), .inl (Z.1 (mm_w32 (l3 + 1))), .inl (Z.1 (mm_w32 (l3 + 2)))] w158) fun x162 w161 =>
    if x159 = x162 then
     mm_at (zP Z) 365 10 [some (.inr (.inr l0)), some (.inr (.inr l1)), some (.inr (.inr l2)), some (.inl (mm_w32 (l3 + 6)))] [] w161
    else
     some (some (.inl 0), w161))
    else none)
    else none)
    else none)
    else none)
    else none)
    else none
   else if mm_iand (Z.1 l3) 63 = 28 then
    if 0 ≤ mm_w32 (l3 + 1) ∧ mm_w32 (l3 + 1) < Z.2 then
     (if 0 ≤ mm_w32 (l3 + 2) ∧ mm_w32 (l3 + 2) < Z.2 then
     (if 0 ≤ mm_w32 (l3 + 3) ∧ mm_w32 (l3 + 3) < Z.2 then
     (l1.bind fun q163 =>
    if mm_cls w q163 = 11 then
     (mm_kI (mm_run (zP Z) 164 [.inr (.inr (some q163)), .inl (Z.1 (mm_w32 (l3 + 1))), .inl (Z.1 (mm_w32 (l3 + 2))), .inl (Z.1 (mm_w32 (l3 + 3)))] w) fun x165 w164 =>
    if 0 ≤ mm_w32 (l3 + 1) ∧ mm_w32 (l3 + 1) < Z.2 then
     (if 0 ≤ mm_w32 (l3 + 2) ∧ mm_w32 (l3 + 2) < Z.2 then
     (if 0 ≤ mm_w32 (l3 + 3) ∧ mm_w32 (l3 + 3) < Z.2 then
     (l2.bind fun q166 =>
    if mm_cls w164 q166 = 12 then
     (mm_kI (mm_run (zP Z) 315 [.inr (.inr (some q166)), .inl (Z.1 (mm_w32 (l3 + 1))), .inl (Z.1 (mm_w32 (l3 + 2))), .inl (Z.1 (mm_w32 (l3 + 3)))] w164) fun x168 w167 =>
    if x165 = x168 then
     mm_at (zP Z) 365 10 [some (.inr (.inr l0)), some (.inr (.inr l1)), some (.inr (.inr l2)), some (.inl (mm_w32 (l3 + 6)))] [] w167
    else
     some (some (.inl 0), w167))
    else none)
    else none)
    else none)
    else none)
    else none)
    else none)
    else none)
    else none
   else if mm_iand (Z.1 l3) 63 = 29 then
    if 0 ≤ mm_w32 (l3 + 1) ∧ mm_w32 (l3 + 1) < Z.2 then
     (if 0 ≤ mm_w32 (l3 + 2) ∧ mm_w32 (l3 + 2) < Z.2 then
     (l1.bind fun q169 =>
    if mm_cls w q169 = 11 then
     (mm_kI (mm_run (zP Z) 165 [.inr (.inr (some q169)), .inl (Z.1 (mm_w32 (l3 + 1))), .inl (Z.1 (mm_w32 (l3 + 2)))] w) fun x171 w170 =>
    if 0 ≤ mm_w32 (l3 + 1) ∧ mm_w32 (l3 + 1) < Z.2 then
     (if 0 ≤ mm_w32 (l3 + 2) ∧ mm_w32 (l3 + 2) < Z.2 then
     (l2.bind fun q172 =>
    if mm_cls w170 q172 = 12 then
     (mm_kI (mm_run (zP Z) 316 [.inr (.inr (some q172)), .inl (Z.1 (mm_w32 (l3 + 1))), .inl (Z.1 (mm_w32 (l3 + 2)))] w170) fun x174 w173 =>
    if x171 = x174 then
     mm_at (zP Z) 365 10 [some (.inr (.inr l0)), some (.inr (.inr l1)), some (.inr (.inr l2)), some (.inl (mm_w32 (l3 + 6)))] [] w173
    else
     some (some (.inl 0), w173))
    else none)
    else none)
    else none)
    else none)
    else none)
    else none
   else if mm_iand (Z.1 l3) 63 = 30 then
    if 0 ≤ mm_w32 (l3 + 1) ∧ mm_w32 (l3 + 1) < Z.2 then
     (if 0 ≤ mm_w32 (l3 + 2) ∧ mm_w32 (l3 + 2) < Z.2 then
     (l1.bind fun q175 =>
    if mm_cls w q175 = 11 then
     (mm_kI (mm_run (zP Z) 166 [.inr (.inr (some q175)), .inl (Z.1 (mm_w32 (l3 + 1))), .inl (Z.1 (mm_w32 (l3 + 2)))] w) fun x177 w176 =>
    if 0 ≤ mm_w32 (l3 + 1) ∧ mm_w32 (l3 + 1) < Z.2 then
     (if 0 ≤ mm_w32 (l3 + 2) ∧ mm_w32 (l3 + 2) < Z.2 then
     (l2.bind fun q178 =>
    if mm_cls w176 q178 = 12 then
     (mm_kI (mm_run (zP Z) 319 [.inr (.inr (some q178)), .inl (Z.1 (mm_w32 (l3 + 1))), .inl (Z.1 (mm_w32 (l3 + 2)))] w176) fun x180 w179 =>
    if x177 = x180 then
     mm_at (zP Z) 365 10 [some (.inr (.inr l0)), some (.inr (.inr l1)), some (.inr (.inr l2)), some (.inl (mm_w32 (l3 + 6)))] [] w179
    else
     some (some (.inl 0), w179))
    else none)
    else none)
    else none)
    else none)
    else none)
    else none
   else if mm_iand (Z.1 l3) 63 = 31 then
    if 0 ≤ mm_w32 (l3 + 1) ∧ mm_w32 (l3 + 1) < Z.2 then
     (if 0 ≤ mm_w32 (l3 + 2) ∧ mm_w32 (l3 + 2) < Z.2 then
     (l1.bind fun q181 =>
    if mm_cls w q181 = 11 then
     (mm_kI (mm_run (zP Z) 167 [.inr (.inr (some q181)), .inl (Z.1 (mm_w32 (l3 + 1))), .inl (Z.1 (mm_w32 (l3 + 2)))] w) fun x183 w182 =>
    if 0 ≤ mm_w32 (l3 + 1) ∧ mm_w32 (l3 + 1) < Z.2 then
     (if 0 ≤ mm_w32 (l3 + 2) ∧ mm_w32 (l3 + 2) < Z.2 then
     (l2.bind fun q184 =>
    if mm_cls w182 q184 = 12 then
     (mm_kI (mm_run (zP Z) 320 [.inr (.inr (some q184)), .inl (Z.1 (mm_w32 (l3 + 1))), .inl (Z.1 (mm_w32 (l3 + 2)))] w182) fun x186 w185 =>
    if x183 = x186 then
     mm_at (zP Z) 365 10 [some (.inr (.inr l0)), some (.inr (.inr l1)), some (.inr (.inr l2)), some (.inl (mm_w32 (l3 + 6)))] [] w185
    else
     some (some (.inl 0), w185))
    else none)
    else none)
    else none)
    else none)
    else none)
    else none
   else if mm_iand (Z.1 l3) 63 = 32 then
    l1.bind fun q187 =>
    if mm_cls w q187 = 11 then
     (mm_kI (mm_run (zP Z) 168 [.inr (.inr (some q187))] w) fun x189 w188 =>
    l2.bind fun q190 =>
    if mm_cls w188 q190 = 12 then
     (mm_kI (mm_run (zP Z) 322 [.inr (.inr (some q190))] w188) fun x192 w191 =>
    if x189 = x192 then
     mm_at (zP Z) 365 10 [some (.inr (.inr l0)), some (.inr (.inr l1)), some (.inr (.inr l2)), some (.inl (mm_w32 (l3 + 6)))] [] w191
    else
     some (some (.inl 0), w191))
    else none)
    else none
   else if mm_iand (Z.1 l3) 63 = 33 then
    if 0 ≤ mm_w32 (l3 + 1) ∧ mm_w32 (l3 + 1) < Z.2 then
     (l1.bind fun q193 =>
    if mm_cls w q193 = 11 then
     (mm_kI (mm_run (zP Z) 169 [.inr (.inr (some q193)), .inl (Z.1 (mm_w32 (l3 + 1)))] w) fun x195 w194 =>
    if 0 ≤ mm_w32 (l3 + 1) ∧ mm_w32 (l3 + 1) < Z.2 then
     (l2.bind fun q196 =>
    if mm_cls w194 q196 = 12 then
     (mm_kI (mm_run (zP Z) 323 [.inr (.inr (some q196)), .inl (Z.1 (mm_w32 (l3 + 1)))] w194) fun x198 w197 =>
    if x195 = x198 then
     mm_at (zP Z) 365 10 [some (.inr (.inr l0)), some (.inr (.inr l1)), some (.inr (.inr l2)), some (.inl (mm_w32 (l3 + 6)))] [] w197
    else
     some (some (.inl 0), w197))
    else none)
    else none)
    else none)
    else none
   else if mm_iand (Z.1 l3) 63 = 34 then
    if 0 ≤ mm_w32 (l3 + 1) ∧ mm_w32 (l3 + 1) < Z.2 then
     (l1.bind fun q199 =>
    if mm_cls w q199 = 11 then
     (mm_kI (mm_run (zP Z) 170 [.inr (.inr (some q199)), .inl (Z.1 (mm_w32 (l3 + 1)))] w) fun x201 w200 =>
    if 0 ≤ mm_w32 (l3 + 1) ∧ mm_w32 (l3 + 1) < Z.2 then
     (l2.bind fun q202 =>
    if mm_cls w200 q202 = 12 then
     (mm_kI (mm_run (zP Z) 324 [.inr (.inr (some q202)), .inl (Z.1 (mm_w32 (l3 + 1)))] w200) fun x204 w203 =>
    if x201 = x204 then
     mm_at (zP Z) 365 10 [some (.inr (.inr l0)), some (.inr (.inr l1)), some (.inr (.inr l2)), some (.inl (mm_w32 (l3 + 6)))] [] w203
    else
     some (some (.inl 0), w203))
    else none)
    else none)
    else none)
    else none
   else if mm_iand (Z.1 l3) 63 = 35 then
    if 0 ≤ mm_w32 (l3 + 1) ∧ mm_w32 (l3 + 1) < Z.2 then
     (l1.bind fun q205 =>
    if mm_cls w q205 = 11 then
     (mm_kI (mm_run (zP Z) 171 [.inr (.inr (some q205)), .inl (Z.1 (mm_w32 (l3 + 1)))] w) fun x207 w206 =>
    if 0 ≤ mm_w32 (l3 + 1) ∧ mm_w32 (l3 + 1) < Z.2 then
     (l2.bind fun q208 =>
    if mm_cls w206 q208 = 12 then
     (mm_kI (mm_run (zP Z) 327 [.inr (.inr (some q208)), .inl (Z.1 (mm_w32 (l3 + 1)))] w206) fun x210 w209 =>
    if x207 = x210 then
     mm_at (zP Z) 365 10 [some (.inr (.inr l0)), some (.inr (.inr l1)), some (.inr (.inr l2)), some (.inl (mm_w32 (l3 + 6)))] [] w209
    else
     some (some (.inl 0), w209))
    else none)
    else none)
    else none)
    else none
   else if mm_iand (Z.1 l3) 63 = 36 then
    if 0 ≤ mm_w32 (l3 + 1) ∧ mm_w32 (l3 + 1) < Z.2 then
     (l1.bind fun q211 =>
    if mm_cls w q211 = 11 then
     (mm_kI (mm_run (zP Z) 172 [.inr (.inr (some q211)), .inl (Z.1 (mm_w32 (l3 + 1)))] w) fun x213 w212 =>
    if 0 ≤ mm_w32 (l3 + 1) ∧ mm_w32 (l3 + 1) < Z.2 then
     (l2.bind fun q214 =>
    if mm_cls w212 q214 = 12 then
     (mm_kI (mm_run (zP Z) 328 [.inr (.inr (some q214)), .inl (Z.1 (mm_w32 (l3 + 1)))] w212) fun x216 w215 =>
    if x213 = x216 then
     mm_at (zP Z) 365 10 [some (.inr (.inr l0)), some (.inr (.inr l1)), some (.inr (.inr l2)), some (.inl (mm_w32 (l3 + 6)))] [] w215
    else
     some (some (.inl 0), w215))
    else none)
    else none)
    else none)
    else none
   else if mm_iand (Z.1 l3) 63 = 37 then
    l1.bind fun q217 =>
    if mm_cls w q217 = 11 then
     (mm_kI (mm_run (zP Z) 173 [.inr (.inr (some q217))] w) fun x219 w218 =>
    l2.bind fun q220 =>
    if mm_cls w218 q220 = 12 then
     (mm_kI (mm_run (zP Z) 329 [.inr (.inr (some q220))] w218) fun x222 w221 =>
    if x219 = x222 then
     mm_at (zP Z) 365 10 [some (.inr (.inr l0)), some (.inr (.inr l1)), some (.inr (.inr l2)), some (.inl (mm_w32 (l3 + 6)))] [] w221
    else
     some (some (.inl 0), w221))
    else none)
    else none
   else if mm_iand (Z.1 l3) 63 = 38 then
    if 0 ≤ mm_w32 (l3 + 1) ∧ mm_w32 (l3 + 1) < Z.2 then
     (l1.bind fun q223 =>
    if mm_cls w q223 = 11 then
     (mm_kI (mm_run (zP Z) 174 [.inr (.inr (some q223)), .inl (Z.1 (mm_w32 (l3 + 1)))] w) fun x225 w224 =>
    if 0 ≤ mm_w32 (l3 + 1) ∧ mm_w32 (l3 + 1) < Z.2 then
     (l2.bind fun q226 =>
    if mm_cls w224 q226 = 12 then
     (mm_kI (mm_run (zP Z) 330 [.inr (.inr (some q226)), .inl (Z.1 (mm_w32 (l3 + 1)))] w224) fun x228 w227 =>
    if x225 = x228 then
     mm_at (zP Z) 365 10 [some (.inr (.inr l0)), some (.inr (.inr l1)), some (.inr (.inr l2)), some (.inl (mm_w32 (l3 + 6)))] [] w227
    else
     some (some (.inl 0), w227))
    else none)
    else none)
    else none)
    else none
   else if mm_iand (Z.1 l3) 63 = 39 then
    if 0 ≤ mm_w32 (l3 + 1) ∧ mm_w32 (l3 + 1) < Z.2 then
     (if 0 ≤ mm_w32 (l3 + 2) ∧ mm_w32 (l3 + 2) < Z.2 then
     (l1.bind fun q229 =>
    if mm_cls w q229 = 11 then
     (mm_kI (mm_run (zP Z) 175 [.inr (.inr (some q229)), .inl (Z.1 (mm_w32 (l3 + 1))), .inl (Z.1 (mm_w32 (l3 + 2)))] w) fun x231 w230 =>
    if 0 ≤ mm_w32 (l3 + 1) ∧ mm_w32 (l3 + 1) < Z.2 then
     (if 0 ≤ mm_w32 (l3 + 2) ∧ mm_w32 (l3 + 2) < Z.2 then
     (l2.bind fun q232 =>
    if mm_cls w230 q232 = 12 then
     (mm_kI (mm_run (zP Z) 331 [.inr (.inr (some q232)), .inl (Z.1 (mm_w32 (l3 + 1))), .inl (Z.1 (mm_w32 (l3 + 2)))] w230) fun x234 w233 =>
    if x231 = x234 then
     mm_at (zP Z) 365 10 [some (.inr (.inr l0)), some (.inr (.inr l1)), some (.inr (.inr l2)), some (.inl (mm_w32 (l3 + 6)))] [] w233
    else
     some (some (.inl 0), w233))
    else none)
    else none)
    else none)
    else none)
    else none)
    else none
   else if mm_iand (Z.1 l3) 63 = 40 then
    if 0 ≤ mm_w32 (l3 + 1) ∧ mm_w32 (l3 + 1) < Z.2 then
     (if 0 ≤ mm_w32 (l3 + 2) ∧ mm_w32 (l3 + 2) < Z.2 then
     (if 0 ≤ mm_w32 (l3 + 3) ∧ mm_w32 (l3 + 3) < Z.2 then
     (l1.bind fun q235 =>
    if mm_cls w q235 = 11 then
     (mm_kI (mm_run (zP Z) 176 [.inr (.inr (some q235)), .inl (Z.1 (mm_w32 (l3 + 1))), .inl (Z.1 (mm_w32 (l3 + 2))), .inl (Z.1 (mm_w32 (l3 + 3)))] w) fun x237 w236 =>
    if 0 ≤ mm_w32 (l3 + 1) ∧ mm_w32 (l3 + 1) < Z.2 then
     (if 0 ≤ mm_w32 (l3 + 2) ∧ mm_w32 (l3 + 2) < Z.2 then
     (if 0 ≤ mm_w32 (l3 + 3) ∧ mm_w32 (l3 + 3) < Z.2 then
     (l2.bind fun q238 =>
    if mm_cls w236 q238 = 12 then
     (mm_kI (mm_run (zP Z) 334 [.inr (.inr (some q238)), .inl (Z.1 (mm_w32 (l3 + 1))), .inl (Z.1 (mm_w32 (l3 + 2))), .inl (Z.1 (mm_w32 (l3 + 3)))] w236) fun x240 w239 =>
    if x237 = x240 then
     mm_at (zP Z) 365 10 [some (.inr (.inr l0)), some (.inr (.inr l1)), some (.inr (.inr l2)), some (.inl (mm_w32 (l3 + 6)))] [] w239
    else
     some (some (.inl 0), w239))
    else none)
    else none)
    else none)
    else none)
    else none)
    else none)
    else none)
    else none
   else if mm_iand (Z.1 l3) 63 = 41 then
    if 0 ≤ mm_w32 (l3 + 1) ∧ mm_w32 (l3 + 1) < Z.2 then
     (if 0 ≤ mm_w32 (l3 + 2) ∧ mm_w32 (l3 + 2) < Z.2 then
     (if 0 ≤ mm_w32 (l3 + 3) ∧ mm_w32 (l3 + 3) < Z.2 then
     (if 0 ≤ mm_w32 (l3 + 4) ∧ mm_w32 (l3 + 4) < Z.2 then
     (l1.bind fun q241 =>
    if mm_cls w q241 = 11 then
     (mm_kI (mm_run (zP Z) 177 [.inr (.inr (some q241)), .inl (Z.1 (mm_w32 (l3 + 1))), .inl (Z.1 (mm_w32 (l3 + 2))), .inl (Z.1 (mm_w32 (l3 + 3))), .inl (Z.1 (mm_w32 (l3 + 4)))] w) fun x243 w242 =>
    if 0 ≤ mm_w32 (l3 + 1) ∧ mm_w32 (l3 + 1) < Z.2 then
     (if 0 ≤ mm_w32 (l3 + 2) ∧ mm_w32 (l3 + 2) < Z.2 then
     (if 0 ≤ mm_w32 (l3 + 3) ∧ mm_w32 (l3 + 3) < Z.2 then
     (if 0 ≤ mm_w32 (l3 + 4) ∧ mm_w32 (l3 + 4) < Z.2 then
     (l2.bind fun q244 =>
    if mm_cls w242 q244 = 12 then
     (mm_kI (mm_run (zP Z) 335 [.inr (.inr (some q244)), .inl (Z.1 (mm_w32 (l3 + 1))), .inl (Z.1 (mm_w32 (l3 + 2))), .inl (Z.1 (mm_w32 (l3 + 3))), .inl (Z.1 (mm_w32 (l3 + 4)))] w242) fun x246 w245 =>
    if x243 = x246 then
     mm_at (zP Z) 365 10 [some (.inr (.inr l0)), some (.inr (.inr l1)), some (.inr (.inr l2)), some (.inl (mm_w32 (l3 + 6)))] [] w245
    else
     some (some (.inl 0), w245))
    else none)
    else none)
    else none)
    else none)
    else none)
    else none)
    else none)
    else none)
    else none)
    else none
   else if mm_iand (Z.1 l3) 63 = 42 then
    if 0 ≤ mm_w32 (l3 + 1) ∧ mm_w32 (l3 + 1) < Z.2 then
     (if 0 ≤ mm_w32 (l3 + 2) ∧ mm_w32 (l3 + 2) < Z.2 then
     (if 0 ≤ mm_w32 (l3 + 3) ∧ mm_w32 (l3 + 3) < Z.2 then
     (l1.bind fun q247 =>
    if mm_cls w q247 = 11 then
     (mm_kI (mm_run (zP Z) 178 [.inr (.inr (some q247)), .inl (Z.1 (mm_w32 (l3 + 1))), .inl (Z.1 (mm_w32 (l3 + 2))), .inl (Z.1 (mm_w32 (l3 + 3)))] w) fun x249 w248 =>
    if 0 ≤ mm_w32 (l3 + 1) ∧ mm_w32 (l3 + 1) < Z.2 then
     (if 0 ≤ mm_w32 (l3 + 2) ∧ mm_w32 (l3 + 2) < Z.2 then
     (if 0 ≤ mm_w32 (l3 + 3) ∧ mm_w32 (l3 + 3) < Z.2 then
     (l2.bind fun q250 =>
    if mm_cls w248 q250 = 12 then
     (mm_kI (mm_run (zP Z) 337 [.inr (.inr (some q250)), .inl (Z.1 (mm_w32 (l3 + 1))), .inl (Z.1 (mm_w32 (l3 + 2))), .inl (Z.1 (mm_w32 (l3 + 3)))] w248) fun x252 w251 =>
    if x249 = x252 then
     mm_at (zP Z) 365 10 [some (.inr (.inr l0)), some (.inr (.inr l1)), some (.inr (.inr l2)), some (.inl (mm_w32 (l3 + 6)))] [] w251
    else
     some (some (.inl 0), w251))
    else none)
    else none)
    else none)
    else none)
    else none)
    else none)
    else none)
    else none
   else if mm_iand (Z.1 l3) 63 = 43 then
    if 0 ≤ mm_w32 (l3 + 1) ∧ mm_w32 (l3 + 1) < Z.2 then
     (if 0 ≤ mm_w32 (l3 + 2) ∧ mm_w32 (l3 + 2) < Z.2 then
     (l1.bind fun q253 =>
    if mm_cls w q253 = 11 then
     (mm_kI (mm_run (zP Z) 179 [.inr (.inr (some q253)), .inl (Z.1 (mm_w32 (l3 + 1))), .inl (Z.1 (mm_w32 (l3 + 2)))] w) fun x255 w254 =>
    if 0 ≤ mm_w32 (l3 + 1) ∧ mm_w32 (l3 + 1) < Z.2 then
     (if 0 ≤ mm_w32 (l3 + 2) ∧ mm_w32 (l3 + 2) < Z.2 then
     (l2.bind fun q256 =>
    if mm_cls w254 q256 = 12 then
     (mm_kI (mm_run (zP Z) 338 [.inr (.inr (some q256)), .inl (Z.1 (mm_w32 (l3 + 1))), .inl (Z.1 (mm_w32 (l3 + 2)))] w254) fun x258 w257 =>
    if x255 = x258 then
     mm_at (zP Z) 365 10 [some (.inr (.inr l0)), some (.inr (.inr l1)), some (.inr (.inr l2)), some (.inl (mm_w32 (l3 + 6)))] [] w257
    else
     some (some (.inl 0), w257))
    else none)
    else none)
    else none)
    else none)
    else none)
    else none
   else if mm_iand (Z.1 l3) 63 = 44 then
    if 0 ≤ mm_w32 (l3 + 1) ∧ mm_w32 (l3 + 1) < Z.2 then
     (if 0 ≤ mm_w32 (l3 + 2) ∧ mm_w32 (l3 + 2) < Z.2 then
     (if 0 ≤ mm_w32 (l3 + 3) ∧ mm_w32 (l3 + 3) < Z.2 then
     (l1.bind fun q259 =>
    if mm_cls w q259 = 11 then
     (mm_kI (mm_run (zP Z) 180 [.inr (.inr (some q259)), .inl (Z.1 (mm_w32 (l3 + 1))), .inl (Z.1 (mm_w32 (l3 + 2))), .inl (Z.1 (mm_w32 (l3 + 3)))] w) fun x261 w260 =>
    if 0 ≤ mm_w32 (l3 + 1) ∧ mm_w32 (l3 + 1) < Z.2 then
     (if 0 ≤ mm_w32 (l3 + 2) ∧ mm_w32 (l3 + 2) < Z.2 then
     (if 0 ≤ mm_w32 (l3 + 3) ∧ mm_w32 (l3 + 3) < Z.2 then
     (l2.bind fun q262 =>
    if mm_cls w260 q262 = 12 then
     (mm_kI (mm_run (zP Z) 344 [.inr (.inr (some q262)), .inl (Z.1 (mm_w32 (l3 + 1))), .inl (Z.1 (mm_w32 (l3 + 2))), .inl (Z.1 (mm_w32 (l3 + 3)))] w260) fun x264 w263 =>
    if x261 = x264 then
     mm_at (zP Z) 365 10 [some (.inr (.inr l0)), some (.inr (.inr l1)), some (.inr (.inr l2)), some (.inl (mm_w32 (l3 + 6)))] [] w263
    else
     some (some (.inl 0), w263))
    else none)
    else none)
    else none)
    else none)
    else none)
    else none)
    else none)
    else none
   else if mm_iand (Z.1 l3) 63 = 45 then
    if 0 ≤ mm_w32 (l3 + 1) ∧ mm_w32 (l3 + 1) < Z.2 then
     (if 0 ≤ mm_w32 (l3 + 2) ∧ mm_w32 (l3 + 2) < Z.2 then
     (if 0 ≤ mm_w32 (l3 + 3) ∧ mm_w32 (l3 + 3) < Z.2 then
     (l1.bind fun q265 =>
    if mm_cls w q265 = 11 then
     (mm_kI (mm_run (zP Z) 181 [.inr (.inr (some q265)), .inl (Z.1 (mm_w32 (l3 + 1))), .inl (Z.1 (mm_w32 (l3 + 2))), .inl (Z.1 (mm_w32 (l3 + 3)))] w) fun x267 w266 =>
    if 0 ≤ mm_w32 (l3 + 1) ∧ mm_w32 (l3 + 1) < Z.2 then
     (if 0 ≤ mm_w32 (l3 + 2) ∧ mm_w32 (l3 + 2) < Z.2 then
     (if 0 ≤ mm_w32 (l3 + 3) ∧ mm_w32 (l3 + 3) < Z.2 then
     (l2.bind fun q268 =>
    if mm_cls w266 q268 = 12 then
     (mm_kI (mm_run (zP Z) 345 [.inr (.inr (some q268)), .inl (Z.1 (mm_w32 (l3 + 1))), .inl (Z.1 (mm_w32 (l3 + 2))), .inl (Z.1 (mm_w32 (l3 + 3)))] w266) fun x270 w269 =>
    if x267 = x270 then
     mm_at (zP Z) 365 10 [some (.inr (.inr l0)), some (.inr (.inr l1)), some (.inr (.inr l2)), some (.inl (mm_w32 (l3 + 6)))] [] w269
    else
     some (some (.inl 0), w269))
    else none)
    else none)
    else none)
    else none)
    else none)
    else none)
    else none)
    else none
   else if mm_iand (Z.1 l3) 63 = 46 then
    if 0 ≤ mm_w32 (l3 + 1) ∧ mm_w32 (l3 + 1) < Z.2 then
     (if 0 ≤ mm_w32 (l3 + 2) ∧ mm_w32 (l3 + 2) < Z.2 then
     (l1.bind fun q271 =>
    if mm_cls w q271 = 11 then
     (mm_kI (mm_run (zP Z) 182 [.inr (.inr (some q271)), .inl (Z.1 (mm_w32 (l3 + 1))), .inl (Z.1 (mm_w32 (l3 + 2)))] w) fun x273 w272 =>
    if 0 ≤ mm_w32 (l3 + 1) ∧ mm_w32 (l3 + 1) < Z.2 then
     (if 0 ≤ mm_w32 (l3 + 2) ∧ mm_w32 (l3 + 2) < Z.2 then
     (l2.bind fun q274 =>
    if mm_cls w272 q274 = 12 then
     (mm_kI (mm_run (zP Z) 346 [.inr (.inr (some q274)), .inl (Z.1 (mm_w32 (l3 + 1))), .inl (Z.1 (mm_w32 (l3 + 2)))] w272) fun x276 w275 =>
    if x273 = x276 then
     mm_at (zP Z) 365 10 [some (.inr (.inr l0)), some (.inr (.inr l1)), some (.inr (.inr l2)), some (.inl (mm_w32 (l3 + 6)))] [] w275
    else
     some (some (.inl 0), w275))
    else none)
    else none)
    else none)
    else none)
    else none)
    else none
   else if mm_iand (Z.1 l3) 63 = 47 then
    if 0 ≤ mm_w32 (l3 + 1) ∧ mm_w32 (l3 + 1) < Z.2 then
     (if 0 ≤ mm_w32 (l3 + 2) ∧ mm_w32 (l3 + 2) < Z.2 then
     (l1.bind fun q277 =>
    if mm_cls w q277 = 11 then
     (mm_kI (mm_run (zP Z) 183 [.inr (.inr (some q277)), .inl (Z.1 (mm_w32 (l3 + 1))), .inl (Z.1 (mm_w32 (l3 + 2)))] w) fun x279 w278 =>
    if 0 ≤ mm_w32 (l3 + 1) ∧ mm_w32 (l3 + 1) < Z.2 then
     (if 0 ≤ mm_w32 (l3 + 2) ∧ mm_w32 (l3 + 2) < Z.2 then
     (l2.bind fun q280 =>
    if mm_cls w278 q280 = 12 then
     (mm_kI (mm_run (zP Z) 347 [.inr (.inr (some q280)), .inl (Z.1 (mm_w32 (l3 + 1))), .inl (Z.1 (mm_w32 (l3 + 2)))] w278) fun x282 w281 =>
    if x279 = x282 then
     mm_at (zP Z) 365 10 [some (.inr (.inr l0)), some (.inr (.inr l1)), some (.inr (.inr l2)), some (.inl (mm_w32 (l3 + 6)))] [] w281
    else
     some (some (.inl 0), w281))
    else none)
    else none)
    else none)
    else none)
    else none)
    else none
   else if mm_iand (Z.1 l3) 63 = 48 then
    if 0 ≤ mm_w32 (l3 + 1) ∧ mm_w32 (l3 + 1) < Z.2 then
     (l1.bind fun q283 =>
    if mm_cls w q283 = 11 then
     (mm_kI (mm_run (zP Z) 184 [.inr (.inr (some q283)), .inl (Z.1 (mm_w32 (l3 + 1)))] w) fun x285 w284 =>
    if 0 ≤ mm_w32 (l3 + 1) ∧ mm_w32 (l3 + 1) < Z.2 then
     (l2.bind fun q286 =>
    if mm_cls w284 q286 = 12 then
     (mm_kI (mm_run (zP Z) 348 [.inr (.inr (some q286)), .inl (Z.1 (mm_w32 (l3 + 1)))] w284) fun x288 w287 =>
    if x285 = x288 then
     mm_at (zP Z) 365 10 [some (.inr (.inr l0)), some (.inr (.inr l1)), some (.inr (.inr l2)), some (.inl (mm_w32 (l3 + 6)))] [] w287
    else
     some (some (.inl 0), w287))
    else none)
    else none)
    else none)
    else none
   else if mm_iand (Z.1 l3) 63 = 49 then
    if 0 ≤ mm_w32 (l3 + 1) ∧ mm_w32 (l3 + 1) < Z.2 then
     (l1.bind fun q289 =>
    if mm_cls w q289 = 11 then
     (mm_kI (mm_run (zP Z) 185 [.inr (.inr (some q289)), .inl (Z.1 (mm_w32 (l3 + 1)))] w) fun x291 w290 =>
    if 0 ≤ mm_w32 (l3 + 1) ∧ mm_w32 (l3 + 1) < Z.2 then
     (l2.bind fun q292 =>
    if mm_cls w290 q292 = 12 then
     (mm_kI (mm_run (zP Z) 358 [.inr (.inr (some q292)), .inl (Z.1 (mm_w32 (l3 + 1)))] w290) fun x294 w293 =>
    if x291 = x294 then
     mm_at (zP Z) 365 10 [some (.inr (.inr l0)), some (.inr (.inr l1)), some (.inr (.inr l2)), some (.inl (mm_w32 (l3 + 6)))] [] w293
    else
     some (some (.inl 0), w293))
    else none)
    else none)
    else none)
    else none
   else if mm_iand (Z.1 l3) 63 = 50 then
    if 0 ≤ mm_w32 (l3 + 1) ∧ mm_w32 (l3 + 1) < Z.2 then
     (l1.bind fun q295 =>
    if mm_cls w q295 = 11 then
     (mm_kI (mm_run (zP Z) 186 [.inr (.inr (some q295)), .inl (Z.1 (mm_w32 (l3 + 1)))] w) fun x297 w296 =>
    if 0 ≤ mm_w32 (l3 + 1) ∧ mm_w32 (l3 + 1) < Z.2 then
     (l2.bind fun q298 =>
    if mm_cls w296 q298 = 12 then
     (mm_kI (mm_run (zP Z) 359 [.inr (.inr (some q298)), .inl (Z.1 (mm_w32 (l3 + 1)))] w296) fun x300 w299 =>
    if x297 = x300 then
     mm_at (zP Z) 365 10 [some (.inr (.inr l0)), some (.inr (.inr l1)), some (.inr (.inr l2)), some (.inl (mm_w32 (l3 + 6)))] [] w299
    else
     some (some (.inl 0), w299))
    else none)
    else none)
    else none)
    else none
   else if mm_iand (Z.1 l3) 63 = 51 then
    if 0 ≤ mm_w32 (l3 + 1) ∧ mm_w32 (l3 + 1) < Z.2 then
     (if 0 ≤ mm_w32 (l3 + 2) ∧ mm_w32 (l3 + 2) < Z.2 then
     (l1.bind fun q301 =>
    if mm_cls w q301 = 11 then
     (mm_kI (mm_run (zP Z) 187 [.inr (.inr (some q301)), .inl (Z.1 (mm_w32 (l3 + 1))), .inl (Z.1 (mm_w32 (l3 + 2)))] w) fun x303 w302 =>
    if 0 ≤ mm_w32 (l3 + 1) ∧ mm_w32 (l3 + 1) < Z.2 then
     (if 0 ≤ mm_w32 (l3 + 2) ∧ mm_w32 (l3 + 2) < Z.2 then
     (l2.bind fun q304 =>
    if mm_cls w302 q304 = 12 then
     (mm_kI (mm_run (zP Z) 360 [.inr (.inr (some q304)), .inl (Z.1 (mm_w32 (l3 + 1))), .inl (Z.1 (mm_w32 (l3 + 2)))] w302) fun x306 w305 =>
    if x303 = x306 then
     mm_at (zP Z) 365 10 [some (.inr (.inr l0)), some (.inr (.inr l1)), some (.inr (.inr l2)), some (.inl (mm_w32 (l3 + 6)))] [] w305
    else
     some (some (.inl 0), w305))
    else none)
    else none)
    else none)
    else none)
    else none)
    else none
   else if mm_iand (Z.1 l3) 63 = 52 then
    l1.bind fun q307 =>
    if mm_cls w q307 = 11 then
     (mm_kI (mm_run (zP Z) 188 [.inr (.inr (some q307))] w) fun x309 w308 =>
    l2.bind fun q310 =>
    if mm_cls w308 q310 = 12 then
     (mm_kI (mm_run (zP Z) 362 [.inr (.inr (some q310))] w308) fun x312 w311 =>
    if x309 = x312 then
     mm_at (zP Z) 365 10 [some (.inr (.inr l0)), some (.inr (.inr l1)), some (.inr (.inr l2)), some (.inl (mm_w32 (l3 + 6)))] [] w311
    else
     some (some (.inl 0), w311))
    else none)
    else none
   else if mm_iand (Z.1 l3) 63 = 53 then
    l1.bind fun q313 =>
    if mm_cls w q313 = 11 then
     (mm_kI (mm_run (zP Z) 189 [.inr (.inr (some q313))] w) fun x315 w314 =>
    l2.bind fun q316 =>
    if mm_cls w314 q316 = 12 then
     (mm_kI (mm_run (zP Z) 363 [.inr (.inr (some q316))] w314) fun x318 w317 =>
    if x315 = x318 then
     mm_at (zP Z) 365 10 [some (.inr (.inr l0)), some (.inr (.inr l1)), some (.inr (.inr l2)), some (.inl (mm_w32 (l3 + 6)))] [] w317
    else
     some (some (.inl 0), w317))
    else none)
    else none
   else mm_at (zP Z) 365 10 [some (.inr (.inr l0)), some (.inr (.inr l1)), some (.inr (.inr l2)), some (.inl (mm_w32 (l3 + 6)))] [] w)
   else none :=
  (mm_V_eq (P := zP Z) (y := 365) z_cd365 [10, 650, 671] 74 10 _ _ w).trans rfl

set_option maxRecDepth 100000 in
theorem B_L_law_650 (Z : mX) (l0 : Option Nat) (l1 : Option Nat) (l2 : Option Nat) (l3 : Int) (s0 : Option Nat) (s1 : Int) (s2 : Int) (s3 : Int) (w : mW) : mm_at (zP Z) 365 650 [some (.inr (.inr l0)), some (.inr (.inr l1)), some (.inr (.inr l2)), some (.inl l3)] [.inl s3, .inl s2, .inl s1, .inr (.inr s0)] w =
  s0.bind fun q1 =>
  if mm_cls w q1 = 11 then
   (mm_kI (mm_run (zP Z) 159 [.inr (.inr (some q1)), .inl s1, .inl s2, .inl s3] w) fun x3 w2 =>
  if 0 ≤ mm_w32 (l3 + 1) ∧ mm_w32 (l3 + 1) < Z.2 then
   (if 0 ≤ mm_w32 (l3 + 2) ∧ mm_w32 (l3 + 2) < Z.2 then
   (if 0 ≤ mm_w32 (l3 + 3) ∧ mm_w32 (l3 + 3) < Z.2 then
   (if Z.1 (mm_w32 (l3 + 3)) = 0 then
   mm_at (zP Z) 365 671 [some (.inr (.inr l0)), some (.inr (.inr l1)), some (.inr (.inr l2)), some (.inl l3)] [.inl 0, .inl (Z.1 (mm_w32 (l3 + 2))), .inl (Z.1 (mm_w32 (l3 + 1))), .inr (.inr l2), .inl x3] w2
  else
   mm_at (zP Z) 365 671 [some (.inr (.inr l0)), some (.inr (.inr l1)), some (.inr (.inr l2)), some (.inl l3)] [.inl 1, .inl (Z.1 (mm_w32 (l3 + 2))), .inl (Z.1 (mm_w32 (l3 + 1))), .inr (.inr l2), .inl x3] w2)
  else none)
  else none)
  else none)
  else none :=
  (mm_V_eq (P := zP Z) (y := 365) z_cd365 [10, 650, 671] 21 650 _ _ w).trans rfl

set_option maxRecDepth 100000 in
theorem B_L_law_671 (Z : mX) (l0 : Option Nat) (l1 : Option Nat) (l2 : Option Nat) (l3 : Int) (s0 : Int) (s1 : Option Nat) (s2 : Int) (s3 : Int) (s4 : Int) (w : mW) : mm_at (zP Z) 365 671 [some (.inr (.inr l0)), some (.inr (.inr l1)), some (.inr (.inr l2)), some (.inl l3)] [.inl s4, .inl s3, .inl s2, .inr (.inr s1), .inl s0] w =
  s1.bind fun q1 =>
  if mm_cls w q1 = 12 then
   (mm_kI (mm_run (zP Z) 305 [.inr (.inr (some q1)), .inl s2, .inl s3, .inl s4] w) fun x3 w2 =>
  if s0 = x3 then
   mm_at (zP Z) 365 10 [some (.inr (.inr l0)), some (.inr (.inr l1)), some (.inr (.inr l2)), some (.inl (mm_w32 (l3 + 6)))] [] w2
  else
   some (some (.inl 0), w2))
  else none :=
  (mm_V_eq (P := zP Z) (y := 365) z_cd365 [10, 650, 671] 5 671 _ _ w).trans rfl

