/-! printed by wip/whole/gen/emit.py: each method of the mini machine up to its labels -/
-- ThornSchoolLaw.law([I)Z
set_option maxRecDepth 100000 in
set_option maxHeartbeats 4000000 in
theorem B_L_law (Z : mX) (a0 : Option Nat) (w : mW) : mm_run (zP Z) 365 [.inr (.inr a0)] w =
  if mm_cls (mm_alloc w (.inl (11, z_defs 11)) 18) w.2.1 = 11 then
   (mm_kV (mm_run (zP Z) 135 [.inr (.inr (some w.2.1))] (mm_alloc w (.inl (11, z_defs 11)) 18)) fun w1 =>
  if mm_cls (mm_alloc w1 (.inl (12, z_defs 12)) 39) w1.2.1 = 12 then
   (mm_kV (mm_run (zP Z) 210 [.inr (.inr (some w1.2.1))] (mm_alloc w1 (.inl (12, z_defs 12)) 39)) fun w2 =>
  mm_at (zP Z) 365 10 [some (.inr (.inr a0)), some (.inr (.inr (some w.2.1))), some (.inr (.inr (some w1.2.1))), some (.inl 0)] [] w2)
  else none)
  else none :=
  (mm_run_eq (P := zP Z) (y := 365) z_cd365 rfl (l := [some (.inr (.inr a0)), none, none, none]) rfl [10, 22, 29, 37, 45, 82, 143, 171, 228, 285, 302, 319, 336, 353, 380, 407, 434, 461, 488, 515, 532, 549, 566, 603, 630, 650, 671, 675, 692, 709, 726, 753, 790, 817, 844, 871, 878, 895, 912, 929, 946, 953, 970, 997, 1034, 1081, 1118, 1145, 1182, 1219, 1246, 1273, 1290, 1307, 1324, 1351, 1358, 1365] 11 w).trans rfl

set_option maxRecDepth 100000 in
set_option maxHeartbeats 4000000 in
theorem B_L_law_10 (Z : mX) (l0 : Option Nat) (l1 : Option Nat) (l2 : Option Nat) (l3 : Int) (w : mW) : mm_at (zP Z) 365 10 [some (.inr (.inr l0)), some (.inr (.inr l1)), some (.inr (.inr l2)), some (.inl l3)] [] w =
  l0.bind fun q1 =>
  if q1 = 2 then
   (if mm_w32 (Z.2 - 6) < l3 then
   some (some (.inl 1), w)
  else
   l0.bind fun q2 =>
   if q2 = 2 ∧ 0 ≤ l3 ∧ l3 < Z.2 then
    (if mm_iand (Z.1 l3) 63 = 0 then
    mm_at (zP Z) 365 22 [some (.inr (.inr l0)), some (.inr (.inr l1)), some (.inr (.inr l2)), some (.inl l3)] [] w
   else if mm_iand (Z.1 l3) 63 = 1 then
    mm_at (zP Z) 365 29 [some (.inr (.inr l0)), some (.inr (.inr l1)), some (.inr (.inr l2)), some (.inl l3)] [] w
   else if mm_iand (Z.1 l3) 63 = 2 then
    mm_at (zP Z) 365 37 [some (.inr (.inr l0)), some (.inr (.inr l1)), some (.inr (.inr l2)), some (.inl l3)] [] w
   else if mm_iand (Z.1 l3) 63 = 3 then
    mm_at (zP Z) 365 45 [some (.inr (.inr l0)), some (.inr (.inr l1)), some (.inr (.inr l2)), some (.inl l3)] [] w
   else if mm_iand (Z.1 l3) 63 = 4 then
    mm_at (zP Z) 365 82 [some (.inr (.inr l0)), some (.inr (.inr l1)), some (.inr (.inr l2)), some (.inl l3)] [] w
   else if mm_iand (Z.1 l3) 63 = 5 then
    mm_at (zP Z) 365 143 [some (.inr (.inr l0)), some (.inr (.inr l1)), some (.inr (.inr l2)), some (.inl l3)] [] w
   else if mm_iand (Z.1 l3) 63 = 6 then
    mm_at (zP Z) 365 171 [some (.inr (.inr l0)), some (.inr (.inr l1)), some (.inr (.inr l2)), some (.inl l3)] [] w
   else if mm_iand (Z.1 l3) 63 = 7 then
    mm_at (zP Z) 365 228 [some (.inr (.inr l0)), some (.inr (.inr l1)), some (.inr (.inr l2)), some (.inl l3)] [] w
   else if mm_iand (Z.1 l3) 63 = 8 then
    mm_at (zP Z) 365 285 [some (.inr (.inr l0)), some (.inr (.inr l1)), some (.inr (.inr l2)), some (.inl l3)] [] w
   else if mm_iand (Z.1 l3) 63 = 9 then
    mm_at (zP Z) 365 302 [some (.inr (.inr l0)), some (.inr (.inr l1)), some (.inr (.inr l2)), some (.inl l3)] [] w
   else if mm_iand (Z.1 l3) 63 = 10 then
    mm_at (zP Z) 365 319 [some (.inr (.inr l0)), some (.inr (.inr l1)), some (.inr (.inr l2)), some (.inl l3)] [] w
   else if mm_iand (Z.1 l3) 63 = 11 then
    mm_at (zP Z) 365 336 [some (.inr (.inr l0)), some (.inr (.inr l1)), some (.inr (.inr l2)), some (.inl l3)] [] w
   else if mm_iand (Z.1 l3) 63 = 12 then
    mm_at (zP Z) 365 353 [some (.inr (.inr l0)), some (.inr (.inr l1)), some (.inr (.inr l2)), some (.inl l3)] [] w
   else if mm_iand (Z.1 l3) 63 = 13 then
    mm_at (zP Z) 365 380 [some (.inr (.inr l0)), some (.inr (.inr l1)), some (.inr (.inr l2)), some (.inl l3)] [] w
   else if mm_iand (Z.1 l3) 63 = 14 then
    mm_at (zP Z) 365 407 [some (.inr (.inr l0)), some (.inr (.inr l1)), some (.inr (.inr l2)), some (.inl l3)] [] w
   else if mm_iand (Z.1 l3) 63 = 15 then
    mm_at (zP Z) 365 434 [some (.inr (.inr l0)), some (.inr (.inr l1)), some (.inr (.inr l2)), some (.inl l3)] [] w
   else if mm_iand (Z.1 l3) 63 = 16 then
    mm_at (zP Z) 365 461 [some (.inr (.inr l0)), some (.inr (.inr l1)), some (.inr (.inr l2)), some (.inl l3)] [] w
   else if mm_iand (Z.1 l3) 63 = 17 then
    mm_at (zP Z) 365 488 [some (.inr (.inr l0)), some (.inr (.inr l1)), some (.inr (.inr l2)), some (.inl l3)] [] w
   else if mm_iand (Z.1 l3) 63 = 18 then
    mm_at (zP Z) 365 515 [some (.inr (.inr l0)), some (.inr (.inr l1)), some (.inr (.inr l2)), some (.inl l3)] [] w
   else if mm_iand (Z.1 l3) 63 = 19 then
    mm_at (zP Z) 365 532 [some (.inr (.inr l0)), some (.inr (.inr l1)), some (.inr (.inr l2)), some (.inl l3)] [] w
   else if mm_iand (Z.1 l3) 63 = 20 then
    mm_at (zP Z) 365 549 [some (.inr (.inr l0)), some (.inr (.inr l1)), some (.inr (.inr l2)), some (.inl l3)] [] w
   else if mm_iand (Z.1 l3) 63 = 21 then
    mm_at (zP Z) 365 566 [some (.inr (.inr l0)), some (.inr (.inr l1)), some (.inr (.inr l2)), some (.inl l3)] [] w
   else if mm_iand (Z.1 l3) 63 = 22 then
    mm_at (zP Z) 365 603 [some (.inr (.inr l0)), some (.inr (.inr l1)), some (.inr (.inr l2)), some (.inl l3)] [] w
   else if mm_iand (Z.1 l3) 63 = 23 then
    mm_at (zP Z) 365 630 [some (.inr (.inr l0)), some (.inr (.inr l1)), some (.inr (.inr l2)), some (.inl l3)] [] w
   else if mm_iand (Z.1 l3) 63 = 24 then
    mm_at (zP Z) 365 675 [some (.inr (.inr l0)), some (.inr (.inr l1)), some (.inr (.inr l2)), some (.inl l3)] [] w
   else if mm_iand (Z.1 l3) 63 = 25 then
    mm_at (zP Z) 365 692 [some (.inr (.inr l0)), some (.inr (.inr l1)), some (.inr (.inr l2)), some (.inl l3)] [] w
   else if mm_iand (Z.1 l3) 63 = 26 then
    mm_at (zP Z) 365 709 [some (.inr (.inr l0)), some (.inr (.inr l1)), some (.inr (.inr l2)), some (.inl l3)] [] w
   else if mm_iand (Z.1 l3) 63 = 27 then
    mm_at (zP Z) 365 726 [some (.inr (.inr l0)), some (.inr (.inr l1)), some (.inr (.inr l2)), some (.inl l3)] [] w
   else if mm_iand (Z.1 l3) 63 = 28 then
    mm_at (zP Z) 365 753 [some (.inr (.inr l0)), some (.inr (.inr l1)), some (.inr (.inr l2)), some (.inl l3)] [] w
   else if mm_iand (Z.1 l3) 63 = 29 then
    mm_at (zP Z) 365 790 [some (.inr (.inr l0)), some (.inr (.inr l1)), some (.inr (.inr l2)), some (.inl l3)] [] w
   else if mm_iand (Z.1 l3) 63 = 30 then
    mm_at (zP Z) 365 817 [some (.inr (.inr l0)), some (.inr (.inr l1)), some (.inr (.inr l2)), some (.inl l3)] [] w
   else if mm_iand (Z.1 l3) 63 = 31 then
    mm_at (zP Z) 365 844 [some (.inr (.inr l0)), some (.inr (.inr l1)), some (.inr (.inr l2)), some (.inl l3)] [] w
   else if mm_iand (Z.1 l3) 63 = 32 then
    mm_at (zP Z) 365 871 [some (.inr (.inr l0)), some (.inr (.inr l1)), some (.inr (.inr l2)), some (.inl l3)] [] w
   else if mm_iand (Z.1 l3) 63 = 33 then
    mm_at (zP Z) 365 878 [some (.inr (.inr l0)), some (.inr (.inr l1)), some (.inr (.inr l2)), some (.inl l3)] [] w
   else if mm_iand (Z.1 l3) 63 = 34 then
    mm_at (zP Z) 365 895 [some (.inr (.inr l0)), some (.inr (.inr l1)), some (.inr (.inr l2)), some (.inl l3)] [] w
   else if mm_iand (Z.1 l3) 63 = 35 then
    mm_at (zP Z) 365 912 [some (.inr (.inr l0)), some (.inr (.inr l1)), some (.inr (.inr l2)), some (.inl l3)] [] w
   else if mm_iand (Z.1 l3) 63 = 36 then
    mm_at (zP Z) 365 929 [some (.inr (.inr l0)), some (.inr (.inr l1)), some (.inr (.inr l2)), some (.inl l3)] [] w
   else if mm_iand (Z.1 l3) 63 = 37 then
    mm_at (zP Z) 365 946 [some (.inr (.inr l0)), some (.inr (.inr l1)), some (.inr (.inr l2)), some (.inl l3)] [] w
   else if mm_iand (Z.1 l3) 63 = 38 then
    mm_at (zP Z) 365 953 [some (.inr (.inr l0)), some (.inr (.inr l1)), some (.inr (.inr l2)), some (.inl l3)] [] w
   else if mm_iand (Z.1 l3) 63 = 39 then
    mm_at (zP Z) 365 970 [some (.inr (.inr l0)), some (.inr (.inr l1)), some (.inr (.inr l2)), some (.inl l3)] [] w
   else if mm_iand (Z.1 l3) 63 = 40 then
    mm_at (zP Z) 365 997 [some (.inr (.inr l0)), some (.inr (.inr l1)), some (.inr (.inr l2)), some (.inl l3)] [] w
   else if mm_iand (Z.1 l3) 63 = 41 then
    mm_at (zP Z) 365 1034 [some (.inr (.inr l0)), some (.inr (.inr l1)), some (.inr (.inr l2)), some (.inl l3)] [] w
   else if mm_iand (Z.1 l3) 63 = 42 then
    mm_at (zP Z) 365 1081 [some (.inr (.inr l0)), some (.inr (.inr l1)), some (.inr (.inr l2)), some (.inl l3)] [] w
   else if mm_iand (Z.1 l3) 63 = 43 then
    mm_at (zP Z) 365 1118 [some (.inr (.inr l0)), some (.inr (.inr l1)), some (.inr (.inr l2)), some (.inl l3)] [] w
   else if mm_iand (Z.1 l3) 63 = 44 then
    mm_at (zP Z) 365 1145 [some (.inr (.inr l0)), some (.inr (.inr l1)), some (.inr (.inr l2)), some (.inl l3)] [] w
   else if mm_iand (Z.1 l3) 63 = 45 then
    mm_at (zP Z) 365 1182 [some (.inr (.inr l0)), some (.inr (.inr l1)), some (.inr (.inr l2)), some (.inl l3)] [] w
   else if mm_iand (Z.1 l3) 63 = 46 then
    mm_at (zP Z) 365 1219 [some (.inr (.inr l0)), some (.inr (.inr l1)), some (.inr (.inr l2)), some (.inl l3)] [] w
   else if mm_iand (Z.1 l3) 63 = 47 then
    mm_at (zP Z) 365 1246 [some (.inr (.inr l0)), some (.inr (.inr l1)), some (.inr (.inr l2)), some (.inl l3)] [] w
   else if mm_iand (Z.1 l3) 63 = 48 then
    mm_at (zP Z) 365 1273 [some (.inr (.inr l0)), some (.inr (.inr l1)), some (.inr (.inr l2)), some (.inl l3)] [] w
   else if mm_iand (Z.1 l3) 63 = 49 then
    mm_at (zP Z) 365 1290 [some (.inr (.inr l0)), some (.inr (.inr l1)), some (.inr (.inr l2)), some (.inl l3)] [] w
   else if mm_iand (Z.1 l3) 63 = 50 then
    mm_at (zP Z) 365 1307 [some (.inr (.inr l0)), some (.inr (.inr l1)), some (.inr (.inr l2)), some (.inl l3)] [] w
   else if mm_iand (Z.1 l3) 63 = 51 then
    mm_at (zP Z) 365 1324 [some (.inr (.inr l0)), some (.inr (.inr l1)), some (.inr (.inr l2)), some (.inl l3)] [] w
   else if mm_iand (Z.1 l3) 63 = 52 then
    mm_at (zP Z) 365 1351 [some (.inr (.inr l0)), some (.inr (.inr l1)), some (.inr (.inr l2)), some (.inl l3)] [] w
   else if mm_iand (Z.1 l3) 63 = 53 then
    mm_at (zP Z) 365 1358 [some (.inr (.inr l0)), some (.inr (.inr l1)), some (.inr (.inr l2)), some (.inl l3)] [] w
   else mm_at (zP Z) 365 1365 [some (.inr (.inr l0)), some (.inr (.inr l1)), some (.inr (.inr l2)), some (.inl l3)] [] w)
   else none)
  else none :=
  (mm_V_eq (P := zP Z) (y := 365) z_cd365 [10, 22, 29, 37, 45, 82, 143, 171, 228, 285, 302, 319, 336, 353, 380, 407, 434, 461, 488, 515, 532, 549, 566, 603, 630, 650, 671, 675, 692, 709, 726, 753, 790, 817, 844, 871, 878, 895, 912, 929, 946, 953, 970, 997, 1034, 1081, 1118, 1145, 1182, 1219, 1246, 1273, 1290, 1307, 1324, 1351, 1358, 1365] 13 10 _ _ w).trans rfl

set_option maxRecDepth 100000 in
set_option maxHeartbeats 4000000 in
theorem B_L_law_22 (Z : mX) (l0 : Option Nat) (l1 : Option Nat) (l2 : Option Nat) (l3 : Int) (w : mW) : mm_at (zP Z) 365 22 [some (.inr (.inr l0)), some (.inr (.inr l1)), some (.inr (.inr l2)), some (.inl l3)] [] w =
  l1.bind fun q1 =>
  if mm_cls w q1 = 11 then
   (mm_kI (mm_run (zP Z) 136 [.inr (.inr (some q1))] w) fun x3 w2 =>
  l2.bind fun q4 =>
  if mm_cls w2 q4 = 12 then
   (mm_kI (mm_run (zP Z) 212 [.inr (.inr (some q4))] w2) fun x6 w5 =>
  if x3 = x6 then
   mm_at (zP Z) 365 1365 [some (.inr (.inr l0)), some (.inr (.inr l1)), some (.inr (.inr l2)), some (.inl l3)] [] w5
  else
   some (some (.inl 0), w5))
  else none)
  else none :=
  (mm_V_eq (P := zP Z) (y := 365) z_cd365 [10, 22, 29, 37, 45, 82, 143, 171, 228, 285, 302, 319, 336, 353, 380, 407, 434, 461, 488, 515, 532, 549, 566, 603, 630, 650, 671, 675, 692, 709, 726, 753, 790, 817, 844, 871, 878, 895, 912, 929, 946, 953, 970, 997, 1034, 1081, 1118, 1145, 1182, 1219, 1246, 1273, 1290, 1307, 1324, 1351, 1358, 1365] 8 22 _ _ w).trans rfl

set_option maxRecDepth 100000 in
set_option maxHeartbeats 4000000 in
theorem B_L_law_29 (Z : mX) (l0 : Option Nat) (l1 : Option Nat) (l2 : Option Nat) (l3 : Int) (w : mW) : mm_at (zP Z) 365 29 [some (.inr (.inr l0)), some (.inr (.inr l1)), some (.inr (.inr l2)), some (.inl l3)] [] w =
  l1.bind fun q1 =>
  if mm_cls w q1 = 11 then
   (mm_kJ (mm_run (zP Z) 137 [.inr (.inr (some q1))] w) fun x3 w2 =>
  l2.bind fun q4 =>
  if mm_cls w2 q4 = 12 then
   (mm_kJ (mm_run (zP Z) 213 [.inr (.inr (some q4))] w2) fun x6 w5 =>
  if mm_lcmp x3 x6 = 0 then
   mm_at (zP Z) 365 1365 [some (.inr (.inr l0)), some (.inr (.inr l1)), some (.inr (.inr l2)), some (.inl l3)] [] w5
  else
   some (some (.inl 0), w5))
  else none)
  else none :=
  (mm_V_eq (P := zP Z) (y := 365) z_cd365 [10, 22, 29, 37, 45, 82, 143, 171, 228, 285, 302, 319, 336, 353, 380, 407, 434, 461, 488, 515, 532, 549, 566, 603, 630, 650, 671, 675, 692, 709, 726, 753, 790, 817, 844, 871, 878, 895, 912, 929, 946, 953, 970, 997, 1034, 1081, 1118, 1145, 1182, 1219, 1246, 1273, 1290, 1307, 1324, 1351, 1358, 1365] 9 29 _ _ w).trans rfl

set_option maxRecDepth 100000 in
set_option maxHeartbeats 4000000 in
theorem B_L_law_37 (Z : mX) (l0 : Option Nat) (l1 : Option Nat) (l2 : Option Nat) (l3 : Int) (w : mW) : mm_at (zP Z) 365 37 [some (.inr (.inr l0)), some (.inr (.inr l1)), some (.inr (.inr l2)), some (.inl l3)] [] w =
  l1.bind fun q1 =>
  if mm_cls w q1 = 11 then
   (mm_kJ (mm_run (zP Z) 138 [.inr (.inr (some q1))] w) fun x3 w2 =>
  l2.bind fun q4 =>
  if mm_cls w2 q4 = 12 then
   (mm_kJ (mm_run (zP Z) 214 [.inr (.inr (some q4))] w2) fun x6 w5 =>
  if mm_lcmp x3 x6 = 0 then
   mm_at (zP Z) 365 1365 [some (.inr (.inr l0)), some (.inr (.inr l1)), some (.inr (.inr l2)), some (.inl l3)] [] w5
  else
   some (some (.inl 0), w5))
  else none)
  else none :=
  (mm_V_eq (P := zP Z) (y := 365) z_cd365 [10, 22, 29, 37, 45, 82, 143, 171, 228, 285, 302, 319, 336, 353, 380, 407, 434, 461, 488, 515, 532, 549, 566, 603, 630, 650, 671, 675, 692, 709, 726, 753, 790, 817, 844, 871, 878, 895, 912, 929, 946, 953, 970, 997, 1034, 1081, 1118, 1145, 1182, 1219, 1246, 1273, 1290, 1307, 1324, 1351, 1358, 1365] 9 37 _ _ w).trans rfl

set_option maxRecDepth 100000 in
set_option maxHeartbeats 4000000 in
theorem B_L_law_45 (Z : mX) (l0 : Option Nat) (l1 : Option Nat) (l2 : Option Nat) (l3 : Int) (w : mW) : mm_at (zP Z) 365 45 [some (.inr (.inr l0)), some (.inr (.inr l1)), some (.inr (.inr l2)), some (.inl l3)] [] w =
  l0.bind fun q1 =>
  if q1 = 2 ∧ 0 ≤ mm_w32 (l3 + 1) ∧ mm_w32 (l3 + 1) < Z.2 then
   (l0.bind fun q2 =>
  if q2 = 2 ∧ 0 ≤ mm_w32 (l3 + 2) ∧ mm_w32 (l3 + 2) < Z.2 then
   (l0.bind fun q3 =>
  if q3 = 2 ∧ 0 ≤ mm_w32 (l3 + 3) ∧ mm_w32 (l3 + 3) < Z.2 then
   (l1.bind fun q4 =>
  if mm_cls w q4 = 11 then
   (mm_kI (mm_run (zP Z) 139 [.inr (.inr (some q4)), .inl (Z.1 (mm_w32 (l3 + 1))), .inl (Z.1 (mm_w32 (l3 + 2))), .inl (Z.1 (mm_w32 (l3 + 3)))] w) fun x6 w5 =>
  l0.bind fun q7 =>
  if q7 = 2 ∧ 0 ≤ mm_w32 (l3 + 1) ∧ mm_w32 (l3 + 1) < Z.2 then
   (l0.bind fun q8 =>
  if q8 = 2 ∧ 0 ≤ mm_w32 (l3 + 2) ∧ mm_w32 (l3 + 2) < Z.2 then
   (l0.bind fun q9 =>
  if q9 = 2 ∧ 0 ≤ mm_w32 (l3 + 3) ∧ mm_w32 (l3 + 3) < Z.2 then
   (l2.bind fun q10 =>
  if mm_cls w5 q10 = 12 then
   (mm_kI (mm_run (zP Z) 222 [.inr (.inr (some q10)), .inl (Z.1 (mm_w32 (l3 + 1))), .inl (Z.1 (mm_w32 (l3 + 2))), .inl (Z.1 (mm_w32 (l3 + 3)))] w5) fun x12 w11 =>
  if x6 = x12 then
   mm_at (zP Z) 365 1365 [some (.inr (.inr l0)), some (.inr (.inr l1)), some (.inr (.inr l2)), some (.inl l3)] [] w11
  else
   some (some (.inl 0), w11))
  else none)
  else none)
  else none)
  else none)
  else none)
  else none)
  else none)
  else none :=
  (mm_V_eq (P := zP Z) (y := 365) z_cd365 [10, 22, 29, 37, 45, 82, 143, 171, 228, 285, 302, 319, 336, 353, 380, 407, 434, 461, 488, 515, 532, 549, 566, 603, 630, 650, 671, 675, 692, 709, 726, 753, 790, 817, 844, 871, 878, 895, 912, 929, 946, 953, 970, 997, 1034, 1081, 1118, 1145, 1182, 1219, 1246, 1273, 1290, 1307, 1324, 1351, 1358, 1365] 38 45 _ _ w).trans rfl

set_option maxRecDepth 100000 in
set_option maxHeartbeats 4000000 in
theorem B_L_law_82 (Z : mX) (l0 : Option Nat) (l1 : Option Nat) (l2 : Option Nat) (l3 : Int) (w : mW) : mm_at (zP Z) 365 82 [some (.inr (.inr l0)), some (.inr (.inr l1)), some (.inr (.inr l2)), some (.inl l3)] [] w =
  l0.bind fun q1 =>
  if q1 = 2 ∧ 0 ≤ mm_w32 (l3 + 1) ∧ mm_w32 (l3 + 1) < Z.2 then
   (l0.bind fun q2 =>
  if q2 = 2 ∧ 0 ≤ mm_w32 (l3 + 2) ∧ mm_w32 (l3 + 2) < Z.2 then
   (l0.bind fun q3 =>
  if q3 = 2 ∧ 0 ≤ mm_w32 (l3 + 3) ∧ mm_w32 (l3 + 3) < Z.2 then
   (l0.bind fun q4 =>
  if q4 = 2 ∧ 0 ≤ mm_w32 (l3 + 4) ∧ mm_w32 (l3 + 4) < Z.2 then
   (l1.bind fun q5 =>
  if mm_cls w q5 = 11 then
   (mm_kI (mm_run (zP Z) 140 [.inr (.inr (some q5)), .inl (Z.1 (mm_w32 (l3 + 1))), .inl (Z.1 (mm_w32 (l3 + 2))), .inr (.inl (mm_lor (mm_lshl (Z.1 (mm_w32 (l3 + 3))) 32) (mm_land (Z.1 (mm_w32 (l3 + 4))) 4294967295)))] w) fun x7 w6 =>
  l0.bind fun q8 =>
  if q8 = 2 ∧ 0 ≤ mm_w32 (l3 + 1) ∧ mm_w32 (l3 + 1) < Z.2 then
   (l0.bind fun q9 =>
  if q9 = 2 ∧ 0 ≤ mm_w32 (l3 + 2) ∧ mm_w32 (l3 + 2) < Z.2 then
   (l0.bind fun q10 =>
  if q10 = 2 ∧ 0 ≤ mm_w32 (l3 + 3) ∧ mm_w32 (l3 + 3) < Z.2 then
   (l0.bind fun q11 =>
  if q11 = 2 ∧ 0 ≤ mm_w32 (l3 + 4) ∧ mm_w32 (l3 + 4) < Z.2 then
   (l2.bind fun q12 =>
  if mm_cls w6 q12 = 12 then
   (mm_kI (mm_run (zP Z) 224 [.inr (.inr (some q12)), .inl (Z.1 (mm_w32 (l3 + 1))), .inl (Z.1 (mm_w32 (l3 + 2))), .inr (.inl (mm_lor (mm_lshl (Z.1 (mm_w32 (l3 + 3))) 32) (mm_land (Z.1 (mm_w32 (l3 + 4))) 4294967295)))] w6) fun x14 w13 =>
  if x7 = x14 then
   mm_at (zP Z) 365 1365 [some (.inr (.inr l0)), some (.inr (.inr l1)), some (.inr (.inr l2)), some (.inl l3)] [] w13
  else
   some (some (.inl 0), w13))
  else none)
  else none)
  else none)
  else none)
  else none)
  else none)
  else none)
  else none)
  else none)
  else none :=
  (mm_V_eq (P := zP Z) (y := 365) z_cd365 [10, 22, 29, 37, 45, 82, 143, 171, 228, 285, 302, 319, 336, 353, 380, 407, 434, 461, 488, 515, 532, 549, 566, 603, 630, 650, 671, 675, 692, 709, 726, 753, 790, 817, 844, 871, 878, 895, 912, 929, 946, 953, 970, 997, 1034, 1081, 1118, 1145, 1182, 1219, 1246, 1273, 1290, 1307, 1324, 1351, 1358, 1365] 62 82 _ _ w).trans rfl

set_option maxRecDepth 100000 in
set_option maxHeartbeats 4000000 in
theorem B_L_law_143 (Z : mX) (l0 : Option Nat) (l1 : Option Nat) (l2 : Option Nat) (l3 : Int) (w : mW) : mm_at (zP Z) 365 143 [some (.inr (.inr l0)), some (.inr (.inr l1)), some (.inr (.inr l2)), some (.inl l3)] [] w =
  l0.bind fun q1 =>
  if q1 = 2 ∧ 0 ≤ mm_w32 (l3 + 1) ∧ mm_w32 (l3 + 1) < Z.2 then
   (l0.bind fun q2 =>
  if q2 = 2 ∧ 0 ≤ mm_w32 (l3 + 2) ∧ mm_w32 (l3 + 2) < Z.2 then
   (l1.bind fun q3 =>
  if mm_cls w q3 = 11 then
   (mm_kJ (mm_run (zP Z) 141 [.inr (.inr (some q3)), .inl (Z.1 (mm_w32 (l3 + 1))), .inl (Z.1 (mm_w32 (l3 + 2)))] w) fun x5 w4 =>
  l0.bind fun q6 =>
  if q6 = 2 ∧ 0 ≤ mm_w32 (l3 + 1) ∧ mm_w32 (l3 + 1) < Z.2 then
   (l0.bind fun q7 =>
  if q7 = 2 ∧ 0 ≤ mm_w32 (l3 + 2) ∧ mm_w32 (l3 + 2) < Z.2 then
   (l2.bind fun q8 =>
  if mm_cls w4 q8 = 12 then
   (mm_kJ (mm_run (zP Z) 225 [.inr (.inr (some q8)), .inl (Z.1 (mm_w32 (l3 + 1))), .inl (Z.1 (mm_w32 (l3 + 2)))] w4) fun x10 w9 =>
  if mm_lcmp x5 x10 = 0 then
   mm_at (zP Z) 365 1365 [some (.inr (.inr l0)), some (.inr (.inr l1)), some (.inr (.inr l2)), some (.inl l3)] [] w9
  else
   some (some (.inl 0), w9))
  else none)
  else none)
  else none)
  else none)
  else none)
  else none :=
  (mm_V_eq (P := zP Z) (y := 365) z_cd365 [10, 22, 29, 37, 45, 82, 143, 171, 228, 285, 302, 319, 336, 353, 380, 407, 434, 461, 488, 515, 532, 549, 566, 603, 630, 650, 671, 675, 692, 709, 726, 753, 790, 817, 844, 871, 878, 895, 912, 929, 946, 953, 970, 997, 1034, 1081, 1118, 1145, 1182, 1219, 1246, 1273, 1290, 1307, 1324, 1351, 1358, 1365] 29 143 _ _ w).trans rfl

set_option maxRecDepth 100000 in
set_option maxHeartbeats 4000000 in
theorem B_L_law_171 (Z : mX) (l0 : Option Nat) (l1 : Option Nat) (l2 : Option Nat) (l3 : Int) (w : mW) : mm_at (zP Z) 365 171 [some (.inr (.inr l0)), some (.inr (.inr l1)), some (.inr (.inr l2)), some (.inl l3)] [] w =
  l0.bind fun q1 =>
  if q1 = 2 ∧ 0 ≤ mm_w32 (l3 + 1) ∧ mm_w32 (l3 + 1) < Z.2 then
   (l0.bind fun q2 =>
  if q2 = 2 ∧ 0 ≤ mm_w32 (l3 + 2) ∧ mm_w32 (l3 + 2) < Z.2 then
   (l0.bind fun q3 =>
  if q3 = 2 ∧ 0 ≤ mm_w32 (l3 + 3) ∧ mm_w32 (l3 + 3) < Z.2 then
   (l0.bind fun q4 =>
  if q4 = 2 ∧ 0 ≤ mm_w32 (l3 + 4) ∧ mm_w32 (l3 + 4) < Z.2 then
   (l0.bind fun q5 =>
  if q5 = 2 ∧ 0 ≤ mm_w32 (l3 + 5) ∧ mm_w32 (l3 + 5) < Z.2 then
   (l1.bind fun q6 =>
  if mm_cls w q6 = 11 then
   (mm_kI (mm_run (zP Z) 142 [.inr (.inr (some q6)), .inl (Z.1 (mm_w32 (l3 + 1))), .inl (Z.1 (mm_w32 (l3 + 2))), .inl (Z.1 (mm_w32 (l3 + 3))), .inl (Z.1 (mm_w32 (l3 + 4))), .inl (Z.1 (mm_w32 (l3 + 5)))] w) fun x8 w7 =>
  l0.bind fun q9 =>
  if q9 = 2 ∧ 0 ≤ mm_w32 (l3 + 1) ∧ mm_w32 (l3 + 1) < Z.2 then
   (l0.bind fun q10 =>
  if q10 = 2 ∧ 0 ≤ mm_w32 (l3 + 2) ∧ mm_w32 (l3 + 2) < Z.2 then
   (l0.bind fun q11 =>
  if q11 = 2 ∧ 0 ≤ mm_w32 (l3 + 3) ∧ mm_w32 (l3 + 3) < Z.2 then
   (l0.bind fun q12 =>
  if q12 = 2 ∧ 0 ≤ mm_w32 (l3 + 4) ∧ mm_w32 (l3 + 4) < Z.2 then
   (l0.bind fun q13 =>
  if q13 = 2 ∧ 0 ≤ mm_w32 (l3 + 5) ∧ mm_w32 (l3 + 5) < Z.2 then
   (l2.bind fun q14 =>
  if mm_cls w7 q14 = 12 then
   (mm_kI (mm_run (zP Z) 226 [.inr (.inr (some q14)), .inl (Z.1 (mm_w32 (l3 + 1))), .inl (Z.1 (mm_w32 (l3 + 2))), .inl (Z.1 (mm_w32 (l3 + 3))), .inl (Z.1 (mm_w32 (l3 + 4))), .inl (Z.1 (mm_w32 (l3 + 5)))] w7) fun x16 w15 =>
  if x8 = x16 then
   mm_at (zP Z) 365 1365 [some (.inr (.inr l0)), some (.inr (.inr l1)), some (.inr (.inr l2)), some (.inl l3)] [] w15
  else
   some (some (.inl 0), w15))
  else none)
  else none)
  else none)
  else none)
  else none)
  else none)
  else none)
  else none)
  else none)
  else none)
  else none)
  else none :=
  (mm_V_eq (P := zP Z) (y := 365) z_cd365 [10, 22, 29, 37, 45, 82, 143, 171, 228, 285, 302, 319, 336, 353, 380, 407, 434, 461, 488, 515, 532, 549, 566, 603, 630, 650, 671, 675, 692, 709, 726, 753, 790, 817, 844, 871, 878, 895, 912, 929, 946, 953, 970, 997, 1034, 1081, 1118, 1145, 1182, 1219, 1246, 1273, 1290, 1307, 1324, 1351, 1358, 1365] 58 171 _ _ w).trans rfl

set_option maxRecDepth 100000 in
set_option maxHeartbeats 4000000 in
theorem B_L_law_228 (Z : mX) (l0 : Option Nat) (l1 : Option Nat) (l2 : Option Nat) (l3 : Int) (w : mW) : mm_at (zP Z) 365 228 [some (.inr (.inr l0)), some (.inr (.inr l1)), some (.inr (.inr l2)), some (.inl l3)] [] w =
  l0.bind fun q1 =>
  if q1 = 2 ∧ 0 ≤ mm_w32 (l3 + 1) ∧ mm_w32 (l3 + 1) < Z.2 then
   (l0.bind fun q2 =>
  if q2 = 2 ∧ 0 ≤ mm_w32 (l3 + 2) ∧ mm_w32 (l3 + 2) < Z.2 then
   (l0.bind fun q3 =>
  if q3 = 2 ∧ 0 ≤ mm_w32 (l3 + 3) ∧ mm_w32 (l3 + 3) < Z.2 then
   (l0.bind fun q4 =>
  if q4 = 2 ∧ 0 ≤ mm_w32 (l3 + 4) ∧ mm_w32 (l3 + 4) < Z.2 then
   (l0.bind fun q5 =>
  if q5 = 2 ∧ 0 ≤ mm_w32 (l3 + 5) ∧ mm_w32 (l3 + 5) < Z.2 then
   (l1.bind fun q6 =>
  if mm_cls w q6 = 11 then
   (mm_kI (mm_run (zP Z) 143 [.inr (.inr (some q6)), .inl (Z.1 (mm_w32 (l3 + 1))), .inl (Z.1 (mm_w32 (l3 + 2))), .inl (Z.1 (mm_w32 (l3 + 3))), .inl (Z.1 (mm_w32 (l3 + 4))), .inl (Z.1 (mm_w32 (l3 + 5)))] w) fun x8 w7 =>
  l0.bind fun q9 =>
  if q9 = 2 ∧ 0 ≤ mm_w32 (l3 + 1) ∧ mm_w32 (l3 + 1) < Z.2 then
   (l0.bind fun q10 =>
  if q10 = 2 ∧ 0 ≤ mm_w32 (l3 + 2) ∧ mm_w32 (l3 + 2) < Z.2 then
   (l0.bind fun q11 =>
  if q11 = 2 ∧ 0 ≤ mm_w32 (l3 + 3) ∧ mm_w32 (l3 + 3) < Z.2 then
   (l0.bind fun q12 =>
  if q12 = 2 ∧ 0 ≤ mm_w32 (l3 + 4) ∧ mm_w32 (l3 + 4) < Z.2 then
   (l0.bind fun q13 =>
  if q13 = 2 ∧ 0 ≤ mm_w32 (l3 + 5) ∧ mm_w32 (l3 + 5) < Z.2 then
   (l2.bind fun q14 =>
  if mm_cls w7 q14 = 12 then
   (mm_kI (mm_run (zP Z) 228 [.inr (.inr (some q14)), .inl (Z.1 (mm_w32 (l3 + 1))), .inl (Z.1 (mm_w32 (l3 + 2))), .inl (Z.1 (mm_w32 (l3 + 3))), .inl (Z.1 (mm_w32 (l3 + 4))), .inl (Z.1 (mm_w32 (l3 + 5)))] w7) fun x16 w15 =>
  if x8 = x16 then
   mm_at (zP Z) 365 1365 [some (.inr (.inr l0)), some (.inr (.inr l1)), some (.inr (.inr l2)), some (.inl l3)] [] w15
  else
   some (some (.inl 0), w15))
  else none)
  else none)
  else none)
  else none)
  else none)
  else none)
  else none)
  else none)
  else none)
  else none)
  else none)
  else none :=
  (mm_V_eq (P := zP Z) (y := 365) z_cd365 [10, 22, 29, 37, 45, 82, 143, 171, 228, 285, 302, 319, 336, 353, 380, 407, 434, 461, 488, 515, 532, 549, 566, 603, 630, 650, 671, 675, 692, 709, 726, 753, 790, 817, 844, 871, 878, 895, 912, 929, 946, 953, 970, 997, 1034, 1081, 1118, 1145, 1182, 1219, 1246, 1273, 1290, 1307, 1324, 1351, 1358, 1365] 58 228 _ _ w).trans rfl

set_option maxRecDepth 100000 in
set_option maxHeartbeats 4000000 in
theorem B_L_law_285 (Z : mX) (l0 : Option Nat) (l1 : Option Nat) (l2 : Option Nat) (l3 : Int) (w : mW) : mm_at (zP Z) 365 285 [some (.inr (.inr l0)), some (.inr (.inr l1)), some (.inr (.inr l2)), some (.inl l3)] [] w =
  l0.bind fun q1 =>
  if q1 = 2 ∧ 0 ≤ mm_w32 (l3 + 1) ∧ mm_w32 (l3 + 1) < Z.2 then
   (l1.bind fun q2 =>
  if mm_cls w q2 = 11 then
   (mm_kI (mm_run (zP Z) 144 [.inr (.inr (some q2)), .inl (Z.1 (mm_w32 (l3 + 1)))] w) fun x4 w3 =>
  l0.bind fun q5 =>
  if q5 = 2 ∧ 0 ≤ mm_w32 (l3 + 1) ∧ mm_w32 (l3 + 1) < Z.2 then
   (l2.bind fun q6 =>
  if mm_cls w3 q6 = 12 then
   (mm_kI (mm_run (zP Z) 262 [.inr (.inr (some q6)), .inl (Z.1 (mm_w32 (l3 + 1)))] w3) fun x8 w7 =>
  if x4 = x8 then
   mm_at (zP Z) 365 1365 [some (.inr (.inr l0)), some (.inr (.inr l1)), some (.inr (.inr l2)), some (.inl l3)] [] w7
  else
   some (some (.inl 0), w7))
  else none)
  else none)
  else none)
  else none :=
  (mm_V_eq (P := zP Z) (y := 365) z_cd365 [10, 22, 29, 37, 45, 82, 143, 171, 228, 285, 302, 319, 336, 353, 380, 407, 434, 461, 488, 515, 532, 549, 566, 603, 630, 650, 671, 675, 692, 709, 726, 753, 790, 817, 844, 871, 878, 895, 912, 929, 946, 953, 970, 997, 1034, 1081, 1118, 1145, 1182, 1219, 1246, 1273, 1290, 1307, 1324, 1351, 1358, 1365] 18 285 _ _ w).trans rfl

set_option maxRecDepth 100000 in
set_option maxHeartbeats 4000000 in
theorem B_L_law_302 (Z : mX) (l0 : Option Nat) (l1 : Option Nat) (l2 : Option Nat) (l3 : Int) (w : mW) : mm_at (zP Z) 365 302 [some (.inr (.inr l0)), some (.inr (.inr l1)), some (.inr (.inr l2)), some (.inl l3)] [] w =
  l0.bind fun q1 =>
  if q1 = 2 ∧ 0 ≤ mm_w32 (l3 + 1) ∧ mm_w32 (l3 + 1) < Z.2 then
   (l1.bind fun q2 =>
  if mm_cls w q2 = 11 then
   (mm_kI (mm_run (zP Z) 145 [.inr (.inr (some q2)), .inl (Z.1 (mm_w32 (l3 + 1)))] w) fun x4 w3 =>
  l0.bind fun q5 =>
  if q5 = 2 ∧ 0 ≤ mm_w32 (l3 + 1) ∧ mm_w32 (l3 + 1) < Z.2 then
   (l2.bind fun q6 =>
  if mm_cls w3 q6 = 12 then
   (mm_kI (mm_run (zP Z) 269 [.inr (.inr (some q6)), .inl (Z.1 (mm_w32 (l3 + 1)))] w3) fun x8 w7 =>
  if x4 = x8 then
   mm_at (zP Z) 365 1365 [some (.inr (.inr l0)), some (.inr (.inr l1)), some (.inr (.inr l2)), some (.inl l3)] [] w7
  else
   some (some (.inl 0), w7))
  else none)
  else none)
  else none)
  else none :=
  (mm_V_eq (P := zP Z) (y := 365) z_cd365 [10, 22, 29, 37, 45, 82, 143, 171, 228, 285, 302, 319, 336, 353, 380, 407, 434, 461, 488, 515, 532, 549, 566, 603, 630, 650, 671, 675, 692, 709, 726, 753, 790, 817, 844, 871, 878, 895, 912, 929, 946, 953, 970, 997, 1034, 1081, 1118, 1145, 1182, 1219, 1246, 1273, 1290, 1307, 1324, 1351, 1358, 1365] 18 302 _ _ w).trans rfl

set_option maxRecDepth 100000 in
set_option maxHeartbeats 4000000 in
theorem B_L_law_319 (Z : mX) (l0 : Option Nat) (l1 : Option Nat) (l2 : Option Nat) (l3 : Int) (w : mW) : mm_at (zP Z) 365 319 [some (.inr (.inr l0)), some (.inr (.inr l1)), some (.inr (.inr l2)), some (.inl l3)] [] w =
  l0.bind fun q1 =>
  if q1 = 2 ∧ 0 ≤ mm_w32 (l3 + 1) ∧ mm_w32 (l3 + 1) < Z.2 then
   (l1.bind fun q2 =>
  if mm_cls w q2 = 11 then
   (mm_kI (mm_run (zP Z) 146 [.inr (.inr (some q2)), .inl (Z.1 (mm_w32 (l3 + 1)))] w) fun x4 w3 =>
  l0.bind fun q5 =>
  if q5 = 2 ∧ 0 ≤ mm_w32 (l3 + 1) ∧ mm_w32 (l3 + 1) < Z.2 then
   (l2.bind fun q6 =>
  if mm_cls w3 q6 = 12 then
   (mm_kI (mm_run (zP Z) 244 [.inr (.inr (some q6)), .inl (Z.1 (mm_w32 (l3 + 1)))] w3) fun x8 w7 =>
  if x4 = x8 then
   mm_at (zP Z) 365 1365 [some (.inr (.inr l0)), some (.inr (.inr l1)), some (.inr (.inr l2)), some (.inl l3)] [] w7
  else
   some (some (.inl 0), w7))
  else none)
  else none)
  else none)
  else none :=
  (mm_V_eq (P := zP Z) (y := 365) z_cd365 [10, 22, 29, 37, 45, 82, 143, 171, 228, 285, 302, 319, 336, 353, 380, 407, 434, 461, 488, 515, 532, 549, 566, 603, 630, 650, 671, 675, 692, 709, 726, 753, 790, 817, 844, 871, 878, 895, 912, 929, 946, 953, 970, 997, 1034, 1081, 1118, 1145, 1182, 1219, 1246, 1273, 1290, 1307, 1324, 1351, 1358, 1365] 18 319 _ _ w).trans rfl

set_option maxRecDepth 100000 in
set_option maxHeartbeats 4000000 in
theorem B_L_law_336 (Z : mX) (l0 : Option Nat) (l1 : Option Nat) (l2 : Option Nat) (l3 : Int) (w : mW) : mm_at (zP Z) 365 336 [some (.inr (.inr l0)), some (.inr (.inr l1)), some (.inr (.inr l2)), some (.inl l3)] [] w =
  l0.bind fun q1 =>
  if q1 = 2 ∧ 0 ≤ mm_w32 (l3 + 1) ∧ mm_w32 (l3 + 1) < Z.2 then
   (l1.bind fun q2 =>
  if mm_cls w q2 = 11 then
   (mm_kI (mm_run (zP Z) 147 [.inr (.inr (some q2)), .inl (Z.1 (mm_w32 (l3 + 1)))] w) fun x4 w3 =>
  l0.bind fun q5 =>
  if q5 = 2 ∧ 0 ≤ mm_w32 (l3 + 1) ∧ mm_w32 (l3 + 1) < Z.2 then
   (l2.bind fun q6 =>
  if mm_cls w3 q6 = 12 then
   (mm_kI (mm_run (zP Z) 282 [.inr (.inr (some q6)), .inl (Z.1 (mm_w32 (l3 + 1)))] w3) fun x8 w7 =>
  if x4 = x8 then
   mm_at (zP Z) 365 1365 [some (.inr (.inr l0)), some (.inr (.inr l1)), some (.inr (.inr l2)), some (.inl l3)] [] w7
  else
   some (some (.inl 0), w7))
  else none)
  else none)
  else none)
  else none :=
  (mm_V_eq (P := zP Z) (y := 365) z_cd365 [10, 22, 29, 37, 45, 82, 143, 171, 228, 285, 302, 319, 336, 353, 380, 407, 434, 461, 488, 515, 532, 549, 566, 603, 630, 650, 671, 675, 692, 709, 726, 753, 790, 817, 844, 871, 878, 895, 912, 929, 946, 953, 970, 997, 1034, 1081, 1118, 1145, 1182, 1219, 1246, 1273, 1290, 1307, 1324, 1351, 1358, 1365] 18 336 _ _ w).trans rfl

set_option maxRecDepth 100000 in
set_option maxHeartbeats 4000000 in
theorem B_L_law_353 (Z : mX) (l0 : Option Nat) (l1 : Option Nat) (l2 : Option Nat) (l3 : Int) (w : mW) : mm_at (zP Z) 365 353 [some (.inr (.inr l0)), some (.inr (.inr l1)), some (.inr (.inr l2)), some (.inl l3)] [] w =
  l0.bind fun q1 =>
  if q1 = 2 ∧ 0 ≤ mm_w32 (l3 + 1) ∧ mm_w32 (l3 + 1) < Z.2 then
   (l0.bind fun q2 =>
  if q2 = 2 ∧ 0 ≤ mm_w32 (l3 + 2) ∧ mm_w32 (l3 + 2) < Z.2 then
   (l1.bind fun q3 =>
  if mm_cls w q3 = 11 then
   (mm_kI (mm_run (zP Z) 148 [.inr (.inr (some q3)), .inl (Z.1 (mm_w32 (l3 + 1))), .inl (Z.1 (mm_w32 (l3 + 2)))] w) fun x5 w4 =>
  l0.bind fun q6 =>
  if q6 = 2 ∧ 0 ≤ mm_w32 (l3 + 1) ∧ mm_w32 (l3 + 1) < Z.2 then
   (l0.bind fun q7 =>
  if q7 = 2 ∧ 0 ≤ mm_w32 (l3 + 2) ∧ mm_w32 (l3 + 2) < Z.2 then
   (l2.bind fun q8 =>
  if mm_cls w4 q8 = 12 then
   (mm_kI (mm_run (zP Z) 284 [.inr (.inr (some q8)), .inl (Z.1 (mm_w32 (l3 + 1))), .inl (Z.1 (mm_w32 (l3 + 2)))] w4) fun x10 w9 =>
  if x5 = x10 then
   mm_at (zP Z) 365 1365 [some (.inr (.inr l0)), some (.inr (.inr l1)), some (.inr (.inr l2)), some (.inl l3)] [] w9
  else
   some (some (.inl 0), w9))
  else none)
  else none)
  else none)
  else none)
  else none)
  else none :=
  (mm_V_eq (P := zP Z) (y := 365) z_cd365 [10, 22, 29, 37, 45, 82, 143, 171, 228, 285, 302, 319, 336, 353, 380, 407, 434, 461, 488, 515, 532, 549, 566, 603, 630, 650, 671, 675, 692, 709, 726, 753, 790, 817, 844, 871, 878, 895, 912, 929, 946, 953, 970, 997, 1034, 1081, 1118, 1145, 1182, 1219, 1246, 1273, 1290, 1307, 1324, 1351, 1358, 1365] 28 353 _ _ w).trans rfl

set_option maxRecDepth 100000 in
set_option maxHeartbeats 4000000 in
theorem B_L_law_380 (Z : mX) (l0 : Option Nat) (l1 : Option Nat) (l2 : Option Nat) (l3 : Int) (w : mW) : mm_at (zP Z) 365 380 [some (.inr (.inr l0)), some (.inr (.inr l1)), some (.inr (.inr l2)), some (.inl l3)] [] w =
  l0.bind fun q1 =>
  if q1 = 2 ∧ 0 ≤ mm_w32 (l3 + 1) ∧ mm_w32 (l3 + 1) < Z.2 then
   (l0.bind fun q2 =>
  if q2 = 2 ∧ 0 ≤ mm_w32 (l3 + 2) ∧ mm_w32 (l3 + 2) < Z.2 then
   (l1.bind fun q3 =>
  if mm_cls w q3 = 11 then
   (mm_kI (mm_run (zP Z) 149 [.inr (.inr (some q3)), .inl (Z.1 (mm_w32 (l3 + 1))), .inl (Z.1 (mm_w32 (l3 + 2)))] w) fun x5 w4 =>
  l0.bind fun q6 =>
  if q6 = 2 ∧ 0 ≤ mm_w32 (l3 + 1) ∧ mm_w32 (l3 + 1) < Z.2 then
   (l0.bind fun q7 =>
  if q7 = 2 ∧ 0 ≤ mm_w32 (l3 + 2) ∧ mm_w32 (l3 + 2) < Z.2 then
   (l2.bind fun q8 =>
  if mm_cls w4 q8 = 12 then
   (mm_kI (mm_run (zP Z) 285 [.inr (.inr (some q8)), .inl (Z.1 (mm_w32 (l3 + 1))), .inl (Z.1 (mm_w32 (l3 + 2)))] w4) fun x10 w9 =>
  if x5 = x10 then
   mm_at (zP Z) 365 1365 [some (.inr (.inr l0)), some (.inr (.inr l1)), some (.inr (.inr l2)), some (.inl l3)] [] w9
  else
   some (some (.inl 0), w9))
  else none)
  else none)
  else none)
  else none)
  else none)
  else none :=
  (mm_V_eq (P := zP Z) (y := 365) z_cd365 [10, 22, 29, 37, 45, 82, 143, 171, 228, 285, 302, 319, 336, 353, 380, 407, 434, 461, 488, 515, 532, 549, 566, 603, 630, 650, 671, 675, 692, 709, 726, 753, 790, 817, 844, 871, 878, 895, 912, 929, 946, 953, 970, 997, 1034, 1081, 1118, 1145, 1182, 1219, 1246, 1273, 1290, 1307, 1324, 1351, 1358, 1365] 28 380 _ _ w).trans rfl

set_option maxRecDepth 100000 in
set_option maxHeartbeats 4000000 in
theorem B_L_law_407 (Z : mX) (l0 : Option Nat) (l1 : Option Nat) (l2 : Option Nat) (l3 : Int) (w : mW) : mm_at (zP Z) 365 407 [some (.inr (.inr l0)), some (.inr (.inr l1)), some (.inr (.inr l2)), some (.inl l3)] [] w =
  l0.bind fun q1 =>
  if q1 = 2 ∧ 0 ≤ mm_w32 (l3 + 1) ∧ mm_w32 (l3 + 1) < Z.2 then
   (l0.bind fun q2 =>
  if q2 = 2 ∧ 0 ≤ mm_w32 (l3 + 2) ∧ mm_w32 (l3 + 2) < Z.2 then
   (l1.bind fun q3 =>
  if mm_cls w q3 = 11 then
   (mm_kI (mm_run (zP Z) 150 [.inr (.inr (some q3)), .inl (Z.1 (mm_w32 (l3 + 1))), .inl (Z.1 (mm_w32 (l3 + 2)))] w) fun x5 w4 =>
  l0.bind fun q6 =>
  if q6 = 2 ∧ 0 ≤ mm_w32 (l3 + 1) ∧ mm_w32 (l3 + 1) < Z.2 then
   (l0.bind fun q7 =>
  if q7 = 2 ∧ 0 ≤ mm_w32 (l3 + 2) ∧ mm_w32 (l3 + 2) < Z.2 then
   (l2.bind fun q8 =>
  if mm_cls w4 q8 = 12 then
   (mm_kI (mm_run (zP Z) 286 [.inr (.inr (some q8)), .inl (Z.1 (mm_w32 (l3 + 1))), .inl (Z.1 (mm_w32 (l3 + 2)))] w4) fun x10 w9 =>
  if x5 = x10 then
   mm_at (zP Z) 365 1365 [some (.inr (.inr l0)), some (.inr (.inr l1)), some (.inr (.inr l2)), some (.inl l3)] [] w9
  else
   some (some (.inl 0), w9))
  else none)
  else none)
  else none)
  else none)
  else none)
  else none :=
  (mm_V_eq (P := zP Z) (y := 365) z_cd365 [10, 22, 29, 37, 45, 82, 143, 171, 228, 285, 302, 319, 336, 353, 380, 407, 434, 461, 488, 515, 532, 549, 566, 603, 630, 650, 671, 675, 692, 709, 726, 753, 790, 817, 844, 871, 878, 895, 912, 929, 946, 953, 970, 997, 1034, 1081, 1118, 1145, 1182, 1219, 1246, 1273, 1290, 1307, 1324, 1351, 1358, 1365] 28 407 _ _ w).trans rfl

set_option maxRecDepth 100000 in
set_option maxHeartbeats 4000000 in
theorem B_L_law_434 (Z : mX) (l0 : Option Nat) (l1 : Option Nat) (l2 : Option Nat) (l3 : Int) (w : mW) : mm_at (zP Z) 365 434 [some (.inr (.inr l0)), some (.inr (.inr l1)), some (.inr (.inr l2)), some (.inl l3)] [] w =
  l0.bind fun q1 =>
  if q1 = 2 ∧ 0 ≤ mm_w32 (l3 + 1) ∧ mm_w32 (l3 + 1) < Z.2 then
   (l0.bind fun q2 =>
  if q2 = 2 ∧ 0 ≤ mm_w32 (l3 + 2) ∧ mm_w32 (l3 + 2) < Z.2 then
   (l1.bind fun q3 =>
  if mm_cls w q3 = 11 then
   (mm_kI (mm_run (zP Z) 151 [.inr (.inr (some q3)), .inl (Z.1 (mm_w32 (l3 + 1))), .inl (Z.1 (mm_w32 (l3 + 2)))] w) fun x5 w4 =>
  l0.bind fun q6 =>
  if q6 = 2 ∧ 0 ≤ mm_w32 (l3 + 1) ∧ mm_w32 (l3 + 1) < Z.2 then
   (l0.bind fun q7 =>
  if q7 = 2 ∧ 0 ≤ mm_w32 (l3 + 2) ∧ mm_w32 (l3 + 2) < Z.2 then
   (l2.bind fun q8 =>
  if mm_cls w4 q8 = 12 then
   (mm_kI (mm_run (zP Z) 287 [.inr (.inr (some q8)), .inl (Z.1 (mm_w32 (l3 + 1))), .inl (Z.1 (mm_w32 (l3 + 2)))] w4) fun x10 w9 =>
  if x5 = x10 then
   mm_at (zP Z) 365 1365 [some (.inr (.inr l0)), some (.inr (.inr l1)), some (.inr (.inr l2)), some (.inl l3)] [] w9
  else
   some (some (.inl 0), w9))
  else none)
  else none)
  else none)
  else none)
  else none)
  else none :=
  (mm_V_eq (P := zP Z) (y := 365) z_cd365 [10, 22, 29, 37, 45, 82, 143, 171, 228, 285, 302, 319, 336, 353, 380, 407, 434, 461, 488, 515, 532, 549, 566, 603, 630, 650, 671, 675, 692, 709, 726, 753, 790, 817, 844, 871, 878, 895, 912, 929, 946, 953, 970, 997, 1034, 1081, 1118, 1145, 1182, 1219, 1246, 1273, 1290, 1307, 1324, 1351, 1358, 1365] 28 434 _ _ w).trans rfl

set_option maxRecDepth 100000 in
set_option maxHeartbeats 4000000 in
theorem B_L_law_461 (Z : mX) (l0 : Option Nat) (l1 : Option Nat) (l2 : Option Nat) (l3 : Int) (w : mW) : mm_at (zP Z) 365 461 [some (.inr (.inr l0)), some (.inr (.inr l1)), some (.inr (.inr l2)), some (.inl l3)] [] w =
  l0.bind fun q1 =>
  if q1 = 2 ∧ 0 ≤ mm_w32 (l3 + 1) ∧ mm_w32 (l3 + 1) < Z.2 then
   (l0.bind fun q2 =>
  if q2 = 2 ∧ 0 ≤ mm_w32 (l3 + 2) ∧ mm_w32 (l3 + 2) < Z.2 then
   (l1.bind fun q3 =>
  if mm_cls w q3 = 11 then
   (mm_kI (mm_run (zP Z) 152 [.inr (.inr (some q3)), .inl (Z.1 (mm_w32 (l3 + 1))), .inl (Z.1 (mm_w32 (l3 + 2)))] w) fun x5 w4 =>
  l0.bind fun q6 =>
  if q6 = 2 ∧ 0 ≤ mm_w32 (l3 + 1) ∧ mm_w32 (l3 + 1) < Z.2 then
   (l0.bind fun q7 =>
  if q7 = 2 ∧ 0 ≤ mm_w32 (l3 + 2) ∧ mm_w32 (l3 + 2) < Z.2 then
   (l2.bind fun q8 =>
  if mm_cls w4 q8 = 12 then
   (mm_kI (mm_run (zP Z) 291 [.inr (.inr (some q8)), .inl (Z.1 (mm_w32 (l3 + 1))), .inl (Z.1 (mm_w32 (l3 + 2)))] w4) fun x10 w9 =>
  if x5 = x10 then
   mm_at (zP Z) 365 1365 [some (.inr (.inr l0)), some (.inr (.inr l1)), some (.inr (.inr l2)), some (.inl l3)] [] w9
  else
   some (some (.inl 0), w9))
  else none)
  else none)
  else none)
  else none)
  else none)
  else none :=
  (mm_V_eq (P := zP Z) (y := 365) z_cd365 [10, 22, 29, 37, 45, 82, 143, 171, 228, 285, 302, 319, 336, 353, 380, 407, 434, 461, 488, 515, 532, 549, 566, 603, 630, 650, 671, 675, 692, 709, 726, 753, 790, 817, 844, 871, 878, 895, 912, 929, 946, 953, 970, 997, 1034, 1081, 1118, 1145, 1182, 1219, 1246, 1273, 1290, 1307, 1324, 1351, 1358, 1365] 28 461 _ _ w).trans rfl

set_option maxRecDepth 100000 in
set_option maxHeartbeats 4000000 in
theorem B_L_law_488 (Z : mX) (l0 : Option Nat) (l1 : Option Nat) (l2 : Option Nat) (l3 : Int) (w : mW) : mm_at (zP Z) 365 488 [some (.inr (.inr l0)), some (.inr (.inr l1)), some (.inr (.inr l2)), some (.inl l3)] [] w =
  l0.bind fun q1 =>
  if q1 = 2 ∧ 0 ≤ mm_w32 (l3 + 1) ∧ mm_w32 (l3 + 1) < Z.2 then
   (l0.bind fun q2 =>
  if q2 = 2 ∧ 0 ≤ mm_w32 (l3 + 2) ∧ mm_w32 (l3 + 2) < Z.2 then
   (l1.bind fun q3 =>
  if mm_cls w q3 = 11 then
   (mm_kI (mm_run (zP Z) 153 [.inr (.inr (some q3)), .inl (Z.1 (mm_w32 (l3 + 1))), .inl (Z.1 (mm_w32 (l3 + 2)))] w) fun x5 w4 =>
  l0.bind fun q6 =>
  if q6 = 2 ∧ 0 ≤ mm_w32 (l3 + 1) ∧ mm_w32 (l3 + 1) < Z.2 then
   (l0.bind fun q7 =>
  if q7 = 2 ∧ 0 ≤ mm_w32 (l3 + 2) ∧ mm_w32 (l3 + 2) < Z.2 then
   (l2.bind fun q8 =>
  if mm_cls w4 q8 = 12 then
   (mm_kI (mm_run (zP Z) 295 [.inr (.inr (some q8)), .inl (Z.1 (mm_w32 (l3 + 1))), .inl (Z.1 (mm_w32 (l3 + 2)))] w4) fun x10 w9 =>
  if x5 = x10 then
   mm_at (zP Z) 365 1365 [some (.inr (.inr l0)), some (.inr (.inr l1)), some (.inr (.inr l2)), some (.inl l3)] [] w9
  else
   some (some (.inl 0), w9))
  else none)
  else none)
  else none)
  else none)
  else none)
  else none :=
  (mm_V_eq (P := zP Z) (y := 365) z_cd365 [10, 22, 29, 37, 45, 82, 143, 171, 228, 285, 302, 319, 336, 353, 380, 407, 434, 461, 488, 515, 532, 549, 566, 603, 630, 650, 671, 675, 692, 709, 726, 753, 790, 817, 844, 871, 878, 895, 912, 929, 946, 953, 970, 997, 1034, 1081, 1118, 1145, 1182, 1219, 1246, 1273, 1290, 1307, 1324, 1351, 1358, 1365] 28 488 _ _ w).trans rfl

set_option maxRecDepth 100000 in
set_option maxHeartbeats 4000000 in
theorem B_L_law_515 (Z : mX) (l0 : Option Nat) (l1 : Option Nat) (l2 : Option Nat) (l3 : Int) (w : mW) : mm_at (zP Z) 365 515 [some (.inr (.inr l0)), some (.inr (.inr l1)), some (.inr (.inr l2)), some (.inl l3)] [] w =
  l0.bind fun q1 =>
  if q1 = 2 ∧ 0 ≤ mm_w32 (l3 + 1) ∧ mm_w32 (l3 + 1) < Z.2 then
   (l1.bind fun q2 =>
  if mm_cls w q2 = 11 then
   (mm_kI (mm_run (zP Z) 154 [.inr (.inr (some q2)), .inl (Z.1 (mm_w32 (l3 + 1)))] w) fun x4 w3 =>
  l0.bind fun q5 =>
  if q5 = 2 ∧ 0 ≤ mm_w32 (l3 + 1) ∧ mm_w32 (l3 + 1) < Z.2 then
   (l2.bind fun q6 =>
  if mm_cls w3 q6 = 12 then
   (mm_kI (mm_run (zP Z) 297 [.inr (.inr (some q6)), .inl (Z.1 (mm_w32 (l3 + 1)))] w3) fun x8 w7 =>
  if x4 = x8 then
   mm_at (zP Z) 365 1365 [some (.inr (.inr l0)), some (.inr (.inr l1)), some (.inr (.inr l2)), some (.inl l3)] [] w7
  else
   some (some (.inl 0), w7))
  else none)
  else none)
  else none)
  else none :=
  (mm_V_eq (P := zP Z) (y := 365) z_cd365 [10, 22, 29, 37, 45, 82, 143, 171, 228, 285, 302, 319, 336, 353, 380, 407, 434, 461, 488, 515, 532, 549, 566, 603, 630, 650, 671, 675, 692, 709, 726, 753, 790, 817, 844, 871, 878, 895, 912, 929, 946, 953, 970, 997, 1034, 1081, 1118, 1145, 1182, 1219, 1246, 1273, 1290, 1307, 1324, 1351, 1358, 1365] 18 515 _ _ w).trans rfl

set_option maxRecDepth 100000 in
set_option maxHeartbeats 4000000 in
theorem B_L_law_532 (Z : mX) (l0 : Option Nat) (l1 : Option Nat) (l2 : Option Nat) (l3 : Int) (w : mW) : mm_at (zP Z) 365 532 [some (.inr (.inr l0)), some (.inr (.inr l1)), some (.inr (.inr l2)), some (.inl l3)] [] w =
  l0.bind fun q1 =>
  if q1 = 2 ∧ 0 ≤ mm_w32 (l3 + 1) ∧ mm_w32 (l3 + 1) < Z.2 then
   (l1.bind fun q2 =>
  if mm_cls w q2 = 11 then
   (mm_kI (mm_run (zP Z) 155 [.inr (.inr (some q2)), .inl (Z.1 (mm_w32 (l3 + 1)))] w) fun x4 w3 =>
  l0.bind fun q5 =>
  if q5 = 2 ∧ 0 ≤ mm_w32 (l3 + 1) ∧ mm_w32 (l3 + 1) < Z.2 then
   (l2.bind fun q6 =>
  if mm_cls w3 q6 = 12 then
   (mm_kI (mm_run (zP Z) 299 [.inr (.inr (some q6)), .inl (Z.1 (mm_w32 (l3 + 1)))] w3) fun x8 w7 =>
  if x4 = x8 then
   mm_at (zP Z) 365 1365 [some (.inr (.inr l0)), some (.inr (.inr l1)), some (.inr (.inr l2)), some (.inl l3)] [] w7
  else
   some (some (.inl 0), w7))
  else none)
  else none)
  else none)
  else none :=
  (mm_V_eq (P := zP Z) (y := 365) z_cd365 [10, 22, 29, 37, 45, 82, 143, 171, 228, 285, 302, 319, 336, 353, 380, 407, 434, 461, 488, 515, 532, 549, 566, 603, 630, 650, 671, 675, 692, 709, 726, 753, 790, 817, 844, 871, 878, 895, 912, 929, 946, 953, 970, 997, 1034, 1081, 1118, 1145, 1182, 1219, 1246, 1273, 1290, 1307, 1324, 1351, 1358, 1365] 18 532 _ _ w).trans rfl

set_option maxRecDepth 100000 in
set_option maxHeartbeats 4000000 in
theorem B_L_law_549 (Z : mX) (l0 : Option Nat) (l1 : Option Nat) (l2 : Option Nat) (l3 : Int) (w : mW) : mm_at (zP Z) 365 549 [some (.inr (.inr l0)), some (.inr (.inr l1)), some (.inr (.inr l2)), some (.inl l3)] [] w =
  l0.bind fun q1 =>
  if q1 = 2 ∧ 0 ≤ mm_w32 (l3 + 1) ∧ mm_w32 (l3 + 1) < Z.2 then
   (l1.bind fun q2 =>
  if mm_cls w q2 = 11 then
   (mm_kI (mm_run (zP Z) 156 [.inr (.inr (some q2)), .inl (Z.1 (mm_w32 (l3 + 1)))] w) fun x4 w3 =>
  l0.bind fun q5 =>
  if q5 = 2 ∧ 0 ≤ mm_w32 (l3 + 1) ∧ mm_w32 (l3 + 1) < Z.2 then
   (l2.bind fun q6 =>
  if mm_cls w3 q6 = 12 then
   (mm_kI (mm_run (zP Z) 302 [.inr (.inr (some q6)), .inl (Z.1 (mm_w32 (l3 + 1)))] w3) fun x8 w7 =>
  if x4 = x8 then
   mm_at (zP Z) 365 1365 [some (.inr (.inr l0)), some (.inr (.inr l1)), some (.inr (.inr l2)), some (.inl l3)] [] w7
  else
   some (some (.inl 0), w7))
  else none)
  else none)
  else none)
  else none :=
  (mm_V_eq (P := zP Z) (y := 365) z_cd365 [10, 22, 29, 37, 45, 82, 143, 171, 228, 285, 302, 319, 336, 353, 380, 407, 434, 461, 488, 515, 532, 549, 566, 603, 630, 650, 671, 675, 692, 709, 726, 753, 790, 817, 844, 871, 878, 895, 912, 929, 946, 953, 970, 997, 1034, 1081, 1118, 1145, 1182, 1219, 1246, 1273, 1290, 1307, 1324, 1351, 1358, 1365] 18 549 _ _ w).trans rfl

set_option maxRecDepth 100000 in
set_option maxHeartbeats 4000000 in
theorem B_L_law_566 (Z : mX) (l0 : Option Nat) (l1 : Option Nat) (l2 : Option Nat) (l3 : Int) (w : mW) : mm_at (zP Z) 365 566 [some (.inr (.inr l0)), some (.inr (.inr l1)), some (.inr (.inr l2)), some (.inl l3)] [] w =
  l0.bind fun q1 =>
  if q1 = 2 ∧ 0 ≤ mm_w32 (l3 + 1) ∧ mm_w32 (l3 + 1) < Z.2 then
   (l0.bind fun q2 =>
  if q2 = 2 ∧ 0 ≤ mm_w32 (l3 + 2) ∧ mm_w32 (l3 + 2) < Z.2 then
   (l0.bind fun q3 =>
  if q3 = 2 ∧ 0 ≤ mm_w32 (l3 + 3) ∧ mm_w32 (l3 + 3) < Z.2 then
   (l1.bind fun q4 =>
  if mm_cls w q4 = 11 then
   (mm_kI (mm_run (zP Z) 157 [.inr (.inr (some q4)), .inl (Z.1 (mm_w32 (l3 + 1))), .inl (Z.1 (mm_w32 (l3 + 2))), .inl (Z.1 (mm_w32 (l3 + 3)))] w) fun x6 w5 =>
  l0.bind fun q7 =>
  if q7 = 2 ∧ 0 ≤ mm_w32 (l3 + 1) ∧ mm_w32 (l3 + 1) < Z.2 then
   (l0.bind fun q8 =>
  if q8 = 2 ∧ 0 ≤ mm_w32 (l3 + 2) ∧ mm_w32 (l3 + 2) < Z.2 then
   (l0.bind fun q9 =>
  if q9 = 2 ∧ 0 ≤ mm_w32 (l3 + 3) ∧ mm_w32 (l3 + 3) < Z.2 then
   (l2.bind fun q10 =>
  if mm_cls w5 q10 = 12 then
   (mm_kI (mm_run (zP Z) 303 [.inr (.inr (some q10)), .inl (Z.1 (mm_w32 (l3 + 1))), .inl (Z.1 (mm_w32 (l3 + 2))), .inl (Z.1 (mm_w32 (l3 + 3)))] w5) fun x12 w11 =>
  if x6 = x12 then
   mm_at (zP Z) 365 1365 [some (.inr (.inr l0)), some (.inr (.inr l1)), some (.inr (.inr l2)), some (.inl l3)] [] w11
  else
   some (some (.inl 0), w11))
  else none)
  else none)
  else none)
  else none)
  else none)
  else none)
  else none)
  else none :=
  (mm_V_eq (P := zP Z) (y := 365) z_cd365 [10, 22, 29, 37, 45, 82, 143, 171, 228, 285, 302, 319, 336, 353, 380, 407, 434, 461, 488, 515, 532, 549, 566, 603, 630, 650, 671, 675, 692, 709, 726, 753, 790, 817, 844, 871, 878, 895, 912, 929, 946, 953, 970, 997, 1034, 1081, 1118, 1145, 1182, 1219, 1246, 1273, 1290, 1307, 1324, 1351, 1358, 1365] 38 566 _ _ w).trans rfl

set_option maxRecDepth 100000 in
set_option maxHeartbeats 4000000 in
theorem B_L_law_603 (Z : mX) (l0 : Option Nat) (l1 : Option Nat) (l2 : Option Nat) (l3 : Int) (w : mW) : mm_at (zP Z) 365 603 [some (.inr (.inr l0)), some (.inr (.inr l1)), some (.inr (.inr l2)), some (.inl l3)] [] w =
  l0.bind fun q1 =>
  if q1 = 2 ∧ 0 ≤ mm_w32 (l3 + 1) ∧ mm_w32 (l3 + 1) < Z.2 then
   (l0.bind fun q2 =>
  if q2 = 2 ∧ 0 ≤ mm_w32 (l3 + 2) ∧ mm_w32 (l3 + 2) < Z.2 then
   (l1.bind fun q3 =>
  if mm_cls w q3 = 11 then
   (mm_kI (mm_run (zP Z) 158 [.inr (.inr (some q3)), .inl (Z.1 (mm_w32 (l3 + 1))), .inl (Z.1 (mm_w32 (l3 + 2)))] w) fun x5 w4 =>
  l0.bind fun q6 =>
  if q6 = 2 ∧ 0 ≤ mm_w32 (l3 + 1) ∧ mm_w32 (l3 + 1) < Z.2 then
   (l0.bind fun q7 =>
  if q7 = 2 ∧ 0 ≤ mm_w32 (l3 + 2) ∧ mm_w32 (l3 + 2) < Z.2 then
   (l2.bind fun q8 =>
  if mm_cls w4 q8 = 12 then
   (mm_kI (mm_run (zP Z) 304 [.inr (.inr (some q8)), .inl (Z.1 (mm_w32 (l3 + 1))), .inl (Z.1 (mm_w32 (l3 + 2)))] w4) fun x10 w9 =>
  if x5 = x10 then
   mm_at (zP Z) 365 1365 [some (.inr (.inr l0)), some (.inr (.inr l1)), some (.inr (.inr l2)), some (.inl l3)] [] w9
  else
   some (some (.inl 0), w9))
  else none)
  else none)
  else none)
  else none)
  else none)
  else none :=
  (mm_V_eq (P := zP Z) (y := 365) z_cd365 [10, 22, 29, 37, 45, 82, 143, 171, 228, 285, 302, 319, 336, 353, 380, 407, 434, 461, 488, 515, 532, 549, 566, 603, 630, 650, 671, 675, 692, 709, 726, 753, 790, 817, 844, 871, 878, 895, 912, 929, 946, 953, 970, 997, 1034, 1081, 1118, 1145, 1182, 1219, 1246, 1273, 1290, 1307, 1324, 1351, 1358, 1365] 28 603 _ _ w).trans rfl

set_option maxRecDepth 100000 in
set_option maxHeartbeats 4000000 in
theorem B_L_law_630 (Z : mX) (l0 : Option Nat) (l1 : Option Nat) (l2 : Option Nat) (l3 : Int) (w : mW) : mm_at (zP Z) 365 630 [some (.inr (.inr l0)), some (.inr (.inr l1)), some (.inr (.inr l2)), some (.inl l3)] [] w =
  l0.bind fun q1 =>
  if q1 = 2 ∧ 0 ≤ mm_w32 (l3 + 1) ∧ mm_w32 (l3 + 1) < Z.2 then
   (l0.bind fun q2 =>
  if q2 = 2 ∧ 0 ≤ mm_w32 (l3 + 2) ∧ mm_w32 (l3 + 2) < Z.2 then
   (l0.bind fun q3 =>
  if q3 = 2 ∧ 0 ≤ mm_w32 (l3 + 3) ∧ mm_w32 (l3 + 3) < Z.2 then
   (if Z.1 (mm_w32 (l3 + 3)) = 0 then
   mm_at (zP Z) 365 650 [some (.inr (.inr l0)), some (.inr (.inr l1)), some (.inr (.inr l2)), some (.inl l3)] [.inl 0, .inl (Z.1 (mm_w32 (l3 + 2))), .inl (Z.1 (mm_w32 (l3 + 1))), .inr (.inr l1)] w
  else
   mm_at (zP Z) 365 650 [some (.inr (.inr l0)), some (.inr (.inr l1)), some (.inr (.inr l2)), some (.inl l3)] [.inl 1, .inl (Z.1 (mm_w32 (l3 + 2))), .inl (Z.1 (mm_w32 (l3 + 1))), .inr (.inr l1)] w)
  else none)
  else none)
  else none :=
  (mm_V_eq (P := zP Z) (y := 365) z_cd365 [10, 22, 29, 37, 45, 82, 143, 171, 228, 285, 302, 319, 336, 353, 380, 407, 434, 461, 488, 515, 532, 549, 566, 603, 630, 650, 671, 675, 692, 709, 726, 753, 790, 817, 844, 871, 878, 895, 912, 929, 946, 953, 970, 997, 1034, 1081, 1118, 1145, 1182, 1219, 1246, 1273, 1290, 1307, 1324, 1351, 1358, 1365] 20 630 _ _ w).trans rfl

set_option maxRecDepth 100000 in
set_option maxHeartbeats 4000000 in
theorem B_L_law_650 (Z : mX) (l0 : Option Nat) (l1 : Option Nat) (l2 : Option Nat) (l3 : Int) (s0 : Option Nat) (s1 : Int) (s2 : Int) (s3 : Int) (w : mW) : mm_at (zP Z) 365 650 [some (.inr (.inr l0)), some (.inr (.inr l1)), some (.inr (.inr l2)), some (.inl l3)] [.inl s3, .inl s2, .inl s1, .inr (.inr s0)] w =
  s0.bind fun q1 =>
  if mm_cls w q1 = 11 then
   (mm_kI (mm_run (zP Z) 159 [.inr (.inr (some q1)), .inl s1, .inl s2, .inl s3] w) fun x3 w2 =>
  l0.bind fun q4 =>
  if q4 = 2 ∧ 0 ≤ mm_w32 (l3 + 1) ∧ mm_w32 (l3 + 1) < Z.2 then
   (l0.bind fun q5 =>
  if q5 = 2 ∧ 0 ≤ mm_w32 (l3 + 2) ∧ mm_w32 (l3 + 2) < Z.2 then
   (l0.bind fun q6 =>
  if q6 = 2 ∧ 0 ≤ mm_w32 (l3 + 3) ∧ mm_w32 (l3 + 3) < Z.2 then
   (if Z.1 (mm_w32 (l3 + 3)) = 0 then
   mm_at (zP Z) 365 671 [some (.inr (.inr l0)), some (.inr (.inr l1)), some (.inr (.inr l2)), some (.inl l3)] [.inl 0, .inl (Z.1 (mm_w32 (l3 + 2))), .inl (Z.1 (mm_w32 (l3 + 1))), .inr (.inr l2), .inl x3] w2
  else
   mm_at (zP Z) 365 671 [some (.inr (.inr l0)), some (.inr (.inr l1)), some (.inr (.inr l2)), some (.inl l3)] [.inl 1, .inl (Z.1 (mm_w32 (l3 + 2))), .inl (Z.1 (mm_w32 (l3 + 1))), .inr (.inr l2), .inl x3] w2)
  else none)
  else none)
  else none)
  else none :=
  (mm_V_eq (P := zP Z) (y := 365) z_cd365 [10, 22, 29, 37, 45, 82, 143, 171, 228, 285, 302, 319, 336, 353, 380, 407, 434, 461, 488, 515, 532, 549, 566, 603, 630, 650, 671, 675, 692, 709, 726, 753, 790, 817, 844, 871, 878, 895, 912, 929, 946, 953, 970, 997, 1034, 1081, 1118, 1145, 1182, 1219, 1246, 1273, 1290, 1307, 1324, 1351, 1358, 1365] 21 650 _ _ w).trans rfl

set_option maxRecDepth 100000 in
set_option maxHeartbeats 4000000 in
theorem B_L_law_671 (Z : mX) (l0 : Option Nat) (l1 : Option Nat) (l2 : Option Nat) (l3 : Int) (s0 : Int) (s1 : Option Nat) (s2 : Int) (s3 : Int) (s4 : Int) (w : mW) : mm_at (zP Z) 365 671 [some (.inr (.inr l0)), some (.inr (.inr l1)), some (.inr (.inr l2)), some (.inl l3)] [.inl s4, .inl s3, .inl s2, .inr (.inr s1), .inl s0] w =
  s1.bind fun q1 =>
  if mm_cls w q1 = 12 then
   (mm_kI (mm_run (zP Z) 305 [.inr (.inr (some q1)), .inl s2, .inl s3, .inl s4] w) fun x3 w2 =>
  if s0 = x3 then
   mm_at (zP Z) 365 1365 [some (.inr (.inr l0)), some (.inr (.inr l1)), some (.inr (.inr l2)), some (.inl l3)] [] w2
  else
   some (some (.inl 0), w2))
  else none :=
  (mm_V_eq (P := zP Z) (y := 365) z_cd365 [10, 22, 29, 37, 45, 82, 143, 171, 228, 285, 302, 319, 336, 353, 380, 407, 434, 461, 488, 515, 532, 549, 566, 603, 630, 650, 671, 675, 692, 709, 726, 753, 790, 817, 844, 871, 878, 895, 912, 929, 946, 953, 970, 997, 1034, 1081, 1118, 1145, 1182, 1219, 1246, 1273, 1290, 1307, 1324, 1351, 1358, 1365] 5 671 _ _ w).trans rfl

set_option maxRecDepth 100000 in
set_option maxHeartbeats 4000000 in
theorem B_L_law_675 (Z : mX) (l0 : Option Nat) (l1 : Option Nat) (l2 : Option Nat) (l3 : Int) (w : mW) : mm_at (zP Z) 365 675 [some (.inr (.inr l0)), some (.inr (.inr l1)), some (.inr (.inr l2)), some (.inl l3)] [] w =
  l0.bind fun q1 =>
  if q1 = 2 ∧ 0 ≤ mm_w32 (l3 + 1) ∧ mm_w32 (l3 + 1) < Z.2 then
   (l1.bind fun q2 =>
  if mm_cls w q2 = 11 then
   (mm_kI (mm_run (zP Z) 160 [.inr (.inr (some q2)), .inl (Z.1 (mm_w32 (l3 + 1)))] w) fun x4 w3 =>
  l0.bind fun q5 =>
  if q5 = 2 ∧ 0 ≤ mm_w32 (l3 + 1) ∧ mm_w32 (l3 + 1) < Z.2 then
   (l2.bind fun q6 =>
  if mm_cls w3 q6 = 12 then
   (mm_kI (mm_run (zP Z) 306 [.inr (.inr (some q6)), .inl (Z.1 (mm_w32 (l3 + 1)))] w3) fun x8 w7 =>
  if x4 = x8 then
   mm_at (zP Z) 365 1365 [some (.inr (.inr l0)), some (.inr (.inr l1)), some (.inr (.inr l2)), some (.inl l3)] [] w7
  else
   some (some (.inl 0), w7))
  else none)
  else none)
  else none)
  else none :=
  (mm_V_eq (P := zP Z) (y := 365) z_cd365 [10, 22, 29, 37, 45, 82, 143, 171, 228, 285, 302, 319, 336, 353, 380, 407, 434, 461, 488, 515, 532, 549, 566, 603, 630, 650, 671, 675, 692, 709, 726, 753, 790, 817, 844, 871, 878, 895, 912, 929, 946, 953, 970, 997, 1034, 1081, 1118, 1145, 1182, 1219, 1246, 1273, 1290, 1307, 1324, 1351, 1358, 1365] 18 675 _ _ w).trans rfl

set_option maxRecDepth 100000 in
set_option maxHeartbeats 4000000 in
theorem B_L_law_692 (Z : mX) (l0 : Option Nat) (l1 : Option Nat) (l2 : Option Nat) (l3 : Int) (w : mW) : mm_at (zP Z) 365 692 [some (.inr (.inr l0)), some (.inr (.inr l1)), some (.inr (.inr l2)), some (.inl l3)] [] w =
  l0.bind fun q1 =>
  if q1 = 2 ∧ 0 ≤ mm_w32 (l3 + 1) ∧ mm_w32 (l3 + 1) < Z.2 then
   (l1.bind fun q2 =>
  if mm_cls w q2 = 11 then
   (mm_kI (mm_run (zP Z) 161 [.inr (.inr (some q2)), .inl (Z.1 (mm_w32 (l3 + 1)))] w) fun x4 w3 =>
  l0.bind fun q5 =>
  if q5 = 2 ∧ 0 ≤ mm_w32 (l3 + 1) ∧ mm_w32 (l3 + 1) < Z.2 then
   (l2.bind fun q6 =>
  if mm_cls w3 q6 = 12 then
   (mm_kI (mm_run (zP Z) 307 [.inr (.inr (some q6)), .inl (Z.1 (mm_w32 (l3 + 1)))] w3) fun x8 w7 =>
  if x4 = x8 then
   mm_at (zP Z) 365 1365 [some (.inr (.inr l0)), some (.inr (.inr l1)), some (.inr (.inr l2)), some (.inl l3)] [] w7
  else
   some (some (.inl 0), w7))
  else none)
  else none)
  else none)
  else none :=
  (mm_V_eq (P := zP Z) (y := 365) z_cd365 [10, 22, 29, 37, 45, 82, 143, 171, 228, 285, 302, 319, 336, 353, 380, 407, 434, 461, 488, 515, 532, 549, 566, 603, 630, 650, 671, 675, 692, 709, 726, 753, 790, 817, 844, 871, 878, 895, 912, 929, 946, 953, 970, 997, 1034, 1081, 1118, 1145, 1182, 1219, 1246, 1273, 1290, 1307, 1324, 1351, 1358, 1365] 18 692 _ _ w).trans rfl

set_option maxRecDepth 100000 in
set_option maxHeartbeats 4000000 in
theorem B_L_law_709 (Z : mX) (l0 : Option Nat) (l1 : Option Nat) (l2 : Option Nat) (l3 : Int) (w : mW) : mm_at (zP Z) 365 709 [some (.inr (.inr l0)), some (.inr (.inr l1)), some (.inr (.inr l2)), some (.inl l3)] [] w =
  l0.bind fun q1 =>
  if q1 = 2 ∧ 0 ≤ mm_w32 (l3 + 1) ∧ mm_w32 (l3 + 1) < Z.2 then
   (l1.bind fun q2 =>
  if mm_cls w q2 = 11 then
   (mm_kI (mm_run (zP Z) 162 [.inr (.inr (some q2)), .inl (Z.1 (mm_w32 (l3 + 1)))] w) fun x4 w3 =>
  l0.bind fun q5 =>
  if q5 = 2 ∧ 0 ≤ mm_w32 (l3 + 1) ∧ mm_w32 (l3 + 1) < Z.2 then
   (l2.bind fun q6 =>
  if mm_cls w3 q6 = 12 then
   (mm_kI (mm_run (zP Z) 312 [.inr (.inr (some q6)), .inl (Z.1 (mm_w32 (l3 + 1)))] w3) fun x8 w7 =>
  if x4 = x8 then
   mm_at (zP Z) 365 1365 [some (.inr (.inr l0)), some (.inr (.inr l1)), some (.inr (.inr l2)), some (.inl l3)] [] w7
  else
   some (some (.inl 0), w7))
  else none)
  else none)
  else none)
  else none :=
  (mm_V_eq (P := zP Z) (y := 365) z_cd365 [10, 22, 29, 37, 45, 82, 143, 171, 228, 285, 302, 319, 336, 353, 380, 407, 434, 461, 488, 515, 532, 549, 566, 603, 630, 650, 671, 675, 692, 709, 726, 753, 790, 817, 844, 871, 878, 895, 912, 929, 946, 953, 970, 997, 1034, 1081, 1118, 1145, 1182, 1219, 1246, 1273, 1290, 1307, 1324, 1351, 1358, 1365] 18 709 _ _ w).trans rfl

set_option maxRecDepth 100000 in
set_option maxHeartbeats 4000000 in
theorem B_L_law_726 (Z : mX) (l0 : Option Nat) (l1 : Option Nat) (l2 : Option Nat) (l3 : Int) (w : mW) : mm_at (zP Z) 365 726 [some (.inr (.inr l0)), some (.inr (.inr l1)), some (.inr (.inr l2)), some (.inl l3)] [] w =
  l0.bind fun q1 =>
  if q1 = 2 ∧ 0 ≤ mm_w32 (l3 + 1) ∧ mm_w32 (l3 + 1) < Z.2 then
   (l0.bind fun q2 =>
  if q2 = 2 ∧ 0 ≤ mm_w32 (l3 + 2) ∧ mm_w32 (l3 + 2) < Z.2 then
   (l1.bind fun q3 =>
  if mm_cls w q3 = 11 then
   (mm_kI (mm_run (zP Z) 163 [.inr (.inr (some q3)), .inl (Z.1 (mm_w32 (l3 + 1))), .inl (Z.1 (mm_w32 (l3 + 2)))] w) fun x5 w4 =>
  l0.bind fun q6 =>
  if q6 = 2 ∧ 0 ≤ mm_w32 (l3 + 1) ∧ mm_w32 (l3 + 1) < Z.2 then
   (l0.bind fun q7 =>
  if q7 = 2 ∧ 0 ≤ mm_w32 (l3 + 2) ∧ mm_w32 (l3 + 2) < Z.2 then
   (l2.bind fun q8 =>
  if mm_cls w4 q8 = 12 then
   (mm_kI (mm_run (zP Z) 313 [.inr (.inr (some q8)), .inl (Z.1 (mm_w32 (l3 + 1))), .inl (Z.1 (mm_w32 (l3 + 2)))] w4) fun x10 w9 =>
  if x5 = x10 then
   mm_at (zP Z) 365 1365 [some (.inr (.inr l0)), some (.inr (.inr l1)), some (.inr (.inr l2)), some (.inl l3)] [] w9
  else
   some (some (.inl 0), w9))
  else none)
  else none)
  else none)
  else none)
  else none)
  else none :=
  (mm_V_eq (P := zP Z) (y := 365) z_cd365 [10, 22, 29, 37, 45, 82, 143, 171, 228, 285, 302, 319, 336, 353, 380, 407, 434, 461, 488, 515, 532, 549, 566, 603, 630, 650, 671, 675, 692, 709, 726, 753, 790, 817, 844, 871, 878, 895, 912, 929, 946, 953, 970, 997, 1034, 1081, 1118, 1145, 1182, 1219, 1246, 1273, 1290, 1307, 1324, 1351, 1358, 1365] 28 726 _ _ w).trans rfl

set_option maxRecDepth 100000 in
set_option maxHeartbeats 4000000 in
theorem B_L_law_753 (Z : mX) (l0 : Option Nat) (l1 : Option Nat) (l2 : Option Nat) (l3 : Int) (w : mW) : mm_at (zP Z) 365 753 [some (.inr (.inr l0)), some (.inr (.inr l1)), some (.inr (.inr l2)), some (.inl l3)] [] w =
  l0.bind fun q1 =>
  if q1 = 2 ∧ 0 ≤ mm_w32 (l3 + 1) ∧ mm_w32 (l3 + 1) < Z.2 then
   (l0.bind fun q2 =>
  if q2 = 2 ∧ 0 ≤ mm_w32 (l3 + 2) ∧ mm_w32 (l3 + 2) < Z.2 then
   (l0.bind fun q3 =>
  if q3 = 2 ∧ 0 ≤ mm_w32 (l3 + 3) ∧ mm_w32 (l3 + 3) < Z.2 then
   (l1.bind fun q4 =>
  if mm_cls w q4 = 11 then
   (mm_kI (mm_run (zP Z) 164 [.inr (.inr (some q4)), .inl (Z.1 (mm_w32 (l3 + 1))), .inl (Z.1 (mm_w32 (l3 + 2))), .inl (Z.1 (mm_w32 (l3 + 3)))] w) fun x6 w5 =>
  l0.bind fun q7 =>
  if q7 = 2 ∧ 0 ≤ mm_w32 (l3 + 1) ∧ mm_w32 (l3 + 1) < Z.2 then
   (l0.bind fun q8 =>
  if q8 = 2 ∧ 0 ≤ mm_w32 (l3 + 2) ∧ mm_w32 (l3 + 2) < Z.2 then
   (l0.bind fun q9 =>
  if q9 = 2 ∧ 0 ≤ mm_w32 (l3 + 3) ∧ mm_w32 (l3 + 3) < Z.2 then
   (l2.bind fun q10 =>
  if mm_cls w5 q10 = 12 then
   (mm_kI (mm_run (zP Z) 315 [.inr (.inr (some q10)), .inl (Z.1 (mm_w32 (l3 + 1))), .inl (Z.1 (mm_w32 (l3 + 2))), .inl (Z.1 (mm_w32 (l3 + 3)))] w5) fun x12 w11 =>
  if x6 = x12 then
   mm_at (zP Z) 365 1365 [some (.inr (.inr l0)), some (.inr (.inr l1)), some (.inr (.inr l2)), some (.inl l3)] [] w11
  else
   some (some (.inl 0), w11))
  else none)
  else none)
  else none)
  else none)
  else none)
  else none)
  else none)
  else none :=
  (mm_V_eq (P := zP Z) (y := 365) z_cd365 [10, 22, 29, 37, 45, 82, 143, 171, 228, 285, 302, 319, 336, 353, 380, 407, 434, 461, 488, 515, 532, 549, 566, 603, 630, 650, 671, 675, 692, 709, 726, 753, 790, 817, 844, 871, 878, 895, 912, 929, 946, 953, 970, 997, 1034, 1081, 1118, 1145, 1182, 1219, 1246, 1273, 1290, 1307, 1324, 1351, 1358, 1365] 38 753 _ _ w).trans rfl

set_option maxRecDepth 100000 in
set_option maxHeartbeats 4000000 in
theorem B_L_law_790 (Z : mX) (l0 : Option Nat) (l1 : Option Nat) (l2 : Option Nat) (l3 : Int) (w : mW) : mm_at (zP Z) 365 790 [some (.inr (.inr l0)), some (.inr (.inr l1)), some (.inr (.inr l2)), some (.inl l3)] [] w =
  l0.bind fun q1 =>
  if q1 = 2 ∧ 0 ≤ mm_w32 (l3 + 1) ∧ mm_w32 (l3 + 1) < Z.2 then
   (l0.bind fun q2 =>
  if q2 = 2 ∧ 0 ≤ mm_w32 (l3 + 2) ∧ mm_w32 (l3 + 2) < Z.2 then
   (l1.bind fun q3 =>
  if mm_cls w q3 = 11 then
   (mm_kI (mm_run (zP Z) 165 [.inr (.inr (some q3)), .inl (Z.1 (mm_w32 (l3 + 1))), .inl (Z.1 (mm_w32 (l3 + 2)))] w) fun x5 w4 =>
  l0.bind fun q6 =>
  if q6 = 2 ∧ 0 ≤ mm_w32 (l3 + 1) ∧ mm_w32 (l3 + 1) < Z.2 then
   (l0.bind fun q7 =>
  if q7 = 2 ∧ 0 ≤ mm_w32 (l3 + 2) ∧ mm_w32 (l3 + 2) < Z.2 then
   (l2.bind fun q8 =>
  if mm_cls w4 q8 = 12 then
   (mm_kI (mm_run (zP Z) 316 [.inr (.inr (some q8)), .inl (Z.1 (mm_w32 (l3 + 1))), .inl (Z.1 (mm_w32 (l3 + 2)))] w4) fun x10 w9 =>
  if x5 = x10 then
   mm_at (zP Z) 365 1365 [some (.inr (.inr l0)), some (.inr (.inr l1)), some (.inr (.inr l2)), some (.inl l3)] [] w9
  else
   some (some (.inl 0), w9))
  else none)
  else none)
  else none)
  else none)
  else none)
  else none :=
  (mm_V_eq (P := zP Z) (y := 365) z_cd365 [10, 22, 29, 37, 45, 82, 143, 171, 228, 285, 302, 319, 336, 353, 380, 407, 434, 461, 488, 515, 532, 549, 566, 603, 630, 650, 671, 675, 692, 709, 726, 753, 790, 817, 844, 871, 878, 895, 912, 929, 946, 953, 970, 997, 1034, 1081, 1118, 1145, 1182, 1219, 1246, 1273, 1290, 1307, 1324, 1351, 1358, 1365] 28 790 _ _ w).trans rfl

set_option maxRecDepth 100000 in
set_option maxHeartbeats 4000000 in
theorem B_L_law_817 (Z : mX) (l0 : Option Nat) (l1 : Option Nat) (l2 : Option Nat) (l3 : Int) (w : mW) : mm_at (zP Z) 365 817 [some (.inr (.inr l0)), some (.inr (.inr l1)), some (.inr (.inr l2)), some (.inl l3)] [] w =
  l0.bind fun q1 =>
  if q1 = 2 ∧ 0 ≤ mm_w32 (l3 + 1) ∧ mm_w32 (l3 + 1) < Z.2 then
   (l0.bind fun q2 =>
  if q2 = 2 ∧ 0 ≤ mm_w32 (l3 + 2) ∧ mm_w32 (l3 + 2) < Z.2 then
   (l1.bind fun q3 =>
  if mm_cls w q3 = 11 then
   (mm_kI (mm_run (zP Z) 166 [.inr (.inr (some q3)), .inl (Z.1 (mm_w32 (l3 + 1))), .inl (Z.1 (mm_w32 (l3 + 2)))] w) fun x5 w4 =>
  l0.bind fun q6 =>
  if q6 = 2 ∧ 0 ≤ mm_w32 (l3 + 1) ∧ mm_w32 (l3 + 1) < Z.2 then
   (l0.bind fun q7 =>
  if q7 = 2 ∧ 0 ≤ mm_w32 (l3 + 2) ∧ mm_w32 (l3 + 2) < Z.2 then
   (l2.bind fun q8 =>
  if mm_cls w4 q8 = 12 then
   (mm_kI (mm_run (zP Z) 319 [.inr (.inr (some q8)), .inl (Z.1 (mm_w32 (l3 + 1))), .inl (Z.1 (mm_w32 (l3 + 2)))] w4) fun x10 w9 =>
  if x5 = x10 then
   mm_at (zP Z) 365 1365 [some (.inr (.inr l0)), some (.inr (.inr l1)), some (.inr (.inr l2)), some (.inl l3)] [] w9
  else
   some (some (.inl 0), w9))
  else none)
  else none)
  else none)
  else none)
  else none)
  else none :=
  (mm_V_eq (P := zP Z) (y := 365) z_cd365 [10, 22, 29, 37, 45, 82, 143, 171, 228, 285, 302, 319, 336, 353, 380, 407, 434, 461, 488, 515, 532, 549, 566, 603, 630, 650, 671, 675, 692, 709, 726, 753, 790, 817, 844, 871, 878, 895, 912, 929, 946, 953, 970, 997, 1034, 1081, 1118, 1145, 1182, 1219, 1246, 1273, 1290, 1307, 1324, 1351, 1358, 1365] 28 817 _ _ w).trans rfl

set_option maxRecDepth 100000 in
set_option maxHeartbeats 4000000 in
theorem B_L_law_844 (Z : mX) (l0 : Option Nat) (l1 : Option Nat) (l2 : Option Nat) (l3 : Int) (w : mW) : mm_at (zP Z) 365 844 [some (.inr (.inr l0)), some (.inr (.inr l1)), some (.inr (.inr l2)), some (.inl l3)] [] w =
  l0.bind fun q1 =>
  if q1 = 2 ∧ 0 ≤ mm_w32 (l3 + 1) ∧ mm_w32 (l3 + 1) < Z.2 then
   (l0.bind fun q2 =>
  if q2 = 2 ∧ 0 ≤ mm_w32 (l3 + 2) ∧ mm_w32 (l3 + 2) < Z.2 then
   (l1.bind fun q3 =>
  if mm_cls w q3 = 11 then
   (mm_kI (mm_run (zP Z) 167 [.inr (.inr (some q3)), .inl (Z.1 (mm_w32 (l3 + 1))), .inl (Z.1 (mm_w32 (l3 + 2)))] w) fun x5 w4 =>
  l0.bind fun q6 =>
  if q6 = 2 ∧ 0 ≤ mm_w32 (l3 + 1) ∧ mm_w32 (l3 + 1) < Z.2 then
   (l0.bind fun q7 =>
  if q7 = 2 ∧ 0 ≤ mm_w32 (l3 + 2) ∧ mm_w32 (l3 + 2) < Z.2 then
   (l2.bind fun q8 =>
  if mm_cls w4 q8 = 12 then
   (mm_kI (mm_run (zP Z) 320 [.inr (.inr (some q8)), .inl (Z.1 (mm_w32 (l3 + 1))), .inl (Z.1 (mm_w32 (l3 + 2)))] w4) fun x10 w9 =>
  if x5 = x10 then
   mm_at (zP Z) 365 1365 [some (.inr (.inr l0)), some (.inr (.inr l1)), some (.inr (.inr l2)), some (.inl l3)] [] w9
  else
   some (some (.inl 0), w9))
  else none)
  else none)
  else none)
  else none)
  else none)
  else none :=
  (mm_V_eq (P := zP Z) (y := 365) z_cd365 [10, 22, 29, 37, 45, 82, 143, 171, 228, 285, 302, 319, 336, 353, 380, 407, 434, 461, 488, 515, 532, 549, 566, 603, 630, 650, 671, 675, 692, 709, 726, 753, 790, 817, 844, 871, 878, 895, 912, 929, 946, 953, 970, 997, 1034, 1081, 1118, 1145, 1182, 1219, 1246, 1273, 1290, 1307, 1324, 1351, 1358, 1365] 28 844 _ _ w).trans rfl

set_option maxRecDepth 100000 in
set_option maxHeartbeats 4000000 in
theorem B_L_law_871 (Z : mX) (l0 : Option Nat) (l1 : Option Nat) (l2 : Option Nat) (l3 : Int) (w : mW) : mm_at (zP Z) 365 871 [some (.inr (.inr l0)), some (.inr (.inr l1)), some (.inr (.inr l2)), some (.inl l3)] [] w =
  l1.bind fun q1 =>
  if mm_cls w q1 = 11 then
   (mm_kI (mm_run (zP Z) 168 [.inr (.inr (some q1))] w) fun x3 w2 =>
  l2.bind fun q4 =>
  if mm_cls w2 q4 = 12 then
   (mm_kI (mm_run (zP Z) 322 [.inr (.inr (some q4))] w2) fun x6 w5 =>
  if x3 = x6 then
   mm_at (zP Z) 365 1365 [some (.inr (.inr l0)), some (.inr (.inr l1)), some (.inr (.inr l2)), some (.inl l3)] [] w5
  else
   some (some (.inl 0), w5))
  else none)
  else none :=
  (mm_V_eq (P := zP Z) (y := 365) z_cd365 [10, 22, 29, 37, 45, 82, 143, 171, 228, 285, 302, 319, 336, 353, 380, 407, 434, 461, 488, 515, 532, 549, 566, 603, 630, 650, 671, 675, 692, 709, 726, 753, 790, 817, 844, 871, 878, 895, 912, 929, 946, 953, 970, 997, 1034, 1081, 1118, 1145, 1182, 1219, 1246, 1273, 1290, 1307, 1324, 1351, 1358, 1365] 8 871 _ _ w).trans rfl

set_option maxRecDepth 100000 in
set_option maxHeartbeats 4000000 in
theorem B_L_law_878 (Z : mX) (l0 : Option Nat) (l1 : Option Nat) (l2 : Option Nat) (l3 : Int) (w : mW) : mm_at (zP Z) 365 878 [some (.inr (.inr l0)), some (.inr (.inr l1)), some (.inr (.inr l2)), some (.inl l3)] [] w =
  l0.bind fun q1 =>
  if q1 = 2 ∧ 0 ≤ mm_w32 (l3 + 1) ∧ mm_w32 (l3 + 1) < Z.2 then
   (l1.bind fun q2 =>
  if mm_cls w q2 = 11 then
   (mm_kI (mm_run (zP Z) 169 [.inr (.inr (some q2)), .inl (Z.1 (mm_w32 (l3 + 1)))] w) fun x4 w3 =>
  l0.bind fun q5 =>
  if q5 = 2 ∧ 0 ≤ mm_w32 (l3 + 1) ∧ mm_w32 (l3 + 1) < Z.2 then
   (l2.bind fun q6 =>
  if mm_cls w3 q6 = 12 then
   (mm_kI (mm_run (zP Z) 323 [.inr (.inr (some q6)), .inl (Z.1 (mm_w32 (l3 + 1)))] w3) fun x8 w7 =>
  if x4 = x8 then
   mm_at (zP Z) 365 1365 [some (.inr (.inr l0)), some (.inr (.inr l1)), some (.inr (.inr l2)), some (.inl l3)] [] w7
  else
   some (some (.inl 0), w7))
  else none)
  else none)
  else none)
  else none :=
  (mm_V_eq (P := zP Z) (y := 365) z_cd365 [10, 22, 29, 37, 45, 82, 143, 171, 228, 285, 302, 319, 336, 353, 380, 407, 434, 461, 488, 515, 532, 549, 566, 603, 630, 650, 671, 675, 692, 709, 726, 753, 790, 817, 844, 871, 878, 895, 912, 929, 946, 953, 970, 997, 1034, 1081, 1118, 1145, 1182, 1219, 1246, 1273, 1290, 1307, 1324, 1351, 1358, 1365] 18 878 _ _ w).trans rfl

set_option maxRecDepth 100000 in
set_option maxHeartbeats 4000000 in
theorem B_L_law_895 (Z : mX) (l0 : Option Nat) (l1 : Option Nat) (l2 : Option Nat) (l3 : Int) (w : mW) : mm_at (zP Z) 365 895 [some (.inr (.inr l0)), some (.inr (.inr l1)), some (.inr (.inr l2)), some (.inl l3)] [] w =
  l0.bind fun q1 =>
  if q1 = 2 ∧ 0 ≤ mm_w32 (l3 + 1) ∧ mm_w32 (l3 + 1) < Z.2 then
   (l1.bind fun q2 =>
  if mm_cls w q2 = 11 then
   (mm_kI (mm_run (zP Z) 170 [.inr (.inr (some q2)), .inl (Z.1 (mm_w32 (l3 + 1)))] w) fun x4 w3 =>
  l0.bind fun q5 =>
  if q5 = 2 ∧ 0 ≤ mm_w32 (l3 + 1) ∧ mm_w32 (l3 + 1) < Z.2 then
   (l2.bind fun q6 =>
  if mm_cls w3 q6 = 12 then
   (mm_kI (mm_run (zP Z) 324 [.inr (.inr (some q6)), .inl (Z.1 (mm_w32 (l3 + 1)))] w3) fun x8 w7 =>
  if x4 = x8 then
   mm_at (zP Z) 365 1365 [some (.inr (.inr l0)), some (.inr (.inr l1)), some (.inr (.inr l2)), some (.inl l3)] [] w7
  else
   some (some (.inl 0), w7))
  else none)
  else none)
  else none)
  else none :=
  (mm_V_eq (P := zP Z) (y := 365) z_cd365 [10, 22, 29, 37, 45, 82, 143, 171, 228, 285, 302, 319, 336, 353, 380, 407, 434, 461, 488, 515, 532, 549, 566, 603, 630, 650, 671, 675, 692, 709, 726, 753, 790, 817, 844, 871, 878, 895, 912, 929, 946, 953, 970, 997, 1034, 1081, 1118, 1145, 1182, 1219, 1246, 1273, 1290, 1307, 1324, 1351, 1358, 1365] 18 895 _ _ w).trans rfl

set_option maxRecDepth 100000 in
set_option maxHeartbeats 4000000 in
theorem B_L_law_912 (Z : mX) (l0 : Option Nat) (l1 : Option Nat) (l2 : Option Nat) (l3 : Int) (w : mW) : mm_at (zP Z) 365 912 [some (.inr (.inr l0)), some (.inr (.inr l1)), some (.inr (.inr l2)), some (.inl l3)] [] w =
  l0.bind fun q1 =>
  if q1 = 2 ∧ 0 ≤ mm_w32 (l3 + 1) ∧ mm_w32 (l3 + 1) < Z.2 then
   (l1.bind fun q2 =>
  if mm_cls w q2 = 11 then
   (mm_kI (mm_run (zP Z) 171 [.inr (.inr (some q2)), .inl (Z.1 (mm_w32 (l3 + 1)))] w) fun x4 w3 =>
  l0.bind fun q5 =>
  if q5 = 2 ∧ 0 ≤ mm_w32 (l3 + 1) ∧ mm_w32 (l3 + 1) < Z.2 then
   (l2.bind fun q6 =>
  if mm_cls w3 q6 = 12 then
   (mm_kI (mm_run (zP Z) 327 [.inr (.inr (some q6)), .inl (Z.1 (mm_w32 (l3 + 1)))] w3) fun x8 w7 =>
  if x4 = x8 then
   mm_at (zP Z) 365 1365 [some (.inr (.inr l0)), some (.inr (.inr l1)), some (.inr (.inr l2)), some (.inl l3)] [] w7
  else
   some (some (.inl 0), w7))
  else none)
  else none)
  else none)
  else none :=
  (mm_V_eq (P := zP Z) (y := 365) z_cd365 [10, 22, 29, 37, 45, 82, 143, 171, 228, 285, 302, 319, 336, 353, 380, 407, 434, 461, 488, 515, 532, 549, 566, 603, 630, 650, 671, 675, 692, 709, 726, 753, 790, 817, 844, 871, 878, 895, 912, 929, 946, 953, 970, 997, 1034, 1081, 1118, 1145, 1182, 1219, 1246, 1273, 1290, 1307, 1324, 1351, 1358, 1365] 18 912 _ _ w).trans rfl

set_option maxRecDepth 100000 in
set_option maxHeartbeats 4000000 in
theorem B_L_law_929 (Z : mX) (l0 : Option Nat) (l1 : Option Nat) (l2 : Option Nat) (l3 : Int) (w : mW) : mm_at (zP Z) 365 929 [some (.inr (.inr l0)), some (.inr (.inr l1)), some (.inr (.inr l2)), some (.inl l3)] [] w =
  l0.bind fun q1 =>
  if q1 = 2 ∧ 0 ≤ mm_w32 (l3 + 1) ∧ mm_w32 (l3 + 1) < Z.2 then
   (l1.bind fun q2 =>
  if mm_cls w q2 = 11 then
   (mm_kI (mm_run (zP Z) 172 [.inr (.inr (some q2)), .inl (Z.1 (mm_w32 (l3 + 1)))] w) fun x4 w3 =>
  l0.bind fun q5 =>
  if q5 = 2 ∧ 0 ≤ mm_w32 (l3 + 1) ∧ mm_w32 (l3 + 1) < Z.2 then
   (l2.bind fun q6 =>
  if mm_cls w3 q6 = 12 then
   (mm_kI (mm_run (zP Z) 328 [.inr (.inr (some q6)), .inl (Z.1 (mm_w32 (l3 + 1)))] w3) fun x8 w7 =>
  if x4 = x8 then
   mm_at (zP Z) 365 1365 [some (.inr (.inr l0)), some (.inr (.inr l1)), some (.inr (.inr l2)), some (.inl l3)] [] w7
  else
   some (some (.inl 0), w7))
  else none)
  else none)
  else none)
  else none :=
  (mm_V_eq (P := zP Z) (y := 365) z_cd365 [10, 22, 29, 37, 45, 82, 143, 171, 228, 285, 302, 319, 336, 353, 380, 407, 434, 461, 488, 515, 532, 549, 566, 603, 630, 650, 671, 675, 692, 709, 726, 753, 790, 817, 844, 871, 878, 895, 912, 929, 946, 953, 970, 997, 1034, 1081, 1118, 1145, 1182, 1219, 1246, 1273, 1290, 1307, 1324, 1351, 1358, 1365] 18 929 _ _ w).trans rfl

set_option maxRecDepth 100000 in
set_option maxHeartbeats 4000000 in
theorem B_L_law_946 (Z : mX) (l0 : Option Nat) (l1 : Option Nat) (l2 : Option Nat) (l3 : Int) (w : mW) : mm_at (zP Z) 365 946 [some (.inr (.inr l0)), some (.inr (.inr l1)), some (.inr (.inr l2)), some (.inl l3)] [] w =
  l1.bind fun q1 =>
  if mm_cls w q1 = 11 then
   (mm_kI (mm_run (zP Z) 173 [.inr (.inr (some q1))] w) fun x3 w2 =>
  l2.bind fun q4 =>
  if mm_cls w2 q4 = 12 then
   (mm_kI (mm_run (zP Z) 329 [.inr (.inr (some q4))] w2) fun x6 w5 =>
  if x3 = x6 then
   mm_at (zP Z) 365 1365 [some (.inr (.inr l0)), some (.inr (.inr l1)), some (.inr (.inr l2)), some (.inl l3)] [] w5
  else
   some (some (.inl 0), w5))
  else none)
  else none :=
  (mm_V_eq (P := zP Z) (y := 365) z_cd365 [10, 22, 29, 37, 45, 82, 143, 171, 228, 285, 302, 319, 336, 353, 380, 407, 434, 461, 488, 515, 532, 549, 566, 603, 630, 650, 671, 675, 692, 709, 726, 753, 790, 817, 844, 871, 878, 895, 912, 929, 946, 953, 970, 997, 1034, 1081, 1118, 1145, 1182, 1219, 1246, 1273, 1290, 1307, 1324, 1351, 1358, 1365] 8 946 _ _ w).trans rfl

set_option maxRecDepth 100000 in
set_option maxHeartbeats 4000000 in
theorem B_L_law_953 (Z : mX) (l0 : Option Nat) (l1 : Option Nat) (l2 : Option Nat) (l3 : Int) (w : mW) : mm_at (zP Z) 365 953 [some (.inr (.inr l0)), some (.inr (.inr l1)), some (.inr (.inr l2)), some (.inl l3)] [] w =
  l0.bind fun q1 =>
  if q1 = 2 ∧ 0 ≤ mm_w32 (l3 + 1) ∧ mm_w32 (l3 + 1) < Z.2 then
   (l1.bind fun q2 =>
  if mm_cls w q2 = 11 then
   (mm_kI (mm_run (zP Z) 174 [.inr (.inr (some q2)), .inl (Z.1 (mm_w32 (l3 + 1)))] w) fun x4 w3 =>
  l0.bind fun q5 =>
  if q5 = 2 ∧ 0 ≤ mm_w32 (l3 + 1) ∧ mm_w32 (l3 + 1) < Z.2 then
   (l2.bind fun q6 =>
  if mm_cls w3 q6 = 12 then
   (mm_kI (mm_run (zP Z) 330 [.inr (.inr (some q6)), .inl (Z.1 (mm_w32 (l3 + 1)))] w3) fun x8 w7 =>
  if x4 = x8 then
   mm_at (zP Z) 365 1365 [some (.inr (.inr l0)), some (.inr (.inr l1)), some (.inr (.inr l2)), some (.inl l3)] [] w7
  else
   some (some (.inl 0), w7))
  else none)
  else none)
  else none)
  else none :=
  (mm_V_eq (P := zP Z) (y := 365) z_cd365 [10, 22, 29, 37, 45, 82, 143, 171, 228, 285, 302, 319, 336, 353, 380, 407, 434, 461, 488, 515, 532, 549, 566, 603, 630, 650, 671, 675, 692, 709, 726, 753, 790, 817, 844, 871, 878, 895, 912, 929, 946, 953, 970, 997, 1034, 1081, 1118, 1145, 1182, 1219, 1246, 1273, 1290, 1307, 1324, 1351, 1358, 1365] 18 953 _ _ w).trans rfl

set_option maxRecDepth 100000 in
set_option maxHeartbeats 4000000 in
theorem B_L_law_970 (Z : mX) (l0 : Option Nat) (l1 : Option Nat) (l2 : Option Nat) (l3 : Int) (w : mW) : mm_at (zP Z) 365 970 [some (.inr (.inr l0)), some (.inr (.inr l1)), some (.inr (.inr l2)), some (.inl l3)] [] w =
  l0.bind fun q1 =>
  if q1 = 2 ∧ 0 ≤ mm_w32 (l3 + 1) ∧ mm_w32 (l3 + 1) < Z.2 then
   (l0.bind fun q2 =>
  if q2 = 2 ∧ 0 ≤ mm_w32 (l3 + 2) ∧ mm_w32 (l3 + 2) < Z.2 then
   (l1.bind fun q3 =>
  if mm_cls w q3 = 11 then
   (mm_kI (mm_run (zP Z) 175 [.inr (.inr (some q3)), .inl (Z.1 (mm_w32 (l3 + 1))), .inl (Z.1 (mm_w32 (l3 + 2)))] w) fun x5 w4 =>
  l0.bind fun q6 =>
  if q6 = 2 ∧ 0 ≤ mm_w32 (l3 + 1) ∧ mm_w32 (l3 + 1) < Z.2 then
   (l0.bind fun q7 =>
  if q7 = 2 ∧ 0 ≤ mm_w32 (l3 + 2) ∧ mm_w32 (l3 + 2) < Z.2 then
   (l2.bind fun q8 =>
  if mm_cls w4 q8 = 12 then
   (mm_kI (mm_run (zP Z) 331 [.inr (.inr (some q8)), .inl (Z.1 (mm_w32 (l3 + 1))), .inl (Z.1 (mm_w32 (l3 + 2)))] w4) fun x10 w9 =>
  if x5 = x10 then
   mm_at (zP Z) 365 1365 [some (.inr (.inr l0)), some (.inr (.inr l1)), some (.inr (.inr l2)), some (.inl l3)] [] w9
  else
   some (some (.inl 0), w9))
  else none)
  else none)
  else none)
  else none)
  else none)
  else none :=
  (mm_V_eq (P := zP Z) (y := 365) z_cd365 [10, 22, 29, 37, 45, 82, 143, 171, 228, 285, 302, 319, 336, 353, 380, 407, 434, 461, 488, 515, 532, 549, 566, 603, 630, 650, 671, 675, 692, 709, 726, 753, 790, 817, 844, 871, 878, 895, 912, 929, 946, 953, 970, 997, 1034, 1081, 1118, 1145, 1182, 1219, 1246, 1273, 1290, 1307, 1324, 1351, 1358, 1365] 28 970 _ _ w).trans rfl

set_option maxRecDepth 100000 in
set_option maxHeartbeats 4000000 in
theorem B_L_law_997 (Z : mX) (l0 : Option Nat) (l1 : Option Nat) (l2 : Option Nat) (l3 : Int) (w : mW) : mm_at (zP Z) 365 997 [some (.inr (.inr l0)), some (.inr (.inr l1)), some (.inr (.inr l2)), some (.inl l3)] [] w =
  l0.bind fun q1 =>
  if q1 = 2 ∧ 0 ≤ mm_w32 (l3 + 1) ∧ mm_w32 (l3 + 1) < Z.2 then
   (l0.bind fun q2 =>
  if q2 = 2 ∧ 0 ≤ mm_w32 (l3 + 2) ∧ mm_w32 (l3 + 2) < Z.2 then
   (l0.bind fun q3 =>
  if q3 = 2 ∧ 0 ≤ mm_w32 (l3 + 3) ∧ mm_w32 (l3 + 3) < Z.2 then
   (l1.bind fun q4 =>
  if mm_cls w q4 = 11 then
   (mm_kI (mm_run (zP Z) 176 [.inr (.inr (some q4)), .inl (Z.1 (mm_w32 (l3 + 1))), .inl (Z.1 (mm_w32 (l3 + 2))), .inl (Z.1 (mm_w32 (l3 + 3)))] w) fun x6 w5 =>
  l0.bind fun q7 =>
  if q7 = 2 ∧ 0 ≤ mm_w32 (l3 + 1) ∧ mm_w32 (l3 + 1) < Z.2 then
   (l0.bind fun q8 =>
  if q8 = 2 ∧ 0 ≤ mm_w32 (l3 + 2) ∧ mm_w32 (l3 + 2) < Z.2 then
   (l0.bind fun q9 =>
  if q9 = 2 ∧ 0 ≤ mm_w32 (l3 + 3) ∧ mm_w32 (l3 + 3) < Z.2 then
   (l2.bind fun q10 =>
  if mm_cls w5 q10 = 12 then
   (mm_kI (mm_run (zP Z) 334 [.inr (.inr (some q10)), .inl (Z.1 (mm_w32 (l3 + 1))), .inl (Z.1 (mm_w32 (l3 + 2))), .inl (Z.1 (mm_w32 (l3 + 3)))] w5) fun x12 w11 =>
  if x6 = x12 then
   mm_at (zP Z) 365 1365 [some (.inr (.inr l0)), some (.inr (.inr l1)), some (.inr (.inr l2)), some (.inl l3)] [] w11
  else
   some (some (.inl 0), w11))
  else none)
  else none)
  else none)
  else none)
  else none)
  else none)
  else none)
  else none :=
  (mm_V_eq (P := zP Z) (y := 365) z_cd365 [10, 22, 29, 37, 45, 82, 143, 171, 228, 285, 302, 319, 336, 353, 380, 407, 434, 461, 488, 515, 532, 549, 566, 603, 630, 650, 671, 675, 692, 709, 726, 753, 790, 817, 844, 871, 878, 895, 912, 929, 946, 953, 970, 997, 1034, 1081, 1118, 1145, 1182, 1219, 1246, 1273, 1290, 1307, 1324, 1351, 1358, 1365] 38 997 _ _ w).trans rfl

set_option maxRecDepth 100000 in
set_option maxHeartbeats 4000000 in
theorem B_L_law_1034 (Z : mX) (l0 : Option Nat) (l1 : Option Nat) (l2 : Option Nat) (l3 : Int) (w : mW) : mm_at (zP Z) 365 1034 [some (.inr (.inr l0)), some (.inr (.inr l1)), some (.inr (.inr l2)), some (.inl l3)] [] w =
  l0.bind fun q1 =>
  if q1 = 2 ∧ 0 ≤ mm_w32 (l3 + 1) ∧ mm_w32 (l3 + 1) < Z.2 then
   (l0.bind fun q2 =>
  if q2 = 2 ∧ 0 ≤ mm_w32 (l3 + 2) ∧ mm_w32 (l3 + 2) < Z.2 then
   (l0.bind fun q3 =>
  if q3 = 2 ∧ 0 ≤ mm_w32 (l3 + 3) ∧ mm_w32 (l3 + 3) < Z.2 then
   (l0.bind fun q4 =>
  if q4 = 2 ∧ 0 ≤ mm_w32 (l3 + 4) ∧ mm_w32 (l3 + 4) < Z.2 then
   (l1.bind fun q5 =>
  if mm_cls w q5 = 11 then
   (mm_kI (mm_run (zP Z) 177 [.inr (.inr (some q5)), .inl (Z.1 (mm_w32 (l3 + 1))), .inl (Z.1 (mm_w32 (l3 + 2))), .inl (Z.1 (mm_w32 (l3 + 3))), .inl (Z.1 (mm_w32 (l3 + 4)))] w) fun x7 w6 =>
  l0.bind fun q8 =>
  if q8 = 2 ∧ 0 ≤ mm_w32 (l3 + 1) ∧ mm_w32 (l3 + 1) < Z.2 then
   (l0.bind fun q9 =>
  if q9 = 2 ∧ 0 ≤ mm_w32 (l3 + 2) ∧ mm_w32 (l3 + 2) < Z.2 then
   (l0.bind fun q10 =>
  if q10 = 2 ∧ 0 ≤ mm_w32 (l3 + 3) ∧ mm_w32 (l3 + 3) < Z.2 then
   (l0.bind fun q11 =>
  if q11 = 2 ∧ 0 ≤ mm_w32 (l3 + 4) ∧ mm_w32 (l3 + 4) < Z.2 then
   (l2.bind fun q12 =>
  if mm_cls w6 q12 = 12 then
   (mm_kI (mm_run (zP Z) 335 [.inr (.inr (some q12)), .inl (Z.1 (mm_w32 (l3 + 1))), .inl (Z.1 (mm_w32 (l3 + 2))), .inl (Z.1 (mm_w32 (l3 + 3))), .inl (Z.1 (mm_w32 (l3 + 4)))] w6) fun x14 w13 =>
  if x7 = x14 then
   mm_at (zP Z) 365 1365 [some (.inr (.inr l0)), some (.inr (.inr l1)), some (.inr (.inr l2)), some (.inl l3)] [] w13
  else
   some (some (.inl 0), w13))
  else none)
  else none)
  else none)
  else none)
  else none)
  else none)
  else none)
  else none)
  else none)
  else none :=
  (mm_V_eq (P := zP Z) (y := 365) z_cd365 [10, 22, 29, 37, 45, 82, 143, 171, 228, 285, 302, 319, 336, 353, 380, 407, 434, 461, 488, 515, 532, 549, 566, 603, 630, 650, 671, 675, 692, 709, 726, 753, 790, 817, 844, 871, 878, 895, 912, 929, 946, 953, 970, 997, 1034, 1081, 1118, 1145, 1182, 1219, 1246, 1273, 1290, 1307, 1324, 1351, 1358, 1365] 48 1034 _ _ w).trans rfl

set_option maxRecDepth 100000 in
set_option maxHeartbeats 4000000 in
theorem B_L_law_1081 (Z : mX) (l0 : Option Nat) (l1 : Option Nat) (l2 : Option Nat) (l3 : Int) (w : mW) : mm_at (zP Z) 365 1081 [some (.inr (.inr l0)), some (.inr (.inr l1)), some (.inr (.inr l2)), some (.inl l3)] [] w =
  l0.bind fun q1 =>
  if q1 = 2 ∧ 0 ≤ mm_w32 (l3 + 1) ∧ mm_w32 (l3 + 1) < Z.2 then
   (l0.bind fun q2 =>
  if q2 = 2 ∧ 0 ≤ mm_w32 (l3 + 2) ∧ mm_w32 (l3 + 2) < Z.2 then
   (l0.bind fun q3 =>
  if q3 = 2 ∧ 0 ≤ mm_w32 (l3 + 3) ∧ mm_w32 (l3 + 3) < Z.2 then
   (l1.bind fun q4 =>
  if mm_cls w q4 = 11 then
   (mm_kI (mm_run (zP Z) 178 [.inr (.inr (some q4)), .inl (Z.1 (mm_w32 (l3 + 1))), .inl (Z.1 (mm_w32 (l3 + 2))), .inl (Z.1 (mm_w32 (l3 + 3)))] w) fun x6 w5 =>
  l0.bind fun q7 =>
  if q7 = 2 ∧ 0 ≤ mm_w32 (l3 + 1) ∧ mm_w32 (l3 + 1) < Z.2 then
   (l0.bind fun q8 =>
  if q8 = 2 ∧ 0 ≤ mm_w32 (l3 + 2) ∧ mm_w32 (l3 + 2) < Z.2 then
   (l0.bind fun q9 =>
  if q9 = 2 ∧ 0 ≤ mm_w32 (l3 + 3) ∧ mm_w32 (l3 + 3) < Z.2 then
   (l2.bind fun q10 =>
  if mm_cls w5 q10 = 12 then
   (mm_kI (mm_run (zP Z) 337 [.inr (.inr (some q10)), .inl (Z.1 (mm_w32 (l3 + 1))), .inl (Z.1 (mm_w32 (l3 + 2))), .inl (Z.1 (mm_w32 (l3 + 3)))] w5) fun x12 w11 =>
  if x6 = x12 then
   mm_at (zP Z) 365 1365 [some (.inr (.inr l0)), some (.inr (.inr l1)), some (.inr (.inr l2)), some (.inl l3)] [] w11
  else
   some (some (.inl 0), w11))
  else none)
  else none)
  else none)
  else none)
  else none)
  else none)
  else none)
  else none :=
  (mm_V_eq (P := zP Z) (y := 365) z_cd365 [10, 22, 29, 37, 45, 82, 143, 171, 228, 285, 302, 319, 336, 353, 380, 407, 434, 461, 488, 515, 532, 549, 566, 603, 630, 650, 671, 675, 692, 709, 726, 753, 790, 817, 844, 871, 878, 895, 912, 929, 946, 953, 970, 997, 1034, 1081, 1118, 1145, 1182, 1219, 1246, 1273, 1290, 1307, 1324, 1351, 1358, 1365] 38 1081 _ _ w).trans rfl

set_option maxRecDepth 100000 in
set_option maxHeartbeats 4000000 in
theorem B_L_law_1118 (Z : mX) (l0 : Option Nat) (l1 : Option Nat) (l2 : Option Nat) (l3 : Int) (w : mW) : mm_at (zP Z) 365 1118 [some (.inr (.inr l0)), some (.inr (.inr l1)), some (.inr (.inr l2)), some (.inl l3)] [] w =
  l0.bind fun q1 =>
  if q1 = 2 ∧ 0 ≤ mm_w32 (l3 + 1) ∧ mm_w32 (l3 + 1) < Z.2 then
   (l0.bind fun q2 =>
  if q2 = 2 ∧ 0 ≤ mm_w32 (l3 + 2) ∧ mm_w32 (l3 + 2) < Z.2 then
   (l1.bind fun q3 =>
  if mm_cls w q3 = 11 then
   (mm_kI (mm_run (zP Z) 179 [.inr (.inr (some q3)), .inl (Z.1 (mm_w32 (l3 + 1))), .inl (Z.1 (mm_w32 (l3 + 2)))] w) fun x5 w4 =>
  l0.bind fun q6 =>
  if q6 = 2 ∧ 0 ≤ mm_w32 (l3 + 1) ∧ mm_w32 (l3 + 1) < Z.2 then
   (l0.bind fun q7 =>
  if q7 = 2 ∧ 0 ≤ mm_w32 (l3 + 2) ∧ mm_w32 (l3 + 2) < Z.2 then
   (l2.bind fun q8 =>
  if mm_cls w4 q8 = 12 then
   (mm_kI (mm_run (zP Z) 338 [.inr (.inr (some q8)), .inl (Z.1 (mm_w32 (l3 + 1))), .inl (Z.1 (mm_w32 (l3 + 2)))] w4) fun x10 w9 =>
  if x5 = x10 then
   mm_at (zP Z) 365 1365 [some (.inr (.inr l0)), some (.inr (.inr l1)), some (.inr (.inr l2)), some (.inl l3)] [] w9
  else
   some (some (.inl 0), w9))
  else none)
  else none)
  else none)
  else none)
  else none)
  else none :=
  (mm_V_eq (P := zP Z) (y := 365) z_cd365 [10, 22, 29, 37, 45, 82, 143, 171, 228, 285, 302, 319, 336, 353, 380, 407, 434, 461, 488, 515, 532, 549, 566, 603, 630, 650, 671, 675, 692, 709, 726, 753, 790, 817, 844, 871, 878, 895, 912, 929, 946, 953, 970, 997, 1034, 1081, 1118, 1145, 1182, 1219, 1246, 1273, 1290, 1307, 1324, 1351, 1358, 1365] 28 1118 _ _ w).trans rfl

set_option maxRecDepth 100000 in
set_option maxHeartbeats 4000000 in
theorem B_L_law_1145 (Z : mX) (l0 : Option Nat) (l1 : Option Nat) (l2 : Option Nat) (l3 : Int) (w : mW) : mm_at (zP Z) 365 1145 [some (.inr (.inr l0)), some (.inr (.inr l1)), some (.inr (.inr l2)), some (.inl l3)] [] w =
  l0.bind fun q1 =>
  if q1 = 2 ∧ 0 ≤ mm_w32 (l3 + 1) ∧ mm_w32 (l3 + 1) < Z.2 then
   (l0.bind fun q2 =>
  if q2 = 2 ∧ 0 ≤ mm_w32 (l3 + 2) ∧ mm_w32 (l3 + 2) < Z.2 then
   (l0.bind fun q3 =>
  if q3 = 2 ∧ 0 ≤ mm_w32 (l3 + 3) ∧ mm_w32 (l3 + 3) < Z.2 then
   (l1.bind fun q4 =>
  if mm_cls w q4 = 11 then
   (mm_kI (mm_run (zP Z) 180 [.inr (.inr (some q4)), .inl (Z.1 (mm_w32 (l3 + 1))), .inl (Z.1 (mm_w32 (l3 + 2))), .inl (Z.1 (mm_w32 (l3 + 3)))] w) fun x6 w5 =>
  l0.bind fun q7 =>
  if q7 = 2 ∧ 0 ≤ mm_w32 (l3 + 1) ∧ mm_w32 (l3 + 1) < Z.2 then
   (l0.bind fun q8 =>
  if q8 = 2 ∧ 0 ≤ mm_w32 (l3 + 2) ∧ mm_w32 (l3 + 2) < Z.2 then
   (l0.bind fun q9 =>
  if q9 = 2 ∧ 0 ≤ mm_w32 (l3 + 3) ∧ mm_w32 (l3 + 3) < Z.2 then
   (l2.bind fun q10 =>
  if mm_cls w5 q10 = 12 then
   (mm_kI (mm_run (zP Z) 344 [.inr (.inr (some q10)), .inl (Z.1 (mm_w32 (l3 + 1))), .inl (Z.1 (mm_w32 (l3 + 2))), .inl (Z.1 (mm_w32 (l3 + 3)))] w5) fun x12 w11 =>
  if x6 = x12 then
   mm_at (zP Z) 365 1365 [some (.inr (.inr l0)), some (.inr (.inr l1)), some (.inr (.inr l2)), some (.inl l3)] [] w11
  else
   some (some (.inl 0), w11))
  else none)
  else none)
  else none)
  else none)
  else none)
  else none)
  else none)
  else none :=
  (mm_V_eq (P := zP Z) (y := 365) z_cd365 [10, 22, 29, 37, 45, 82, 143, 171, 228, 285, 302, 319, 336, 353, 380, 407, 434, 461, 488, 515, 532, 549, 566, 603, 630, 650, 671, 675, 692, 709, 726, 753, 790, 817, 844, 871, 878, 895, 912, 929, 946, 953, 970, 997, 1034, 1081, 1118, 1145, 1182, 1219, 1246, 1273, 1290, 1307, 1324, 1351, 1358, 1365] 38 1145 _ _ w).trans rfl

set_option maxRecDepth 100000 in
set_option maxHeartbeats 4000000 in
theorem B_L_law_1182 (Z : mX) (l0 : Option Nat) (l1 : Option Nat) (l2 : Option Nat) (l3 : Int) (w : mW) : mm_at (zP Z) 365 1182 [some (.inr (.inr l0)), some (.inr (.inr l1)), some (.inr (.inr l2)), some (.inl l3)] [] w =
  l0.bind fun q1 =>
  if q1 = 2 ∧ 0 ≤ mm_w32 (l3 + 1) ∧ mm_w32 (l3 + 1) < Z.2 then
   (l0.bind fun q2 =>
  if q2 = 2 ∧ 0 ≤ mm_w32 (l3 + 2) ∧ mm_w32 (l3 + 2) < Z.2 then
   (l0.bind fun q3 =>
  if q3 = 2 ∧ 0 ≤ mm_w32 (l3 + 3) ∧ mm_w32 (l3 + 3) < Z.2 then
   (l1.bind fun q4 =>
  if mm_cls w q4 = 11 then
   (mm_kI (mm_run (zP Z) 181 [.inr (.inr (some q4)), .inl (Z.1 (mm_w32 (l3 + 1))), .inl (Z.1 (mm_w32 (l3 + 2))), .inl (Z.1 (mm_w32 (l3 + 3)))] w) fun x6 w5 =>
  l0.bind fun q7 =>
  if q7 = 2 ∧ 0 ≤ mm_w32 (l3 + 1) ∧ mm_w32 (l3 + 1) < Z.2 then
   (l0.bind fun q8 =>
  if q8 = 2 ∧ 0 ≤ mm_w32 (l3 + 2) ∧ mm_w32 (l3 + 2) < Z.2 then
   (l0.bind fun q9 =>
  if q9 = 2 ∧ 0 ≤ mm_w32 (l3 + 3) ∧ mm_w32 (l3 + 3) < Z.2 then
   (l2.bind fun q10 =>
  if mm_cls w5 q10 = 12 then
   (mm_kI (mm_run (zP Z) 345 [.inr (.inr (some q10)), .inl (Z.1 (mm_w32 (l3 + 1))), .inl (Z.1 (mm_w32 (l3 + 2))), .inl (Z.1 (mm_w32 (l3 + 3)))] w5) fun x12 w11 =>
  if x6 = x12 then
   mm_at (zP Z) 365 1365 [some (.inr (.inr l0)), some (.inr (.inr l1)), some (.inr (.inr l2)), some (.inl l3)] [] w11
  else
   some (some (.inl 0), w11))
  else none)
  else none)
  else none)
  else none)
  else none)
  else none)
  else none)
  else none :=
  (mm_V_eq (P := zP Z) (y := 365) z_cd365 [10, 22, 29, 37, 45, 82, 143, 171, 228, 285, 302, 319, 336, 353, 380, 407, 434, 461, 488, 515, 532, 549, 566, 603, 630, 650, 671, 675, 692, 709, 726, 753, 790, 817, 844, 871, 878, 895, 912, 929, 946, 953, 970, 997, 1034, 1081, 1118, 1145, 1182, 1219, 1246, 1273, 1290, 1307, 1324, 1351, 1358, 1365] 38 1182 _ _ w).trans rfl

set_option maxRecDepth 100000 in
set_option maxHeartbeats 4000000 in
theorem B_L_law_1219 (Z : mX) (l0 : Option Nat) (l1 : Option Nat) (l2 : Option Nat) (l3 : Int) (w : mW) : mm_at (zP Z) 365 1219 [some (.inr (.inr l0)), some (.inr (.inr l1)), some (.inr (.inr l2)), some (.inl l3)] [] w =
  l0.bind fun q1 =>
  if q1 = 2 ∧ 0 ≤ mm_w32 (l3 + 1) ∧ mm_w32 (l3 + 1) < Z.2 then
   (l0.bind fun q2 =>
  if q2 = 2 ∧ 0 ≤ mm_w32 (l3 + 2) ∧ mm_w32 (l3 + 2) < Z.2 then
   (l1.bind fun q3 =>
  if mm_cls w q3 = 11 then
   (mm_kI (mm_run (zP Z) 182 [.inr (.inr (some q3)), .inl (Z.1 (mm_w32 (l3 + 1))), .inl (Z.1 (mm_w32 (l3 + 2)))] w) fun x5 w4 =>
  l0.bind fun q6 =>
  if q6 = 2 ∧ 0 ≤ mm_w32 (l3 + 1) ∧ mm_w32 (l3 + 1) < Z.2 then
   (l0.bind fun q7 =>
  if q7 = 2 ∧ 0 ≤ mm_w32 (l3 + 2) ∧ mm_w32 (l3 + 2) < Z.2 then
   (l2.bind fun q8 =>
  if mm_cls w4 q8 = 12 then
   (mm_kI (mm_run (zP Z) 346 [.inr (.inr (some q8)), .inl (Z.1 (mm_w32 (l3 + 1))), .inl (Z.1 (mm_w32 (l3 + 2)))] w4) fun x10 w9 =>
  if x5 = x10 then
   mm_at (zP Z) 365 1365 [some (.inr (.inr l0)), some (.inr (.inr l1)), some (.inr (.inr l2)), some (.inl l3)] [] w9
  else
   some (some (.inl 0), w9))
  else none)
  else none)
  else none)
  else none)
  else none)
  else none :=
  (mm_V_eq (P := zP Z) (y := 365) z_cd365 [10, 22, 29, 37, 45, 82, 143, 171, 228, 285, 302, 319, 336, 353, 380, 407, 434, 461, 488, 515, 532, 549, 566, 603, 630, 650, 671, 675, 692, 709, 726, 753, 790, 817, 844, 871, 878, 895, 912, 929, 946, 953, 970, 997, 1034, 1081, 1118, 1145, 1182, 1219, 1246, 1273, 1290, 1307, 1324, 1351, 1358, 1365] 28 1219 _ _ w).trans rfl

set_option maxRecDepth 100000 in
set_option maxHeartbeats 4000000 in
theorem B_L_law_1246 (Z : mX) (l0 : Option Nat) (l1 : Option Nat) (l2 : Option Nat) (l3 : Int) (w : mW) : mm_at (zP Z) 365 1246 [some (.inr (.inr l0)), some (.inr (.inr l1)), some (.inr (.inr l2)), some (.inl l3)] [] w =
  l0.bind fun q1 =>
  if q1 = 2 ∧ 0 ≤ mm_w32 (l3 + 1) ∧ mm_w32 (l3 + 1) < Z.2 then
   (l0.bind fun q2 =>
  if q2 = 2 ∧ 0 ≤ mm_w32 (l3 + 2) ∧ mm_w32 (l3 + 2) < Z.2 then
   (l1.bind fun q3 =>
  if mm_cls w q3 = 11 then
   (mm_kI (mm_run (zP Z) 183 [.inr (.inr (some q3)), .inl (Z.1 (mm_w32 (l3 + 1))), .inl (Z.1 (mm_w32 (l3 + 2)))] w) fun x5 w4 =>
  l0.bind fun q6 =>
  if q6 = 2 ∧ 0 ≤ mm_w32 (l3 + 1) ∧ mm_w32 (l3 + 1) < Z.2 then
   (l0.bind fun q7 =>
  if q7 = 2 ∧ 0 ≤ mm_w32 (l3 + 2) ∧ mm_w32 (l3 + 2) < Z.2 then
   (l2.bind fun q8 =>
  if mm_cls w4 q8 = 12 then
   (mm_kI (mm_run (zP Z) 347 [.inr (.inr (some q8)), .inl (Z.1 (mm_w32 (l3 + 1))), .inl (Z.1 (mm_w32 (l3 + 2)))] w4) fun x10 w9 =>
  if x5 = x10 then
   mm_at (zP Z) 365 1365 [some (.inr (.inr l0)), some (.inr (.inr l1)), some (.inr (.inr l2)), some (.inl l3)] [] w9
  else
   some (some (.inl 0), w9))
  else none)
  else none)
  else none)
  else none)
  else none)
  else none :=
  (mm_V_eq (P := zP Z) (y := 365) z_cd365 [10, 22, 29, 37, 45, 82, 143, 171, 228, 285, 302, 319, 336, 353, 380, 407, 434, 461, 488, 515, 532, 549, 566, 603, 630, 650, 671, 675, 692, 709, 726, 753, 790, 817, 844, 871, 878, 895, 912, 929, 946, 953, 970, 997, 1034, 1081, 1118, 1145, 1182, 1219, 1246, 1273, 1290, 1307, 1324, 1351, 1358, 1365] 28 1246 _ _ w).trans rfl

set_option maxRecDepth 100000 in
set_option maxHeartbeats 4000000 in
theorem B_L_law_1273 (Z : mX) (l0 : Option Nat) (l1 : Option Nat) (l2 : Option Nat) (l3 : Int) (w : mW) : mm_at (zP Z) 365 1273 [some (.inr (.inr l0)), some (.inr (.inr l1)), some (.inr (.inr l2)), some (.inl l3)] [] w =
  l0.bind fun q1 =>
  if q1 = 2 ∧ 0 ≤ mm_w32 (l3 + 1) ∧ mm_w32 (l3 + 1) < Z.2 then
   (l1.bind fun q2 =>
  if mm_cls w q2 = 11 then
   (mm_kI (mm_run (zP Z) 184 [.inr (.inr (some q2)), .inl (Z.1 (mm_w32 (l3 + 1)))] w) fun x4 w3 =>
  l0.bind fun q5 =>
  if q5 = 2 ∧ 0 ≤ mm_w32 (l3 + 1) ∧ mm_w32 (l3 + 1) < Z.2 then
   (l2.bind fun q6 =>
  if mm_cls w3 q6 = 12 then
   (mm_kI (mm_run (zP Z) 348 [.inr (.inr (some q6)), .inl (Z.1 (mm_w32 (l3 + 1)))] w3) fun x8 w7 =>
  if x4 = x8 then
   mm_at (zP Z) 365 1365 [some (.inr (.inr l0)), some (.inr (.inr l1)), some (.inr (.inr l2)), some (.inl l3)] [] w7
  else
   some (some (.inl 0), w7))
  else none)
  else none)
  else none)
  else none :=
  (mm_V_eq (P := zP Z) (y := 365) z_cd365 [10, 22, 29, 37, 45, 82, 143, 171, 228, 285, 302, 319, 336, 353, 380, 407, 434, 461, 488, 515, 532, 549, 566, 603, 630, 650, 671, 675, 692, 709, 726, 753, 790, 817, 844, 871, 878, 895, 912, 929, 946, 953, 970, 997, 1034, 1081, 1118, 1145, 1182, 1219, 1246, 1273, 1290, 1307, 1324, 1351, 1358, 1365] 18 1273 _ _ w).trans rfl

set_option maxRecDepth 100000 in
set_option maxHeartbeats 4000000 in
theorem B_L_law_1290 (Z : mX) (l0 : Option Nat) (l1 : Option Nat) (l2 : Option Nat) (l3 : Int) (w : mW) : mm_at (zP Z) 365 1290 [some (.inr (.inr l0)), some (.inr (.inr l1)), some (.inr (.inr l2)), some (.inl l3)] [] w =
  l0.bind fun q1 =>
  if q1 = 2 ∧ 0 ≤ mm_w32 (l3 + 1) ∧ mm_w32 (l3 + 1) < Z.2 then
   (l1.bind fun q2 =>
  if mm_cls w q2 = 11 then
   (mm_kI (mm_run (zP Z) 185 [.inr (.inr (some q2)), .inl (Z.1 (mm_w32 (l3 + 1)))] w) fun x4 w3 =>
  l0.bind fun q5 =>
  if q5 = 2 ∧ 0 ≤ mm_w32 (l3 + 1) ∧ mm_w32 (l3 + 1) < Z.2 then
   (l2.bind fun q6 =>
  if mm_cls w3 q6 = 12 then
   (mm_kI (mm_run (zP Z) 358 [.inr (.inr (some q6)), .inl (Z.1 (mm_w32 (l3 + 1)))] w3) fun x8 w7 =>
  if x4 = x8 then
   mm_at (zP Z) 365 1365 [some (.inr (.inr l0)), some (.inr (.inr l1)), some (.inr (.inr l2)), some (.inl l3)] [] w7
  else
   some (some (.inl 0), w7))
  else none)
  else none)
  else none)
  else none :=
  (mm_V_eq (P := zP Z) (y := 365) z_cd365 [10, 22, 29, 37, 45, 82, 143, 171, 228, 285, 302, 319, 336, 353, 380, 407, 434, 461, 488, 515, 532, 549, 566, 603, 630, 650, 671, 675, 692, 709, 726, 753, 790, 817, 844, 871, 878, 895, 912, 929, 946, 953, 970, 997, 1034, 1081, 1118, 1145, 1182, 1219, 1246, 1273, 1290, 1307, 1324, 1351, 1358, 1365] 18 1290 _ _ w).trans rfl

set_option maxRecDepth 100000 in
set_option maxHeartbeats 4000000 in
theorem B_L_law_1307 (Z : mX) (l0 : Option Nat) (l1 : Option Nat) (l2 : Option Nat) (l3 : Int) (w : mW) : mm_at (zP Z) 365 1307 [some (.inr (.inr l0)), some (.inr (.inr l1)), some (.inr (.inr l2)), some (.inl l3)] [] w =
  l0.bind fun q1 =>
  if q1 = 2 ∧ 0 ≤ mm_w32 (l3 + 1) ∧ mm_w32 (l3 + 1) < Z.2 then
   (l1.bind fun q2 =>
  if mm_cls w q2 = 11 then
   (mm_kI (mm_run (zP Z) 186 [.inr (.inr (some q2)), .inl (Z.1 (mm_w32 (l3 + 1)))] w) fun x4 w3 =>
  l0.bind fun q5 =>
  if q5 = 2 ∧ 0 ≤ mm_w32 (l3 + 1) ∧ mm_w32 (l3 + 1) < Z.2 then
   (l2.bind fun q6 =>
  if mm_cls w3 q6 = 12 then
   (mm_kI (mm_run (zP Z) 359 [.inr (.inr (some q6)), .inl (Z.1 (mm_w32 (l3 + 1)))] w3) fun x8 w7 =>
  if x4 = x8 then
   mm_at (zP Z) 365 1365 [some (.inr (.inr l0)), some (.inr (.inr l1)), some (.inr (.inr l2)), some (.inl l3)] [] w7
  else
   some (some (.inl 0), w7))
  else none)
  else none)
  else none)
  else none :=
  (mm_V_eq (P := zP Z) (y := 365) z_cd365 [10, 22, 29, 37, 45, 82, 143, 171, 228, 285, 302, 319, 336, 353, 380, 407, 434, 461, 488, 515, 532, 549, 566, 603, 630, 650, 671, 675, 692, 709, 726, 753, 790, 817, 844, 871, 878, 895, 912, 929, 946, 953, 970, 997, 1034, 1081, 1118, 1145, 1182, 1219, 1246, 1273, 1290, 1307, 1324, 1351, 1358, 1365] 18 1307 _ _ w).trans rfl

set_option maxRecDepth 100000 in
set_option maxHeartbeats 4000000 in
theorem B_L_law_1324 (Z : mX) (l0 : Option Nat) (l1 : Option Nat) (l2 : Option Nat) (l3 : Int) (w : mW) : mm_at (zP Z) 365 1324 [some (.inr (.inr l0)), some (.inr (.inr l1)), some (.inr (.inr l2)), some (.inl l3)] [] w =
  l0.bind fun q1 =>
  if q1 = 2 ∧ 0 ≤ mm_w32 (l3 + 1) ∧ mm_w32 (l3 + 1) < Z.2 then
   (l0.bind fun q2 =>
  if q2 = 2 ∧ 0 ≤ mm_w32 (l3 + 2) ∧ mm_w32 (l3 + 2) < Z.2 then
   (l1.bind fun q3 =>
  if mm_cls w q3 = 11 then
   (mm_kI (mm_run (zP Z) 187 [.inr (.inr (some q3)), .inl (Z.1 (mm_w32 (l3 + 1))), .inl (Z.1 (mm_w32 (l3 + 2)))] w) fun x5 w4 =>
  l0.bind fun q6 =>
  if q6 = 2 ∧ 0 ≤ mm_w32 (l3 + 1) ∧ mm_w32 (l3 + 1) < Z.2 then
   (l0.bind fun q7 =>
  if q7 = 2 ∧ 0 ≤ mm_w32 (l3 + 2) ∧ mm_w32 (l3 + 2) < Z.2 then
   (l2.bind fun q8 =>
  if mm_cls w4 q8 = 12 then
   (mm_kI (mm_run (zP Z) 360 [.inr (.inr (some q8)), .inl (Z.1 (mm_w32 (l3 + 1))), .inl (Z.1 (mm_w32 (l3 + 2)))] w4) fun x10 w9 =>
  if x5 = x10 then
   mm_at (zP Z) 365 1365 [some (.inr (.inr l0)), some (.inr (.inr l1)), some (.inr (.inr l2)), some (.inl l3)] [] w9
  else
   some (some (.inl 0), w9))
  else none)
  else none)
  else none)
  else none)
  else none)
  else none :=
  (mm_V_eq (P := zP Z) (y := 365) z_cd365 [10, 22, 29, 37, 45, 82, 143, 171, 228, 285, 302, 319, 336, 353, 380, 407, 434, 461, 488, 515, 532, 549, 566, 603, 630, 650, 671, 675, 692, 709, 726, 753, 790, 817, 844, 871, 878, 895, 912, 929, 946, 953, 970, 997, 1034, 1081, 1118, 1145, 1182, 1219, 1246, 1273, 1290, 1307, 1324, 1351, 1358, 1365] 28 1324 _ _ w).trans rfl

set_option maxRecDepth 100000 in
set_option maxHeartbeats 4000000 in
theorem B_L_law_1351 (Z : mX) (l0 : Option Nat) (l1 : Option Nat) (l2 : Option Nat) (l3 : Int) (w : mW) : mm_at (zP Z) 365 1351 [some (.inr (.inr l0)), some (.inr (.inr l1)), some (.inr (.inr l2)), some (.inl l3)] [] w =
  l1.bind fun q1 =>
  if mm_cls w q1 = 11 then
   (mm_kI (mm_run (zP Z) 188 [.inr (.inr (some q1))] w) fun x3 w2 =>
  l2.bind fun q4 =>
  if mm_cls w2 q4 = 12 then
   (mm_kI (mm_run (zP Z) 362 [.inr (.inr (some q4))] w2) fun x6 w5 =>
  if x3 = x6 then
   mm_at (zP Z) 365 1365 [some (.inr (.inr l0)), some (.inr (.inr l1)), some (.inr (.inr l2)), some (.inl l3)] [] w5
  else
   some (some (.inl 0), w5))
  else none)
  else none :=
  (mm_V_eq (P := zP Z) (y := 365) z_cd365 [10, 22, 29, 37, 45, 82, 143, 171, 228, 285, 302, 319, 336, 353, 380, 407, 434, 461, 488, 515, 532, 549, 566, 603, 630, 650, 671, 675, 692, 709, 726, 753, 790, 817, 844, 871, 878, 895, 912, 929, 946, 953, 970, 997, 1034, 1081, 1118, 1145, 1182, 1219, 1246, 1273, 1290, 1307, 1324, 1351, 1358, 1365] 8 1351 _ _ w).trans rfl

set_option maxRecDepth 100000 in
set_option maxHeartbeats 4000000 in
theorem B_L_law_1358 (Z : mX) (l0 : Option Nat) (l1 : Option Nat) (l2 : Option Nat) (l3 : Int) (w : mW) : mm_at (zP Z) 365 1358 [some (.inr (.inr l0)), some (.inr (.inr l1)), some (.inr (.inr l2)), some (.inl l3)] [] w =
  l1.bind fun q1 =>
  if mm_cls w q1 = 11 then
   (mm_kI (mm_run (zP Z) 189 [.inr (.inr (some q1))] w) fun x3 w2 =>
  l2.bind fun q4 =>
  if mm_cls w2 q4 = 12 then
   (mm_kI (mm_run (zP Z) 363 [.inr (.inr (some q4))] w2) fun x6 w5 =>
  if x3 = x6 then
   mm_at (zP Z) 365 1365 [some (.inr (.inr l0)), some (.inr (.inr l1)), some (.inr (.inr l2)), some (.inl l3)] [] w5
  else
   some (some (.inl 0), w5))
  else none)
  else none :=
  (mm_V_eq (P := zP Z) (y := 365) z_cd365 [10, 22, 29, 37, 45, 82, 143, 171, 228, 285, 302, 319, 336, 353, 380, 407, 434, 461, 488, 515, 532, 549, 566, 603, 630, 650, 671, 675, 692, 709, 726, 753, 790, 817, 844, 871, 878, 895, 912, 929, 946, 953, 970, 997, 1034, 1081, 1118, 1145, 1182, 1219, 1246, 1273, 1290, 1307, 1324, 1351, 1358, 1365] 8 1358 _ _ w).trans rfl

set_option maxRecDepth 100000 in
set_option maxHeartbeats 4000000 in
theorem B_L_law_1365 (Z : mX) (l0 : Option Nat) (l1 : Option Nat) (l2 : Option Nat) (l3 : Int) (w : mW) : mm_at (zP Z) 365 1365 [some (.inr (.inr l0)), some (.inr (.inr l1)), some (.inr (.inr l2)), some (.inl l3)] [] w =
  mm_at (zP Z) 365 10 [some (.inr (.inr l0)), some (.inr (.inr l1)), some (.inr (.inr l2)), some (.inl (mm_w32 (l3 + 6)))] [] w :=
  (mm_V_eq (P := zP Z) (y := 365) z_cd365 [10, 22, 29, 37, 45, 82, 143, 171, 228, 285, 302, 319, 336, 353, 380, 407, 434, 461, 488, 515, 532, 549, 566, 603, 630, 650, 671, 675, 692, 709, 726, 753, 790, 817, 844, 871, 878, 895, 912, 929, 946, 953, 970, 997, 1034, 1081, 1118, 1145, 1182, 1219, 1246, 1273, 1290, 1307, 1324, 1351, 1358, 1365] 3 1365 _ _ w).trans rfl

