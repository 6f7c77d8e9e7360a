/-! printed by wip/whole/gen/emit.py: each method of the mini machine up to its labels -/
-- ThornSchool$Autumns.<init>()V
set_option maxRecDepth 100000 in
set_option maxHeartbeats 4000000 in
theorem B_X0_init (Z : mX) (o : Nat) (w : mW) : mm_run (zP Z) 0 [.inr (.inr (some o))] w =
  if 60 < 0 ∨ 100000 < 60 then none else
  (mm_p (mm_alloc w (.inr (0, Int.toNat 60, fun _ => 0)) (Int.toNat 60)) o 0 3 (.inr (.inr (some w.2.1)))).bind fun w1 =>
  if 60 < 0 ∨ 100000 < 60 then none else
  (mm_p (mm_alloc w1 (.inr (0, Int.toNat 60, fun _ => 0)) (Int.toNat 60)) o 0 4 (.inr (.inr (some w1.2.1)))).bind fun w2 =>
  if 60 < 0 ∨ 100000 < 60 then none else
  (mm_p (mm_alloc w2 (.inr (0, Int.toNat 60, fun _ => 0)) (Int.toNat 60)) o 0 5 (.inr (.inr (some w2.2.1)))).bind fun w3 =>
  if 60 < 0 ∨ 100000 < 60 then none else
  (mm_p (mm_alloc w3 (.inr (0, Int.toNat 60, fun _ => 0)) (Int.toNat 60)) o 0 6 (.inr (.inr (some w3.2.1)))).bind fun w4 =>
  if 60 < 0 ∨ 100000 < 60 then none else
  (mm_p (mm_alloc w4 (.inr (0, Int.toNat 60, fun _ => 0)) (Int.toNat 60)) o 0 7 (.inr (.inr (some w4.2.1)))).bind fun w5 =>
  some (none, w5) :=
  (mm_run_eq (P := zP Z) (y := 0) z_cd0 rfl (l := [some (.inr (.inr (some o)))]) rfl [] 24 w).trans rfl

-- ThornSchool$Autumns.clear()V
set_option maxRecDepth 100000 in
set_option maxHeartbeats 4000000 in
theorem B_X0_clear (Z : mX) (o : Nat) (w : mW) : mm_run (zP Z) 1 [.inr (.inr (some o))] w =
  if 0 = 0 ∨ 0 = 1 then
   ((mm_p w o 0 0 (.inl 0)).bind fun w1 =>
  (mm_p w1 o 0 1 (.inl 0)).bind fun w2 =>
  (mm_p w2 o 0 2 (.inl 0)).bind fun w3 =>
  some (none, w3))
  else none :=
  (mm_run_eq (P := zP Z) (y := 1) z_cd1 rfl (l := [some (.inr (.inr (some o)))]) rfl [] 11 w).trans rfl

-- ThornSchool$Autumns.copyFrom(LThornSchool$Autumns;)V
set_option maxRecDepth 100000 in
set_option maxHeartbeats 4000000 in
theorem B_X0_copyFrom (Z : mX) (o : Nat) (a1 : Option Nat) (w : mW) : mm_run (zP Z) 2 [.inr (.inr (some o)), .inr (.inr a1)] w =
  if a1 = none then
   some (none, w)
  else
   a1.bind fun q1 =>
   (mm_gI w q1 0 0).bind fun x2 =>
   if x2 = 0 ∨ x2 = 1 then
    ((mm_p w o 0 0 (.inl x2)).bind fun w3 =>
   a1.bind fun q4 =>
   (mm_gI w3 q4 0 1).bind fun x5 =>
   (mm_p w3 o 0 1 (.inl x5)).bind fun w6 =>
   a1.bind fun q7 =>
   (mm_gI w6 q7 0 2).bind fun x8 =>
   (mm_p w6 o 0 2 (.inl x8)).bind fun w9 =>
   a1.bind fun q10 =>
   (mm_gR w9 q10 0 3).bind fun r11 =>
   (mm_gR w9 o 0 3).bind fun r12 =>
   mm_kV (mm_run (zP Z) 203 [.inr (.inr r11), .inr (.inr r12)] w9) fun w13 =>
   a1.bind fun q14 =>
   (mm_gR w13 q14 0 4).bind fun r15 =>
   (mm_gR w13 o 0 4).bind fun r16 =>
   mm_kV (mm_run (zP Z) 203 [.inr (.inr r15), .inr (.inr r16)] w13) fun w17 =>
   a1.bind fun q18 =>
   (mm_gR w17 q18 0 5).bind fun r19 =>
   (mm_gR w17 o 0 5).bind fun r20 =>
   mm_kV (mm_run (zP Z) 203 [.inr (.inr r19), .inr (.inr r20)] w17) fun w21 =>
   a1.bind fun q22 =>
   (mm_gR w21 q22 0 6).bind fun r23 =>
   (mm_gR w21 o 0 6).bind fun r24 =>
   mm_kV (mm_run (zP Z) 203 [.inr (.inr r23), .inr (.inr r24)] w21) fun w25 =>
   a1.bind fun q26 =>
   (mm_gR w25 q26 0 7).bind fun r27 =>
   (mm_gR w25 o 0 7).bind fun r28 =>
   mm_kV (mm_run (zP Z) 203 [.inr (.inr r27), .inr (.inr r28)] w25) fun w29 =>
   some (none, w29))
   else none :=
  (mm_run_eq (P := zP Z) (y := 2) z_cd2 rfl (l := [some (.inr (.inr (some o))), some (.inr (.inr a1))]) rfl [] 41 w).trans rfl

-- ThornSchool$Autumns.addStep(IIII)V
set_option maxRecDepth 100000 in
set_option maxHeartbeats 4000000 in
theorem B_X0_addStep (Z : mX) (o : Nat) (a1 : Int) (a2 : Int) (a3 : Int) (a4 : Int) (w : mW) : mm_run (zP Z) 3 [.inr (.inr (some o)), .inl a1, .inl a2, .inl a3, .inl a4] w =
  (mm_gR w o 0 3).bind fun r1 =>
  (mm_gI w o 0 2).bind fun x2 =>
  mm_kV (mm_run (zP Z) 200 [.inr (.inr r1), .inl x2, .inl a1] w) fun w3 =>
  (mm_gR w3 o 0 4).bind fun r4 =>
  (mm_gI w3 o 0 2).bind fun x5 =>
  mm_kV (mm_run (zP Z) 200 [.inr (.inr r4), .inl x5, .inl a2] w3) fun w6 =>
  (mm_gR w6 o 0 5).bind fun r7 =>
  (mm_gI w6 o 0 2).bind fun x8 =>
  mm_kV (mm_run (zP Z) 200 [.inr (.inr r7), .inl x8, .inl a3] w6) fun w9 =>
  (mm_gR w9 o 0 6).bind fun r10 =>
  (mm_gI w9 o 0 2).bind fun x11 =>
  mm_kV (mm_run (zP Z) 200 [.inr (.inr r10), .inl x11, .inl a4] w9) fun w12 =>
  (mm_gI w12 o 0 1).bind fun x13 =>
  (mm_p w12 o 0 1 (.inl (mm_w32 (x13 + 1)))).bind fun w14 =>
  (mm_gI w14 o 0 2).bind fun x15 =>
  (mm_p w14 o 0 2 (.inl (mm_w32 (x15 + 1)))).bind fun w16 =>
  some (none, w16) :=
  (mm_run_eq (P := zP Z) (y := 3) z_cd3 rfl (l := [some (.inr (.inr (some o))), some (.inl a1), some (.inl a2), some (.inl a3), some (.inl a4)]) rfl [] 38 w).trans rfl

-- ThornSchool$Autumns.addEnd(I)V
set_option maxRecDepth 100000 in
set_option maxHeartbeats 4000000 in
theorem B_X0_addEnd (Z : mX) (o : Nat) (a1 : Int) (w : mW) : mm_run (zP Z) 4 [.inr (.inr (some o)), .inl a1] w =
  (mm_gR w o 0 3).bind fun r1 =>
  (mm_gI w o 0 2).bind fun x2 =>
  mm_kV (mm_run (zP Z) 200 [.inr (.inr r1), .inl x2, .inl 25] w) fun w3 =>
  (mm_gR w3 o 0 7).bind fun r4 =>
  (mm_gI w3 o 0 2).bind fun x5 =>
  mm_kV (mm_run (zP Z) 200 [.inr (.inr r4), .inl x5, .inl a1] w3) fun w6 =>
  (mm_gR w6 o 0 7).bind fun r7 =>
  (mm_gI w6 o 0 2).bind fun x8 =>
  mm_kV (mm_run (zP Z) 200 [.inr (.inr r7), .inl a1, .inl x8] w6) fun w9 =>
  (mm_gI w9 o 0 2).bind fun x10 =>
  (mm_p w9 o 0 2 (.inl (mm_w32 (x10 + 1)))).bind fun w11 =>
  some (none, w11) :=
  (mm_run_eq (P := zP Z) (y := 4) z_cd4 rfl (l := [some (.inr (.inr (some o))), some (.inl a1)]) rfl [] 26 w).trans rfl

-- ThornSchool$AutumnsReader.<init>(LThornSchool$Text;LThornSchool$School;)V
set_option maxRecDepth 100000 in
set_option maxHeartbeats 4000000 in
theorem B_X1_init (Z : mX) (o : Nat) (a1 : Option Nat) (a2 : Option Nat) (w : mW) : mm_run (zP Z) 5 [.inr (.inr (some o)), .inr (.inr a1), .inr (.inr a2)] w =
  if mm_cls (mm_alloc w (.inl (0, z_defs 0)) 8) w.2.1 = 0 then
   (mm_kV (mm_run (zP Z) 0 [.inr (.inr (some w.2.1))] (mm_alloc w (.inl (0, z_defs 0)) 8)) fun w1 =>
  (mm_p w1 o 1 2 (.inr (.inr (some w.2.1)))).bind fun w2 =>
  if 3 < 0 ∨ 100000 < 3 then none else
  (mm_p (mm_alloc w2 (.inr (0, Int.toNat 3, fun _ => 0)) (Int.toNat 3)) o 1 3 (.inr (.inr (some w2.2.1)))).bind fun w3 =>
  (mm_p w3 o 1 0 (.inr (.inr a1))).bind fun w4 =>
  (mm_p w4 o 1 1 (.inr (.inr a2))).bind fun w5 =>
  some (none, w5))
  else none :=
  (mm_run_eq (P := zP Z) (y := 5) z_cd5 rfl (l := [some (.inr (.inr (some o))), some (.inr (.inr a1)), some (.inr (.inr a2))]) rfl [] 19 w).trans rfl

-- ThornSchool$AutumnsReader.readAll()Z
set_option maxRecDepth 100000 in
set_option maxHeartbeats 4000000 in
theorem B_X1_readAll (Z : mX) (o : Nat) (w : mW) : mm_run (zP Z) 6 [.inr (.inr (some o))] w =
  (mm_gR w o 1 2).bind fun r1 =>
  r1.bind fun q2 =>
  if mm_cls w q2 = 0 then
   (mm_kV (mm_run (zP Z) 1 [.inr (.inr (some q2))] w) fun w3 =>
  (mm_gR w3 o 1 2).bind fun r4 =>
  r4.bind fun q5 =>
  if 1 = 0 ∨ 1 = 1 then
   ((mm_p w3 q5 0 0 (.inl 1)).bind fun w6 =>
  (mm_p w6 o 1 4 (.inl 0)).bind fun w7 =>
  mm_at (zP Z) 6 12 [some (.inr (.inr (some o))), some (.inl 0)] [] w7)
  else none)
  else none :=
  (mm_run_eq (P := zP Z) (y := 6) z_cd6 rfl (l := [some (.inr (.inr (some o))), none]) rfl [12, 22] 13 w).trans rfl

set_option maxRecDepth 100000 in
set_option maxHeartbeats 4000000 in
theorem B_X1_readAll_12 (Z : mX) (o : Nat) (l1 : Int) (w : mW) : mm_at (zP Z) 6 12 [some (.inr (.inr (some o))), some (.inl l1)] [] w =
  if 300 < l1 then
   some (some (.inl 1), w)
  else
   (mm_gR w o 1 0).bind fun r1 =>
   r1.bind fun q2 =>
   (mm_gI w q2 7 5).bind fun x3 =>
   if x3 = 0 then
    (mm_gI w o 1 4).bind fun x4 =>
    if 0 < x4 then
     mm_at (zP Z) 6 22 [some (.inr (.inr (some o))), some (.inl l1)] [] w
    else
     some (some (.inl 1), w)
   else
    mm_at (zP Z) 6 22 [some (.inr (.inr (some o))), some (.inl l1)] [] w :=
  (mm_V_eq (P := zP Z) (y := 6) z_cd6 [12, 22] 13 12 _ _ w).trans rfl

set_option maxRecDepth 100000 in
set_option maxHeartbeats 4000000 in
theorem B_X1_readAll_22 (Z : mX) (o : Nat) (l1 : Int) (w : mW) : mm_at (zP Z) 6 22 [some (.inr (.inr (some o))), some (.inl l1)] [] w =
  if mm_cls w o = 1 then
   (mm_kI (mm_run (zP Z) 7 [.inr (.inr (some o))] w) fun x2 w1 =>
  if x2 = 0 then
   some (some (.inl 0), w1)
  else
   mm_at (zP Z) 6 12 [some (.inr (.inr (some o))), some (.inl (mm_w32 (l1 + 1)))] [] w1)
  else none :=
  (mm_V_eq (P := zP Z) (y := 6) z_cd6 [12, 22] 6 22 _ _ w).trans rfl

-- ThornSchool$AutumnsReader.readStep()Z
set_option maxRecDepth 100000 in
set_option maxHeartbeats 4000000 in
theorem B_X1_readStep (Z : mX) (o : Nat) (w : mW) : mm_run (zP Z) 7 [.inr (.inr (some o))] w =
  (mm_gR w o 1 0).bind fun r1 =>
  r1.bind fun q2 =>
  (mm_gI w q2 7 5).bind fun x3 =>
  if x3 = 2 then
   (mm_gR w o 1 0).bind fun r4 =>
   r4.bind fun q5 =>
   (mm_gI w q5 7 6).bind fun x6 =>
   if x6 = 25 then
    if mm_cls w o = 1 then
     (mm_kI (mm_run (zP Z) 9 [.inr (.inr (some o))] w) fun x21 w20 =>
    if x21 = 0 ∨ x21 = 1 then some (some (.inl x21), w20) else none)
    else none
   else
    mm_kI (mm_run (zP Z) 8 [.inl x6] w) fun x8 w7 =>
    if x8 = 0 then
     (mm_gR w7 o 1 0).bind fun r16 =>
     r16.bind fun q17 =>
     if mm_cls w7 q17 = 7 then
      (mm_kI (mm_run (zP Z) 104 [.inr (.inr (some q17))] w7) fun x19 w18 =>
     if x19 = 0 ∨ x19 = 1 then some (some (.inl x19), w18) else none)
     else none
    else
     (mm_gR w7 o 1 2).bind fun r9 =>
     r9.bind fun q10 =>
     (mm_gI w7 q10 0 1).bind fun x11 =>
     if x11 < 30 then
      if x6 = 22 then
       mm_at (zP Z) 7 42 [some (.inr (.inr (some o))), some (.inl x6), none, none] [] w7
      else
       if x6 = 24 then
        mm_at (zP Z) 7 42 [some (.inr (.inr (some o))), some (.inl x6), none, none] [] w7
       else
        mm_at (zP Z) 7 45 [some (.inr (.inr (some o))), some (.inl x6), none, none] [.inl 0] w7
     else
      (mm_gR w7 o 1 0).bind fun r12 =>
      r12.bind fun q13 =>
      if mm_cls w7 q13 = 7 then
       (mm_kI (mm_run (zP Z) 103 [.inr (.inr (some q13)), .inl 6] w7) fun x15 w14 =>
      if x15 = 0 ∨ x15 = 1 then some (some (.inl x15), w14) else none)
      else none
  else
   (mm_gR w o 1 0).bind fun r22 =>
   r22.bind fun q23 =>
   if mm_cls w q23 = 7 then
    (mm_kI (mm_run (zP Z) 104 [.inr (.inr (some q23))] w) fun x25 w24 =>
   if x25 = 0 ∨ x25 = 1 then some (some (.inl x25), w24) else none)
   else none :=
  (mm_run_eq (P := zP Z) (y := 7) z_cd7 rfl (l := [some (.inr (.inr (some o))), none, none, none]) rfl [42, 45, 57, 77] 28 w).trans rfl

set_option maxRecDepth 100000 in
set_option maxHeartbeats 4000000 in
theorem B_X1_readStep_42 (Z : mX) (o : Nat) (l1 : Int) (w : mW) : mm_at (zP Z) 7 42 [some (.inr (.inr (some o))), some (.inl l1), none, none] [] w =
  mm_at (zP Z) 7 45 [some (.inr (.inr (some o))), some (.inl l1), none, none] [.inl 1] w :=
  (mm_V_eq (P := zP Z) (y := 7) z_cd7 [42, 45, 57, 77] 3 42 _ _ w).trans rfl

set_option maxRecDepth 100000 in
set_option maxHeartbeats 4000000 in
theorem B_X1_readStep_45 (Z : mX) (o : Nat) (l1 : Int) (s0 : Int) (w : mW) : mm_at (zP Z) 7 45 [some (.inr (.inr (some o))), some (.inl l1), none, none] [.inl s0] w =
  if s0 = 0 then
   mm_at (zP Z) 7 57 [some (.inr (.inr (some o))), some (.inl l1), some (.inl s0), none] [] w
  else
   (mm_gI w o 1 4).bind fun x1 =>
   if x1 < 3 then
    mm_at (zP Z) 7 57 [some (.inr (.inr (some o))), some (.inl l1), some (.inl s0), none] [] w
   else
    (mm_gR w o 1 0).bind fun r2 =>
    r2.bind fun q3 =>
    if mm_cls w q3 = 7 then
     (mm_kI (mm_run (zP Z) 103 [.inr (.inr (some q3)), .inl 7] w) fun x5 w4 =>
    if x5 = 0 ∨ x5 = 1 then some (some (.inl x5), w4) else none)
    else none :=
  (mm_V_eq (P := zP Z) (y := 7) z_cd7 [42, 45, 57, 77] 13 45 _ _ w).trans rfl

set_option maxRecDepth 100000 in
set_option maxHeartbeats 4000000 in
theorem B_X1_readStep_57 (Z : mX) (o : Nat) (l1 : Int) (l2 : Int) (w : mW) : mm_at (zP Z) 7 57 [some (.inr (.inr (some o))), some (.inl l1), some (.inl l2), none] [] w =
  (mm_gR w o 1 0).bind fun r1 =>
  r1.bind fun q2 =>
  if mm_cls w q2 = 7 then
   (mm_kV (mm_run (zP Z) 94 [.inr (.inr (some q2))] w) fun w3 =>
  (mm_gR w3 o 1 2).bind fun r4 =>
  r4.bind fun q5 =>
  (mm_gI w3 q5 0 2).bind fun x6 =>
  if l1 = 22 then
   if mm_cls w3 o = 1 then
    (mm_kI (mm_run (zP Z) 11 [.inr (.inr (some o))] w3) fun x10 w9 =>
   if x10 = 0 then
    some (some (.inl 0), w9)
   else
    mm_at (zP Z) 7 77 [some (.inr (.inr (some o))), none, some (.inl l2), some (.inl x6)] [] w9)
   else none
  else
   if mm_cls w3 o = 1 then
    (mm_kI (mm_run (zP Z) 10 [.inr (.inr (some o)), .inl l1] w3) fun x8 w7 =>
   if x8 = 0 then
    some (some (.inl 0), w7)
   else
    mm_at (zP Z) 7 77 [some (.inr (.inr (some o))), none, some (.inl l2), some (.inl x6)] [] w7)
   else none)
  else none :=
  (mm_V_eq (P := zP Z) (y := 7) z_cd7 [42, 45, 57, 77] 17 57 _ _ w).trans rfl

set_option maxRecDepth 100000 in
set_option maxHeartbeats 4000000 in
theorem B_X1_readStep_77 (Z : mX) (o : Nat) (l2 : Int) (l3 : Int) (w : mW) : mm_at (zP Z) 7 77 [some (.inr (.inr (some o))), none, some (.inl l2), some (.inl l3)] [] w =
  if l2 = 0 then
   (mm_gR w o 1 0).bind fun r1 =>
   r1.bind fun q2 =>
   if mm_cls w q2 = 7 then
    (mm_kI (mm_run (zP Z) 106 [.inr (.inr (some q2))] w) fun x4 w3 =>
   if x4 = 0 ∨ x4 = 1 then some (some (.inl x4), w3) else none)
   else none
  else
   (mm_gR w o 1 3).bind fun r5 =>
   (mm_gI w o 1 4).bind fun x6 =>
   mm_kV (mm_run (zP Z) 200 [.inr (.inr r5), .inl x6, .inl l3] w) fun w7 =>
   (mm_gI w7 o 1 4).bind fun x8 =>
   (mm_p w7 o 1 4 (.inl (mm_w32 (x8 + 1)))).bind fun w9 =>
   (mm_gR w9 o 1 0).bind fun r10 =>
   r10.bind fun q11 =>
   if mm_cls w9 q11 = 7 then
    (mm_kI (mm_run (zP Z) 106 [.inr (.inr (some q11))] w9) fun x13 w12 =>
   if x13 = 0 ∨ x13 = 1 then some (some (.inl x13), w12) else none)
   else none :=
  (mm_V_eq (P := zP Z) (y := 7) z_cd7 [42, 45, 57, 77] 19 77 _ _ w).trans rfl

-- ThornSchool$AutumnsReader.beginsStep(I)Z
set_option maxRecDepth 100000 in
set_option maxHeartbeats 4000000 in
theorem B_X1_beginsStep (Z : mX) (a0 : Int) (w : mW) : mm_run (zP Z) 8 [.inl a0] w =
  if a0 = 12 then
   some (some (.inl 1), w)
  else
   if a0 = 26 then
    some (some (.inl 1), w)
   else
    if a0 = 24 then
     some (some (.inl 1), w)
    else
     mm_kI (mm_run (zP Z) 208 [.inl a0, .inl 17, .inl 22] w) fun x2 w1 =>
     if x2 = 0 then
      some (some (.inl 0), w1)
     else
      some (some (.inl 1), w1) :=
  (mm_run_eq (P := zP Z) (y := 8) z_cd8 rfl (l := [some (.inl a0)]) rfl [] 18 w).trans rfl

-- ThornSchool$AutumnsReader.readEnd()Z
set_option maxRecDepth 100000 in
set_option maxHeartbeats 4000000 in
theorem B_X1_readEnd (Z : mX) (o : Nat) (w : mW) : mm_run (zP Z) 9 [.inr (.inr (some o))] w =
  (mm_gI w o 1 4).bind fun x1 =>
  if 0 < x1 then
   (mm_gR w o 1 0).bind fun r2 =>
   r2.bind fun q3 =>
   if mm_cls w q3 = 7 then
    (mm_kV (mm_run (zP Z) 94 [.inr (.inr (some q3))] w) fun w4 =>
   (mm_gI w4 o 1 4).bind fun x5 =>
   (mm_p w4 o 1 4 (.inl (mm_w32 (x5 - 1)))).bind fun w6 =>
   (mm_gR w6 o 1 2).bind fun r7 =>
   (mm_gR w6 o 1 3).bind fun r8 =>
   (mm_gI w6 o 1 4).bind fun x9 =>
   mm_kI (mm_run (zP Z) 199 [.inr (.inr r8), .inl x9] w6) fun x11 w10 =>
   r7.bind fun q12 =>
   if mm_cls w10 q12 = 0 then
    (mm_kV (mm_run (zP Z) 4 [.inr (.inr (some q12)), .inl x11] w10) fun w13 =>
   (mm_gR w13 o 1 0).bind fun r14 =>
   r14.bind fun q15 =>
   if mm_cls w13 q15 = 7 then
    (mm_kI (mm_run (zP Z) 106 [.inr (.inr (some q15))] w13) fun x17 w16 =>
   if x17 = 0 ∨ x17 = 1 then some (some (.inl x17), w16) else none)
   else none)
   else none)
   else none
  else
   (mm_gR w o 1 0).bind fun r18 =>
   r18.bind fun q19 =>
   if mm_cls w q19 = 7 then
    (mm_kI (mm_run (zP Z) 104 [.inr (.inr (some q19))] w) fun x21 w20 =>
   if x21 = 0 ∨ x21 = 1 then some (some (.inl x21), w20) else none)
   else none :=
  (mm_run_eq (P := zP Z) (y := 9) z_cd9 rfl (l := [some (.inr (.inr (some o)))]) rfl [] 25 w).trans rfl

-- ThornSchool$AutumnsReader.readPlain(I)Z
set_option maxRecDepth 100000 in
set_option maxHeartbeats 4000000 in
theorem B_X1_readPlain (Z : mX) (o : Nat) (a1 : Int) (w : mW) : mm_run (zP Z) 10 [.inr (.inr (some o)), .inl a1] w =
  if a1 = 12 then
   mm_at (zP Z) 10 6 [some (.inr (.inr (some o))), some (.inl a1), none, none] [] w
  else if a1 = 13 then
   mm_at (zP Z) 10 57 [some (.inr (.inr (some o))), some (.inl a1), some (.inl 0), some (.inl 0)] [] w
  else if a1 = 14 then
   mm_at (zP Z) 10 57 [some (.inr (.inr (some o))), some (.inl a1), some (.inl 0), some (.inl 0)] [] w
  else if a1 = 15 then
   mm_at (zP Z) 10 57 [some (.inr (.inr (some o))), some (.inl a1), some (.inl 0), some (.inl 0)] [] w
  else if a1 = 16 then
   mm_at (zP Z) 10 57 [some (.inr (.inr (some o))), some (.inl a1), some (.inl 0), some (.inl 0)] [] w
  else if a1 = 17 then
   mm_at (zP Z) 10 6 [some (.inr (.inr (some o))), some (.inl a1), none, none] [] w
  else if a1 = 18 then
   mm_at (zP Z) 10 30 [some (.inr (.inr (some o))), some (.inl a1), none, some (.inl 0)] [] w
  else if a1 = 19 then
   mm_at (zP Z) 10 30 [some (.inr (.inr (some o))), some (.inl a1), none, some (.inl 0)] [] w
  else if a1 = 20 then
   mm_at (zP Z) 10 39 [some (.inr (.inr (some o))), some (.inl a1), none, some (.inl 0)] [] w
  else if a1 = 21 then
   mm_at (zP Z) 10 57 [some (.inr (.inr (some o))), some (.inl a1), some (.inl 0), some (.inl 0)] [] w
  else if a1 = 22 then
   mm_at (zP Z) 10 57 [some (.inr (.inr (some o))), some (.inl a1), some (.inl 0), some (.inl 0)] [] w
  else if a1 = 23 then
   mm_at (zP Z) 10 57 [some (.inr (.inr (some o))), some (.inl a1), some (.inl 0), some (.inl 0)] [] w
  else if a1 = 24 then
   mm_at (zP Z) 10 39 [some (.inr (.inr (some o))), some (.inl a1), none, some (.inl 0)] [] w
  else mm_at (zP Z) 10 57 [some (.inr (.inr (some o))), some (.inl a1), some (.inl 0), some (.inl 0)] [] w :=
  (mm_run_eq (P := zP Z) (y := 10) z_cd10 rfl (l := [some (.inr (.inr (some o))), some (.inl a1), none, none]) rfl [6, 26, 30, 39, 48, 57] 7 w).trans rfl

set_option maxRecDepth 100000 in
set_option maxHeartbeats 4000000 in
theorem B_X1_readPlain_6 (Z : mX) (o : Nat) (l1 : Int) (w : mW) : mm_at (zP Z) 10 6 [some (.inr (.inr (some o))), some (.inl l1), none, none] [] w =
  if mm_cls w o = 1 then
   (mm_kI (mm_run (zP Z) 12 [.inr (.inr (some o))] w) fun x2 w1 =>
  if x2 = 0 then
   some (some (.inl 0), w1)
  else
   (mm_gI w1 o 1 5).bind fun x3 =>
   if l1 = 12 then
    if mm_cls w1 o = 1 then
     (mm_kI (mm_run (zP Z) 13 [.inr (.inr (some o))] w1) fun x7 w6 =>
    if x7 = 0 then
     some (some (.inl 0), w6)
    else
     mm_at (zP Z) 10 26 [some (.inr (.inr (some o))), some (.inl l1), some (.inl x3), none] [] w6)
    else none
   else
    if mm_cls w1 o = 1 then
     (mm_kI (mm_run (zP Z) 12 [.inr (.inr (some o))] w1) fun x5 w4 =>
    if x5 = 0 then
     some (some (.inl 0), w4)
    else
     mm_at (zP Z) 10 26 [some (.inr (.inr (some o))), some (.inl l1), some (.inl x3), none] [] w4)
    else none)
  else none :=
  (mm_V_eq (P := zP Z) (y := 10) z_cd10 [6, 26, 30, 39, 48, 57] 16 6 _ _ w).trans rfl

set_option maxRecDepth 100000 in
set_option maxHeartbeats 4000000 in
theorem B_X1_readPlain_26 (Z : mX) (o : Nat) (l1 : Int) (l2 : Int) (w : mW) : mm_at (zP Z) 10 26 [some (.inr (.inr (some o))), some (.inl l1), some (.inl l2), none] [] w =
  (mm_gI w o 1 5).bind fun x1 =>
  mm_at (zP Z) 10 57 [some (.inr (.inr (some o))), some (.inl l1), some (.inl l2), some (.inl x1)] [] w :=
  (mm_V_eq (P := zP Z) (y := 10) z_cd10 [6, 26, 30, 39, 48, 57] 5 26 _ _ w).trans rfl

set_option maxRecDepth 100000 in
set_option maxHeartbeats 4000000 in
theorem B_X1_readPlain_30 (Z : mX) (o : Nat) (l1 : Int) (l3 : Int) (w : mW) : mm_at (zP Z) 10 30 [some (.inr (.inr (some o))), some (.inl l1), none, some (.inl l3)] [] w =
  if mm_cls w o = 1 then
   (mm_kI (mm_run (zP Z) 12 [.inr (.inr (some o))] w) fun x2 w1 =>
  if x2 = 0 then
   some (some (.inl 0), w1)
  else
   (mm_gI w1 o 1 5).bind fun x3 =>
   mm_at (zP Z) 10 57 [some (.inr (.inr (some o))), some (.inl l1), some (.inl x3), some (.inl l3)] [] w1)
  else none :=
  (mm_V_eq (P := zP Z) (y := 10) z_cd10 [6, 26, 30, 39, 48, 57] 8 30 _ _ w).trans rfl

set_option maxRecDepth 100000 in
set_option maxHeartbeats 4000000 in
theorem B_X1_readPlain_39 (Z : mX) (o : Nat) (l1 : Int) (l3 : Int) (w : mW) : mm_at (zP Z) 10 39 [some (.inr (.inr (some o))), some (.inl l1), none, some (.inl l3)] [] w =
  (mm_gR w o 1 0).bind fun r1 =>
  if l1 = 20 then
   mm_at (zP Z) 10 48 [some (.inr (.inr (some o))), some (.inl l1), none, some (.inl l3)] [.inl 20, .inl 1, .inr (.inr r1)] w
  else
   mm_at (zP Z) 10 48 [some (.inr (.inr (some o))), some (.inl l1), none, some (.inl l3)] [.inl 99, .inl 1, .inr (.inr r1)] w :=
  (mm_V_eq (P := zP Z) (y := 10) z_cd10 [6, 26, 30, 39, 48, 57] 9 39 _ _ w).trans rfl

set_option maxRecDepth 100000 in
set_option maxHeartbeats 4000000 in
theorem B_X1_readPlain_48 (Z : mX) (o : Nat) (l1 : Int) (l3 : Int) (s0 : Option Nat) (s1 : Int) (s2 : Int) (w : mW) : mm_at (zP Z) 10 48 [some (.inr (.inr (some o))), some (.inl l1), none, some (.inl l3)] [.inl s2, .inl s1, .inr (.inr s0)] w =
  s0.bind fun q1 =>
  if mm_cls w q1 = 7 then
   (mm_kI (mm_run (zP Z) 107 [.inr (.inr (some q1)), .inl s1, .inl s2] w) fun x3 w2 =>
  if x3 = 0 then
   some (some (.inl 0), w2)
  else
   (mm_gR w2 o 1 0).bind fun r4 =>
   r4.bind fun q5 =>
   (mm_gI w2 q5 7 8).bind fun x6 =>
   mm_at (zP Z) 10 57 [some (.inr (.inr (some o))), some (.inl l1), some (.inl x6), some (.inl l3)] [] w2)
  else none :=
  (mm_V_eq (P := zP Z) (y := 10) z_cd10 [6, 26, 30, 39, 48, 57] 8 48 _ _ w).trans rfl

set_option maxRecDepth 100000 in
set_option maxHeartbeats 4000000 in
theorem B_X1_readPlain_57 (Z : mX) (o : Nat) (l1 : Int) (l2 : Int) (l3 : Int) (w : mW) : mm_at (zP Z) 10 57 [some (.inr (.inr (some o))), some (.inl l1), some (.inl l2), some (.inl l3)] [] w =
  (mm_gR w o 1 2).bind fun r1 =>
  r1.bind fun q2 =>
  if mm_cls w q2 = 0 then
   (mm_kV (mm_run (zP Z) 3 [.inr (.inr (some q2)), .inl l1, .inl l2, .inl l3, .inl 0] w) fun w3 =>
  some (some (.inl 1), w3))
  else none :=
  (mm_V_eq (P := zP Z) (y := 10) z_cd10 [6, 26, 30, 39, 48, 57] 10 57 _ _ w).trans rfl

-- ThornSchool$AutumnsReader.readTest()Z
set_option maxRecDepth 100000 in
set_option maxHeartbeats 4000000 in
theorem B_X1_readTest (Z : mX) (o : Nat) (w : mW) : mm_run (zP Z) 11 [.inr (.inr (some o))] w =
  (mm_gR w o 1 0).bind fun r1 =>
  r1.bind fun q2 =>
  (mm_gI w q2 7 5).bind fun x3 =>
  if x3 = 2 then
   (mm_gR w o 1 0).bind fun r4 =>
   r4.bind fun q5 =>
   (mm_gI w q5 7 6).bind fun x6 =>
   if x6 = 3 then
    (mm_gR w o 1 0).bind fun r7 =>
    r7.bind fun q8 =>
    if mm_cls w q8 = 7 then
     (mm_kV (mm_run (zP Z) 94 [.inr (.inr (some q8))] w) fun w9 =>
    (mm_gR w9 o 1 0).bind fun r10 =>
    (mm_gR w9 o 1 1).bind fun r11 =>
    r11.bind fun q12 =>
    if mm_cls w9 q12 = 5 then
     (mm_kI (mm_run (zP Z) 48 [.inr (.inr (some q12))] w9) fun x14 w13 =>
    r10.bind fun q15 =>
    if mm_cls w13 q15 = 7 then
     (mm_kI (mm_run (zP Z) 107 [.inr (.inr (some q15)), .inl 0, .inl (mm_w32 (x14 - 1))] w13) fun x17 w16 =>
    if x17 = 0 then
     some (some (.inl 0), w16)
    else
     (mm_gR w16 o 1 0).bind fun r18 =>
     r18.bind fun q19 =>
     (mm_gI w16 q19 7 8).bind fun x20 =>
     mm_at (zP Z) 11 51 [some (.inr (.inr (some o))), some (.inl x6), some (.inl x20), none, none] [] w16)
    else none)
    else none)
    else none
   else if x6 = 9 then
    mm_at (zP Z) 11 15 [some (.inr (.inr (some o))), some (.inl x6), none, none, none] [] w
   else if x6 = 11 then
    mm_at (zP Z) 11 15 [some (.inr (.inr (some o))), some (.inl x6), none, none, none] [] w
   else if x6 = 23 then
    mm_at (zP Z) 11 15 [some (.inr (.inr (some o))), some (.inl x6), none, none, none] [] w
   else (mm_gR w o 1 0).bind fun r21 =>
    r21.bind fun q22 =>
    if mm_cls w q22 = 7 then
     (mm_kI (mm_run (zP Z) 104 [.inr (.inr (some q22))] w) fun x24 w23 =>
    if x24 = 0 ∨ x24 = 1 then some (some (.inl x24), w23) else none)
    else none
  else
   (mm_gR w o 1 0).bind fun r25 =>
   r25.bind fun q26 =>
   if mm_cls w q26 = 7 then
    (mm_kI (mm_run (zP Z) 104 [.inr (.inr (some q26))] w) fun x28 w27 =>
   if x28 = 0 ∨ x28 = 1 then some (some (.inl x28), w27) else none)
   else none :=
  (mm_run_eq (P := zP Z) (y := 11) z_cd11 rfl (l := [some (.inr (.inr (some o))), none, none, none, none]) rfl [15, 51, 59, 67, 85, 93] 30 w).trans rfl

set_option maxRecDepth 100000 in
set_option maxHeartbeats 4000000 in
theorem B_X1_readTest_15 (Z : mX) (o : Nat) (l1 : Int) (w : mW) : mm_at (zP Z) 11 15 [some (.inr (.inr (some o))), some (.inl l1), none, none, none] [] w =
  (mm_gR w o 1 0).bind fun r1 =>
  r1.bind fun q2 =>
  if mm_cls w q2 = 7 then
   (mm_kV (mm_run (zP Z) 94 [.inr (.inr (some q2))] w) fun w3 =>
  if mm_cls w3 o = 1 then
   (mm_kI (mm_run (zP Z) 12 [.inr (.inr (some o))] w3) fun x5 w4 =>
  if x5 = 0 then
   some (some (.inl 0), w4)
  else
   (mm_gI w4 o 1 5).bind fun x6 =>
   mm_at (zP Z) 11 51 [some (.inr (.inr (some o))), some (.inl l1), some (.inl x6), none, none] [] w4)
  else none)
  else none :=
  (mm_V_eq (P := zP Z) (y := 11) z_cd11 [15, 51, 59, 67, 85, 93] 11 15 _ _ w).trans rfl

set_option maxRecDepth 100000 in
set_option maxHeartbeats 4000000 in
theorem B_X1_readTest_51 (Z : mX) (o : Nat) (l1 : Int) (l2 : Int) (w : mW) : mm_at (zP Z) 11 51 [some (.inr (.inr (some o))), some (.inl l1), some (.inl l2), none, none] [] w =
  if l1 = 11 then
   mm_at (zP Z) 11 59 [some (.inr (.inr (some o))), some (.inl l1), some (.inl l2), none, none] [] w
  else
   if l1 = 3 then
    mm_at (zP Z) 11 59 [some (.inr (.inr (some o))), some (.inl l1), some (.inl l2), none, none] [] w
   else
    mm_at (zP Z) 11 67 [some (.inr (.inr (some o))), some (.inl l1), some (.inl l2), some (.inl 0), none] [] w :=
  (mm_V_eq (P := zP Z) (y := 11) z_cd11 [15, 51, 59, 67, 85, 93] 9 51 _ _ w).trans rfl

set_option maxRecDepth 100000 in
set_option maxHeartbeats 4000000 in
theorem B_X1_readTest_59 (Z : mX) (o : Nat) (l1 : Int) (l2 : Int) (w : mW) : mm_at (zP Z) 11 59 [some (.inr (.inr (some o))), some (.inl l1), some (.inl l2), none, none] [] w =
  if mm_cls w o = 1 then
   (mm_kI (mm_run (zP Z) 14 [.inr (.inr (some o))] w) fun x2 w1 =>
  if x2 = 0 then
   some (some (.inl 0), w1)
  else
   (mm_gI w1 o 1 5).bind fun x3 =>
   mm_at (zP Z) 11 67 [some (.inr (.inr (some o))), some (.inl l1), some (.inl l2), some (.inl x3), none] [] w1)
  else none :=
  (mm_V_eq (P := zP Z) (y := 11) z_cd11 [15, 51, 59, 67, 85, 93] 7 59 _ _ w).trans rfl

set_option maxRecDepth 100000 in
set_option maxHeartbeats 4000000 in
theorem B_X1_readTest_67 (Z : mX) (o : Nat) (l1 : Int) (l2 : Int) (l3 : Int) (w : mW) : mm_at (zP Z) 11 67 [some (.inr (.inr (some o))), some (.inl l1), some (.inl l2), some (.inl l3), none] [] w =
  if l1 = 23 then
   mm_at (zP Z) 11 93 [some (.inr (.inr (some o))), some (.inl l1), some (.inl l2), some (.inl l3), some (.inl 0)] [] w
  else
   (mm_gR w o 1 0).bind fun r1 =>
   if l1 = 9 then
    (mm_gR w o 1 1).bind fun r2 =>
    r2.bind fun q3 =>
    if mm_cls w q3 = 5 then
     (mm_kI (mm_run (zP Z) 48 [.inr (.inr (some q3))] w) fun x5 w4 =>
    mm_at (zP Z) 11 85 [some (.inr (.inr (some o))), some (.inl l1), some (.inl l2), some (.inl l3), none] [.inl (mm_w32 (x5 - 1)), .inl 0, .inr (.inr r1)] w4)
    else none
   else
    mm_at (zP Z) 11 85 [some (.inr (.inr (some o))), some (.inl l1), some (.inl l2), some (.inl l3), none] [.inl 9, .inl 0, .inr (.inr r1)] w :=
  (mm_V_eq (P := zP Z) (y := 11) z_cd11 [15, 51, 59, 67, 85, 93] 18 67 _ _ w).trans rfl

set_option maxRecDepth 100000 in
set_option maxHeartbeats 4000000 in
theorem B_X1_readTest_85 (Z : mX) (o : Nat) (l1 : Int) (l2 : Int) (l3 : Int) (s0 : Option Nat) (s1 : Int) (s2 : Int) (w : mW) : mm_at (zP Z) 11 85 [some (.inr (.inr (some o))), some (.inl l1), some (.inl l2), some (.inl l3), none] [.inl s2, .inl s1, .inr (.inr s0)] w =
  s0.bind fun q1 =>
  if mm_cls w q1 = 7 then
   (mm_kI (mm_run (zP Z) 107 [.inr (.inr (some q1)), .inl s1, .inl s2] w) fun x3 w2 =>
  if x3 = 0 then
   some (some (.inl 0), w2)
  else
   (mm_gR w2 o 1 0).bind fun r4 =>
   r4.bind fun q5 =>
   (mm_gI w2 q5 7 8).bind fun x6 =>
   mm_at (zP Z) 11 93 [some (.inr (.inr (some o))), some (.inl l1), some (.inl l2), some (.inl l3), some (.inl x6)] [] w2)
  else none :=
  (mm_V_eq (P := zP Z) (y := 11) z_cd11 [15, 51, 59, 67, 85, 93] 7 85 _ _ w).trans rfl

set_option maxRecDepth 100000 in
set_option maxHeartbeats 4000000 in
theorem B_X1_readTest_93 (Z : mX) (o : Nat) (l1 : Int) (l2 : Int) (l3 : Int) (l4 : Int) (w : mW) : mm_at (zP Z) 11 93 [some (.inr (.inr (some o))), some (.inl l1), some (.inl l2), some (.inl l3), some (.inl l4)] [] w =
  (mm_gR w o 1 2).bind fun r1 =>
  r1.bind fun q2 =>
  if mm_cls w q2 = 0 then
   (mm_kV (mm_run (zP Z) 3 [.inr (.inr (some q2)), .inl l1, .inl l2, .inl l3, .inl l4] w) fun w3 =>
  some (some (.inl 1), w3))
  else none :=
  (mm_V_eq (P := zP Z) (y := 11) z_cd11 [15, 51, 59, 67, 85, 93] 10 93 _ _ w).trans rfl

-- ThornSchool$AutumnsReader.takesPupil()Z
set_option maxRecDepth 100000 in
set_option maxHeartbeats 4000000 in
theorem B_X1_takesPupil (Z : mX) (o : Nat) (w : mW) : mm_run (zP Z) 12 [.inr (.inr (some o))] w =
  (mm_gR w o 1 0).bind fun r1 =>
  r1.bind fun q2 =>
  (mm_gI w q2 7 5).bind fun x3 =>
  if x3 = 3 then
   (mm_gR w o 1 1).bind fun r4 =>
   (mm_gR w o 1 0).bind fun r5 =>
   r5.bind fun q6 =>
   (mm_gJ w q6 7 7).bind fun x7 =>
   r4.bind fun q8 =>
   if mm_cls w q8 = 5 then
    (mm_kI (mm_run (zP Z) 54 [.inr (.inr (some q8)), .inr (.inl x7)] w) fun x10 w9 =>
   (mm_p w9 o 1 5 (.inl x10)).bind fun w11 =>
   (mm_gI w11 o 1 5).bind fun x12 =>
   if x12 = (-1) then
    (mm_gR w11 o 1 0).bind fun r16 =>
    r16.bind fun q17 =>
    if mm_cls w11 q17 = 7 then
     (mm_kI (mm_run (zP Z) 103 [.inr (.inr (some q17)), .inl 3] w11) fun x19 w18 =>
    if x19 = 0 ∨ x19 = 1 then some (some (.inl x19), w18) else none)
    else none
   else
    (mm_gR w11 o 1 0).bind fun r13 =>
    r13.bind fun q14 =>
    if mm_cls w11 q14 = 7 then
     (mm_kV (mm_run (zP Z) 94 [.inr (.inr (some q14))] w11) fun w15 =>
    some (some (.inl 1), w15))
    else none)
   else none
  else
   (mm_gR w o 1 0).bind fun r20 =>
   r20.bind fun q21 =>
   if mm_cls w q21 = 7 then
    (mm_kI (mm_run (zP Z) 104 [.inr (.inr (some q21))] w) fun x23 w22 =>
   if x23 = 0 ∨ x23 = 1 then some (some (.inl x23), w22) else none)
   else none :=
  (mm_run_eq (P := zP Z) (y := 12) z_cd12 rfl (l := [some (.inr (.inr (some o)))]) rfl [] 23 w).trans rfl

-- ThornSchool$AutumnsReader.takesSide()Z
set_option maxRecDepth 100000 in
set_option maxHeartbeats 4000000 in
theorem B_X1_takesSide (Z : mX) (o : Nat) (w : mW) : mm_run (zP Z) 13 [.inr (.inr (some o))] w =
  (mm_gR w o 1 0).bind fun r1 =>
  r1.bind fun q2 =>
  (mm_gI w q2 7 5).bind fun x3 =>
  if x3 = 2 then
   (mm_gR w o 1 0).bind fun r8 =>
   r8.bind fun q9 =>
   (mm_gI w q9 7 6).bind fun x10 =>
   mm_kI (mm_run (zP Z) 208 [.inl x10, .inl 13, .inl 16] w) fun x12 w11 =>
   if x12 = 0 then
    (mm_gR w11 o 1 0).bind fun r20 =>
    r20.bind fun q21 =>
    if mm_cls w11 q21 = 7 then
     (mm_kI (mm_run (zP Z) 104 [.inr (.inr (some q21))] w11) fun x23 w22 =>
    if x23 = 0 ∨ x23 = 1 then some (some (.inl x23), w22) else none)
    else none
   else
    (mm_gR w11 o 1 0).bind fun r13 =>
    r13.bind fun q14 =>
    (mm_gI w11 q14 7 6).bind fun x15 =>
    (mm_p w11 o 1 5 (.inl (mm_w32 (x15 - 13)))).bind fun w16 =>
    (mm_gR w16 o 1 0).bind fun r17 =>
    r17.bind fun q18 =>
    if mm_cls w16 q18 = 7 then
     (mm_kV (mm_run (zP Z) 94 [.inr (.inr (some q18))] w16) fun w19 =>
    some (some (.inl 1), w19))
    else none
  else
   (mm_gR w o 1 0).bind fun r4 =>
   r4.bind fun q5 =>
   if mm_cls w q5 = 7 then
    (mm_kI (mm_run (zP Z) 104 [.inr (.inr (some q5))] w) fun x7 w6 =>
   if x7 = 0 ∨ x7 = 1 then some (some (.inl x7), w6) else none)
   else none :=
  (mm_run_eq (P := zP Z) (y := 13) z_cd13 rfl (l := [some (.inr (.inr (some o)))]) rfl [] 25 w).trans rfl

-- ThornSchool$AutumnsReader.takesCompare()Z
set_option maxRecDepth 100000 in
set_option maxHeartbeats 4000000 in
theorem B_X1_takesCompare (Z : mX) (o : Nat) (w : mW) : mm_run (zP Z) 14 [.inr (.inr (some o))] w =
  (mm_gR w o 1 0).bind fun r1 =>
  r1.bind fun q2 =>
  (mm_gI w q2 7 5).bind fun x3 =>
  if x3 = 6 then
   (mm_gR w o 1 0).bind fun r8 =>
   r8.bind fun q9 =>
   (mm_gI w q9 7 6).bind fun x10 =>
   mm_kI (mm_run (zP Z) 101 [.inl x10] w) fun x12 w11 =>
   if x12 = 0 then
    (mm_gR w11 o 1 0).bind fun r20 =>
    r20.bind fun q21 =>
    if mm_cls w11 q21 = 7 then
     (mm_kI (mm_run (zP Z) 104 [.inr (.inr (some q21))] w11) fun x23 w22 =>
    if x23 = 0 ∨ x23 = 1 then some (some (.inl x23), w22) else none)
    else none
   else
    (mm_gR w11 o 1 0).bind fun r13 =>
    r13.bind fun q14 =>
    (mm_gI w11 q14 7 6).bind fun x15 =>
    (mm_p w11 o 1 5 (.inl x15)).bind fun w16 =>
    (mm_gR w16 o 1 0).bind fun r17 =>
    r17.bind fun q18 =>
    if mm_cls w16 q18 = 7 then
     (mm_kV (mm_run (zP Z) 94 [.inr (.inr (some q18))] w16) fun w19 =>
    some (some (.inl 1), w19))
    else none
  else
   (mm_gR w o 1 0).bind fun r4 =>
   r4.bind fun q5 =>
   if mm_cls w q5 = 7 then
    (mm_kI (mm_run (zP Z) 104 [.inr (.inr (some q5))] w) fun x7 w6 =>
   if x7 = 0 ∨ x7 = 1 then some (some (.inl x7), w6) else none)
   else none :=
  (mm_run_eq (P := zP Z) (y := 14) z_cd14 rfl (l := [some (.inr (.inr (some o)))]) rfl [] 21 w).trans rfl

-- ThornSchool$Chase.<init>(LThornSchool$School;)V
set_option maxRecDepth 100000 in
set_option maxHeartbeats 4000000 in
theorem B_X2_init (Z : mX) (o : Nat) (a1 : Option Nat) (w : mW) : mm_run (zP Z) 15 [.inr (.inr (some o)), .inr (.inr a1)] w =
  if 25 < 0 ∨ 100000 < 25 then none else
  (mm_p (mm_alloc w (.inr (0, Int.toNat 25, fun _ => 0)) (Int.toNat 25)) o 2 1 (.inr (.inr (some w.2.1)))).bind fun w1 =>
  if 25 < 0 ∨ 100000 < 25 then none else
  (mm_p (mm_alloc w1 (.inr (0, Int.toNat 25, fun _ => 0)) (Int.toNat 25)) o 2 2 (.inr (.inr (some w1.2.1)))).bind fun w2 =>
  (mm_p w2 o 2 0 (.inr (.inr a1))).bind fun w3 =>
  some (none, w3) :=
  (mm_run_eq (P := zP Z) (y := 15) z_cd15 rfl (l := [some (.inr (.inr (some o))), some (.inr (.inr a1))]) rfl [] 15 w).trans rfl

-- ThornSchool$Chase.clearSet(I)I
set_option maxRecDepth 100000 in
set_option maxHeartbeats 4000000 in
theorem B_X2_clearSet (Z : mX) (o : Nat) (a1 : Int) (w : mW) : mm_run (zP Z) 16 [.inr (.inr (some o)), .inl a1] w =
  (mm_gR w o 2 0).bind fun r1 =>
  (mm_gR w o 2 0).bind fun r2 =>
  r2.bind fun q3 =>
  (mm_gR w q3 5 12).bind fun r4 =>
  mm_kI (mm_run (zP Z) 199 [.inr (.inr r4), .inl a1] w) fun x6 w5 =>
  r1.bind fun q7 =>
  if mm_cls w5 q7 = 5 then
   (mm_kI (mm_run (zP Z) 63 [.inr (.inr (some q7)), .inl a1, .inl x6] w5) fun x9 w8 =>
  some (some (.inl x9), w8))
  else none :=
  (mm_run_eq (P := zP Z) (y := 16) z_cd16 rfl (l := [some (.inr (.inr (some o))), some (.inl a1)]) rfl [] 11 w).trans rfl

-- ThornSchool$Chase.isKeptFrom(III)Z
set_option maxRecDepth 100000 in
set_option maxHeartbeats 4000000 in
theorem B_X2_isKeptFrom (Z : mX) (o : Nat) (a1 : Int) (a2 : Int) (a3 : Int) (w : mW) : mm_run (zP Z) 17 [.inr (.inr (some o)), .inl a1, .inl a2, .inl a3] w =
  if mm_cls w o = 2 then
   (mm_kV (mm_run (zP Z) 18 [.inr (.inr (some o)), .inl a1, .inl a2, .inl a3] w) fun w1 =>
  (mm_gR w1 o 2 1).bind fun r2 =>
  (mm_gR w1 o 2 0).bind fun r3 =>
  r3.bind fun q4 =>
  (mm_gR w1 q4 5 11).bind fun r5 =>
  mm_kI (mm_run (zP Z) 199 [.inr (.inr r5), .inl a2] w1) fun x7 w6 =>
  mm_kI (mm_run (zP Z) 199 [.inr (.inr r2), .inl x7] w6) fun x9 w8 =>
  (mm_gR w8 o 2 0).bind fun r10 =>
  r10.bind fun q11 =>
  (mm_gR w8 q11 5 11).bind fun r12 =>
  mm_kI (mm_run (zP Z) 199 [.inr (.inr r12), .inl a1] w8) fun x14 w13 =>
  mm_kI (mm_run (zP Z) 207 [.inl x9, .inl x14] w13) fun x16 w15 =>
  if x16 = 0 ∨ x16 = 1 then some (some (.inl x16), w15) else none)
  else none :=
  (mm_run_eq (P := zP Z) (y := 17) z_cd17 rfl (l := [some (.inr (.inr (some o))), some (.inl a1), some (.inl a2), some (.inl a3)]) rfl [] 21 w).trans rfl

-- ThornSchool$Chase.look(III)V
set_option maxRecDepth 100000 in
set_option maxHeartbeats 4000000 in
theorem B_X2_look (Z : mX) (o : Nat) (a1 : Int) (a2 : Int) (a3 : Int) (w : mW) : mm_run (zP Z) 18 [.inr (.inr (some o)), .inl a1, .inl a2, .inl a3] w =
  if mm_cls w o = 2 then
   (mm_kI (mm_run (zP Z) 16 [.inr (.inr (some o)), .inl a1] w) fun x2 w1 =>
  if mm_cls w1 o = 2 then
   (mm_kI (mm_run (zP Z) 16 [.inr (.inr (some o)), .inl a2] w1) fun x4 w3 =>
  mm_at (zP Z) 18 10 [some (.inr (.inr (some o))), none, none, some (.inl a3), some (.inl x2), some (.inl x4), some (.inl 0), none, none] [] w3)
  else none)
  else none :=
  (mm_run_eq (P := zP Z) (y := 18) z_cd18 rfl (l := [some (.inr (.inr (some o))), some (.inl a1), some (.inl a2), some (.inl a3), none, none, none, none, none]) rfl [10, 25, 30] 11 w).trans rfl

set_option maxRecDepth 100000 in
set_option maxHeartbeats 4000000 in
theorem B_X2_look_10 (Z : mX) (o : Nat) (l3 : Int) (l4 : Int) (l5 : Int) (l6 : Int) (w : mW) : mm_at (zP Z) 18 10 [some (.inr (.inr (some o))), none, none, some (.inl l3), some (.inl l4), some (.inl l5), some (.inl l6), none, none] [] w =
  if l6 < 25 then
   (mm_gR w o 2 1).bind fun r1 =>
   mm_kI (mm_run (zP Z) 206 [.inl l6] w) fun x3 w2 =>
   mm_kV (mm_run (zP Z) 200 [.inr (.inr r1), .inl l6, .inl (mm_ixor x3 (-1))] w2) fun w4 =>
   mm_at (zP Z) 18 10 [some (.inr (.inr (some o))), none, none, some (.inl l3), some (.inl l4), some (.inl l5), some (.inl (mm_w32 (l6 + 1))), none, none] [] w4
  else
   mm_at (zP Z) 18 25 [some (.inr (.inr (some o))), none, none, some (.inl l3), some (.inl l4), some (.inl l5), some (.inl 0), none, none] [] w :=
  (mm_V_eq (P := zP Z) (y := 18) z_cd18 [10, 25, 30] 14 10 _ _ w).trans rfl

set_option maxRecDepth 100000 in
set_option maxHeartbeats 4000000 in
theorem B_X2_look_25 (Z : mX) (o : Nat) (l3 : Int) (l4 : Int) (l5 : Int) (l6 : Int) (w : mW) : mm_at (zP Z) 18 25 [some (.inr (.inr (some o))), none, none, some (.inl l3), some (.inl l4), some (.inl l5), some (.inl l6), none, none] [] w =
  if l6 < l3 then
   mm_at (zP Z) 18 30 [some (.inr (.inr (some o))), none, none, some (.inl l3), some (.inl l4), some (.inl l5), some (.inl l6), some (.inl 0), none] [] w
  else
   some (none, w) :=
  (mm_V_eq (P := zP Z) (y := 18) z_cd18 [10, 25, 30] 6 25 _ _ w).trans rfl

set_option maxRecDepth 100000 in
set_option maxHeartbeats 4000000 in
theorem B_X2_look_30 (Z : mX) (o : Nat) (l3 : Int) (l4 : Int) (l5 : Int) (l6 : Int) (l7 : Int) (w : mW) : mm_at (zP Z) 18 30 [some (.inr (.inr (some o))), none, none, some (.inl l3), some (.inl l4), some (.inl l5), some (.inl l6), some (.inl l7), none] [] w =
  (mm_gR w o 2 0).bind fun r1 =>
  r1.bind fun q2 =>
  if mm_cls w q2 = 5 then
   (mm_kI (mm_run (zP Z) 48 [.inr (.inr (some q2))] w) fun x4 w3 =>
  if l7 < x4 then
   if mm_cls w3 o = 2 then
    (mm_kI (mm_run (zP Z) 19 [.inr (.inr (some o)), .inl l7, .inl l5] w3) fun x9 w8 =>
   (mm_gR w8 o 2 2).bind fun r10 =>
   (mm_gR w8 o 2 0).bind fun r11 =>
   r11.bind fun q12 =>
   if mm_cls w8 q12 = 5 then
    (mm_kI (mm_run (zP Z) 58 [.inr (.inr (some q12)), .inl (mm_iand x9 l4)] w8) fun x14 w13 =>
   mm_kI (mm_run (zP Z) 206 [.inl l7] w13) fun x16 w15 =>
   mm_kV (mm_run (zP Z) 200 [.inr (.inr r10), .inl l7, .inl (mm_iand (mm_ior x9 x14) (mm_ixor x16 (-1)))] w15) fun w17 =>
   mm_at (zP Z) 18 30 [some (.inr (.inr (some o))), none, none, some (.inl l3), some (.inl l4), some (.inl l5), some (.inl l6), some (.inl (mm_w32 (l7 + 1))), none] [] w17)
   else none)
   else none
  else
   (mm_gR w3 o 2 2).bind fun r5 =>
   (mm_gR w3 o 2 1).bind fun r6 =>
   mm_kV (mm_run (zP Z) 203 [.inr (.inr r5), .inr (.inr r6)] w3) fun w7 =>
   mm_at (zP Z) 18 25 [some (.inr (.inr (some o))), none, none, some (.inl l3), some (.inl l4), some (.inl l5), some (.inl (mm_w32 (l6 + 1))), none, none] [] w7)
  else none :=
  (mm_V_eq (P := zP Z) (y := 18) z_cd18 [10, 25, 30] 30 30 _ _ w).trans rfl

-- ThornSchool$Chase.goodToStepTo(II)I
set_option maxRecDepth 100000 in
set_option maxHeartbeats 4000000 in
theorem B_X2_goodToStepTo (Z : mX) (o : Nat) (a1 : Int) (a2 : Int) (w : mW) : mm_run (zP Z) 19 [.inr (.inr (some o)), .inl a1, .inl a2] w =
  (mm_gR w o 2 1).bind fun r1 =>
  mm_kI (mm_run (zP Z) 199 [.inr (.inr r1), .inl a1] w) fun x3 w2 =>
  mm_kI (mm_run (zP Z) 206 [.inl a1] w2) fun x5 w4 =>
  (mm_gR w4 o 2 0).bind fun r6 =>
  mm_kI (mm_run (zP Z) 206 [.inl a1] w4) fun x8 w7 =>
  r6.bind fun q9 =>
  if mm_cls w7 q9 = 5 then
   (mm_kI (mm_run (zP Z) 58 [.inr (.inr (some q9)), .inl x8] w7) fun x11 w10 =>
  mm_at (zP Z) 19 20 [some (.inr (.inr (some o))), none, none, some (.inl (mm_iand x3 (mm_ixor x5 (-1)))), some (.inl (mm_iand x11 a2)), some (.inl 0)] [] w10)
  else none :=
  (mm_run_eq (P := zP Z) (y := 19) z_cd19 rfl (l := [some (.inr (.inr (some o))), some (.inl a1), some (.inl a2), none, none, none]) rfl [20] 21 w).trans rfl

set_option maxRecDepth 100000 in
set_option maxHeartbeats 4000000 in
theorem B_X2_goodToStepTo_20 (Z : mX) (o : Nat) (l3 : Int) (l4 : Int) (l5 : Int) (w : mW) : mm_at (zP Z) 19 20 [some (.inr (.inr (some o))), none, none, some (.inl l3), some (.inl l4), some (.inl l5)] [] w =
  (mm_gR w o 2 0).bind fun r1 =>
  r1.bind fun q2 =>
  if mm_cls w q2 = 5 then
   (mm_kI (mm_run (zP Z) 48 [.inr (.inr (some q2))] w) fun x4 w3 =>
  if l5 < x4 then
   mm_kI (mm_run (zP Z) 207 [.inl l4, .inl l5] w3) fun x6 w5 =>
   if x6 = 0 then
    mm_at (zP Z) 19 20 [some (.inr (.inr (some o))), none, none, some (.inl l3), some (.inl l4), some (.inl (mm_w32 (l5 + 1)))] [] w5
   else
    (mm_gR w5 o 2 1).bind fun r7 =>
    mm_kI (mm_run (zP Z) 199 [.inr (.inr r7), .inl l5] w5) fun x9 w8 =>
    mm_kI (mm_run (zP Z) 206 [.inl l5] w8) fun x11 w10 =>
    mm_at (zP Z) 19 20 [some (.inr (.inr (some o))), none, none, some (.inl (mm_iand l3 (mm_iand x9 (mm_ixor x11 (-1))))), some (.inl l4), some (.inl (mm_w32 (l5 + 1)))] [] w10
  else
   some (some (.inl l3), w3))
  else none :=
  (mm_V_eq (P := zP Z) (y := 19) z_cd19 [20] 24 20 _ _ w).trans rfl

-- ThornSchool$Chase.firstMove(III)I
set_option maxRecDepth 100000 in
set_option maxHeartbeats 4000000 in
theorem B_X2_firstMove (Z : mX) (o : Nat) (a1 : Int) (a2 : Int) (a3 : Int) (w : mW) : mm_run (zP Z) 20 [.inr (.inr (some o)), .inl a1, .inl a2, .inl a3] w =
  (mm_gR w o 2 0).bind fun r1 =>
  r1.bind fun q2 =>
  (mm_gR w q2 5 11).bind fun r3 =>
  mm_kI (mm_run (zP Z) 199 [.inr (.inr r3), .inl a1] w) fun x5 w4 =>
  (mm_gR w4 o 2 0).bind fun r6 =>
  r6.bind fun q7 =>
  (mm_gR w4 q7 5 11).bind fun r8 =>
  mm_kI (mm_run (zP Z) 199 [.inr (.inr r8), .inl a2] w4) fun x10 w9 =>
  if x5 = x10 then
   some (some (.inl (-1)), w9)
  else
   if mm_cls w9 o = 2 then
    (mm_kV (mm_run (zP Z) 18 [.inr (.inr (some o)), .inl a1, .inl a2, .inl (mm_w32 (a3 - 1))] w9) fun w11 =>
   if mm_cls w11 o = 2 then
    (mm_kI (mm_run (zP Z) 16 [.inr (.inr (some o)), .inl a2] w11) fun x13 w12 =>
   if mm_cls w12 o = 2 then
    (mm_kI (mm_run (zP Z) 19 [.inr (.inr (some o)), .inl x10, .inl x13] w12) fun x15 w14 =>
   if mm_cls w14 o = 2 then
    (mm_kI (mm_run (zP Z) 16 [.inr (.inr (some o)), .inl a1] w14) fun x17 w16 =>
   mm_at (zP Z) 20 37 [some (.inr (.inr (some o))), none, none, none, some (.inl x5), none, some (.inl x15), some (.inl x17), some (.inl 0), none] [] w16)
   else none)
   else none)
   else none)
   else none :=
  (mm_run_eq (P := zP Z) (y := 20) z_cd20 rfl (l := [some (.inr (.inr (some o))), some (.inl a1), some (.inl a2), some (.inl a3), none, none, none, none, none, none]) rfl [37] 36 w).trans rfl

set_option maxRecDepth 100000 in
set_option maxHeartbeats 4000000 in
theorem B_X2_firstMove_37 (Z : mX) (o : Nat) (l4 : Int) (l6 : Int) (l7 : Int) (l8 : Int) (w : mW) : mm_at (zP Z) 20 37 [some (.inr (.inr (some o))), none, none, none, some (.inl l4), none, some (.inl l6), some (.inl l7), some (.inl l8), none] [] w =
  if l8 < 4 then
   (mm_gR w o 2 0).bind fun r3 =>
   r3.bind fun q4 =>
   if mm_cls w q4 = 5 then
    (mm_kI (mm_run (zP Z) 57 [.inr (.inr (some q4)), .inl l4, .inl l8] w) fun x6 w5 =>
   if x6 = (-1) then
    mm_at (zP Z) 20 37 [some (.inr (.inr (some o))), none, none, none, some (.inl l4), none, some (.inl l6), some (.inl l7), some (.inl (mm_w32 (l8 + 1))), none] [] w5
   else
    mm_kI (mm_run (zP Z) 207 [.inl (mm_iand l6 l7), .inl x6] w5) fun x8 w7 =>
    if x8 = 0 then
     mm_at (zP Z) 20 37 [some (.inr (.inr (some o))), none, none, none, some (.inl l4), none, some (.inl l6), some (.inl l7), some (.inl (mm_w32 (l8 + 1))), none] [] w7
    else
     some (some (.inl l8), w7))
   else none
  else
   mm_kI (mm_run (zP Z) 207 [.inl l6, .inl l4] w) fun x2 w1 =>
   if x2 = 0 then
    some (some (.inl (-1)), w1)
   else
    some (some (.inl 4), w1) :=
  (mm_V_eq (P := zP Z) (y := 20) z_cd20 [37] 21 37 _ _ w).trans rfl

-- ThornSchool$Lessons.<init>(LThornSchool$School;)V
set_option maxRecDepth 100000 in
set_option maxHeartbeats 4000000 in
theorem B_X3_init (Z : mX) (o : Nat) (a1 : Option Nat) (w : mW) : mm_run (zP Z) 21 [.inr (.inr (some o)), .inr (.inr a1)] w =
  if 7 < 0 ∨ 100000 < 7 then none else
  (mm_p (mm_alloc w (.inr (0, Int.toNat 7, fun _ => 0)) (Int.toNat 7)) o 3 1 (.inr (.inr (some w.2.1)))).bind fun w1 =>
  if 128 < 0 ∨ 100000 < 128 then none else
  (mm_p (mm_alloc w1 (.inr (0, Int.toNat 128, fun _ => 0)) (Int.toNat 128)) o 3 2 (.inr (.inr (some w1.2.1)))).bind fun w2 =>
  (mm_p w2 o 3 0 (.inr (.inr a1))).bind fun w3 =>
  some (none, w3) :=
  (mm_run_eq (P := zP Z) (y := 21) z_cd21 rfl (l := [some (.inr (.inr (some o))), some (.inr (.inr a1))]) rfl [] 15 w).trans rfl

-- ThornSchool$Lessons.allFor(I)I
set_option maxRecDepth 100000 in
set_option maxHeartbeats 4000000 in
theorem B_X3_allFor (Z : mX) (o : Nat) (a1 : Int) (w : mW) : mm_run (zP Z) 22 [.inr (.inr (some o)), .inl a1] w =
  mm_kI (mm_run (zP Z) 206 [.inl a1] w) fun x2 w1 =>
  mm_at (zP Z) 22 5 [some (.inr (.inr (some o))), none, some (.inl x2), some (.inl a1)] [] w1 :=
  (mm_run_eq (P := zP Z) (y := 22) z_cd22 rfl (l := [some (.inr (.inr (some o))), some (.inl a1), none, none]) rfl [5] 6 w).trans rfl

set_option maxRecDepth 100000 in
set_option maxHeartbeats 4000000 in
theorem B_X3_allFor_5 (Z : mX) (o : Nat) (l2 : Int) (l3 : Int) (w : mW) : mm_at (zP Z) 22 5 [some (.inr (.inr (some o))), none, some (.inl l2), some (.inl l3)] [] w =
  if l3 < 0 then
   some (some (.inl l2), w)
  else
   mm_kI (mm_run (zP Z) 207 [.inl l2, .inl l3] w) fun x2 w1 =>
   if x2 = 0 then
    mm_at (zP Z) 22 5 [some (.inr (.inr (some o))), none, some (.inl l2), some (.inl (mm_w32 (l3 + (-1))))] [] w1
   else
    (mm_gR w1 o 3 0).bind fun r3 =>
    r3.bind fun q4 =>
    (mm_gR w1 q4 5 8).bind fun r5 =>
    mm_kI (mm_run (zP Z) 199 [.inr (.inr r5), .inl l3] w1) fun x7 w6 =>
    mm_at (zP Z) 22 5 [some (.inr (.inr (some o))), none, some (.inl (mm_ior l2 x7)), some (.inl (mm_w32 (l3 + (-1))))] [] w6 :=
  (mm_V_eq (P := zP Z) (y := 22) z_cd22 [5] 17 5 _ _ w).trans rfl

-- ThornSchool$Lessons.hoursOf(I)I
set_option maxRecDepth 100000 in
set_option maxHeartbeats 4000000 in
theorem B_X3_hoursOf (Z : mX) (o : Nat) (a1 : Int) (w : mW) : mm_run (zP Z) 23 [.inr (.inr (some o)), .inl a1] w =
  mm_at (zP Z) 23 4 [some (.inr (.inr (some o))), some (.inl a1), some (.inl 0), some (.inl 0)] [] w :=
  (mm_run_eq (P := zP Z) (y := 23) z_cd23 rfl (l := [some (.inr (.inr (some o))), some (.inl a1), none, none]) rfl [4] 5 w).trans rfl

set_option maxRecDepth 100000 in
set_option maxHeartbeats 4000000 in
theorem B_X3_hoursOf_4 (Z : mX) (o : Nat) (l1 : Int) (l2 : Int) (l3 : Int) (w : mW) : mm_at (zP Z) 23 4 [some (.inr (.inr (some o))), some (.inl l1), some (.inl l2), some (.inl l3)] [] w =
  (mm_gR w o 3 0).bind fun r1 =>
  r1.bind fun q2 =>
  (mm_gI w q2 5 6).bind fun x3 =>
  if l3 < x3 then
   mm_kI (mm_run (zP Z) 207 [.inl l1, .inl l3] w) fun x5 w4 =>
   if x5 = 0 then
    mm_at (zP Z) 23 4 [some (.inr (.inr (some o))), some (.inl l1), some (.inl l2), some (.inl (mm_w32 (l3 + 1)))] [] w4
   else
    (mm_gR w4 o 3 0).bind fun r6 =>
    r6.bind fun q7 =>
    (mm_gR w4 q7 5 7).bind fun r8 =>
    mm_kI (mm_run (zP Z) 199 [.inr (.inr r8), .inl l3] w4) fun x10 w9 =>
    mm_at (zP Z) 23 4 [some (.inr (.inr (some o))), some (.inl l1), some (.inl (mm_w32 (l2 + x10))), some (.inl (mm_w32 (l3 + 1)))] [] w9
  else
   some (some (.inl l2), w) :=
  (mm_V_eq (P := zP Z) (y := 23) z_cd23 [4] 20 4 _ _ w).trans rfl

-- ThornSchool$Lessons.atOnce(I)I
set_option maxRecDepth 100000 in
set_option maxHeartbeats 4000000 in
theorem B_X3_atOnce (Z : mX) (o : Nat) (a1 : Int) (w : mW) : mm_run (zP Z) 24 [.inr (.inr (some o)), .inl a1] w =
  mm_at (zP Z) 24 2 [some (.inr (.inr (some o))), some (.inl a1), some (.inl 0)] [] w :=
  (mm_run_eq (P := zP Z) (y := 24) z_cd24 rfl (l := [some (.inr (.inr (some o))), some (.inl a1), none]) rfl [2] 3 w).trans rfl

set_option maxRecDepth 100000 in
set_option maxHeartbeats 4000000 in
theorem B_X3_atOnce_2 (Z : mX) (o : Nat) (l1 : Int) (l2 : Int) (w : mW) : mm_at (zP Z) 24 2 [some (.inr (.inr (some o))), some (.inl l1), some (.inl l2)] [] w =
  if l1 < l2 then
   (mm_gR w o 3 1).bind fun r1 =>
   mm_kI (mm_run (zP Z) 199 [.inr (.inr r1), .inl l1] w) fun x3 w2 =>
   some (some (.inl x3), w2)
  else
   if l2 < 7 then
    (mm_gR w o 3 1).bind fun r7 =>
    (mm_gR w o 3 0).bind fun r8 =>
    r8.bind fun q9 =>
    (mm_gR w q9 5 8).bind fun r10 =>
    mm_kI (mm_run (zP Z) 199 [.inr (.inr r10), .inl l2] w) fun x12 w11 =>
    if mm_cls w11 o = 3 then
     (mm_kI (mm_run (zP Z) 25 [.inr (.inr (some o)), .inl x12] w11) fun x14 w13 =>
    (mm_gR w13 o 3 0).bind fun r15 =>
    r15.bind fun q16 =>
    (mm_gR w13 q16 5 7).bind fun r17 =>
    mm_kI (mm_run (zP Z) 199 [.inr (.inr r17), .inl l2] w13) fun x19 w18 =>
    mm_kV (mm_run (zP Z) 200 [.inr (.inr r7), .inl l2, .inl (mm_w32 (x14 + x19))] w18) fun w20 =>
    mm_at (zP Z) 24 2 [some (.inr (.inr (some o))), some (.inl l1), some (.inl (mm_w32 (l2 + 1)))] [] w20)
    else none
   else
    (mm_gR w o 3 1).bind fun r4 =>
    mm_kI (mm_run (zP Z) 199 [.inr (.inr r4), .inl l1] w) fun x6 w5 =>
    some (some (.inl x6), w5) :=
  (mm_V_eq (P := zP Z) (y := 24) z_cd24 [2] 26 2 _ _ w).trans rfl

-- ThornSchool$Lessons.latest(I)I
set_option maxRecDepth 100000 in
set_option maxHeartbeats 4000000 in
theorem B_X3_latest (Z : mX) (o : Nat) (a1 : Int) (w : mW) : mm_run (zP Z) 25 [.inr (.inr (some o)), .inl a1] w =
  mm_at (zP Z) 25 4 [some (.inr (.inr (some o))), some (.inl a1), some (.inl 0), some (.inl 0)] [] w :=
  (mm_run_eq (P := zP Z) (y := 25) z_cd25 rfl (l := [some (.inr (.inr (some o))), some (.inl a1), none, none]) rfl [4] 5 w).trans rfl

set_option maxRecDepth 100000 in
set_option maxHeartbeats 4000000 in
theorem B_X3_latest_4 (Z : mX) (o : Nat) (l1 : Int) (l2 : Int) (l3 : Int) (w : mW) : mm_at (zP Z) 25 4 [some (.inr (.inr (some o))), some (.inl l1), some (.inl l2), some (.inl l3)] [] w =
  if l3 < 7 then
   mm_kI (mm_run (zP Z) 207 [.inl l1, .inl l3] w) fun x2 w1 =>
   if x2 = 0 then
    mm_at (zP Z) 25 4 [some (.inr (.inr (some o))), some (.inl l1), some (.inl l2), some (.inl (mm_w32 (l3 + 1)))] [] w1
   else
    (mm_gR w1 o 3 1).bind fun r3 =>
    mm_kI (mm_run (zP Z) 199 [.inr (.inr r3), .inl l3] w1) fun x5 w4 =>
    mm_at (zP Z) 25 4 [some (.inr (.inr (some o))), some (.inl l1), some (.inl (if l2 < x5 then x5 else l2)), some (.inl (mm_w32 (l3 + 1)))] [] w4
  else
   some (some (.inl l2), w) :=
  (mm_V_eq (P := zP Z) (y := 25) z_cd25 [4] 17 4 _ _ w).trans rfl

-- ThornSchool$Lessons.countOrders()I
set_option maxRecDepth 100000 in
set_option maxHeartbeats 4000000 in
theorem B_X3_countOrders (Z : mX) (o : Nat) (w : mW) : mm_run (zP Z) 26 [.inr (.inr (some o))] w =
  (mm_gR w o 3 0).bind fun r1 =>
  r1.bind fun q2 =>
  (mm_gI w q2 5 6).bind fun x3 =>
  mm_kI (mm_run (zP Z) 206 [.inl x3] w) fun x5 w4 =>
  (mm_gR w4 o 3 2).bind fun r6 =>
  mm_kV (mm_run (zP Z) 200 [.inr (.inr r6), .inl 0, .inl 1] w4) fun w7 =>
  mm_at (zP Z) 26 14 [some (.inr (.inr (some o))), some (.inl (mm_w32 (x5 - 1))), some (.inl 1)] [] w7 :=
  (mm_run_eq (P := zP Z) (y := 26) z_cd26 rfl (l := [some (.inr (.inr (some o))), none, none]) rfl [14] 15 w).trans rfl

set_option maxRecDepth 100000 in
set_option maxHeartbeats 4000000 in
theorem B_X3_countOrders_14 (Z : mX) (o : Nat) (l1 : Int) (l2 : Int) (w : mW) : mm_at (zP Z) 26 14 [some (.inr (.inr (some o))), some (.inl l1), some (.inl l2)] [] w =
  if l1 < l2 then
   (mm_gR w o 3 2).bind fun r1 =>
   mm_kI (mm_run (zP Z) 199 [.inr (.inr r1), .inl l1] w) fun x3 w2 =>
   some (some (.inl x3), w2)
  else
   (mm_gR w o 3 2).bind fun r4 =>
   r4.bind fun q5 =>
   (mm_ln w q5).bind fun x6 =>
   if l2 < x6 then
    (mm_gR w o 3 2).bind fun r10 =>
    if mm_cls w o = 3 then
     (mm_kI (mm_run (zP Z) 27 [.inr (.inr (some o)), .inl l2] w) fun x12 w11 =>
    mm_kV (mm_run (zP Z) 200 [.inr (.inr r10), .inl l2, .inl x12] w11) fun w13 =>
    mm_at (zP Z) 26 14 [some (.inr (.inr (some o))), some (.inl l1), some (.inl (mm_w32 (l2 + 1)))] [] w13)
    else none
   else
    (mm_gR w o 3 2).bind fun r7 =>
    mm_kI (mm_run (zP Z) 199 [.inr (.inr r7), .inl l1] w) fun x9 w8 =>
    some (some (.inl x9), w8) :=
  (mm_V_eq (P := zP Z) (y := 26) z_cd26 [14] 18 14 _ _ w).trans rfl

-- ThornSchool$Lessons.ordersOf(I)I
set_option maxRecDepth 100000 in
set_option maxHeartbeats 4000000 in
theorem B_X3_ordersOf (Z : mX) (o : Nat) (a1 : Int) (w : mW) : mm_run (zP Z) 27 [.inr (.inr (some o)), .inl a1] w =
  mm_at (zP Z) 27 4 [some (.inr (.inr (some o))), some (.inl a1), some (.inl 0), some (.inl 0), none] [] w :=
  (mm_run_eq (P := zP Z) (y := 27) z_cd27 rfl (l := [some (.inr (.inr (some o))), some (.inl a1), none, none, none]) rfl [4] 5 w).trans rfl

set_option maxRecDepth 100000 in
set_option maxHeartbeats 4000000 in
theorem B_X3_ordersOf_4 (Z : mX) (o : Nat) (l1 : Int) (l2 : Int) (l3 : Int) (w : mW) : mm_at (zP Z) 27 4 [some (.inr (.inr (some o))), some (.inl l1), some (.inl l2), some (.inl l3), none] [] w =
  (mm_gR w o 3 0).bind fun r1 =>
  r1.bind fun q2 =>
  (mm_gI w q2 5 6).bind fun x3 =>
  if l3 < x3 then
   mm_kI (mm_run (zP Z) 206 [.inl l3] w) fun x5 w4 =>
   mm_kI (mm_run (zP Z) 207 [.inl l1, .inl l3] w4) fun x7 w6 =>
   if x7 = 0 then
    mm_at (zP Z) 27 4 [some (.inr (.inr (some o))), some (.inl l1), some (.inl l2), some (.inl (mm_w32 (l3 + 1))), none] [] w6
   else
    (mm_gR w6 o 3 0).bind fun r8 =>
    r8.bind fun q9 =>
    (mm_gR w6 q9 5 8).bind fun r10 =>
    mm_kI (mm_run (zP Z) 199 [.inr (.inr r10), .inl l3] w6) fun x12 w11 =>
    if mm_iand x12 (mm_ixor (mm_iand l1 (mm_ixor x5 (-1))) (-1)) = 0 then
     (mm_gR w11 o 3 2).bind fun r13 =>
     mm_kI (mm_run (zP Z) 199 [.inr (.inr r13), .inl (mm_iand l1 (mm_ixor x5 (-1)))] w11) fun x15 w14 =>
     mm_at (zP Z) 27 4 [some (.inr (.inr (some o))), some (.inl l1), some (.inl (mm_w32 (l2 + x15))), some (.inl (mm_w32 (l3 + 1))), none] [] w14
    else
     mm_at (zP Z) 27 4 [some (.inr (.inr (some o))), some (.inl l1), some (.inl l2), some (.inl (mm_w32 (l3 + 1))), none] [] w11
  else
   some (some (.inl l2), w) :=
  (mm_V_eq (P := zP Z) (y := 27) z_cd27 [4] 36 4 _ _ w).trans rfl

-- ThornSchool$Lessons.inLastOrder(I)I
set_option maxRecDepth 100000 in
set_option maxHeartbeats 4000000 in
theorem B_X3_inLastOrder (Z : mX) (o : Nat) (a1 : Int) (w : mW) : mm_run (zP Z) 28 [.inr (.inr (some o)), .inl a1] w =
  mm_at (zP Z) 28 6 [some (.inr (.inr (some o))), some (.inl a1), some (.inl 0), some (.inl 0), some (.inl 0)] [] w :=
  (mm_run_eq (P := zP Z) (y := 28) z_cd28 rfl (l := [some (.inr (.inr (some o))), some (.inl a1), none, none, none]) rfl [6] 7 w).trans rfl

set_option maxRecDepth 100000 in
set_option maxHeartbeats 4000000 in
theorem B_X3_inLastOrder_6 (Z : mX) (o : Nat) (l1 : Int) (l2 : Int) (l3 : Int) (l4 : Int) (w : mW) : mm_at (zP Z) 28 6 [some (.inr (.inr (some o))), some (.inl l1), some (.inl l2), some (.inl l3), some (.inl l4)] [] w =
  if l1 < l4 then
   some (some (.inl l3), w)
  else
   if l4 < 7 then
    if mm_cls w o = 3 then
     (mm_kI (mm_run (zP Z) 29 [.inr (.inr (some o)), .inl l2] w) fun x2 w1 =>
    mm_kI (mm_run (zP Z) 206 [.inl x2] w1) fun x4 w3 =>
    mm_at (zP Z) 28 6 [some (.inr (.inr (some o))), some (.inl l1), some (.inl (mm_ior l2 x4)), some (.inl x2), some (.inl (mm_w32 (l4 + 1)))] [] w3)
    else none
   else
    some (some (.inl l3), w) :=
  (mm_V_eq (P := zP Z) (y := 28) z_cd28 [6] 18 6 _ _ w).trans rfl

-- ThornSchool$Lessons.lastThatCan(I)I
set_option maxRecDepth 100000 in
set_option maxHeartbeats 4000000 in
theorem B_X3_lastThatCan (Z : mX) (o : Nat) (a1 : Int) (w : mW) : mm_run (zP Z) 29 [.inr (.inr (some o)), .inl a1] w =
  (mm_gR w o 3 0).bind fun r1 =>
  r1.bind fun q2 =>
  (mm_gI w q2 5 6).bind fun x3 =>
  mm_at (zP Z) 29 6 [some (.inr (.inr (some o))), some (.inl a1), some (.inl (mm_w32 (x3 - 1)))] [] w :=
  (mm_run_eq (P := zP Z) (y := 29) z_cd29 rfl (l := [some (.inr (.inr (some o))), some (.inl a1), none]) rfl [6] 7 w).trans rfl

set_option maxRecDepth 100000 in
set_option maxHeartbeats 4000000 in
theorem B_X3_lastThatCan_6 (Z : mX) (o : Nat) (l1 : Int) (l2 : Int) (w : mW) : mm_at (zP Z) 29 6 [some (.inr (.inr (some o))), some (.inl l1), some (.inl l2)] [] w =
  if l2 < 0 then
   some (some (.inl 0), w)
  else
   mm_kI (mm_run (zP Z) 207 [.inl l1, .inl l2] w) fun x2 w1 =>
   if x2 = 0 then
    (mm_gR w1 o 3 0).bind fun r3 =>
    r3.bind fun q4 =>
    (mm_gR w1 q4 5 8).bind fun r5 =>
    mm_kI (mm_run (zP Z) 199 [.inr (.inr r5), .inl l2] w1) fun x7 w6 =>
    if mm_iand x7 (mm_ixor l1 (-1)) = 0 then
     some (some (.inl l2), w6)
    else
     mm_at (zP Z) 29 6 [some (.inr (.inr (some o))), some (.inl l1), some (.inl (mm_w32 (l2 + (-1))))] [] w6
   else
    mm_at (zP Z) 29 6 [some (.inr (.inr (some o))), some (.inl l1), some (.inl (mm_w32 (l2 + (-1))))] [] w1 :=
  (mm_V_eq (P := zP Z) (y := 29) z_cd29 [6] 19 6 _ _ w).trans rfl

-- ThornSchool$School.<init>()V
set_option maxRecDepth 100000 in
set_option maxHeartbeats 4000000 in
theorem B_X5_init (Z : mX) (o : Nat) (w : mW) : mm_run (zP Z) 45 [.inr (.inr (some o))] w =
  if 25 < 0 ∨ 100000 < 25 then none else
  (mm_p (mm_alloc w (.inr (0, Int.toNat 25, fun _ => 0)) (Int.toNat 25)) o 5 4 (.inr (.inr (some w.2.1)))).bind fun w1 =>
  if 25 < 0 ∨ 100000 < 25 then none else
  (mm_p (mm_alloc w1 (.inr (0, Int.toNat 25, fun _ => 0)) (Int.toNat 25)) o 5 5 (.inr (.inr (some w1.2.1)))).bind fun w2 =>
  if 7 < 0 ∨ 100000 < 7 then none else
  (mm_p (mm_alloc w2 (.inr (0, Int.toNat 7, fun _ => 0)) (Int.toNat 7)) o 5 7 (.inr (.inr (some w2.2.1)))).bind fun w3 =>
  if 7 < 0 ∨ 100000 < 7 then none else
  (mm_p (mm_alloc w3 (.inr (0, Int.toNat 7, fun _ => 0)) (Int.toNat 7)) o 5 8 (.inr (.inr (some w3.2.1)))).bind fun w4 =>
  if 7 < 0 ∨ 100000 < 7 then none else
  (mm_p (mm_alloc w4 (.inr (3, Int.toNat 7, fun _ => 0)) (Int.toNat 7)) o 5 9 (.inr (.inr (some w4.2.1)))).bind fun w5 =>
  if 5 < 0 ∨ 100000 < 5 then none else
  (mm_p (mm_alloc w5 (.inr (0, Int.toNat 5, fun _ => 0)) (Int.toNat 5)) o 5 11 (.inr (.inr (some w5.2.1)))).bind fun w6 =>
  if 5 < 0 ∨ 100000 < 5 then none else
  (mm_p (mm_alloc w6 (.inr (0, Int.toNat 5, fun _ => 0)) (Int.toNat 5)) o 5 12 (.inr (.inr (some w6.2.1)))).bind fun w7 =>
  if 5 < 0 ∨ 100000 < 5 then none else
  (mm_p (mm_alloc w7 (.inr (0, Int.toNat 5, fun _ => 0)) (Int.toNat 5)) o 5 13 (.inr (.inr (some w7.2.1)))).bind fun w8 =>
  if 5 < 0 ∨ 100000 < 5 then none else
  (mm_p (mm_alloc w8 (.inr (0, Int.toNat 5, fun _ => 0)) (Int.toNat 5)) o 5 14 (.inr (.inr (some w8.2.1)))).bind fun w9 =>
  if 5 < 0 ∨ 100000 < 5 then none else
  (mm_p (mm_alloc w9 (.inr (0, Int.toNat 5, fun _ => 0)) (Int.toNat 5)) o 5 15 (.inr (.inr (some w9.2.1)))).bind fun w10 =>
  if 5 < 0 ∨ 100000 < 5 then none else
  (mm_p (mm_alloc w10 (.inr (0, Int.toNat 5, fun _ => 0)) (Int.toNat 5)) o 5 16 (.inr (.inr (some w10.2.1)))).bind fun w11 =>
  if 5 < 0 ∨ 100000 < 5 then none else
  (mm_p (mm_alloc w11 (.inr (3, Int.toNat 5, fun _ => 0)) (Int.toNat 5)) o 5 17 (.inr (.inr (some w11.2.1)))).bind fun w12 =>
  if mm_cls w12 o = 5 then
   (mm_kV (mm_run (zP Z) 46 [.inr (.inr (some o))] w12) fun w13 =>
  some (none, w13))
  else none :=
  (mm_run_eq (P := zP Z) (y := 45) z_cd45 rfl (l := [some (.inr (.inr (some o)))]) rfl [] 54 w).trans rfl

-- ThornSchool$School.clear()V
set_option maxRecDepth 100000 in
set_option maxHeartbeats 4000000 in
theorem B_X5_clear (Z : mX) (o : Nat) (w : mW) : mm_run (zP Z) 46 [.inr (.inr (some o))] w =
  (mm_p w o 5 0 (.inl 4)).bind fun w1 =>
  (mm_p w1 o 5 1 (.inl 4)).bind fun w2 =>
  (mm_p w2 o 5 2 (.inl 2)).bind fun w3 =>
  (mm_p w3 o 5 3 (.inl 0)).bind fun w4 =>
  (mm_p w4 o 5 6 (.inl 0)).bind fun w5 =>
  (mm_p w5 o 5 10 (.inl 0)).bind fun w6 =>
  (mm_gR w6 o 5 4).bind fun r7 =>
  mm_kV (mm_run (zP Z) 202 [.inr (.inr r7), .inl 0] w6) fun w8 =>
  (mm_gR w8 o 5 5).bind fun r9 =>
  mm_kV (mm_run (zP Z) 202 [.inr (.inr r9), .inl 0] w8) fun w10 =>
  (mm_gR w10 o 5 15).bind fun r11 =>
  mm_kV (mm_run (zP Z) 202 [.inr (.inr r11), .inl 0] w10) fun w12 =>
  (mm_gR w12 o 5 16).bind fun r13 =>
  mm_kV (mm_run (zP Z) 202 [.inr (.inr r13), .inl 0] w12) fun w14 =>
  some (none, w14) :=
  (mm_run_eq (P := zP Z) (y := 46) z_cd46 rfl (l := [some (.inr (.inr (some o)))]) rfl [] 36 w).trans rfl

-- ThornSchool$School.copyFrom(LThornSchool$School;)V
set_option maxRecDepth 100000 in
set_option maxHeartbeats 4000000 in
theorem B_X5_copyFrom (Z : mX) (o : Nat) (a1 : Option Nat) (w : mW) : mm_run (zP Z) 47 [.inr (.inr (some o)), .inr (.inr a1)] w =
  if a1 = none then
   some (none, w)
  else
   a1.bind fun q1 =>
   (mm_gI w q1 5 0).bind fun x2 =>
   (mm_p w o 5 0 (.inl x2)).bind fun w3 =>
   a1.bind fun q4 =>
   (mm_gI w3 q4 5 1).bind fun x5 =>
   (mm_p w3 o 5 1 (.inl x5)).bind fun w6 =>
   a1.bind fun q7 =>
   (mm_gI w6 q7 5 2).bind fun x8 =>
   (mm_p w6 o 5 2 (.inl x8)).bind fun w9 =>
   a1.bind fun q10 =>
   (mm_gI w9 q10 5 3).bind fun x11 =>
   (mm_p w9 o 5 3 (.inl x11)).bind fun w12 =>
   a1.bind fun q13 =>
   (mm_gI w12 q13 5 6).bind fun x14 =>
   (mm_p w12 o 5 6 (.inl x14)).bind fun w15 =>
   a1.bind fun q16 =>
   (mm_gI w15 q16 5 10).bind fun x17 =>
   (mm_p w15 o 5 10 (.inl x17)).bind fun w18 =>
   a1.bind fun q19 =>
   (mm_gR w18 q19 5 4).bind fun r20 =>
   (mm_gR w18 o 5 4).bind fun r21 =>
   mm_kV (mm_run (zP Z) 203 [.inr (.inr r20), .inr (.inr r21)] w18) fun w22 =>
   a1.bind fun q23 =>
   (mm_gR w22 q23 5 5).bind fun r24 =>
   (mm_gR w22 o 5 5).bind fun r25 =>
   mm_kV (mm_run (zP Z) 203 [.inr (.inr r24), .inr (.inr r25)] w22) fun w26 =>
   a1.bind fun q27 =>
   (mm_gR w26 q27 5 7).bind fun r28 =>
   (mm_gR w26 o 5 7).bind fun r29 =>
   mm_kV (mm_run (zP Z) 203 [.inr (.inr r28), .inr (.inr r29)] w26) fun w30 =>
   a1.bind fun q31 =>
   (mm_gR w30 q31 5 8).bind fun r32 =>
   (mm_gR w30 o 5 8).bind fun r33 =>
   mm_kV (mm_run (zP Z) 203 [.inr (.inr r32), .inr (.inr r33)] w30) fun w34 =>
   a1.bind fun q35 =>
   (mm_gR w34 q35 5 9).bind fun r36 =>
   (mm_gR w34 o 5 9).bind fun r37 =>
   mm_kV (mm_run (zP Z) 204 [.inr (.inr r36), .inr (.inr r37)] w34) fun w38 =>
   a1.bind fun q39 =>
   (mm_gR w38 q39 5 11).bind fun r40 =>
   (mm_gR w38 o 5 11).bind fun r41 =>
   mm_kV (mm_run (zP Z) 203 [.inr (.inr r40), .inr (.inr r41)] w38) fun w42 =>
   a1.bind fun q43 =>
   (mm_gR w42 q43 5 12).bind fun r44 =>
   (mm_gR w42 o 5 12).bind fun r45 =>
   mm_kV (mm_run (zP Z) 203 [.inr (.inr r44), .inr (.inr r45)] w42) fun w46 =>
   a1.bind fun q47 =>
   (mm_gR w46 q47 5 13).bind fun r48 =>
   (mm_gR w46 o 5 13).bind fun r49 =>
   mm_kV (mm_run (zP Z) 203 [.inr (.inr r48), .inr (.inr r49)] w46) fun w50 =>
   a1.bind fun q51 =>
   (mm_gR w50 q51 5 14).bind fun r52 =>
   (mm_gR w50 o 5 14).bind fun r53 =>
   mm_kV (mm_run (zP Z) 203 [.inr (.inr r52), .inr (.inr r53)] w50) fun w54 =>
   a1.bind fun q55 =>
   (mm_gR w54 q55 5 15).bind fun r56 =>
   (mm_gR w54 o 5 15).bind fun r57 =>
   mm_kV (mm_run (zP Z) 203 [.inr (.inr r56), .inr (.inr r57)] w54) fun w58 =>
   a1.bind fun q59 =>
   (mm_gR w58 q59 5 16).bind fun r60 =>
   (mm_gR w58 o 5 16).bind fun r61 =>
   mm_kV (mm_run (zP Z) 203 [.inr (.inr r60), .inr (.inr r61)] w58) fun w62 =>
   a1.bind fun q63 =>
   (mm_gR w62 q63 5 17).bind fun r64 =>
   (mm_gR w62 o 5 17).bind fun r65 =>
   mm_kV (mm_run (zP Z) 204 [.inr (.inr r64), .inr (.inr r65)] w62) fun w66 =>
   some (none, w66) :=
  (mm_run_eq (P := zP Z) (y := 47) z_cd47 rfl (l := [some (.inr (.inr (some o))), some (.inr (.inr a1))]) rfl [] 88 w).trans rfl

-- ThornSchool$School.cells()I
set_option maxRecDepth 100000 in
set_option maxHeartbeats 4000000 in
theorem B_X5_cells (Z : mX) (o : Nat) (w : mW) : mm_run (zP Z) 48 [.inr (.inr (some o))] w =
  (mm_gI w o 5 0).bind fun x1 =>
  (mm_gI w o 5 1).bind fun x2 =>
  some (some (.inl (mm_w32 (x1 * x2))), w) :=
  (mm_run_eq (P := zP Z) (y := 48) z_cd48 rfl (l := [some (.inr (.inr (some o)))]) rfl [] 7 w).trans rfl

-- ThornSchool$School.hasCell(I)Z
set_option maxRecDepth 100000 in
set_option maxHeartbeats 4000000 in
theorem B_X5_hasCell (Z : mX) (o : Nat) (a1 : Int) (w : mW) : mm_run (zP Z) 49 [.inr (.inr (some o)), .inl a1] w =
  if a1 < 0 then
   some (some (.inl 0), w)
  else
   (mm_gI w o 5 0).bind fun x1 =>
   (mm_gI w o 5 1).bind fun x2 =>
   if a1 < mm_w32 (x1 * x2) then
    some (some (.inl 1), w)
   else
    some (some (.inl 0), w) :=
  (mm_run_eq (P := zP Z) (y := 49) z_cd49 rfl (l := [some (.inr (.inr (some o))), some (.inl a1)]) rfl [] 13 w).trans rfl

-- ThornSchool$School.isCellNumber(J)Z
set_option maxRecDepth 100000 in
set_option maxHeartbeats 4000000 in
theorem B_X5_isCellNumber (Z : mX) (o : Nat) (a1 : Int) (w : mW) : mm_run (zP Z) 50 [.inr (.inr (some o)), .inr (.inl a1)] w =
  if mm_lcmp a1 0 < 0 then
   some (some (.inl 0), w)
  else
   if mm_cls w o = 5 then
    (mm_kI (mm_run (zP Z) 48 [.inr (.inr (some o))] w) fun x2 w1 =>
   if mm_lcmp a1 x2 < 0 then
    some (some (.inl 1), w1)
   else
    some (some (.inl 0), w1))
   else none :=
  (mm_run_eq (P := zP Z) (y := 50) z_cd50 rfl (l := [some (.inr (.inr (some o))), some (.inr (.inl a1)), none]) rfl [] 14 w).trans rfl

-- ThornSchool$School.hasLesson(I)Z
set_option maxRecDepth 100000 in
set_option maxHeartbeats 4000000 in
theorem B_X5_hasLesson (Z : mX) (o : Nat) (a1 : Int) (w : mW) : mm_run (zP Z) 51 [.inr (.inr (some o)), .inl a1] w =
  if a1 < 0 then
   some (some (.inl 0), w)
  else
   (mm_gI w o 5 6).bind fun x1 =>
   if a1 < x1 then
    some (some (.inl 1), w)
   else
    some (some (.inl 0), w) :=
  (mm_run_eq (P := zP Z) (y := 51) z_cd51 rfl (l := [some (.inr (.inr (some o))), some (.inl a1)]) rfl [] 10 w).trans rfl

-- ThornSchool$School.hasPupil(I)Z
set_option maxRecDepth 100000 in
set_option maxHeartbeats 4000000 in
theorem B_X5_hasPupil (Z : mX) (o : Nat) (a1 : Int) (w : mW) : mm_run (zP Z) 52 [.inr (.inr (some o)), .inl a1] w =
  if a1 < 0 then
   some (some (.inl 0), w)
  else
   (mm_gI w o 5 10).bind fun x1 =>
   if a1 < x1 then
    some (some (.inl 1), w)
   else
    some (some (.inl 0), w) :=
  (mm_run_eq (P := zP Z) (y := 52) z_cd52 rfl (l := [some (.inr (.inr (some o))), some (.inl a1)]) rfl [] 10 w).trans rfl

-- ThornSchool$School.lessonNamed(J)I
set_option maxRecDepth 100000 in
set_option maxHeartbeats 4000000 in
theorem B_X5_lessonNamed (Z : mX) (o : Nat) (a1 : Int) (w : mW) : mm_run (zP Z) 53 [.inr (.inr (some o)), .inr (.inl a1)] w =
  mm_at (zP Z) 53 2 [some (.inr (.inr (some o))), some (.inr (.inl a1)), none, some (.inl 0)] [] w :=
  (mm_run_eq (P := zP Z) (y := 53) z_cd53 rfl (l := [some (.inr (.inr (some o))), some (.inr (.inl a1)), none, none]) rfl [2] 3 w).trans rfl

set_option maxRecDepth 100000 in
set_option maxHeartbeats 4000000 in
theorem B_X5_lessonNamed_2 (Z : mX) (o : Nat) (l1 : Int) (l3 : Int) (w : mW) : mm_at (zP Z) 53 2 [some (.inr (.inr (some o))), some (.inr (.inl l1)), none, some (.inl l3)] [] w =
  (mm_gI w o 5 6).bind fun x1 =>
  if l3 < x1 then
   (mm_gR w o 5 9).bind fun r2 =>
   r2.bind fun q3 =>
   (mm_ln w q3).bind fun x4 =>
   if l3 < x4 then
    (mm_gR w o 5 9).bind fun r5 =>
    r5.bind fun q6 =>
    (mm_ld 3 w q6 l3).bind fun x7 =>
    if mm_lcmp x7 l1 = 0 then
     some (some (.inl l3), w)
    else
     mm_at (zP Z) 53 2 [some (.inr (.inr (some o))), some (.inr (.inl l1)), none, some (.inl (mm_w32 (l3 + 1)))] [] w
   else
    some (some (.inl (-1)), w)
  else
   some (some (.inl (-1)), w) :=
  (mm_V_eq (P := zP Z) (y := 53) z_cd53 [2] 19 2 _ _ w).trans rfl

-- ThornSchool$School.pupilNamed(J)I
set_option maxRecDepth 100000 in
set_option maxHeartbeats 4000000 in
theorem B_X5_pupilNamed (Z : mX) (o : Nat) (a1 : Int) (w : mW) : mm_run (zP Z) 54 [.inr (.inr (some o)), .inr (.inl a1)] w =
  mm_at (zP Z) 54 2 [some (.inr (.inr (some o))), some (.inr (.inl a1)), none, some (.inl 0)] [] w :=
  (mm_run_eq (P := zP Z) (y := 54) z_cd54 rfl (l := [some (.inr (.inr (some o))), some (.inr (.inl a1)), none, none]) rfl [2] 3 w).trans rfl

set_option maxRecDepth 100000 in
set_option maxHeartbeats 4000000 in
theorem B_X5_pupilNamed_2 (Z : mX) (o : Nat) (l1 : Int) (l3 : Int) (w : mW) : mm_at (zP Z) 54 2 [some (.inr (.inr (some o))), some (.inr (.inl l1)), none, some (.inl l3)] [] w =
  (mm_gI w o 5 10).bind fun x1 =>
  if l3 < x1 then
   (mm_gR w o 5 17).bind fun r2 =>
   r2.bind fun q3 =>
   (mm_ln w q3).bind fun x4 =>
   if l3 < x4 then
    (mm_gR w o 5 17).bind fun r5 =>
    r5.bind fun q6 =>
    (mm_ld 3 w q6 l3).bind fun x7 =>
    if mm_lcmp x7 l1 = 0 then
     some (some (.inl l3), w)
    else
     mm_at (zP Z) 54 2 [some (.inr (.inr (some o))), some (.inr (.inl l1)), none, some (.inl (mm_w32 (l3 + 1)))] [] w
   else
    some (some (.inl (-1)), w)
  else
   some (some (.inl (-1)), w) :=
  (mm_V_eq (P := zP Z) (y := 54) z_cd54 [2] 19 2 _ _ w).trans rfl

-- ThornSchool$School.addLesson(IIJ)V
set_option maxRecDepth 100000 in
set_option maxHeartbeats 4000000 in
theorem B_X5_addLesson (Z : mX) (o : Nat) (a1 : Int) (a2 : Int) (a3 : Int) (w : mW) : mm_run (zP Z) 55 [.inr (.inr (some o)), .inl a1, .inl a2, .inr (.inl a3)] w =
  (mm_gI w o 5 6).bind fun x1 =>
  if x1 < 0 then
   some (none, w)
  else
   (mm_gI w o 5 6).bind fun x2 =>
   (mm_gR w o 5 9).bind fun r3 =>
   r3.bind fun q4 =>
   (mm_ln w q4).bind fun x5 =>
   if x2 < x5 then
    (mm_gR w o 5 7).bind fun r6 =>
    (mm_gI w o 5 6).bind fun x7 =>
    mm_kV (mm_run (zP Z) 200 [.inr (.inr r6), .inl x7, .inl a1] w) fun w8 =>
    (mm_gR w8 o 5 8).bind fun r9 =>
    (mm_gI w8 o 5 6).bind fun x10 =>
    mm_kV (mm_run (zP Z) 200 [.inr (.inr r9), .inl x10, .inl a2] w8) fun w11 =>
    (mm_gR w11 o 5 9).bind fun r12 =>
    (mm_gI w11 o 5 6).bind fun x13 =>
    r12.bind fun q14 =>
    (mm_st 3 w11 q14 x13 a3).bind fun w15 =>
    (mm_gI w15 o 5 6).bind fun x16 =>
    (mm_p w15 o 5 6 (.inl (mm_w32 (x16 + 1)))).bind fun w17 =>
    some (none, w17)
   else
    some (none, w) :=
  (mm_run_eq (P := zP Z) (y := 55) z_cd55 rfl (l := [some (.inr (.inr (some o))), some (.inl a1), some (.inl a2), some (.inr (.inl a3)), none]) rfl [] 35 w).trans rfl

-- ThornSchool$School.addPupil(IIIJ)V
set_option maxRecDepth 100000 in
set_option maxHeartbeats 4000000 in
theorem B_X5_addPupil (Z : mX) (o : Nat) (a1 : Int) (a2 : Int) (a3 : Int) (a4 : Int) (w : mW) : mm_run (zP Z) 56 [.inr (.inr (some o)), .inl a1, .inl a2, .inl a3, .inr (.inl a4)] w =
  (mm_gI w o 5 10).bind fun x1 =>
  if x1 < 0 then
   some (none, w)
  else
   (mm_gI w o 5 10).bind fun x2 =>
   (mm_gR w o 5 17).bind fun r3 =>
   r3.bind fun q4 =>
   (mm_ln w q4).bind fun x5 =>
   if x2 < x5 then
    (mm_gR w o 5 11).bind fun r6 =>
    (mm_gI w o 5 10).bind fun x7 =>
    mm_kV (mm_run (zP Z) 200 [.inr (.inr r6), .inl x7, .inl a1] w) fun w8 =>
    (mm_gR w8 o 5 12).bind fun r9 =>
    (mm_gI w8 o 5 10).bind fun x10 =>
    mm_kV (mm_run (zP Z) 200 [.inr (.inr r9), .inl x10, .inl a2] w8) fun w11 =>
    (mm_gR w11 o 5 13).bind fun r12 =>
    (mm_gI w11 o 5 10).bind fun x13 =>
    mm_kV (mm_run (zP Z) 200 [.inr (.inr r12), .inl x13, .inl a3] w11) fun w14 =>
    (mm_gR w14 o 5 14).bind fun r15 =>
    (mm_gI w14 o 5 10).bind fun x16 =>
    mm_kV (mm_run (zP Z) 200 [.inr (.inr r15), .inl x16, .inl 0] w14) fun w17 =>
    (mm_gR w17 o 5 15).bind fun r18 =>
    (mm_gI w17 o 5 10).bind fun x19 =>
    mm_kV (mm_run (zP Z) 200 [.inr (.inr r18), .inl x19, .inl 0] w17) fun w20 =>
    (mm_gR w20 o 5 16).bind fun r21 =>
    (mm_gI w20 o 5 10).bind fun x22 =>
    mm_kV (mm_run (zP Z) 200 [.inr (.inr r21), .inl x22, .inl 0] w20) fun w23 =>
    (mm_gR w23 o 5 17).bind fun r24 =>
    (mm_gI w23 o 5 10).bind fun x25 =>
    r24.bind fun q26 =>
    (mm_st 3 w23 q26 x25 a4).bind fun w27 =>
    (mm_gI w27 o 5 10).bind fun x28 =>
    (mm_p w27 o 5 10 (.inl (mm_w32 (x28 + 1)))).bind fun w29 =>
    some (none, w29)
   else
    some (none, w) :=
  (mm_run_eq (P := zP Z) (y := 56) z_cd56 rfl (l := [some (.inr (.inr (some o))), some (.inl a1), some (.inl a2), some (.inl a3), some (.inr (.inl a4)), none]) rfl [] 59 w).trans rfl

-- ThornSchool$School.beside(II)I
set_option maxRecDepth 100000 in
set_option maxHeartbeats 4000000 in
theorem B_X5_beside (Z : mX) (o : Nat) (a1 : Int) (a2 : Int) (w : mW) : mm_run (zP Z) 57 [.inr (.inr (some o)), .inl a1, .inl a2] w =
  if mm_cls w o = 5 then
   (mm_kI (mm_run (zP Z) 49 [.inr (.inr (some o)), .inl a1] w) fun x2 w1 =>
  if x2 = 0 then
   some (some (.inl (-1)), w1)
  else
   (mm_gI w1 o 5 0).bind fun x3 =>
   if x3 < 1 then
    some (some (.inl (-1)), w1)
   else
    (mm_gI w1 o 5 0).bind fun x4 =>
    if x4 = 0 then none else
    if a2 = 0 then
     if 0 < mm_irem a1 x4 then
      some (some (.inl (mm_w32 (a1 - 1))), w1)
     else
      some (some (.inl (-1)), w1)
    else if a2 = 1 then
     (mm_gI w1 o 5 0).bind fun x5 =>
     if mm_irem a1 x4 < mm_w32 (x5 - 1) then
      some (some (.inl (mm_w32 (a1 + 1))), w1)
     else
      some (some (.inl (-1)), w1)
    else if a2 = 2 then
     (mm_gI w1 o 5 0).bind fun x6 =>
     if a1 < x6 then
      some (some (.inl (-1)), w1)
     else
      (mm_gI w1 o 5 0).bind fun x7 =>
      some (some (.inl (mm_w32 (a1 - x7))), w1)
    else if a2 = 3 then
     (mm_gI w1 o 5 0).bind fun x8 =>
     if mm_cls w1 o = 5 then
      (mm_kI (mm_run (zP Z) 48 [.inr (.inr (some o))] w1) fun x10 w9 =>
     if mm_w32 (a1 + x8) < x10 then
      (mm_gI w9 o 5 0).bind fun x11 =>
      some (some (.inl (mm_w32 (a1 + x11))), w9)
     else
      some (some (.inl (-1)), w9))
     else none
    else some (some (.inl (-1)), w1))
  else none :=
  (mm_run_eq (P := zP Z) (y := 57) z_cd57 rfl (l := [some (.inr (.inr (some o))), some (.inl a1), some (.inl a2), none]) rfl [] 29 w).trans rfl

-- ThornSchool$School.around(I)I
set_option maxRecDepth 100000 in
set_option maxHeartbeats 4000000 in
theorem B_X5_around (Z : mX) (o : Nat) (a1 : Int) (w : mW) : mm_run (zP Z) 58 [.inr (.inr (some o)), .inl a1] w =
  mm_at (zP Z) 58 4 [some (.inr (.inr (some o))), some (.inl a1), some (.inl 0), some (.inl 0), none] [] w :=
  (mm_run_eq (P := zP Z) (y := 58) z_cd58 rfl (l := [some (.inr (.inr (some o))), some (.inl a1), none, none, none]) rfl [4] 5 w).trans rfl

set_option maxRecDepth 100000 in
set_option maxHeartbeats 4000000 in
theorem B_X5_around_4 (Z : mX) (o : Nat) (l1 : Int) (l2 : Int) (l3 : Int) (w : mW) : mm_at (zP Z) 58 4 [some (.inr (.inr (some o))), some (.inl l1), some (.inl l2), some (.inl l3), none] [] w =
  (mm_gI w o 5 1).bind fun x1 =>
  if l3 < x1 then
   (mm_gI w o 5 0).bind fun x9 =>
   mm_kI (mm_run (zP Z) 206 [.inl (mm_w32 (l3 * x9))] w) fun x11 w10 =>
   mm_at (zP Z) 58 4 [some (.inr (.inr (some o))), some (.inl l1), some (.inl (mm_ior l2 x11)), some (.inl (mm_w32 (l3 + 1))), none] [] w10
  else
   (mm_gI w o 5 0).bind fun x2 =>
   if mm_cls w o = 5 then
    (mm_kI (mm_run (zP Z) 48 [.inr (.inr (some o))] w) fun x4 w3 =>
   mm_kI (mm_run (zP Z) 206 [.inl x4] w3) fun x6 w5 =>
   (mm_gI w5 o 5 0).bind fun x7 =>
   (mm_gI w5 o 5 0).bind fun x8 =>
   some (some (.inl (mm_iand (mm_ior (mm_ior (mm_ior (mm_ishl (mm_iand l1 (mm_ixor (mm_ishl l2 (mm_w32 (x2 - 1))) (-1))) 1) (mm_iushr (mm_iand l1 (mm_ixor l2 (-1))) 1)) (mm_ishl l1 x7)) (mm_iushr l1 x8)) (mm_w32 (x6 - 1)))), w5))
   else none :=
  (mm_V_eq (P := zP Z) (y := 58) z_cd58 [4] 46 4 _ _ w).trans rfl

-- ThornSchool$School.areNear(II)Z
set_option maxRecDepth 100000 in
set_option maxHeartbeats 4000000 in
theorem B_X5_areNear (Z : mX) (o : Nat) (a1 : Int) (a2 : Int) (w : mW) : mm_run (zP Z) 59 [.inr (.inr (some o)), .inl a1, .inl a2] w =
  (mm_gI w o 5 0).bind fun x1 =>
  if x1 < 1 then
   some (some (.inl 0), w)
  else
   (mm_gR w o 5 11).bind fun r2 =>
   mm_kI (mm_run (zP Z) 199 [.inr (.inr r2), .inl a1] w) fun x4 w3 =>
   (mm_gR w3 o 5 11).bind fun r5 =>
   mm_kI (mm_run (zP Z) 199 [.inr (.inr r5), .inl a2] w3) fun x7 w6 =>
   (mm_gI w6 o 5 0).bind fun x8 =>
   if x8 = 0 then none else
   (mm_gI w6 o 5 0).bind fun x9 =>
   if x9 = 0 then none else
   (mm_gI w6 o 5 0).bind fun x10 =>
   if x10 = 0 then none else
   (mm_gI w6 o 5 0).bind fun x11 =>
   if x11 = 0 then none else
   if 1 < mm_w32 ((if 0 ≤ mm_w32 ((mm_idiv x4 x8) - (mm_idiv x7 x9)) then mm_w32 ((mm_idiv x4 x8) - (mm_idiv x7 x9)) else mm_w32 (0 - (mm_w32 ((mm_idiv x4 x8) - (mm_idiv x7 x9))))) + (if 0 ≤ mm_w32 ((mm_irem x4 x10) - (mm_irem x7 x11)) then mm_w32 ((mm_irem x4 x10) - (mm_irem x7 x11)) else mm_w32 (0 - (mm_w32 ((mm_irem x4 x10) - (mm_irem x7 x11)))))) then
    some (some (.inl 0), w6)
   else
    some (some (.inl 1), w6) :=
  (mm_run_eq (P := zP Z) (y := 59) z_cd59 rfl (l := [some (.inr (.inr (some o))), some (.inl a1), some (.inl a2), none, none]) rfl [] 41 w).trans rfl

-- ThornSchool$School.pupilsAt(I)I
set_option maxRecDepth 100000 in
set_option maxHeartbeats 4000000 in
theorem B_X5_pupilsAt (Z : mX) (o : Nat) (a1 : Int) (w : mW) : mm_run (zP Z) 60 [.inr (.inr (some o)), .inl a1] w =
  mm_at (zP Z) 60 4 [some (.inr (.inr (some o))), some (.inl a1), some (.inl 0), some (.inl 0)] [] w :=
  (mm_run_eq (P := zP Z) (y := 60) z_cd60 rfl (l := [some (.inr (.inr (some o))), some (.inl a1), none, none]) rfl [4] 5 w).trans rfl

set_option maxRecDepth 100000 in
set_option maxHeartbeats 4000000 in
theorem B_X5_pupilsAt_4 (Z : mX) (o : Nat) (l1 : Int) (l2 : Int) (l3 : Int) (w : mW) : mm_at (zP Z) 60 4 [some (.inr (.inr (some o))), some (.inl l1), some (.inl l2), some (.inl l3)] [] w =
  (mm_gI w o 5 10).bind fun x1 =>
  if l3 < x1 then
   (mm_gR w o 5 11).bind fun r2 =>
   mm_kI (mm_run (zP Z) 199 [.inr (.inr r2), .inl l3] w) fun x4 w3 =>
   if x4 = l1 then
    mm_kI (mm_run (zP Z) 206 [.inl l3] w3) fun x6 w5 =>
    mm_at (zP Z) 60 4 [some (.inr (.inr (some o))), some (.inl l1), some (.inl (mm_ior l2 x6)), some (.inl (mm_w32 (l3 + 1)))] [] w5
   else
    mm_at (zP Z) 60 4 [some (.inr (.inr (some o))), some (.inl l1), some (.inl l2), some (.inl (mm_w32 (l3 + 1)))] [] w3
  else
   some (some (.inl l2), w) :=
  (mm_V_eq (P := zP Z) (y := 60) z_cd60 [4] 18 4 _ _ w).trans rfl

-- ThornSchool$School.touch(I)I
set_option maxRecDepth 100000 in
set_option maxHeartbeats 4000000 in
theorem B_X5_touch (Z : mX) (o : Nat) (a1 : Int) (w : mW) : mm_run (zP Z) 61 [.inr (.inr (some o)), .inl a1] w =
  (mm_gR w o 5 13).bind fun r1 =>
  mm_kI (mm_run (zP Z) 199 [.inr (.inr r1), .inl a1] w) fun x3 w2 =>
  mm_kI (mm_run (zP Z) 364 [.inl x3] w2) fun x5 w4 =>
  some (some (.inl x5), w4) :=
  (mm_run_eq (P := zP Z) (y := 61) z_cd61 rfl (l := [some (.inr (.inr (some o))), some (.inl a1)]) rfl [] 7 w).trans rfl

-- ThornSchool$School.catchOf(III)I
set_option maxRecDepth 100000 in
set_option maxHeartbeats 4000000 in
theorem B_X5_catchOf (Z : mX) (o : Nat) (a1 : Int) (a2 : Int) (a3 : Int) (w : mW) : mm_run (zP Z) 62 [.inr (.inr (some o)), .inl a1, .inl a2, .inl a3] w =
  (mm_gR w o 5 4).bind fun r1 =>
  mm_kI (mm_run (zP Z) 199 [.inr (.inr r1), .inl a2] w) fun x3 w2 =>
  if x3 = 0 then
   some (some (.inl 0), w2)
  else
   (mm_gR w2 o 5 13).bind fun r4 =>
   mm_kI (mm_run (zP Z) 199 [.inr (.inr r4), .inl a1] w2) fun x6 w5 =>
   mm_kI (mm_run (zP Z) 364 [.inl x6] w5) fun x8 w7 =>
   some (some (.inl (if 0 < mm_w32 ((mm_w32 (x3 + a3)) - x8) then mm_w32 ((mm_w32 (x3 + a3)) - x8) else 0)), w7) :=
  (mm_run_eq (P := zP Z) (y := 62) z_cd62 rfl (l := [some (.inr (.inr (some o))), some (.inl a1), some (.inl a2), some (.inl a3), none]) rfl [] 20 w).trans rfl

-- ThornSchool$School.clearSet(II)I
set_option maxRecDepth 100000 in
set_option maxHeartbeats 4000000 in
theorem B_X5_clearSet (Z : mX) (o : Nat) (a1 : Int) (a2 : Int) (w : mW) : mm_run (zP Z) 63 [.inr (.inr (some o)), .inl a1, .inl a2] w =
  mm_at (zP Z) 63 4 [some (.inr (.inr (some o))), some (.inl a1), some (.inl a2), some (.inl 0), some (.inl 0)] [] w :=
  (mm_run_eq (P := zP Z) (y := 63) z_cd63 rfl (l := [some (.inr (.inr (some o))), some (.inl a1), some (.inl a2), none, none]) rfl [4] 5 w).trans rfl

set_option maxRecDepth 100000 in
set_option maxHeartbeats 4000000 in
theorem B_X5_clearSet_4 (Z : mX) (o : Nat) (l1 : Int) (l2 : Int) (l3 : Int) (l4 : Int) (w : mW) : mm_at (zP Z) 63 4 [some (.inr (.inr (some o))), some (.inl l1), some (.inl l2), some (.inl l3), some (.inl l4)] [] w =
  if mm_cls w o = 5 then
   (mm_kI (mm_run (zP Z) 48 [.inr (.inr (some o))] w) fun x2 w1 =>
  if l4 < x2 then
   if mm_cls w1 o = 5 then
    (mm_kI (mm_run (zP Z) 62 [.inr (.inr (some o)), .inl l1, .inl l4, .inl l2] w1) fun x4 w3 =>
   if x4 = 0 then
    mm_kI (mm_run (zP Z) 206 [.inl l4] w3) fun x6 w5 =>
    mm_at (zP Z) 63 4 [some (.inr (.inr (some o))), some (.inl l1), some (.inl l2), some (.inl (mm_ior l3 x6)), some (.inl (mm_w32 (l4 + 1)))] [] w5
   else
    mm_at (zP Z) 63 4 [some (.inr (.inr (some o))), some (.inl l1), some (.inl l2), some (.inl l3), some (.inl (mm_w32 (l4 + 1)))] [] w3)
   else none
  else
   some (some (.inl l3), w1))
  else none :=
  (mm_V_eq (P := zP Z) (y := 63) z_cd63 [4] 18 4 _ _ w).trans rfl

-- ThornSchool$School.isCaught(I)Z
set_option maxRecDepth 100000 in
set_option maxHeartbeats 4000000 in
theorem B_X5_isCaught (Z : mX) (o : Nat) (a1 : Int) (w : mW) : mm_run (zP Z) 64 [.inr (.inr (some o)), .inl a1] w =
  (mm_gR w o 5 14).bind fun r1 =>
  mm_kI (mm_run (zP Z) 199 [.inr (.inr r1), .inl a1] w) fun x3 w2 =>
  if 0 < x3 then
   some (some (.inl 1), w2)
  else
   some (some (.inl 0), w2) :=
  (mm_run_eq (P := zP Z) (y := 64) z_cd64 rfl (l := [some (.inr (.inr (some o))), some (.inl a1)]) rfl [] 9 w).trans rfl

-- ThornSchool$School.caughtSet()I
set_option maxRecDepth 100000 in
set_option maxHeartbeats 4000000 in
theorem B_X5_caughtSet (Z : mX) (o : Nat) (w : mW) : mm_run (zP Z) 65 [.inr (.inr (some o))] w =
  mm_at (zP Z) 65 4 [some (.inr (.inr (some o))), some (.inl 0), some (.inl 0)] [] w :=
  (mm_run_eq (P := zP Z) (y := 65) z_cd65 rfl (l := [some (.inr (.inr (some o))), none, none]) rfl [4] 5 w).trans rfl

set_option maxRecDepth 100000 in
set_option maxHeartbeats 4000000 in
theorem B_X5_caughtSet_4 (Z : mX) (o : Nat) (l1 : Int) (l2 : Int) (w : mW) : mm_at (zP Z) 65 4 [some (.inr (.inr (some o))), some (.inl l1), some (.inl l2)] [] w =
  (mm_gI w o 5 10).bind fun x1 =>
  if l2 < x1 then
   if mm_cls w o = 5 then
    (mm_kI (mm_run (zP Z) 64 [.inr (.inr (some o)), .inl l2] w) fun x3 w2 =>
   if x3 = 0 then
    mm_at (zP Z) 65 4 [some (.inr (.inr (some o))), some (.inl l1), some (.inl (mm_w32 (l2 + 1)))] [] w2
   else
    mm_kI (mm_run (zP Z) 206 [.inl l2] w2) fun x5 w4 =>
    mm_at (zP Z) 65 4 [some (.inr (.inr (some o))), some (.inl (mm_ior l1 x5)), some (.inl (mm_w32 (l2 + 1)))] [] w4)
   else none
  else
   some (some (.inl l1), w) :=
  (mm_V_eq (P := zP Z) (y := 65) z_cd65 [4] 16 4 _ _ w).trans rfl

-- ThornSchool$School.pupilsWhoKnow(I)I
set_option maxRecDepth 100000 in
set_option maxHeartbeats 4000000 in
theorem B_X5_pupilsWhoKnow (Z : mX) (o : Nat) (a1 : Int) (w : mW) : mm_run (zP Z) 66 [.inr (.inr (some o)), .inl a1] w =
  mm_at (zP Z) 66 4 [some (.inr (.inr (some o))), some (.inl a1), some (.inl 0), some (.inl 0)] [] w :=
  (mm_run_eq (P := zP Z) (y := 66) z_cd66 rfl (l := [some (.inr (.inr (some o))), some (.inl a1), none, none]) rfl [4] 5 w).trans rfl

set_option maxRecDepth 100000 in
set_option maxHeartbeats 4000000 in
theorem B_X5_pupilsWhoKnow_4 (Z : mX) (o : Nat) (l1 : Int) (l2 : Int) (l3 : Int) (w : mW) : mm_at (zP Z) 66 4 [some (.inr (.inr (some o))), some (.inl l1), some (.inl l2), some (.inl l3)] [] w =
  (mm_gI w o 5 10).bind fun x1 =>
  if l3 < x1 then
   (mm_gR w o 5 13).bind fun r2 =>
   mm_kI (mm_run (zP Z) 199 [.inr (.inr r2), .inl l3] w) fun x4 w3 =>
   mm_kI (mm_run (zP Z) 207 [.inl x4, .inl l1] w3) fun x6 w5 =>
   if x6 = 0 then
    mm_at (zP Z) 66 4 [some (.inr (.inr (some o))), some (.inl l1), some (.inl l2), some (.inl (mm_w32 (l3 + 1)))] [] w5
   else
    mm_kI (mm_run (zP Z) 206 [.inl l3] w5) fun x8 w7 =>
    mm_at (zP Z) 66 4 [some (.inr (.inr (some o))), some (.inl l1), some (.inl (mm_ior l2 x8)), some (.inl (mm_w32 (l3 + 1)))] [] w7
  else
   some (some (.inl l2), w) :=
  (mm_V_eq (P := zP Z) (y := 66) z_cd66 [4] 19 4 _ _ w).trans rfl

-- ThornSchool$School.canStep(II)Z
set_option maxRecDepth 100000 in
set_option maxHeartbeats 4000000 in
theorem B_X5_canStep (Z : mX) (o : Nat) (a1 : Int) (a2 : Int) (w : mW) : mm_run (zP Z) 67 [.inr (.inr (some o)), .inl a1, .inl a2] w =
  if mm_cls w o = 5 then
   (mm_kI (mm_run (zP Z) 64 [.inr (.inr (some o)), .inl a1] w) fun x2 w1 =>
  if x2 = 0 then
   (mm_gR w1 o 5 11).bind fun r3 =>
   mm_kI (mm_run (zP Z) 199 [.inr (.inr r3), .inl a1] w1) fun x5 w4 =>
   if mm_cls w4 o = 5 then
    (mm_kI (mm_run (zP Z) 57 [.inr (.inr (some o)), .inl x5, .inl a2] w4) fun x7 w6 =>
   if x7 = (-1) then
    some (some (.inl 0), w6)
   else
    some (some (.inl 1), w6))
   else none
  else
   some (some (.inl 0), w1))
  else none :=
  (mm_run_eq (P := zP Z) (y := 67) z_cd67 rfl (l := [some (.inr (.inr (some o))), some (.inl a1), some (.inl a2)]) rfl [] 17 w).trans rfl

-- ThornSchool$School.step(II)I
set_option maxRecDepth 100000 in
set_option maxHeartbeats 4000000 in
theorem B_X5_step (Z : mX) (o : Nat) (a1 : Int) (a2 : Int) (w : mW) : mm_run (zP Z) 68 [.inr (.inr (some o)), .inl a1, .inl a2] w =
  (mm_gR w o 5 11).bind fun r1 =>
  mm_kI (mm_run (zP Z) 199 [.inr (.inr r1), .inl a1] w) fun x3 w2 =>
  if mm_cls w2 o = 5 then
   (mm_kI (mm_run (zP Z) 57 [.inr (.inr (some o)), .inl x3, .inl a2] w2) fun x5 w4 =>
  (mm_gR w4 o 5 12).bind fun r6 =>
  mm_kI (mm_run (zP Z) 199 [.inr (.inr r6), .inl a1] w4) fun x8 w7 =>
  if mm_cls w7 o = 5 then
   (mm_kI (mm_run (zP Z) 62 [.inr (.inr (some o)), .inl a1, .inl x5, .inl x8] w7) fun x10 w9 =>
  (mm_gR w9 o 5 11).bind fun r11 =>
  mm_kV (mm_run (zP Z) 200 [.inr (.inr r11), .inl a1, .inl x5] w9) fun w12 =>
  (mm_gR w12 o 5 14).bind fun r13 =>
  mm_kV (mm_run (zP Z) 200 [.inr (.inr r13), .inl a1, .inl x10] w12) fun w14 =>
  some (some (.inl x10), w14))
  else none)
  else none :=
  (mm_run_eq (P := zP Z) (y := 68) z_cd68 rfl (l := [some (.inr (.inr (some o))), some (.inl a1), some (.inl a2), none, none]) rfl [] 30 w).trans rfl

-- ThornSchool$School.canHelp(II)Z
set_option maxRecDepth 100000 in
set_option maxHeartbeats 4000000 in
theorem B_X5_canHelp (Z : mX) (o : Nat) (a1 : Int) (a2 : Int) (w : mW) : mm_run (zP Z) 69 [.inr (.inr (some o)), .inl a1, .inl a2] w =
  if a1 = a2 then
   some (some (.inl 0), w)
  else
   if mm_cls w o = 5 then
    (mm_kI (mm_run (zP Z) 64 [.inr (.inr (some o)), .inl a1] w) fun x2 w1 =>
   if x2 = 0 then
    if mm_cls w1 o = 5 then
     (mm_kI (mm_run (zP Z) 64 [.inr (.inr (some o)), .inl a2] w1) fun x4 w3 =>
    if x4 = 0 then
     some (some (.inl 0), w3)
    else
     if mm_cls w3 o = 5 then
      (mm_kI (mm_run (zP Z) 59 [.inr (.inr (some o)), .inl a1, .inl a2] w3) fun x6 w5 =>
     if x6 = 0 then
      some (some (.inl 0), w5)
     else
      some (some (.inl 1), w5))
     else none)
    else none
   else
    some (some (.inl 0), w1))
   else none :=
  (mm_run_eq (P := zP Z) (y := 69) z_cd69 rfl (l := [some (.inr (.inr (some o))), some (.inl a1), some (.inl a2)]) rfl [] 20 w).trans rfl

-- ThornSchool$School.takeThorn(I)I
set_option maxRecDepth 100000 in
set_option maxHeartbeats 4000000 in
theorem B_X5_takeThorn (Z : mX) (o : Nat) (a1 : Int) (w : mW) : mm_run (zP Z) 70 [.inr (.inr (some o)), .inl a1] w =
  (mm_gR w o 5 14).bind fun r1 =>
  mm_kI (mm_run (zP Z) 199 [.inr (.inr r1), .inl a1] w) fun x3 w2 =>
  (mm_gR w2 o 5 14).bind fun r4 =>
  mm_kV (mm_run (zP Z) 200 [.inr (.inr r4), .inl a1, .inl (mm_w32 (x3 - 1))] w2) fun w5 =>
  if mm_w32 (x3 - 1) = 0 then
   if mm_cls w5 o = 5 then
    (mm_kI (mm_run (zP Z) 71 [.inr (.inr (some o)), .inl a1] w5) fun x7 w6 =>
   mm_at (zP Z) 70 19 [some (.inr (.inr (some o))), some (.inl a1), none, none] [.inl x7] w6)
   else none
  else
   mm_at (zP Z) 70 19 [some (.inr (.inr (some o))), some (.inl a1), none, none] [.inl (-1)] w5 :=
  (mm_run_eq (P := zP Z) (y := 70) z_cd70 rfl (l := [some (.inr (.inr (some o))), some (.inl a1), none, none]) rfl [19] 19 w).trans rfl

set_option maxRecDepth 100000 in
set_option maxHeartbeats 4000000 in
theorem B_X5_takeThorn_19 (Z : mX) (o : Nat) (l1 : Int) (s0 : Int) (w : mW) : mm_at (zP Z) 70 19 [some (.inr (.inr (some o))), some (.inl l1), none, none] [.inl s0] w =
  if s0 = (-1) then
   some (some (.inl s0), w)
  else
   (mm_gR w o 5 13).bind fun r1 =>
   (mm_gR w o 5 13).bind fun r2 =>
   mm_kI (mm_run (zP Z) 199 [.inr (.inr r2), .inl l1] w) fun x4 w3 =>
   mm_kI (mm_run (zP Z) 206 [.inl s0] w3) fun x6 w5 =>
   mm_kV (mm_run (zP Z) 200 [.inr (.inr r1), .inl l1, .inl (mm_ior x4 x6)] w5) fun w7 =>
   some (some (.inl s0), w7) :=
  (mm_V_eq (P := zP Z) (y := 70) z_cd70 [19] 18 19 _ _ w).trans rfl

-- ThornSchool$School.nextLesson(I)I
set_option maxRecDepth 100000 in
set_option maxHeartbeats 4000000 in
theorem B_X5_nextLesson (Z : mX) (o : Nat) (a1 : Int) (w : mW) : mm_run (zP Z) 71 [.inr (.inr (some o)), .inl a1] w =
  (mm_gR w o 5 13).bind fun r1 =>
  mm_kI (mm_run (zP Z) 199 [.inr (.inr r1), .inl a1] w) fun x3 w2 =>
  mm_at (zP Z) 71 7 [some (.inr (.inr (some o))), none, some (.inl x3), some (.inl 0)] [] w2 :=
  (mm_run_eq (P := zP Z) (y := 71) z_cd71 rfl (l := [some (.inr (.inr (some o))), some (.inl a1), none, none]) rfl [7] 8 w).trans rfl

set_option maxRecDepth 100000 in
set_option maxHeartbeats 4000000 in
theorem B_X5_nextLesson_7 (Z : mX) (o : Nat) (l2 : Int) (l3 : Int) (w : mW) : mm_at (zP Z) 71 7 [some (.inr (.inr (some o))), none, some (.inl l2), some (.inl l3)] [] w =
  (mm_gI w o 5 6).bind fun x1 =>
  if l3 < x1 then
   mm_kI (mm_run (zP Z) 207 [.inl l2, .inl l3] w) fun x3 w2 =>
   if x3 = 0 then
    (mm_gR w2 o 5 8).bind fun r4 =>
    mm_kI (mm_run (zP Z) 199 [.inr (.inr r4), .inl l3] w2) fun x6 w5 =>
    if mm_iand x6 (mm_ixor l2 (-1)) = 0 then
     some (some (.inl l3), w5)
    else
     mm_at (zP Z) 71 7 [some (.inr (.inr (some o))), none, some (.inl l2), some (.inl (mm_w32 (l3 + 1)))] [] w5
   else
    mm_at (zP Z) 71 7 [some (.inr (.inr (some o))), none, some (.inl l2), some (.inl (mm_w32 (l3 + 1)))] [] w2
  else
   some (some (.inl (-1)), w) :=
  (mm_V_eq (P := zP Z) (y := 71) z_cd71 [7] 20 7 _ _ w).trans rfl

-- ThornSchool$School.tearOff(I)I
set_option maxRecDepth 100000 in
set_option maxHeartbeats 4000000 in
theorem B_X5_tearOff (Z : mX) (o : Nat) (a1 : Int) (w : mW) : mm_run (zP Z) 72 [.inr (.inr (some o)), .inl a1] w =
  (mm_gR w o 5 14).bind fun r1 =>
  mm_kI (mm_run (zP Z) 201 [.inr (.inr r1), .inl a1, .inl 0] w) fun x3 w2 =>
  (mm_gR w2 o 5 16).bind fun r4 =>
  (mm_gR w2 o 5 16).bind fun r5 =>
  mm_kI (mm_run (zP Z) 199 [.inr (.inr r5), .inl a1] w2) fun x7 w6 =>
  mm_kV (mm_run (zP Z) 200 [.inr (.inr r4), .inl a1, .inl (if mm_w32 (x7 + x3) < 9999 then mm_w32 (x7 + x3) else 9999)] w6) fun w8 =>
  some (some (.inl x3), w8) :=
  (mm_run_eq (P := zP Z) (y := 72) z_cd72 rfl (l := [some (.inr (.inr (some o))), some (.inl a1), none]) rfl [] 21 w).trans rfl

-- ThornSchool$School.canGather(I)Z
set_option maxRecDepth 100000 in
set_option maxHeartbeats 4000000 in
theorem B_X5_canGather (Z : mX) (o : Nat) (a1 : Int) (w : mW) : mm_run (zP Z) 73 [.inr (.inr (some o)), .inl a1] w =
  if mm_cls w o = 5 then
   (mm_kI (mm_run (zP Z) 64 [.inr (.inr (some o)), .inl a1] w) fun x2 w1 =>
  if x2 = 0 then
   (mm_gR w1 o 5 5).bind fun r3 =>
   (mm_gR w1 o 5 11).bind fun r4 =>
   mm_kI (mm_run (zP Z) 199 [.inr (.inr r4), .inl a1] w1) fun x6 w5 =>
   mm_kI (mm_run (zP Z) 199 [.inr (.inr r3), .inl x6] w5) fun x8 w7 =>
   if 0 < x8 then
    some (some (.inl 1), w7)
   else
    some (some (.inl 0), w7)
  else
   some (some (.inl 0), w1))
  else none :=
  (mm_run_eq (P := zP Z) (y := 73) z_cd73 rfl (l := [some (.inr (.inr (some o))), some (.inl a1)]) rfl [] 16 w).trans rfl

-- ThornSchool$School.gather(I)I
set_option maxRecDepth 100000 in
set_option maxHeartbeats 4000000 in
theorem B_X5_gather (Z : mX) (o : Nat) (a1 : Int) (w : mW) : mm_run (zP Z) 74 [.inr (.inr (some o)), .inl a1] w =
  (mm_gR w o 5 5).bind fun r1 =>
  (mm_gR w o 5 11).bind fun r2 =>
  mm_kI (mm_run (zP Z) 199 [.inr (.inr r2), .inl a1] w) fun x4 w3 =>
  mm_kI (mm_run (zP Z) 201 [.inr (.inr r1), .inl x4, .inl 0] w3) fun x6 w5 =>
  (mm_gR w5 o 5 15).bind fun r7 =>
  (mm_gR w5 o 5 15).bind fun r8 =>
  mm_kI (mm_run (zP Z) 199 [.inr (.inr r8), .inl a1] w5) fun x10 w9 =>
  mm_kV (mm_run (zP Z) 200 [.inr (.inr r7), .inl a1, .inl (if mm_w32 (x10 + x6) < 9999 then mm_w32 (x10 + x6) else 9999)] w9) fun w11 =>
  some (some (.inl x6), w11) :=
  (mm_run_eq (P := zP Z) (y := 74) z_cd74 rfl (l := [some (.inr (.inr (some o))), some (.inl a1), none]) rfl [] 24 w).trans rfl

-- ThornSchool$School.canAge(I)Z
set_option maxRecDepth 100000 in
set_option maxHeartbeats 4000000 in
theorem B_X5_canAge (Z : mX) (o : Nat) (a1 : Int) (w : mW) : mm_run (zP Z) 75 [.inr (.inr (some o)), .inl a1] w =
  (mm_gI w o 5 3).bind fun x1 =>
  if 9999 < mm_w32 (x1 + a1) then
   some (some (.inl 0), w)
  else
   some (some (.inl 1), w) :=
  (mm_run_eq (P := zP Z) (y := 75) z_cd75 rfl (l := [some (.inr (.inr (some o))), some (.inl a1)]) rfl [] 10 w).trans rfl

-- ThornSchool$School.age(I)V
set_option maxRecDepth 100000 in
set_option maxHeartbeats 4000000 in
theorem B_X5_age (Z : mX) (o : Nat) (a1 : Int) (w : mW) : mm_run (zP Z) 76 [.inr (.inr (some o)), .inl a1] w =
  (mm_gI w o 5 3).bind fun x1 =>
  (mm_p w o 5 3 (.inl (mm_w32 (x1 + a1)))).bind fun w2 =>
  mm_at (zP Z) 76 8 [some (.inr (.inr (some o))), some (.inl a1), some (.inl 0)] [] w2 :=
  (mm_run_eq (P := zP Z) (y := 76) z_cd76 rfl (l := [some (.inr (.inr (some o))), some (.inl a1), none]) rfl [8] 9 w).trans rfl

set_option maxRecDepth 100000 in
set_option maxHeartbeats 4000000 in
theorem B_X5_age_8 (Z : mX) (o : Nat) (l1 : Int) (l2 : Int) (w : mW) : mm_at (zP Z) 76 8 [some (.inr (.inr (some o))), some (.inl l1), some (.inl l2)] [] w =
  if mm_cls w o = 5 then
   (mm_kI (mm_run (zP Z) 48 [.inr (.inr (some o))] w) fun x2 w1 =>
  if l2 < x2 then
   (mm_gR w1 o 5 4).bind fun r3 =>
   mm_kI (mm_run (zP Z) 199 [.inr (.inr r3), .inl l2] w1) fun x5 w4 =>
   if x5 = 0 then
    mm_at (zP Z) 76 8 [some (.inr (.inr (some o))), some (.inl l1), some (.inl (mm_w32 (l2 + 1)))] [] w4
   else
    (mm_gR w4 o 5 4).bind fun r6 =>
    (mm_gR w4 o 5 4).bind fun r7 =>
    mm_kI (mm_run (zP Z) 199 [.inr (.inr r7), .inl l2] w4) fun x9 w8 =>
    mm_kV (mm_run (zP Z) 200 [.inr (.inr r6), .inl l2, .inl (if mm_w32 (x9 + l1) < 9 then mm_w32 (x9 + l1) else 9)] w8) fun w10 =>
    (mm_gR w10 o 5 5).bind fun r11 =>
    (mm_gR w10 o 5 5).bind fun r12 =>
    mm_kI (mm_run (zP Z) 199 [.inr (.inr r12), .inl l2] w10) fun x14 w13 =>
    mm_kV (mm_run (zP Z) 200 [.inr (.inr r11), .inl l2, .inl (if mm_w32 (x14 + l1) < 9 then mm_w32 (x14 + l1) else 9)] w13) fun w15 =>
    mm_at (zP Z) 76 8 [some (.inr (.inr (some o))), some (.inl l1), some (.inl (mm_w32 (l2 + 1)))] [] w15
  else
   some (none, w1))
  else none :=
  (mm_V_eq (P := zP Z) (y := 76) z_cd76 [8] 36 8 _ _ w).trans rfl

-- ThornSchool$School.helperSet(I)I
set_option maxRecDepth 100000 in
set_option maxHeartbeats 4000000 in
theorem B_X5_helperSet (Z : mX) (o : Nat) (a1 : Int) (w : mW) : mm_run (zP Z) 77 [.inr (.inr (some o)), .inl a1] w =
  mm_at (zP Z) 77 4 [some (.inr (.inr (some o))), some (.inl a1), some (.inl 0), some (.inl 0)] [] w :=
  (mm_run_eq (P := zP Z) (y := 77) z_cd77 rfl (l := [some (.inr (.inr (some o))), some (.inl a1), none, none]) rfl [4] 5 w).trans rfl

set_option maxRecDepth 100000 in
set_option maxHeartbeats 4000000 in
theorem B_X5_helperSet_4 (Z : mX) (o : Nat) (l1 : Int) (l2 : Int) (l3 : Int) (w : mW) : mm_at (zP Z) 77 4 [some (.inr (.inr (some o))), some (.inl l1), some (.inl l2), some (.inl l3)] [] w =
  (mm_gI w o 5 10).bind fun x1 =>
  if l3 < x1 then
   if mm_cls w o = 5 then
    (mm_kI (mm_run (zP Z) 69 [.inr (.inr (some o)), .inl l3, .inl l1] w) fun x3 w2 =>
   if x3 = 0 then
    mm_at (zP Z) 77 4 [some (.inr (.inr (some o))), some (.inl l1), some (.inl l2), some (.inl (mm_w32 (l3 + 1)))] [] w2
   else
    mm_kI (mm_run (zP Z) 206 [.inl l3] w2) fun x5 w4 =>
    mm_at (zP Z) 77 4 [some (.inr (.inr (some o))), some (.inl l1), some (.inl (mm_ior l2 x5)), some (.inl (mm_w32 (l3 + 1)))] [] w4)
   else none
  else
   some (some (.inl l2), w) :=
  (mm_V_eq (P := zP Z) (y := 77) z_cd77 [4] 17 4 _ _ w).trans rfl

-- ThornSchool$School.freedSet()I
set_option maxRecDepth 100000 in
set_option maxHeartbeats 4000000 in
theorem B_X5_freedSet (Z : mX) (o : Nat) (w : mW) : mm_run (zP Z) 78 [.inr (.inr (some o))] w =
  (mm_gI w o 5 10).bind fun x1 =>
  mm_kI (mm_run (zP Z) 206 [.inl x1] w) fun x3 w2 =>
  if mm_cls w2 o = 5 then
   (mm_kI (mm_run (zP Z) 65 [.inr (.inr (some o))] w2) fun x5 w4 =>
  mm_at (zP Z) 78 15 [some (.inr (.inr (some o))), none, some (.inl (mm_iand (mm_w32 (x3 - 1)) (mm_ixor x5 (-1)))), some (.inl 0), none] [] w4)
  else none :=
  (mm_run_eq (P := zP Z) (y := 78) z_cd78 rfl (l := [some (.inr (.inr (some o))), none, none, none, none]) rfl [15, 21] 16 w).trans rfl

set_option maxRecDepth 100000 in
set_option maxHeartbeats 4000000 in
theorem B_X5_freedSet_15 (Z : mX) (o : Nat) (l2 : Int) (l3 : Int) (w : mW) : mm_at (zP Z) 78 15 [some (.inr (.inr (some o))), none, some (.inl l2), some (.inl l3), none] [] w =
  (mm_gI w o 5 10).bind fun x1 =>
  if l3 < x1 then
   mm_at (zP Z) 78 21 [some (.inr (.inr (some o))), none, some (.inl l2), some (.inl l3), some (.inl 0)] [] w
  else
   some (some (.inl l2), w) :=
  (mm_V_eq (P := zP Z) (y := 78) z_cd78 [15, 21] 7 15 _ _ w).trans rfl

set_option maxRecDepth 100000 in
set_option maxHeartbeats 4000000 in
theorem B_X5_freedSet_21 (Z : mX) (o : Nat) (l2 : Int) (l3 : Int) (l4 : Int) (w : mW) : mm_at (zP Z) 78 21 [some (.inr (.inr (some o))), none, some (.inl l2), some (.inl l3), some (.inl l4)] [] w =
  (mm_gI w o 5 10).bind fun x1 =>
  if l4 < x1 then
   if mm_cls w o = 5 then
    (mm_kI (mm_run (zP Z) 79 [.inr (.inr (some o)), .inl l4, .inl l2] w) fun x3 w2 =>
   if x3 = 0 then
    mm_at (zP Z) 78 21 [some (.inr (.inr (some o))), none, some (.inl l2), some (.inl l3), some (.inl (mm_w32 (l4 + 1)))] [] w2
   else
    mm_kI (mm_run (zP Z) 206 [.inl l4] w2) fun x5 w4 =>
    mm_at (zP Z) 78 21 [some (.inr (.inr (some o))), none, some (.inl (mm_ior l2 x5)), some (.inl l3), some (.inl (mm_w32 (l4 + 1)))] [] w4)
   else none
  else
   mm_at (zP Z) 78 15 [some (.inr (.inr (some o))), none, some (.inl l2), some (.inl (mm_w32 (l3 + 1))), none] [] w :=
  (mm_V_eq (P := zP Z) (y := 78) z_cd78 [15, 21] 17 21 _ _ w).trans rfl

-- ThornSchool$School.isNearSome(II)Z
set_option maxRecDepth 100000 in
set_option maxHeartbeats 4000000 in
theorem B_X5_isNearSome (Z : mX) (o : Nat) (a1 : Int) (a2 : Int) (w : mW) : mm_run (zP Z) 79 [.inr (.inr (some o)), .inl a1, .inl a2] w =
  mm_at (zP Z) 79 2 [some (.inr (.inr (some o))), some (.inl a1), some (.inl a2), some (.inl 0)] [] w :=
  (mm_run_eq (P := zP Z) (y := 79) z_cd79 rfl (l := [some (.inr (.inr (some o))), some (.inl a1), some (.inl a2), none]) rfl [2] 3 w).trans rfl

set_option maxRecDepth 100000 in
set_option maxHeartbeats 4000000 in
theorem B_X5_isNearSome_2 (Z : mX) (o : Nat) (l1 : Int) (l2 : Int) (l3 : Int) (w : mW) : mm_at (zP Z) 79 2 [some (.inr (.inr (some o))), some (.inl l1), some (.inl l2), some (.inl l3)] [] w =
  (mm_gI w o 5 10).bind fun x1 =>
  if l3 < x1 then
   mm_kI (mm_run (zP Z) 207 [.inl l2, .inl l3] w) fun x3 w2 =>
   if x3 = 0 then
    mm_at (zP Z) 79 2 [some (.inr (.inr (some o))), some (.inl l1), some (.inl l2), some (.inl (mm_w32 (l3 + 1)))] [] w2
   else
    if mm_cls w2 o = 5 then
     (mm_kI (mm_run (zP Z) 59 [.inr (.inr (some o)), .inl l3, .inl l1] w2) fun x5 w4 =>
    if x5 = 0 then
     mm_at (zP Z) 79 2 [some (.inr (.inr (some o))), some (.inl l1), some (.inl l2), some (.inl (mm_w32 (l3 + 1)))] [] w4
    else
     some (some (.inl 1), w4))
    else none
  else
   some (some (.inl 0), w) :=
  (mm_V_eq (P := zP Z) (y := 79) z_cd79 [2] 16 2 _ _ w).trans rfl

-- ThornSchool$Tray.<init>()V
set_option maxRecDepth 100000 in
set_option maxHeartbeats 4000000 in
theorem B_X8_init (Z : mX) (o : Nat) (w : mW) : mm_run (zP Z) 108 [.inr (.inr (some o))] w =
  if 60 < 0 ∨ 100000 < 60 then none else
  (mm_p (mm_alloc w (.inr (3, Int.toNat 60, fun _ => 0)) (Int.toNat 60)) o 8 0 (.inr (.inr (some w.2.1)))).bind fun w1 =>
  (mm_p w1 o 8 2 (.inl (-1))).bind fun w2 =>
  some (none, w2) :=
  (mm_run_eq (P := zP Z) (y := 108) z_cd108 rfl (l := [some (.inr (.inr (some o)))]) rfl [] 11 w).trans rfl

-- ThornSchool$Tray.lay(II)V
set_option maxRecDepth 100000 in
set_option maxHeartbeats 4000000 in
theorem B_X8_lay (Z : mX) (o : Nat) (a1 : Int) (a2 : Int) (w : mW) : mm_run (zP Z) 109 [.inr (.inr (some o)), .inl a1, .inl a2] w =
  (mm_p w o 8 1 (.inl a1)).bind fun w1 =>
  (mm_p w1 o 8 2 (.inl a2)).bind fun w2 =>
  mm_at (zP Z) 109 8 [some (.inr (.inr (some o))), none, none, some (.inl 0)] [] w2 :=
  (mm_run_eq (P := zP Z) (y := 109) z_cd109 rfl (l := [some (.inr (.inr (some o))), some (.inl a1), some (.inl a2), none]) rfl [8] 9 w).trans rfl

set_option maxRecDepth 100000 in
set_option maxHeartbeats 4000000 in
theorem B_X8_lay_8 (Z : mX) (o : Nat) (l3 : Int) (w : mW) : mm_at (zP Z) 109 8 [some (.inr (.inr (some o))), none, none, some (.inl l3)] [] w =
  (mm_gR w o 8 0).bind fun r1 =>
  r1.bind fun q2 =>
  (mm_ln w q2).bind fun x3 =>
  if l3 < x3 then
   (mm_gR w o 8 0).bind fun r4 =>
   r4.bind fun q5 =>
   (mm_st 3 w q5 l3 0).bind fun w6 =>
   mm_at (zP Z) 109 8 [some (.inr (.inr (some o))), none, none, some (.inl (mm_w32 (l3 + 1)))] [] w6
  else
   some (none, w) :=
  (mm_V_eq (P := zP Z) (y := 109) z_cd109 [8] 13 8 _ _ w).trans rfl

-- ThornSchool$Tray.isMissing()Z
set_option maxRecDepth 100000 in
set_option maxHeartbeats 4000000 in
theorem B_X8_isMissing (Z : mX) (o : Nat) (w : mW) : mm_run (zP Z) 110 [.inr (.inr (some o))] w =
  (mm_gI w o 8 2).bind fun x1 =>
  if x1 = (-1) then
   some (some (.inl 1), w)
  else
   some (some (.inl 0), w) :=
  (mm_run_eq (P := zP Z) (y := 110) z_cd110 rfl (l := [some (.inr (.inr (some o)))]) rfl [] 8 w).trans rfl

-- ThornSchool$Tray.holds(II)Z
set_option maxRecDepth 100000 in
set_option maxHeartbeats 4000000 in
theorem B_X8_holds (Z : mX) (o : Nat) (a1 : Int) (a2 : Int) (w : mW) : mm_run (zP Z) 111 [.inr (.inr (some o)), .inl a1, .inl a2] w =
  if a1 < 0 then
   some (some (.inl 0), w)
  else
   if a2 < 0 then
    some (some (.inl 0), w)
   else
    (mm_gI w o 8 2).bind fun x1 =>
    if x1 < a1 then
     some (some (.inl 0), w)
    else
     (mm_gI w o 8 2).bind fun x2 =>
     if mm_w32 (x2 - a1) < a2 then
      some (some (.inl 0), w)
     else
      some (some (.inl 1), w) :=
  (mm_run_eq (P := zP Z) (y := 111) z_cd111 rfl (l := [some (.inr (.inr (some o))), some (.inl a1), some (.inl a2)]) rfl [] 18 w).trans rfl

-- ThornSchool$Tray.at(I)J
set_option maxRecDepth 100000 in
set_option maxHeartbeats 4000000 in
theorem B_X8_at (Z : mX) (o : Nat) (a1 : Int) (w : mW) : mm_run (zP Z) 112 [.inr (.inr (some o)), .inl a1] w =
  if a1 < 0 then
   some (some (.inr (.inl 0)), w)
  else
   (mm_gR w o 8 0).bind fun r1 =>
   r1.bind fun q2 =>
   (mm_ln w q2).bind fun x3 =>
   if a1 < x3 then
    (mm_gR w o 8 0).bind fun r4 =>
    r4.bind fun q5 =>
    (mm_ld 3 w q5 a1).bind fun x6 =>
    some (some (.inr (.inl x6)), w)
   else
    some (some (.inr (.inl 0)), w) :=
  (mm_run_eq (P := zP Z) (y := 112) z_cd112 rfl (l := [some (.inr (.inr (some o))), some (.inl a1)]) rfl [] 14 w).trans rfl

-- ThornSchool$Tray.set(IJ)V
set_option maxRecDepth 100000 in
set_option maxHeartbeats 4000000 in
theorem B_X8_set (Z : mX) (o : Nat) (a1 : Int) (a2 : Int) (w : mW) : mm_run (zP Z) 113 [.inr (.inr (some o)), .inl a1, .inr (.inl a2)] w =
  if a1 < 0 then
   some (none, w)
  else
   (mm_gR w o 8 0).bind fun r1 =>
   r1.bind fun q2 =>
   (mm_ln w q2).bind fun x3 =>
   if a1 < x3 then
    (mm_gR w o 8 0).bind fun r4 =>
    if mm_cls w o = 8 then
     (mm_kJ (mm_run (zP Z) 114 [.inr (.inr (some o)), .inr (.inl a2)] w) fun x6 w5 =>
    r4.bind fun q7 =>
    (mm_st 3 w5 q7 a1 x6).bind fun w8 =>
    some (none, w8))
    else none
   else
    some (none, w) :=
  (mm_run_eq (P := zP Z) (y := 113) z_cd113 rfl (l := [some (.inr (.inr (some o))), some (.inl a1), some (.inr (.inl a2)), none]) rfl [] 16 w).trans rfl

-- ThornSchool$Tray.cut(J)J
set_option maxRecDepth 100000 in
set_option maxHeartbeats 4000000 in
theorem B_X8_cut (Z : mX) (o : Nat) (a1 : Int) (w : mW) : mm_run (zP Z) 114 [.inr (.inr (some o)), .inr (.inl a1)] w =
  (mm_gI w o 8 1).bind fun x1 =>
  if x1 = 0 then
   some (some (.inr (.inl (mm_i2b (mm_w32 a1)))), w)
  else if x1 = 1 then
   some (some (.inr (.inl (mm_i2s (mm_w32 a1)))), w)
  else if x1 = 2 then
   some (some (.inr (.inl (mm_w32 a1))), w)
  else some (some (.inr (.inl a1)), w) :=
  (mm_run_eq (P := zP Z) (y := 114) z_cd114 rfl (l := [some (.inr (.inr (some o))), some (.inr (.inl a1)), none]) rfl [] 9 w).trans rfl

-- ThornSchool$Tray.take(LThornSchool$Tray;III)V
set_option maxRecDepth 100000 in
set_option maxHeartbeats 4000000 in
theorem B_X8_take (Z : mX) (o : Nat) (a1 : Option Nat) (a2 : Int) (a3 : Int) (a4 : Int) (w : mW) : mm_run (zP Z) 115 [.inr (.inr (some o)), .inr (.inr a1), .inl a2, .inl a3, .inl a4] w =
  if a1 = none then
   some (none, w)
  else
   if a2 < a3 then
    mm_at (zP Z) 115 12 [some (.inr (.inr (some o))), some (.inr (.inr a1)), some (.inl a2), some (.inl a3), some (.inl a4), some (.inl 0), some (.inl 0), none] [] w
   else
    mm_at (zP Z) 115 12 [some (.inr (.inr (some o))), some (.inr (.inr a1)), some (.inl a2), some (.inl a3), some (.inl a4), some (.inl 1), some (.inl 0), none] [] w :=
  (mm_run_eq (P := zP Z) (y := 115) z_cd115 rfl (l := [some (.inr (.inr (some o))), some (.inr (.inr a1)), some (.inl a2), some (.inl a3), some (.inl a4), none, none, none]) rfl [12, 24] 11 w).trans rfl

set_option maxRecDepth 100000 in
set_option maxHeartbeats 4000000 in
theorem B_X8_take_12 (Z : mX) (o : Nat) (l1 : Option Nat) (l2 : Int) (l3 : Int) (l4 : Int) (l5 : Int) (l6 : Int) (w : mW) : mm_at (zP Z) 115 12 [some (.inr (.inr (some o))), some (.inr (.inr l1)), some (.inl l2), some (.inl l3), some (.inl l4), some (.inl l5), some (.inl l6), none] [] w =
  if l6 < l4 then
   if l5 = 0 then
    mm_at (zP Z) 115 24 [some (.inr (.inr (some o))), some (.inr (.inr l1)), some (.inl l2), some (.inl l3), some (.inl l4), some (.inl l5), some (.inl l6), none] [.inl (mm_w32 ((mm_w32 (l4 - 1)) - l6))] w
   else
    mm_at (zP Z) 115 24 [some (.inr (.inr (some o))), some (.inr (.inr l1)), some (.inl l2), some (.inl l3), some (.inl l4), some (.inl l5), some (.inl l6), none] [.inl l6] w
  else
   some (none, w) :=
  (mm_V_eq (P := zP Z) (y := 115) z_cd115 [12, 24] 11 12 _ _ w).trans rfl

set_option maxRecDepth 100000 in
set_option maxHeartbeats 4000000 in
theorem B_X8_take_24 (Z : mX) (o : Nat) (l1 : Option Nat) (l2 : Int) (l3 : Int) (l4 : Int) (l5 : Int) (l6 : Int) (s0 : Int) (w : mW) : mm_at (zP Z) 115 24 [some (.inr (.inr (some o))), some (.inr (.inr l1)), some (.inl l2), some (.inl l3), some (.inl l4), some (.inl l5), some (.inl l6), none] [.inl s0] w =
  l1.bind fun q1 =>
  if mm_cls w q1 = 8 then
   (mm_kJ (mm_run (zP Z) 112 [.inr (.inr (some q1)), .inl (mm_w32 (l2 + s0))] w) fun x3 w2 =>
  if mm_cls w2 o = 8 then
   (mm_kV (mm_run (zP Z) 113 [.inr (.inr (some o)), .inl (mm_w32 (l3 + s0)), .inr (.inl x3)] w2) fun w4 =>
  mm_at (zP Z) 115 12 [some (.inr (.inr (some o))), some (.inr (.inr l1)), some (.inl l2), some (.inl l3), some (.inl l4), some (.inl l5), some (.inl (mm_w32 (l6 + 1))), none] [] w4)
  else none)
  else none :=
  (mm_V_eq (P := zP Z) (y := 115) z_cd115 [12, 24] 14 24 _ _ w).trans rfl

-- java/lang/Integer.bitCount(I)I
set_option maxRecDepth 100000 in
set_option maxHeartbeats 4000000 in
theorem B_J6_bitCount_0f7a4 (Z : mX) (a0 : Int) (w : mW) : mm_run (zP Z) 364 [.inl a0] w =
  some (some (.inl (mm_iand (mm_w32 ((mm_w32 ((mm_iand (mm_w32 ((mm_w32 ((mm_iand (mm_w32 (a0 - (mm_iand (mm_iushr a0 1) 1431655765))) 858993459) + (mm_iand (mm_iushr (mm_w32 (a0 - (mm_iand (mm_iushr a0 1) 1431655765))) 2) 858993459))) + (mm_iushr (mm_w32 ((mm_iand (mm_w32 (a0 - (mm_iand (mm_iushr a0 1) 1431655765))) 858993459) + (mm_iand (mm_iushr (mm_w32 (a0 - (mm_iand (mm_iushr a0 1) 1431655765))) 2) 858993459))) 4))) 252645135) + (mm_iushr (mm_iand (mm_w32 ((mm_w32 ((mm_iand (mm_w32 (a0 - (mm_iand (mm_iushr a0 1) 1431655765))) 858993459) + (mm_iand (mm_iushr (mm_w32 (a0 - (mm_iand (mm_iushr a0 1) 1431655765))) 2) 858993459))) + (mm_iushr (mm_w32 ((mm_iand (mm_w32 (a0 - (mm_iand (mm_iushr a0 1) 1431655765))) 858993459) + (mm_iand (mm_iushr (mm_w32 (a0 - (mm_iand (mm_iushr a0 1) 1431655765))) 2) 858993459))) 4))) 252645135) 8))) + (mm_iushr (mm_w32 ((mm_iand (mm_w32 ((mm_w32 ((mm_iand (mm_w32 (a0 - (mm_iand (mm_iushr a0 1) 1431655765))) 858993459) + (mm_iand (mm_iushr (mm_w32 (a0 - (mm_iand (mm_iushr a0 1) 1431655765))) 2) 858993459))) + (mm_iushr (mm_w32 ((mm_iand (mm_w32 (a0 - (mm_iand (mm_iushr a0 1) 1431655765))) 858993459) + (mm_iand (mm_iushr (mm_w32 (a0 - (mm_iand (mm_iushr a0 1) 1431655765))) 2) 858993459))) 4))) 252645135) + (mm_iushr (mm_iand (mm_w32 ((mm_w32 ((mm_iand (mm_w32 (a0 - (mm_iand (mm_iushr a0 1) 1431655765))) 858993459) + (mm_iand (mm_iushr (mm_w32 (a0 - (mm_iand (mm_iushr a0 1) 1431655765))) 2) 858993459))) + (mm_iushr (mm_w32 ((mm_iand (mm_w32 (a0 - (mm_iand (mm_iushr a0 1) 1431655765))) 858993459) + (mm_iand (mm_iushr (mm_w32 (a0 - (mm_iand (mm_iushr a0 1) 1431655765))) 2) 858993459))) 4))) 252645135) 8))) 16))) 63)), w) :=
  (mm_run_eq (P := zP Z) (y := 364) z_cd364 rfl (l := [some (.inl a0)]) rfl [] 43 w).trans rfl

