/-! printed by wip/whole/gen/emit.py: each method of the mini machine up to its labels -/
-- ThornSchool$Life.<init>(LThornSchool$School;LThornSchool$Autumns;)V
set_option maxRecDepth 100000 in
set_option maxHeartbeats 4000000 in
theorem B_X4_init (Z : mX) (o : Nat) (a1 : Option Nat) (a2 : Option Nat) (w : mW) : mm_run (zP Z) 30 [.inr (.inr (some o)), .inr (.inr a1), .inr (.inr a2)] w =
  if 60 < 0 ∨ 100000 < 60 then none else
  (mm_p (mm_alloc w (.inr (0, Int.toNat 60, fun _ => 0)) (Int.toNat 60)) o 4 2 (.inr (.inr (some w.2.1)))).bind fun w1 =>
  if 5 < 0 ∨ 100000 < 5 then none else
  (mm_p (mm_alloc w1 (.inr (0, Int.toNat 5, fun _ => 0)) (Int.toNat 5)) o 4 3 (.inr (.inr (some w1.2.1)))).bind fun w2 =>
  (mm_p w2 o 4 0 (.inr (.inr a1))).bind fun w3 =>
  (mm_p w3 o 4 1 (.inr (.inr a2))).bind fun w4 =>
  some (none, w4) :=
  (mm_run_eq (P := zP Z) (y := 30) z_cd30 rfl (l := [some (.inr (.inr (some o))), some (.inr (.inr a1)), some (.inr (.inr a2))]) rfl [] 18 w).trans rfl

-- ThornSchool$Life.keepAsLived()V
set_option maxRecDepth 100000 in
set_option maxHeartbeats 4000000 in
theorem B_X4_keepAsLived (Z : mX) (o : Nat) (w : mW) : mm_run (zP Z) 31 [.inr (.inr (some o))] w =
  (mm_gR w o 4 3).bind fun r1 =>
  (mm_gI w o 4 6).bind fun x2 =>
  mm_kV (mm_run (zP Z) 200 [.inr (.inr r1), .inl 0, .inl x2] w) fun w3 =>
  (mm_gR w3 o 4 3).bind fun r4 =>
  (mm_gI w3 o 4 7).bind fun x5 =>
  mm_kV (mm_run (zP Z) 200 [.inr (.inr r4), .inl 1, .inl x5] w3) fun w6 =>
  (mm_gR w6 o 4 3).bind fun r7 =>
  (mm_gI w6 o 4 8).bind fun x8 =>
  mm_kV (mm_run (zP Z) 200 [.inr (.inr r7), .inl 2, .inl x8] w6) fun w9 =>
  (mm_gR w9 o 4 3).bind fun r10 =>
  (mm_gI w9 o 4 9).bind fun x11 =>
  mm_kV (mm_run (zP Z) 200 [.inr (.inr r10), .inl 3, .inl x11] w9) fun w12 =>
  (mm_gR w12 o 4 3).bind fun r13 =>
  (mm_gI w12 o 4 10).bind fun x14 =>
  mm_kV (mm_run (zP Z) 200 [.inr (.inr r13), .inl 4, .inl x14] w12) fun w15 =>
  if 1 = 0 ∨ 1 = 1 then
   ((mm_p w15 o 4 4 (.inl 1)).bind fun w16 =>
  some (none, w16))
  else none :=
  (mm_run_eq (P := zP Z) (y := 31) z_cd31 rfl (l := [some (.inr (.inr (some o)))]) rfl [] 35 w).trans rfl

-- ThornSchool$Life.run(I)V
set_option maxRecDepth 100000 in
set_option maxHeartbeats 4000000 in
theorem B_X4_run (Z : mX) (o : Nat) (a1 : Int) (w : mW) : mm_run (zP Z) 32 [.inr (.inr (some o)), .inl a1] w =
  (mm_p w o 4 5 (.inl 0)).bind fun w1 =>
  (mm_p w1 o 4 6 (.inl 0)).bind fun w2 =>
  (mm_p w2 o 4 7 (.inl 0)).bind fun w3 =>
  (mm_p w3 o 4 8 (.inl 0)).bind fun w4 =>
  (mm_p w4 o 4 9 (.inl 0)).bind fun w5 =>
  (mm_p w5 o 4 10 (.inl 0)).bind fun w6 =>
  (mm_p w6 o 4 11 (.inl a1)).bind fun w7 =>
  mm_at (zP Z) 32 25 [some (.inr (.inr (some o))), none, some (.inl 0), some (.inl 0)] [] w7 :=
  (mm_run_eq (P := zP Z) (y := 32) z_cd32 rfl (l := [some (.inr (.inr (some o))), some (.inl a1), none, none]) rfl [25] 26 w).trans rfl

set_option maxRecDepth 100000 in
set_option maxHeartbeats 4000000 in
theorem B_X4_run_25 (Z : mX) (o : Nat) (l2 : Int) (l3 : Int) (w : mW) : mm_at (zP Z) 32 25 [some (.inr (.inr (some o))), none, some (.inl l2), some (.inl l3)] [] w =
  if l3 < 100000 then
   (mm_gR w o 4 1).bind fun r1 =>
   r1.bind fun q2 =>
   (mm_gI w q2 0 2).bind fun x3 =>
   if l2 < x3 then
    if mm_cls w o = 4 then
     (mm_kI (mm_run (zP Z) 33 [.inr (.inr (some o)), .inl l2] w) fun x5 w4 =>
    mm_at (zP Z) 32 25 [some (.inr (.inr (some o))), none, some (.inl x5), some (.inl (mm_w32 (l3 + 1)))] [] w4)
    else none
   else
    some (none, w)
  else
   some (none, w) :=
  (mm_V_eq (P := zP Z) (y := 32) z_cd32 [25] 15 25 _ _ w).trans rfl

-- ThornSchool$Life.pass(I)I
set_option maxRecDepth 100000 in
set_option maxHeartbeats 4000000 in
theorem B_X4_pass (Z : mX) (o : Nat) (a1 : Int) (w : mW) : mm_run (zP Z) 33 [.inr (.inr (some o)), .inl a1] w =
  (mm_gR w o 4 1).bind fun r1 =>
  r1.bind fun q2 =>
  (mm_gR w q2 0 3).bind fun r3 =>
  mm_kI (mm_run (zP Z) 199 [.inr (.inr r3), .inl a1] w) fun x5 w4 =>
  if x5 = 25 then
   if mm_cls w4 o = 4 then
    (mm_kI (mm_run (zP Z) 34 [.inr (.inr (some o)), .inl a1] w4) fun x28 w27 =>
   some (some (.inl x28), w27))
   else none
  else
   (mm_gI w4 o 4 5).bind fun x6 =>
   if x6 < 300 then
    (mm_gI w4 o 4 5).bind fun x7 =>
    (mm_p w4 o 4 5 (.inl (mm_w32 (x7 + 1)))).bind fun w8 =>
    if x5 = 3 then
     mm_at (zP Z) 33 49 [some (.inr (.inr (some o))), some (.inl a1), none] [] w8
    else if x5 = 9 then
     mm_at (zP Z) 33 49 [some (.inr (.inr (some o))), some (.inl a1), none] [] w8
    else if x5 = 11 then
     mm_at (zP Z) 33 49 [some (.inr (.inr (some o))), some (.inl a1), none] [] w8
    else if x5 = 23 then
     mm_at (zP Z) 33 49 [some (.inr (.inr (some o))), some (.inl a1), none] [] w8
    else if x5 = 24 then
     (mm_gR w8 o 4 2).bind fun r9 =>
     (mm_gR w8 o 4 1).bind fun r10 =>
     r10.bind fun q11 =>
     (mm_gR w8 q11 0 4).bind fun r12 =>
     mm_kI (mm_run (zP Z) 199 [.inr (.inr r12), .inl a1] w8) fun x14 w13 =>
     mm_kV (mm_run (zP Z) 200 [.inr (.inr r9), .inl a1, .inl x14] w13) fun w15 =>
     some (some (.inl (mm_w32 (a1 + 1))), w15)
    else if x5 = 26 then
     (mm_gR w8 o 4 1).bind fun r16 =>
     r16.bind fun q17 =>
     (mm_gI w8 q17 0 2).bind fun x18 =>
     some (some (.inl x18), w8)
    else if x5 = 21 then
      if mm_cls w8 o = 4 then
       (mm_kI (mm_run (zP Z) 43 [.inr (.inr (some o))] w8) fun x22 w21 =>
      if x22 = 0 then
       mm_at (zP Z) 33 74 [some (.inr (.inr (some o))), some (.inl a1), none] [] w21
      else
       some (some (.inl (mm_w32 (a1 + 1))), w21))
      else none
     else
      if mm_cls w8 o = 4 then
       (mm_kI (mm_run (zP Z) 37 [.inr (.inr (some o)), .inl a1] w8) fun x20 w19 =>
      if x20 = 0 then
       mm_at (zP Z) 33 74 [some (.inr (.inr (some o))), some (.inl a1), none] [] w19
      else
       some (some (.inl (mm_w32 (a1 + 1))), w19))
      else none
   else
    (mm_p w4 o 4 10 (.inl 1)).bind fun w23 =>
    (mm_gR w23 o 4 1).bind fun r24 =>
    r24.bind fun q25 =>
    (mm_gI w23 q25 0 2).bind fun x26 =>
    some (some (.inl x26), w23) :=
  (mm_run_eq (P := zP Z) (y := 33) z_cd33 rfl (l := [some (.inr (.inr (some o))), some (.inl a1), none]) rfl [49, 74] 35 w).trans rfl

set_option maxRecDepth 100000 in
set_option maxHeartbeats 4000000 in
theorem B_X4_pass_49 (Z : mX) (o : Nat) (l1 : Int) (w : mW) : mm_at (zP Z) 33 49 [some (.inr (.inr (some o))), some (.inl l1), none] [] w =
  if mm_cls w o = 4 then
   (mm_kI (mm_run (zP Z) 35 [.inr (.inr (some o)), .inl l1] w) fun x2 w1 =>
  if x2 = 0 then
   (mm_gR w1 o 4 1).bind fun r3 =>
   r3.bind fun q4 =>
   (mm_gR w1 q4 0 7).bind fun r5 =>
   mm_kI (mm_run (zP Z) 199 [.inr (.inr r5), .inl l1] w1) fun x7 w6 =>
   some (some (.inl (mm_w32 (x7 + 1))), w6)
  else
   some (some (.inl (mm_w32 (l1 + 1))), w1))
  else none :=
  (mm_V_eq (P := zP Z) (y := 33) z_cd33 [49, 74] 13 49 _ _ w).trans rfl

set_option maxRecDepth 100000 in
set_option maxHeartbeats 4000000 in
theorem B_X4_pass_74 (Z : mX) (o : Nat) (l1 : Int) (w : mW) : mm_at (zP Z) 33 74 [some (.inr (.inr (some o))), some (.inl l1), none] [] w =
  (mm_gI w o 4 6).bind fun x1 =>
  (mm_p w o 4 6 (.inl (mm_w32 (x1 + 1)))).bind fun w2 =>
  some (some (.inl (mm_w32 (l1 + 1))), w2) :=
  (mm_V_eq (P := zP Z) (y := 33) z_cd33 [49, 74] 11 74 _ _ w).trans rfl

-- ThornSchool$Life.passEnd(I)I
set_option maxRecDepth 100000 in
set_option maxHeartbeats 4000000 in
theorem B_X4_passEnd (Z : mX) (o : Nat) (a1 : Int) (w : mW) : mm_run (zP Z) 34 [.inr (.inr (some o)), .inl a1] w =
  (mm_gR w o 4 1).bind fun r1 =>
  r1.bind fun q2 =>
  (mm_gR w q2 0 7).bind fun r3 =>
  mm_kI (mm_run (zP Z) 199 [.inr (.inr r3), .inl a1] w) fun x5 w4 =>
  (mm_gR w4 o 4 1).bind fun r6 =>
  r6.bind fun q7 =>
  (mm_gR w4 q7 0 3).bind fun r8 =>
  mm_kI (mm_run (zP Z) 199 [.inr (.inr r8), .inl x5] w4) fun x10 w9 =>
  if x10 = 24 then
   if mm_w32 (x5 + 1) = a1 then
    some (some (.inl (mm_w32 (a1 + 1))), w9)
   else
    (mm_gR w9 o 4 2).bind fun r11 =>
    mm_kI (mm_run (zP Z) 199 [.inr (.inr r11), .inl x5] w9) fun x13 w12 =>
    (mm_gR w12 o 4 2).bind fun r14 =>
    mm_kV (mm_run (zP Z) 200 [.inr (.inr r14), .inl x5, .inl (mm_w32 (x13 - 1))] w12) fun w15 =>
    if 0 < mm_w32 (x13 - 1) then
     some (some (.inl (mm_w32 (x5 + 1))), w15)
    else
     some (some (.inl (mm_w32 (a1 + 1))), w15)
  else
   some (some (.inl (mm_w32 (a1 + 1))), w9) :=
  (mm_run_eq (P := zP Z) (y := 34) z_cd34 rfl (l := [some (.inr (.inr (some o))), some (.inl a1), none, none]) rfl [] 38 w).trans rfl

-- ThornSchool$Life.holds(I)Z
set_option maxRecDepth 100000 in
set_option maxHeartbeats 4000000 in
theorem B_X4_holds (Z : mX) (o : Nat) (a1 : Int) (w : mW) : mm_run (zP Z) 35 [.inr (.inr (some o)), .inl a1] w =
  (mm_gR w o 4 1).bind fun r1 =>
  r1.bind fun q2 =>
  (mm_gR w q2 0 4).bind fun r3 =>
  mm_kI (mm_run (zP Z) 199 [.inr (.inr r3), .inl a1] w) fun x5 w4 =>
  (mm_gR w4 o 4 1).bind fun r6 =>
  r6.bind fun q7 =>
  (mm_gR w4 q7 0 6).bind fun r8 =>
  mm_kI (mm_run (zP Z) 199 [.inr (.inr r8), .inl a1] w4) fun x10 w9 =>
  (mm_gR w9 o 4 1).bind fun r11 =>
  r11.bind fun q12 =>
  (mm_gR w9 q12 0 3).bind fun r13 =>
  mm_kI (mm_run (zP Z) 199 [.inr (.inr r13), .inl a1] w9) fun x15 w14 =>
  if x15 = 9 then
   (mm_gR w14 o 4 0).bind fun r16 =>
   r16.bind fun q17 =>
   (mm_gR w14 q17 5 11).bind fun r18 =>
   mm_kI (mm_run (zP Z) 199 [.inr (.inr r18), .inl x5] w14) fun x20 w19 =>
   if x20 = x10 then
    some (some (.inl 1), w19)
   else
    some (some (.inl 0), w19)
  else if x15 = 11 then
   (mm_gR w14 o 4 0).bind fun r21 =>
   r21.bind fun q22 =>
   if mm_cls w14 q22 = 5 then
    (mm_kI (mm_run (zP Z) 61 [.inr (.inr (some q22)), .inl x5] w14) fun x24 w23 =>
   (mm_gR w23 o 4 1).bind fun r25 =>
   r25.bind fun q26 =>
   (mm_gR w23 q26 0 5).bind fun r27 =>
   mm_kI (mm_run (zP Z) 199 [.inr (.inr r27), .inl a1] w23) fun x29 w28 =>
   mm_kI (mm_run (zP Z) 36 [.inl x24, .inl x29, .inl x10] w28) fun x31 w30 =>
   if x31 = 0 ∨ x31 = 1 then some (some (.inl x31), w30) else none)
   else none
  else if x15 = 23 then
   (mm_gR w14 o 4 0).bind fun r32 =>
   r32.bind fun q33 =>
   if mm_cls w14 q33 = 5 then
    (mm_kI (mm_run (zP Z) 64 [.inr (.inr (some q33)), .inl x5] w14) fun x35 w34 =>
   if x35 = 0 ∨ x35 = 1 then some (some (.inl x35), w34) else none)
   else none
  else (mm_gR w14 o 4 0).bind fun r36 =>
   r36.bind fun q37 =>
   (mm_gR w14 q37 5 4).bind fun r38 =>
   mm_kI (mm_run (zP Z) 199 [.inr (.inr r38), .inl x5] w14) fun x40 w39 =>
   (mm_gR w39 o 4 1).bind fun r41 =>
   r41.bind fun q42 =>
   (mm_gR w39 q42 0 5).bind fun r43 =>
   mm_kI (mm_run (zP Z) 199 [.inr (.inr r43), .inl a1] w39) fun x45 w44 =>
   mm_kI (mm_run (zP Z) 36 [.inl x40, .inl x45, .inl x10] w44) fun x47 w46 =>
   if x47 = 0 ∨ x47 = 1 then some (some (.inl x47), w46) else none :=
  (mm_run_eq (P := zP Z) (y := 35) z_cd35 rfl (l := [some (.inr (.inr (some o))), some (.inl a1), none, none]) rfl [] 32 w).trans rfl

-- ThornSchool$Life.compares(III)Z
set_option maxRecDepth 100000 in
set_option maxHeartbeats 4000000 in
theorem B_X4_compares (Z : mX) (a0 : Int) (a1 : Int) (a2 : Int) (w : mW) : mm_run (zP Z) 36 [.inl a0, .inl a1, .inl a2] w =
  if a1 = 60 then
   if a0 < a2 then
    some (some (.inl 1), w)
   else
    some (some (.inl 0), w)
  else
   if a1 = 62 then
    if a2 < a0 then
     some (some (.inl 1), w)
    else
     some (some (.inl 0), w)
   else
    if a0 = a2 then
     some (some (.inl 1), w)
    else
     some (some (.inl 0), w) :=
  (mm_run_eq (P := zP Z) (y := 36) z_cd36 rfl (l := [some (.inl a0), some (.inl a1), some (.inl a2)]) rfl [] 13 w).trans rfl

-- ThornSchool$Life.does(I)Z
set_option maxRecDepth 100000 in
set_option maxHeartbeats 4000000 in
theorem B_X4_does (Z : mX) (o : Nat) (a1 : Int) (w : mW) : mm_run (zP Z) 37 [.inr (.inr (some o)), .inl a1] w =
  (mm_gR w o 4 1).bind fun r1 =>
  r1.bind fun q2 =>
  (mm_gR w q2 0 4).bind fun r3 =>
  mm_kI (mm_run (zP Z) 199 [.inr (.inr r3), .inl a1] w) fun x5 w4 =>
  (mm_gR w4 o 4 1).bind fun r6 =>
  r6.bind fun q7 =>
  (mm_gR w4 q7 0 3).bind fun r8 =>
  mm_kI (mm_run (zP Z) 199 [.inr (.inr r8), .inl a1] w4) fun x10 w9 =>
  if x10 = 12 then
   (mm_gR w9 o 4 1).bind fun r11 =>
   r11.bind fun q12 =>
   (mm_gR w9 q12 0 5).bind fun r13 =>
   mm_kI (mm_run (zP Z) 199 [.inr (.inr r13), .inl a1] w9) fun x15 w14 =>
   if mm_cls w14 o = 4 then
    (mm_kI (mm_run (zP Z) 38 [.inr (.inr (some o)), .inl x5, .inl x15] w14) fun x17 w16 =>
   if x17 = 0 ∨ x17 = 1 then some (some (.inl x17), w16) else none)
   else none
  else if x10 = 13 then
   if mm_cls w9 o = 4 then
    (mm_kI (mm_run (zP Z) 42 [.inr (.inr (some o)), .inl x5] w9) fun x19 w18 =>
   if x19 = 0 ∨ x19 = 1 then some (some (.inl x19), w18) else none)
   else none
  else if x10 = 14 then
   if mm_cls w9 o = 4 then
    (mm_kI (mm_run (zP Z) 42 [.inr (.inr (some o)), .inl x5] w9) fun x21 w20 =>
   if x21 = 0 ∨ x21 = 1 then some (some (.inl x21), w20) else none)
   else none
  else if x10 = 15 then
   if mm_cls w9 o = 4 then
    (mm_kI (mm_run (zP Z) 42 [.inr (.inr (some o)), .inl x5] w9) fun x23 w22 =>
   if x23 = 0 ∨ x23 = 1 then some (some (.inl x23), w22) else none)
   else none
  else if x10 = 16 then
   if mm_cls w9 o = 4 then
    (mm_kI (mm_run (zP Z) 42 [.inr (.inr (some o)), .inl x5] w9) fun x25 w24 =>
   if x25 = 0 ∨ x25 = 1 then some (some (.inl x25), w24) else none)
   else none
  else if x10 = 17 then
   (mm_gR w9 o 4 1).bind fun r26 =>
   r26.bind fun q27 =>
   (mm_gR w9 q27 0 5).bind fun r28 =>
   mm_kI (mm_run (zP Z) 199 [.inr (.inr r28), .inl a1] w9) fun x30 w29 =>
   if mm_cls w29 o = 4 then
    (mm_kI (mm_run (zP Z) 39 [.inr (.inr (some o)), .inl x5, .inl x30] w29) fun x32 w31 =>
   if x32 = 0 ∨ x32 = 1 then some (some (.inl x32), w31) else none)
   else none
  else if x10 = 18 then
   if mm_cls w9 o = 4 then
    (mm_kI (mm_run (zP Z) 40 [.inr (.inr (some o)), .inl x5] w9) fun x34 w33 =>
   if x34 = 0 ∨ x34 = 1 then some (some (.inl x34), w33) else none)
   else none
  else if x10 = 19 then
   if mm_cls w9 o = 4 then
    (mm_kI (mm_run (zP Z) 41 [.inr (.inr (some o)), .inl x5] w9) fun x36 w35 =>
   if x36 = 0 ∨ x36 = 1 then some (some (.inl x36), w35) else none)
   else none
  else if mm_cls w9 o = 4 then
    (mm_kI (mm_run (zP Z) 42 [.inr (.inr (some o)), .inl x5] w9) fun x38 w37 =>
   if x38 = 0 ∨ x38 = 1 then some (some (.inl x38), w37) else none)
   else none :=
  (mm_run_eq (P := zP Z) (y := 37) z_cd37 rfl (l := [some (.inr (.inr (some o))), some (.inl a1), none]) rfl [] 22 w).trans rfl

-- ThornSchool$Life.goes(II)Z
set_option maxRecDepth 100000 in
set_option maxHeartbeats 4000000 in
theorem B_X4_goes (Z : mX) (o : Nat) (a1 : Int) (a2 : Int) (w : mW) : mm_run (zP Z) 38 [.inr (.inr (some o)), .inl a1, .inl a2] w =
  (mm_gR w o 4 0).bind fun r1 =>
  r1.bind fun q2 =>
  if mm_cls w q2 = 5 then
   (mm_kI (mm_run (zP Z) 67 [.inr (.inr (some q2)), .inl a1, .inl a2] w) fun x4 w3 =>
  if x4 = 0 then
   some (some (.inl 0), w3)
  else
   (mm_gI w3 o 4 7).bind fun x5 =>
   (mm_p w3 o 4 7 (.inl (mm_w32 (x5 + 1)))).bind fun w6 =>
   (mm_gI w6 o 4 8).bind fun x7 =>
   (mm_gR w6 o 4 0).bind fun r8 =>
   r8.bind fun q9 =>
   if mm_cls w6 q9 = 5 then
    (mm_kI (mm_run (zP Z) 68 [.inr (.inr (some q9)), .inl a1, .inl a2] w6) fun x11 w10 =>
   (mm_p w10 o 4 8 (.inl (mm_w32 (x7 + x11)))).bind fun w12 =>
   some (some (.inl 1), w12))
   else none)
  else none :=
  (mm_run_eq (P := zP Z) (y := 38) z_cd38 rfl (l := [some (.inr (.inr (some o))), some (.inl a1), some (.inl a2)]) rfl [] 25 w).trans rfl

-- ThornSchool$Life.frees(II)Z
set_option maxRecDepth 100000 in
set_option maxHeartbeats 4000000 in
theorem B_X4_frees (Z : mX) (o : Nat) (a1 : Int) (a2 : Int) (w : mW) : mm_run (zP Z) 39 [.inr (.inr (some o)), .inl a1, .inl a2] w =
  (mm_gR w o 4 0).bind fun r1 =>
  r1.bind fun q2 =>
  if mm_cls w q2 = 5 then
   (mm_kI (mm_run (zP Z) 69 [.inr (.inr (some q2)), .inl a1, .inl a2] w) fun x4 w3 =>
  if x4 = 0 then
   some (some (.inl 0), w3)
  else
   (mm_gR w3 o 4 0).bind fun r5 =>
   r5.bind fun q6 =>
   if mm_cls w3 q6 = 5 then
    (mm_kI (mm_run (zP Z) 70 [.inr (.inr (some q6)), .inl a2] w3) fun x8 w7 =>
   if x8 = (-1) then
    some (some (.inl 1), w7)
   else
    (mm_gI w7 o 4 9).bind fun x9 =>
    (mm_p w7 o 4 9 (.inl (mm_w32 (x9 + 1)))).bind fun w10 =>
    some (some (.inl 1), w10))
   else none)
  else none :=
  (mm_run_eq (P := zP Z) (y := 39) z_cd39 rfl (l := [some (.inr (.inr (some o))), some (.inl a1), some (.inl a2)]) rfl [] 21 w).trans rfl

-- ThornSchool$Life.tears(I)Z
set_option maxRecDepth 100000 in
set_option maxHeartbeats 4000000 in
theorem B_X4_tears (Z : mX) (o : Nat) (a1 : Int) (w : mW) : mm_run (zP Z) 40 [.inr (.inr (some o)), .inl a1] w =
  (mm_gR w o 4 0).bind fun r1 =>
  r1.bind fun q2 =>
  if mm_cls w q2 = 5 then
   (mm_kI (mm_run (zP Z) 64 [.inr (.inr (some q2)), .inl a1] w) fun x4 w3 =>
  if x4 = 0 then
   some (some (.inl 0), w3)
  else
   (mm_gR w3 o 4 0).bind fun r5 =>
   r5.bind fun q6 =>
   if mm_cls w3 q6 = 5 then
    (mm_kI (mm_run (zP Z) 72 [.inr (.inr (some q6)), .inl a1] w3) fun x8 w7 =>
   some (some (.inl 1), w7))
   else none)
  else none :=
  (mm_run_eq (P := zP Z) (y := 40) z_cd40 rfl (l := [some (.inr (.inr (some o))), some (.inl a1)]) rfl [] 13 w).trans rfl

-- ThornSchool$Life.picks(I)Z
set_option maxRecDepth 100000 in
set_option maxHeartbeats 4000000 in
theorem B_X4_picks (Z : mX) (o : Nat) (a1 : Int) (w : mW) : mm_run (zP Z) 41 [.inr (.inr (some o)), .inl a1] w =
  (mm_gR w o 4 0).bind fun r1 =>
  r1.bind fun q2 =>
  if mm_cls w q2 = 5 then
   (mm_kI (mm_run (zP Z) 73 [.inr (.inr (some q2)), .inl a1] w) fun x4 w3 =>
  if x4 = 0 then
   some (some (.inl 0), w3)
  else
   (mm_gR w3 o 4 0).bind fun r5 =>
   r5.bind fun q6 =>
   if mm_cls w3 q6 = 5 then
    (mm_kI (mm_run (zP Z) 74 [.inr (.inr (some q6)), .inl a1] w3) fun x8 w7 =>
   some (some (.inl 1), w7))
   else none)
  else none :=
  (mm_run_eq (P := zP Z) (y := 41) z_cd41 rfl (l := [some (.inr (.inr (some o))), some (.inl a1)]) rfl [] 13 w).trans rfl

-- ThornSchool$Life.ages(I)Z
set_option maxRecDepth 100000 in
set_option maxHeartbeats 4000000 in
theorem B_X4_ages (Z : mX) (o : Nat) (a1 : Int) (w : mW) : mm_run (zP Z) 42 [.inr (.inr (some o)), .inl a1] w =
  (mm_gR w o 4 0).bind fun r1 =>
  r1.bind fun q2 =>
  if mm_cls w q2 = 5 then
   (mm_kI (mm_run (zP Z) 75 [.inr (.inr (some q2)), .inl a1] w) fun x4 w3 =>
  if x4 = 0 then
   some (some (.inl 0), w3)
  else
   (mm_gR w3 o 4 0).bind fun r5 =>
   r5.bind fun q6 =>
   if mm_cls w3 q6 = 5 then
    (mm_kV (mm_run (zP Z) 76 [.inr (.inr (some q6)), .inl a1] w3) fun w7 =>
   some (some (.inl 1), w7))
   else none)
  else none :=
  (mm_run_eq (P := zP Z) (y := 42) z_cd42 rfl (l := [some (.inr (.inr (some o))), some (.inl a1)]) rfl [] 12 w).trans rfl

-- ThornSchool$Life.doesAny()Z
set_option maxRecDepth 100000 in
set_option maxHeartbeats 4000000 in
theorem B_X4_doesAny (Z : mX) (o : Nat) (w : mW) : mm_run (zP Z) 43 [.inr (.inr (some o))] w =
  (mm_gR w o 4 0).bind fun r1 =>
  r1.bind fun q2 =>
  (mm_gI w q2 5 10).bind fun x3 =>
  if x3 < 1 then
   some (some (.inl 0), w)
  else
   (mm_gR w o 4 0).bind fun r4 =>
   r4.bind fun q5 =>
   (mm_gI w q5 5 10).bind fun x6 =>
   if mm_cls w o = 4 then
    (mm_kI (mm_run (zP Z) 44 [.inr (.inr (some o)), .inl x6] w) fun x8 w7 =>
   if mm_cls w7 o = 4 then
    (mm_kI (mm_run (zP Z) 44 [.inr (.inr (some o)), .inl 4] w7) fun x10 w9 =>
   (mm_gR w9 o 4 0).bind fun r11 =>
   r11.bind fun q12 =>
   if mm_cls w9 q12 = 5 then
    (mm_kI (mm_run (zP Z) 64 [.inr (.inr (some q12)), .inl x8] w9) fun x14 w13 =>
   if x14 = 0 then
    if mm_cls w13 o = 4 then
     (mm_kI (mm_run (zP Z) 38 [.inr (.inr (some o)), .inl x8, .inl x10] w13) fun x16 w15 =>
    if x16 = 0 ∨ x16 = 1 then some (some (.inl x16), w15) else none)
    else none
   else
    if mm_cls w13 o = 4 then
     (mm_kI (mm_run (zP Z) 40 [.inr (.inr (some o)), .inl x8] w13) fun x18 w17 =>
    if x18 = 0 ∨ x18 = 1 then some (some (.inl x18), w17) else none)
    else none)
   else none)
   else none)
   else none :=
  (mm_run_eq (P := zP Z) (y := 43) z_cd43 rfl (l := [some (.inr (.inr (some o))), none, none]) rfl [] 26 w).trans rfl

-- ThornSchool$Life.draw(I)I
set_option maxRecDepth 100000 in
set_option maxHeartbeats 4000000 in
theorem B_X4_draw (Z : mX) (o : Nat) (a1 : Int) (w : mW) : mm_run (zP Z) 44 [.inr (.inr (some o)), .inl a1] w =
  if a1 < 1 then
   some (some (.inl 0), w)
  else
   (mm_gI w o 4 11).bind fun x1 =>
   if 65536 = 0 then none else
   (mm_p w o 4 11 (.inl (mm_irem (mm_w32 ((mm_w32 (x1 * 3251)) + 11467)) 65536))).bind fun w2 =>
   (mm_gI w2 o 4 11).bind fun x3 =>
   if 8 = 0 then none else
   if a1 = 0 then none else
   some (some (.inl (mm_irem (mm_idiv x3 8) a1)), w2) :=
  (mm_run_eq (P := zP Z) (y := 44) z_cd44 rfl (l := [some (.inr (.inr (some o))), some (.inl a1)]) rfl [] 21 w).trans rfl

-- ThornSchool$SchoolReader.<init>(LThornSchool$Text;)V
set_option maxRecDepth 100000 in
set_option maxHeartbeats 4000000 in
theorem B_X6_init (Z : mX) (o : Nat) (a1 : Option Nat) (w : mW) : mm_run (zP Z) 80 [.inr (.inr (some o)), .inr (.inr a1)] w =
  if mm_cls (mm_alloc w (.inl (5, z_defs 5)) 18) w.2.1 = 5 then
   (mm_kV (mm_run (zP Z) 45 [.inr (.inr (some w.2.1))] (mm_alloc w (.inl (5, z_defs 5)) 18)) fun w1 =>
  (mm_p w1 o 6 1 (.inr (.inr (some w.2.1)))).bind fun w2 =>
  (mm_p w2 o 6 0 (.inr (.inr a1))).bind fun w3 =>
  some (none, w3))
  else none :=
  (mm_run_eq (P := zP Z) (y := 80) z_cd80 rfl (l := [some (.inr (.inr (some o))), some (.inr (.inr a1))]) rfl [] 12 w).trans rfl

-- ThornSchool$SchoolReader.readAll()Z
set_option maxRecDepth 100000 in
set_option maxHeartbeats 4000000 in
theorem B_X6_readAll (Z : mX) (o : Nat) (w : mW) : mm_run (zP Z) 81 [.inr (.inr (some o))] w =
  (mm_gR w o 6 1).bind fun r1 =>
  r1.bind fun q2 =>
  if mm_cls w q2 = 5 then
   (mm_kV (mm_run (zP Z) 46 [.inr (.inr (some q2))] w) fun w3 =>
  if 0 = 0 ∨ 0 = 1 then
   ((mm_p w3 o 6 2 (.inl 0)).bind fun w4 =>
  if 0 = 0 ∨ 0 = 1 then
   ((mm_p w4 o 6 3 (.inl 0)).bind fun w5 =>
  if 0 = 0 ∨ 0 = 1 then
   ((mm_p w5 o 6 4 (.inl 0)).bind fun w6 =>
  mm_at (zP Z) 81 14 [some (.inr (.inr (some o))), some (.inl 0)] [] w6)
  else none)
  else none)
  else none)
  else none :=
  (mm_run_eq (P := zP Z) (y := 81) z_cd81 rfl (l := [some (.inr (.inr (some o))), none]) rfl [14] 15 w).trans rfl

set_option maxRecDepth 100000 in
set_option maxHeartbeats 4000000 in
theorem B_X6_readAll_14 (Z : mX) (o : Nat) (l1 : Int) (w : mW) : mm_at (zP Z) 81 14 [some (.inr (.inr (some o))), some (.inl l1)] [] w =
  if l1 < 900 then
   (mm_gR w o 6 0).bind fun r1 =>
   r1.bind fun q2 =>
   (mm_gI w q2 7 5).bind fun x3 =>
   if x3 = 0 then
    some (some (.inl 1), w)
   else
    if mm_cls w o = 6 then
     (mm_kI (mm_run (zP Z) 82 [.inr (.inr (some o))] w) fun x5 w4 =>
    if x5 = 0 then
     some (some (.inl 0), w4)
    else
     mm_at (zP Z) 81 14 [some (.inr (.inr (some o))), some (.inl (mm_w32 (l1 + 1)))] [] w4)
    else none
  else
   some (some (.inl 1), w) :=
  (mm_V_eq (P := zP Z) (y := 81) z_cd81 [14] 13 14 _ _ w).trans rfl

-- ThornSchool$SchoolReader.readPart()Z
set_option maxRecDepth 100000 in
set_option maxHeartbeats 4000000 in
theorem B_X6_readPart (Z : mX) (o : Nat) (w : mW) : mm_run (zP Z) 82 [.inr (.inr (some o))] w =
  (mm_gR w o 6 0).bind fun r1 =>
  r1.bind fun q2 =>
  (mm_gI w q2 7 5).bind fun x3 =>
  if x3 = 2 then
   (mm_gR w o 6 0).bind fun r4 =>
   r4.bind fun q5 =>
   (mm_gI w q5 7 6).bind fun x6 =>
   if x6 = 0 then
    if mm_cls w o = 6 then
     (mm_kI (mm_run (zP Z) 83 [.inr (.inr (some o))] w) fun x8 w7 =>
    if x8 = 0 ∨ x8 = 1 then some (some (.inl x8), w7) else none)
    else none
   else if x6 = 1 then
    (mm_gR w o 6 0).bind fun r9 =>
    r9.bind fun q10 =>
    if mm_cls w q10 = 7 then
     (mm_kI (mm_run (zP Z) 104 [.inr (.inr (some q10))] w) fun x12 w11 =>
    if x12 = 0 ∨ x12 = 1 then some (some (.inl x12), w11) else none)
    else none
   else if x6 = 2 then
    if mm_cls w o = 6 then
     (mm_kI (mm_run (zP Z) 84 [.inr (.inr (some o))] w) fun x14 w13 =>
    if x14 = 0 ∨ x14 = 1 then some (some (.inl x14), w13) else none)
    else none
   else if x6 = 3 then
    (mm_gR w o 6 1).bind fun r15 =>
    r15.bind fun q16 =>
    (mm_gR w q16 5 4).bind fun r17 =>
    if mm_cls w o = 6 then
     (mm_kI (mm_run (zP Z) 85 [.inr (.inr (some o)), .inr (.inr r17)] w) fun x19 w18 =>
    if x19 = 0 ∨ x19 = 1 then some (some (.inl x19), w18) else none)
    else none
   else if x6 = 4 then
    (mm_gR w o 6 1).bind fun r20 =>
    r20.bind fun q21 =>
    (mm_gR w q21 5 5).bind fun r22 =>
    if mm_cls w o = 6 then
     (mm_kI (mm_run (zP Z) 85 [.inr (.inr (some o)), .inr (.inr r22)] w) fun x24 w23 =>
    if x24 = 0 ∨ x24 = 1 then some (some (.inl x24), w23) else none)
    else none
   else if x6 = 5 then
    if mm_cls w o = 6 then
     (mm_kI (mm_run (zP Z) 86 [.inr (.inr (some o))] w) fun x26 w25 =>
    if x26 = 0 ∨ x26 = 1 then some (some (.inl x26), w25) else none)
    else none
   else if x6 = 6 then
    (mm_gR w o 6 0).bind fun r27 =>
    r27.bind fun q28 =>
    if mm_cls w q28 = 7 then
     (mm_kI (mm_run (zP Z) 104 [.inr (.inr (some q28))] w) fun x30 w29 =>
    if x30 = 0 ∨ x30 = 1 then some (some (.inl x30), w29) else none)
    else none
   else if x6 = 7 then
    (mm_gR w o 6 0).bind fun r31 =>
    r31.bind fun q32 =>
    if mm_cls w q32 = 7 then
     (mm_kI (mm_run (zP Z) 104 [.inr (.inr (some q32))] w) fun x34 w33 =>
    if x34 = 0 ∨ x34 = 1 then some (some (.inl x34), w33) else none)
    else none
   else if x6 = 8 then
    if mm_cls w o = 6 then
     (mm_kI (mm_run (zP Z) 87 [.inr (.inr (some o))] w) fun x36 w35 =>
    if x36 = 0 ∨ x36 = 1 then some (some (.inl x36), w35) else none)
    else none
   else (mm_gR w o 6 0).bind fun r37 =>
    r37.bind fun q38 =>
    if mm_cls w q38 = 7 then
     (mm_kI (mm_run (zP Z) 104 [.inr (.inr (some q38))] w) fun x40 w39 =>
    if x40 = 0 ∨ x40 = 1 then some (some (.inl x40), w39) else none)
    else none
  else
   (mm_gR w o 6 0).bind fun r41 =>
   r41.bind fun q42 =>
   if mm_cls w q42 = 7 then
    (mm_kI (mm_run (zP Z) 104 [.inr (.inr (some q42))] w) fun x44 w43 =>
   if x44 = 0 ∨ x44 = 1 then some (some (.inl x44), w43) else none)
   else none :=
  (mm_run_eq (P := zP Z) (y := 82) z_cd82 rfl (l := [some (.inr (.inr (some o)))]) rfl [] 16 w).trans rfl

-- ThornSchool$SchoolReader.readThicket()Z
set_option maxRecDepth 100000 in
set_option maxHeartbeats 4000000 in
theorem B_X6_readThicket (Z : mX) (o : Nat) (w : mW) : mm_run (zP Z) 83 [.inr (.inr (some o))] w =
  (mm_gI w o 6 2).bind fun x1 =>
  if x1 = 0 then
   (mm_gI w o 6 4).bind fun x6 =>
   if x6 = 0 then
    if 1 = 0 ∨ 1 = 1 then
     ((mm_p w o 6 2 (.inl 1)).bind fun w7 =>
    (mm_gR w7 o 6 0).bind fun r8 =>
    r8.bind fun q9 =>
    if mm_cls w7 q9 = 7 then
     (mm_kV (mm_run (zP Z) 94 [.inr (.inr (some q9))] w7) fun w10 =>
    (mm_gR w10 o 6 0).bind fun r11 =>
    r11.bind fun q12 =>
    if mm_cls w10 q12 = 7 then
     (mm_kI (mm_run (zP Z) 107 [.inr (.inr (some q12)), .inl 1, .inl 5] w10) fun x14 w13 =>
    if x14 = 0 then
     some (some (.inl 0), w13)
    else
     (mm_gR w13 o 6 1).bind fun r15 =>
     (mm_gR w13 o 6 0).bind fun r16 =>
     r16.bind fun q17 =>
     (mm_gI w13 q17 7 8).bind fun x18 =>
     r15.bind fun q19 =>
     (mm_p w13 q19 5 0 (.inl x18)).bind fun w20 =>
     (mm_gR w20 o 6 0).bind fun r21 =>
     r21.bind fun q22 =>
     if mm_cls w20 q22 = 7 then
      (mm_kI (mm_run (zP Z) 105 [.inr (.inr (some q22)), .inl 1] w20) fun x24 w23 =>
     if x24 = 0 then
      some (some (.inl 0), w23)
     else
      (mm_gR w23 o 6 0).bind fun r25 =>
      r25.bind fun q26 =>
      if mm_cls w23 q26 = 7 then
       (mm_kI (mm_run (zP Z) 107 [.inr (.inr (some q26)), .inl 1, .inl 5] w23) fun x28 w27 =>
      if x28 = 0 then
       some (some (.inl 0), w27)
      else
       (mm_gR w27 o 6 1).bind fun r29 =>
       (mm_gR w27 o 6 0).bind fun r30 =>
       r30.bind fun q31 =>
       (mm_gI w27 q31 7 8).bind fun x32 =>
       r29.bind fun q33 =>
       (mm_p w27 q33 5 1 (.inl x32)).bind fun w34 =>
       (mm_gR w34 o 6 0).bind fun r35 =>
       r35.bind fun q36 =>
       if mm_cls w34 q36 = 7 then
        (mm_kI (mm_run (zP Z) 106 [.inr (.inr (some q36))] w34) fun x38 w37 =>
       if x38 = 0 ∨ x38 = 1 then some (some (.inl x38), w37) else none)
       else none)
      else none)
     else none)
    else none)
    else none)
    else none
   else
    (mm_gR w o 6 0).bind fun r39 =>
    r39.bind fun q40 =>
    if mm_cls w q40 = 7 then
     (mm_kI (mm_run (zP Z) 103 [.inr (.inr (some q40)), .inl 5] w) fun x42 w41 =>
    if x42 = 0 ∨ x42 = 1 then some (some (.inl x42), w41) else none)
    else none
  else
   (mm_gR w o 6 0).bind fun r2 =>
   r2.bind fun q3 =>
   if mm_cls w q3 = 7 then
    (mm_kI (mm_run (zP Z) 103 [.inr (.inr (some q3)), .inl 5] w) fun x5 w4 =>
   if x5 = 0 ∨ x5 = 1 then some (some (.inl x5), w4) else none)
   else none :=
  (mm_run_eq (P := zP Z) (y := 83) z_cd83 rfl (l := [some (.inr (.inr (some o)))]) rfl [] 46 w).trans rfl

-- ThornSchool$SchoolReader.readOdds()Z
set_option maxRecDepth 100000 in
set_option maxHeartbeats 4000000 in
theorem B_X6_readOdds (Z : mX) (o : Nat) (w : mW) : mm_run (zP Z) 84 [.inr (.inr (some o))] w =
  (mm_gI w o 6 3).bind fun x1 =>
  if x1 = 0 then
   if 1 = 0 ∨ 1 = 1 then
    ((mm_p w o 6 3 (.inl 1)).bind fun w2 =>
   (mm_gR w2 o 6 0).bind fun r3 =>
   r3.bind fun q4 =>
   if mm_cls w2 q4 = 7 then
    (mm_kV (mm_run (zP Z) 94 [.inr (.inr (some q4))] w2) fun w5 =>
   (mm_gR w5 o 6 0).bind fun r6 =>
   r6.bind fun q7 =>
   if mm_cls w5 q7 = 7 then
    (mm_kI (mm_run (zP Z) 107 [.inr (.inr (some q7)), .inl 0, .inl 16] w5) fun x9 w8 =>
   if x9 = 0 then
    some (some (.inl 0), w8)
   else
    (mm_gR w8 o 6 1).bind fun r10 =>
    (mm_gR w8 o 6 0).bind fun r11 =>
    r11.bind fun q12 =>
    (mm_gI w8 q12 7 8).bind fun x13 =>
    r10.bind fun q14 =>
    (mm_p w8 q14 5 2 (.inl x13)).bind fun w15 =>
    (mm_gR w15 o 6 0).bind fun r16 =>
    r16.bind fun q17 =>
    if mm_cls w15 q17 = 7 then
     (mm_kI (mm_run (zP Z) 106 [.inr (.inr (some q17))] w15) fun x19 w18 =>
    if x19 = 0 ∨ x19 = 1 then some (some (.inl x19), w18) else none)
    else none)
   else none)
   else none)
   else none
  else
   (mm_gR w o 6 0).bind fun r20 =>
   r20.bind fun q21 =>
   if mm_cls w q21 = 7 then
    (mm_kI (mm_run (zP Z) 103 [.inr (.inr (some q21)), .inl 5] w) fun x23 w22 =>
   if x23 = 0 ∨ x23 = 1 then some (some (.inl x23), w22) else none)
   else none :=
  (mm_run_eq (P := zP Z) (y := 84) z_cd84 rfl (l := [some (.inr (.inr (some o)))]) rfl [] 26 w).trans rfl

-- ThornSchool$SchoolReader.readGrown([I)Z
set_option maxRecDepth 100000 in
set_option maxHeartbeats 4000000 in
theorem B_X6_readGrown (Z : mX) (o : Nat) (a1 : Option Nat) (w : mW) : mm_run (zP Z) 85 [.inr (.inr (some o)), .inr (.inr a1)] w =
  if 1 = 0 ∨ 1 = 1 then
   ((mm_p w o 6 4 (.inl 1)).bind fun w1 =>
  (mm_gR w1 o 6 0).bind fun r2 =>
  r2.bind fun q3 =>
  if mm_cls w1 q3 = 7 then
   (mm_kV (mm_run (zP Z) 94 [.inr (.inr (some q3))] w1) fun w4 =>
  (mm_gR w4 o 6 0).bind fun r5 =>
  (mm_gR w4 o 6 1).bind fun r6 =>
  r6.bind fun q7 =>
  if mm_cls w4 q7 = 5 then
   (mm_kI (mm_run (zP Z) 48 [.inr (.inr (some q7))] w4) fun x9 w8 =>
  r5.bind fun q10 =>
  if mm_cls w8 q10 = 7 then
   (mm_kI (mm_run (zP Z) 107 [.inr (.inr (some q10)), .inl 0, .inl (mm_w32 (x9 - 1))] w8) fun x12 w11 =>
  if x12 = 0 then
   some (some (.inl 0), w11)
  else
   (mm_gR w11 o 6 0).bind fun r13 =>
   r13.bind fun q14 =>
   (mm_gI w11 q14 7 8).bind fun x15 =>
   (mm_gR w11 o 6 0).bind fun r16 =>
   r16.bind fun q17 =>
   if mm_cls w11 q17 = 7 then
    (mm_kI (mm_run (zP Z) 107 [.inr (.inr (some q17)), .inl 0, .inl 9] w11) fun x19 w18 =>
   if x19 = 0 then
    some (some (.inl 0), w18)
   else
    (mm_gR w18 o 6 0).bind fun r20 =>
    r20.bind fun q21 =>
    (mm_gI w18 q21 7 8).bind fun x22 =>
    mm_kV (mm_run (zP Z) 200 [.inr (.inr a1), .inl x15, .inl x22] w18) fun w23 =>
    (mm_gR w23 o 6 0).bind fun r24 =>
    r24.bind fun q25 =>
    if mm_cls w23 q25 = 7 then
     (mm_kI (mm_run (zP Z) 106 [.inr (.inr (some q25))] w23) fun x27 w26 =>
    if x27 = 0 ∨ x27 = 1 then some (some (.inl x27), w26) else none)
    else none)
   else none)
  else none)
  else none)
  else none)
  else none :=
  (mm_run_eq (P := zP Z) (y := 85) z_cd85 rfl (l := [some (.inr (.inr (some o))), some (.inr (.inr a1)), none]) rfl [] 37 w).trans rfl

-- ThornSchool$SchoolReader.readLesson()Z
set_option maxRecDepth 100000 in
set_option maxHeartbeats 4000000 in
theorem B_X6_readLesson (Z : mX) (o : Nat) (w : mW) : mm_run (zP Z) 86 [.inr (.inr (some o))] w =
  (mm_gR w o 6 1).bind fun r1 =>
  r1.bind fun q2 =>
  (mm_gI w q2 5 6).bind fun x3 =>
  if x3 < 7 then
   (mm_gR w o 6 0).bind fun r4 =>
   r4.bind fun q5 =>
   if mm_cls w q5 = 7 then
    (mm_kV (mm_run (zP Z) 94 [.inr (.inr (some q5))] w) fun w6 =>
   if mm_cls w6 o = 6 then
    (mm_kI (mm_run (zP Z) 88 [.inr (.inr (some o))] w6) fun x8 w7 =>
   if x8 = 0 then
    some (some (.inl 0), w7)
   else
    (mm_gR w7 o 6 0).bind fun r9 =>
    r9.bind fun q10 =>
    if mm_cls w7 q10 = 7 then
     (mm_kI (mm_run (zP Z) 105 [.inr (.inr (some q10)), .inl 6] w7) fun x12 w11 =>
    if x12 = 0 then
     some (some (.inl 0), w11)
    else
     (mm_gR w11 o 6 0).bind fun r13 =>
     r13.bind fun q14 =>
     if mm_cls w11 q14 = 7 then
      (mm_kI (mm_run (zP Z) 107 [.inr (.inr (some q14)), .inl 1, .inl 9] w11) fun x16 w15 =>
     if x16 = 0 then
      some (some (.inl 0), w15)
     else
      (mm_gR w15 o 6 0).bind fun r17 =>
      r17.bind fun q18 =>
      (mm_gI w15 q18 7 8).bind fun x19 =>
      if mm_cls w15 o = 6 then
       (mm_kI (mm_run (zP Z) 89 [.inr (.inr (some o)), .inl 7] w15) fun x21 w20 =>
      if x21 = 0 then
       some (some (.inl 0), w20)
      else
       (mm_gR w20 o 6 0).bind fun r22 =>
       r22.bind fun q23 =>
       if mm_cls w20 q23 = 7 then
        (mm_kI (mm_run (zP Z) 106 [.inr (.inr (some q23))] w20) fun x25 w24 =>
       if x25 = 0 then
        some (some (.inl 0), w24)
       else
        (mm_gR w24 o 6 1).bind fun r26 =>
        (mm_gI w24 o 6 6).bind fun x27 =>
        (mm_gJ w24 o 6 5).bind fun x28 =>
        r26.bind fun q29 =>
        if mm_cls w24 q29 = 5 then
         (mm_kV (mm_run (zP Z) 55 [.inr (.inr (some q29)), .inl x19, .inl x27, .inr (.inl x28)] w24) fun w30 =>
        some (some (.inl 1), w30))
        else none)
       else none)
      else none)
     else none)
    else none)
   else none)
   else none
  else
   (mm_gR w o 6 0).bind fun r31 =>
   r31.bind fun q32 =>
   if mm_cls w q32 = 7 then
    (mm_kI (mm_run (zP Z) 103 [.inr (.inr (some q32)), .inl 6] w) fun x34 w33 =>
   if x34 = 0 ∨ x34 = 1 then some (some (.inl x34), w33) else none)
   else none :=
  (mm_run_eq (P := zP Z) (y := 86) z_cd86 rfl (l := [some (.inr (.inr (some o))), none]) rfl [] 45 w).trans rfl

-- ThornSchool$SchoolReader.readPupil()Z
set_option maxRecDepth 100000 in
set_option maxHeartbeats 4000000 in
theorem B_X6_readPupil (Z : mX) (o : Nat) (w : mW) : mm_run (zP Z) 87 [.inr (.inr (some o))] w =
  (mm_gR w o 6 1).bind fun r1 =>
  r1.bind fun q2 =>
  (mm_gI w q2 5 10).bind fun x3 =>
  if x3 < 5 then
   if 1 = 0 ∨ 1 = 1 then
    ((mm_p w o 6 4 (.inl 1)).bind fun w4 =>
   (mm_gR w4 o 6 0).bind fun r5 =>
   r5.bind fun q6 =>
   if mm_cls w4 q6 = 7 then
    (mm_kV (mm_run (zP Z) 94 [.inr (.inr (some q6))] w4) fun w7 =>
   if mm_cls w7 o = 6 then
    (mm_kI (mm_run (zP Z) 88 [.inr (.inr (some o))] w7) fun x9 w8 =>
   if x9 = 0 then
    some (some (.inl 0), w8)
   else
    (mm_gR w8 o 6 0).bind fun r10 =>
    r10.bind fun q11 =>
    if mm_cls w8 q11 = 7 then
     (mm_kI (mm_run (zP Z) 105 [.inr (.inr (some q11)), .inl 9] w8) fun x13 w12 =>
    if x13 = 0 then
     some (some (.inl 0), w12)
    else
     (mm_gR w12 o 6 0).bind fun r14 =>
     (mm_gR w12 o 6 1).bind fun r15 =>
     r15.bind fun q16 =>
     if mm_cls w12 q16 = 5 then
      (mm_kI (mm_run (zP Z) 48 [.inr (.inr (some q16))] w12) fun x18 w17 =>
     r14.bind fun q19 =>
     if mm_cls w17 q19 = 7 then
      (mm_kI (mm_run (zP Z) 107 [.inr (.inr (some q19)), .inl 0, .inl (mm_w32 (x18 - 1))] w17) fun x21 w20 =>
     if x21 = 0 then
      some (some (.inl 0), w20)
     else
      (mm_gR w20 o 6 0).bind fun r22 =>
      r22.bind fun q23 =>
      (mm_gI w20 q23 7 8).bind fun x24 =>
      (mm_gR w20 o 6 0).bind fun r25 =>
      r25.bind fun q26 =>
      if mm_cls w20 q26 = 7 then
       (mm_kI (mm_run (zP Z) 102 [.inr (.inr (some q26)), .inl 10] w20) fun x28 w27 =>
      if x28 = 0 then
       mm_at (zP Z) 87 64 [some (.inr (.inr (some o))), some (.inl x24), some (.inl 0)] [] w27
      else
       (mm_gR w27 o 6 0).bind fun r29 =>
       r29.bind fun q30 =>
       if mm_cls w27 q30 = 7 then
        (mm_kV (mm_run (zP Z) 94 [.inr (.inr (some q30))] w27) fun w31 =>
       (mm_gR w31 o 6 0).bind fun r32 =>
       r32.bind fun q33 =>
       if mm_cls w31 q33 = 7 then
        (mm_kI (mm_run (zP Z) 107 [.inr (.inr (some q33)), .inl 0, .inl 9] w31) fun x35 w34 =>
       if x35 = 0 then
        some (some (.inl 0), w34)
       else
        (mm_gR w34 o 6 0).bind fun r36 =>
        r36.bind fun q37 =>
        (mm_gI w34 q37 7 8).bind fun x38 =>
        mm_at (zP Z) 87 64 [some (.inr (.inr (some o))), some (.inl x24), some (.inl x38)] [] w34)
       else none)
       else none)
      else none)
     else none)
     else none)
    else none)
   else none)
   else none)
   else none
  else
   (mm_gR w o 6 0).bind fun r39 =>
   r39.bind fun q40 =>
   if mm_cls w q40 = 7 then
    (mm_kI (mm_run (zP Z) 103 [.inr (.inr (some q40)), .inl 6] w) fun x42 w41 =>
   if x42 = 0 ∨ x42 = 1 then some (some (.inl x42), w41) else none)
   else none :=
  (mm_run_eq (P := zP Z) (y := 87) z_cd87 rfl (l := [some (.inr (.inr (some o))), none, none]) rfl [64] 54 w).trans rfl

set_option maxRecDepth 100000 in
set_option maxHeartbeats 4000000 in
theorem B_X6_readPupil_64 (Z : mX) (o : Nat) (l1 : Int) (l2 : Int) (w : mW) : mm_at (zP Z) 87 64 [some (.inr (.inr (some o))), some (.inl l1), some (.inl l2)] [] w =
  if mm_cls w o = 6 then
   (mm_kI (mm_run (zP Z) 89 [.inr (.inr (some o)), .inl 11] w) fun x2 w1 =>
  if x2 = 0 then
   some (some (.inl 0), w1)
  else
   (mm_gR w1 o 6 0).bind fun r3 =>
   r3.bind fun q4 =>
   if mm_cls w1 q4 = 7 then
    (mm_kI (mm_run (zP Z) 106 [.inr (.inr (some q4))] w1) fun x6 w5 =>
   if x6 = 0 then
    some (some (.inl 0), w5)
   else
    (mm_gR w5 o 6 1).bind fun r7 =>
    (mm_gI w5 o 6 6).bind fun x8 =>
    (mm_gJ w5 o 6 5).bind fun x9 =>
    r7.bind fun q10 =>
    if mm_cls w5 q10 = 5 then
     (mm_kV (mm_run (zP Z) 56 [.inr (.inr (some q10)), .inl l1, .inl l2, .inl x8, .inr (.inl x9)] w5) fun w11 =>
    some (some (.inl 1), w11))
    else none)
   else none)
  else none :=
  (mm_V_eq (P := zP Z) (y := 87) z_cd87 [64] 20 64 _ _ w).trans rfl

-- ThornSchool$SchoolReader.takesNewName()Z
set_option maxRecDepth 100000 in
set_option maxHeartbeats 4000000 in
theorem B_X6_takesNewName (Z : mX) (o : Nat) (w : mW) : mm_run (zP Z) 88 [.inr (.inr (some o))] w =
  (mm_gR w o 6 0).bind fun r1 =>
  r1.bind fun q2 =>
  (mm_gI w q2 7 5).bind fun x3 =>
  if x3 = 3 then
   (mm_gR w o 6 1).bind fun r4 =>
   (mm_gR w o 6 0).bind fun r5 =>
   r5.bind fun q6 =>
   (mm_gJ w q6 7 7).bind fun x7 =>
   r4.bind fun q8 =>
   if mm_cls w q8 = 5 then
    (mm_kI (mm_run (zP Z) 53 [.inr (.inr (some q8)), .inr (.inl x7)] w) fun x10 w9 =>
   if x10 = (-1) then
    (mm_gR w9 o 6 1).bind fun r15 =>
    (mm_gR w9 o 6 0).bind fun r16 =>
    r16.bind fun q17 =>
    (mm_gJ w9 q17 7 7).bind fun x18 =>
    r15.bind fun q19 =>
    if mm_cls w9 q19 = 5 then
     (mm_kI (mm_run (zP Z) 54 [.inr (.inr (some q19)), .inr (.inl x18)] w9) fun x21 w20 =>
    if x21 = (-1) then
     (mm_gR w20 o 6 0).bind fun r22 =>
     r22.bind fun q23 =>
     (mm_gJ w20 q23 7 7).bind fun x24 =>
     (mm_p w20 o 6 5 (.inr (.inl x24))).bind fun w25 =>
     (mm_gR w25 o 6 0).bind fun r26 =>
     r26.bind fun q27 =>
     if mm_cls w25 q27 = 7 then
      (mm_kV (mm_run (zP Z) 94 [.inr (.inr (some q27))] w25) fun w28 =>
     some (some (.inl 1), w28))
     else none
    else
     (mm_gR w20 o 6 0).bind fun r29 =>
     r29.bind fun q30 =>
     if mm_cls w20 q30 = 7 then
      (mm_kI (mm_run (zP Z) 103 [.inr (.inr (some q30)), .inl 3] w20) fun x32 w31 =>
     if x32 = 0 ∨ x32 = 1 then some (some (.inl x32), w31) else none)
     else none)
    else none
   else
    (mm_gR w9 o 6 0).bind fun r11 =>
    r11.bind fun q12 =>
    if mm_cls w9 q12 = 7 then
     (mm_kI (mm_run (zP Z) 103 [.inr (.inr (some q12)), .inl 3] w9) fun x14 w13 =>
    if x14 = 0 ∨ x14 = 1 then some (some (.inl x14), w13) else none)
    else none)
   else none
  else
   (mm_gR w o 6 0).bind fun r33 =>
   r33.bind fun q34 =>
   if mm_cls w q34 = 7 then
    (mm_kI (mm_run (zP Z) 104 [.inr (.inr (some q34))] w) fun x36 w35 =>
   if x36 = 0 ∨ x36 = 1 then some (some (.inl x36), w35) else none)
   else none :=
  (mm_run_eq (P := zP Z) (y := 88) z_cd88 rfl (l := [some (.inr (.inr (some o)))]) rfl [] 32 w).trans rfl

-- ThornSchool$SchoolReader.takesLessonsBehind(I)Z
set_option maxRecDepth 100000 in
set_option maxHeartbeats 4000000 in
theorem B_X6_takesLessonsBehind (Z : mX) (o : Nat) (a1 : Int) (w : mW) : mm_run (zP Z) 89 [.inr (.inr (some o)), .inl a1] w =
  (mm_p w o 6 6 (.inl 0)).bind fun w1 =>
  (mm_gR w1 o 6 0).bind fun r2 =>
  r2.bind fun q3 =>
  if mm_cls w1 q3 = 7 then
   (mm_kI (mm_run (zP Z) 102 [.inr (.inr (some q3)), .inl a1] w1) fun x5 w4 =>
  if x5 = 0 then
   some (some (.inl 1), w4)
  else
   (mm_gR w4 o 6 0).bind fun r6 =>
   r6.bind fun q7 =>
   if mm_cls w4 q7 = 7 then
    (mm_kV (mm_run (zP Z) 94 [.inr (.inr (some q7))] w4) fun w8 =>
   mm_at (zP Z) 89 15 [some (.inr (.inr (some o))), none, some (.inl 0), none] [] w8)
   else none)
  else none :=
  (mm_run_eq (P := zP Z) (y := 89) z_cd89 rfl (l := [some (.inr (.inr (some o))), some (.inl a1), none, none]) rfl [15] 14 w).trans rfl

set_option maxRecDepth 100000 in
set_option maxHeartbeats 4000000 in
theorem B_X6_takesLessonsBehind_15 (Z : mX) (o : Nat) (l2 : Int) (w : mW) : mm_at (zP Z) 89 15 [some (.inr (.inr (some o))), none, some (.inl l2), none] [] w =
  if 7 < l2 then
   some (some (.inl 1), w)
  else
   (mm_gR w o 6 0).bind fun r1 =>
   r1.bind fun q2 =>
   (mm_gI w q2 7 5).bind fun x3 =>
   if x3 = 3 then
    (mm_gR w o 6 1).bind fun r4 =>
    (mm_gR w o 6 0).bind fun r5 =>
    r5.bind fun q6 =>
    (mm_gJ w q6 7 7).bind fun x7 =>
    r4.bind fun q8 =>
    if mm_cls w q8 = 5 then
     (mm_kI (mm_run (zP Z) 53 [.inr (.inr (some q8)), .inr (.inl x7)] w) fun x10 w9 =>
    if x10 = (-1) then
     (mm_gR w9 o 6 0).bind fun r25 =>
     r25.bind fun q26 =>
     if mm_cls w9 q26 = 7 then
      (mm_kI (mm_run (zP Z) 103 [.inr (.inr (some q26)), .inl 3] w9) fun x28 w27 =>
     if x28 = 0 ∨ x28 = 1 then some (some (.inl x28), w27) else none)
     else none
    else
     (mm_gI w9 o 6 6).bind fun x11 =>
     mm_kI (mm_run (zP Z) 207 [.inl x11, .inl x10] w9) fun x13 w12 =>
     if x13 = 0 then
      (mm_gI w12 o 6 6).bind fun x14 =>
      mm_kI (mm_run (zP Z) 206 [.inl x10] w12) fun x16 w15 =>
      (mm_p w15 o 6 6 (.inl (mm_ior x14 x16))).bind fun w17 =>
      (mm_gR w17 o 6 0).bind fun r18 =>
      r18.bind fun q19 =>
      if mm_cls w17 q19 = 7 then
       (mm_kV (mm_run (zP Z) 94 [.inr (.inr (some q19))] w17) fun w20 =>
      mm_at (zP Z) 89 15 [some (.inr (.inr (some o))), none, some (.inl (mm_w32 (l2 + 1))), none] [] w20)
      else none
     else
      (mm_gR w12 o 6 0).bind fun r21 =>
      r21.bind fun q22 =>
      if mm_cls w12 q22 = 7 then
       (mm_kI (mm_run (zP Z) 103 [.inr (.inr (some q22)), .inl 5] w12) fun x24 w23 =>
      if x24 = 0 ∨ x24 = 1 then some (some (.inl x24), w23) else none)
      else none)
    else none
   else
    some (some (.inl 1), w) :=
  (mm_V_eq (P := zP Z) (y := 89) z_cd89 [15] 36 15 _ _ w).trans rfl

-- ThornSchool$Text.<init>()V
set_option maxRecDepth 100000 in
set_option maxHeartbeats 4000000 in
theorem B_X7_init (Z : mX) (o : Nat) (w : mW) : mm_run (zP Z) 90 [.inr (.inr (some o))] w =
  if 900 < 0 ∨ 100000 < 900 then none else
  (mm_p (mm_alloc w (.inr (0, Int.toNat 900, fun _ => 0)) (Int.toNat 900)) o 7 0 (.inr (.inr (some w.2.1)))).bind fun w1 =>
  (mm_p w1 o 7 9 (.inl (-1))).bind fun w2 =>
  (mm_p w2 o 7 10 (.inl (-1))).bind fun w3 =>
  some (none, w3) :=
  (mm_run_eq (P := zP Z) (y := 90) z_cd90 rfl (l := [some (.inr (.inr (some o)))]) rfl [] 14 w).trans rfl

-- ThornSchool$Text.hasRoom()Z
set_option maxRecDepth 100000 in
set_option maxHeartbeats 4000000 in
theorem B_X7_hasRoom (Z : mX) (o : Nat) (w : mW) : mm_run (zP Z) 91 [.inr (.inr (some o))] w =
  (mm_gI w o 7 4).bind fun x1 =>
  if 900 < mm_w32 (x1 + 20) then
   some (some (.inl 0), w)
  else
   some (some (.inl 1), w) :=
  (mm_run_eq (P := zP Z) (y := 91) z_cd91 rfl (l := [some (.inr (.inr (some o)))]) rfl [] 10 w).trans rfl

-- ThornSchool$Text.addInt(I)V
set_option maxRecDepth 100000 in
set_option maxHeartbeats 4000000 in
theorem B_X7_addInt (Z : mX) (o : Nat) (a1 : Int) (w : mW) : mm_run (zP Z) 92 [.inr (.inr (some o)), .inl a1] w =
  mm_at (zP Z) 92 2 [some (.inr (.inr (some o))), some (.inl a1), some (.inl 24)] [] w :=
  (mm_run_eq (P := zP Z) (y := 92) z_cd92 rfl (l := [some (.inr (.inr (some o))), some (.inl a1), none]) rfl [2] 3 w).trans rfl

set_option maxRecDepth 100000 in
set_option maxHeartbeats 4000000 in
theorem B_X7_addInt_2 (Z : mX) (o : Nat) (l1 : Int) (l2 : Int) (w : mW) : mm_at (zP Z) 92 2 [some (.inr (.inr (some o))), some (.inl l1), some (.inl l2)] [] w =
  if l2 < 0 then
   some (none, w)
  else
   (mm_gR w o 7 0).bind fun r1 =>
   (mm_gI w o 7 4).bind fun x2 =>
   mm_kV (mm_run (zP Z) 200 [.inr (.inr r1), .inl x2, .inl (mm_iand (mm_iushr l1 l2) 255)] w) fun w3 =>
   (mm_gI w3 o 7 4).bind fun x4 =>
   (mm_p w3 o 7 4 (.inl (mm_w32 (x4 + 1)))).bind fun w5 =>
   mm_at (zP Z) 92 2 [some (.inr (.inr (some o))), some (.inl l1), some (.inl (mm_w32 (l2 + (-8))))] [] w5 :=
  (mm_V_eq (P := zP Z) (y := 92) z_cd92 [2] 21 2 _ _ w).trans rfl

-- ThornSchool$Text.begin(I)V
set_option maxRecDepth 100000 in
set_option maxHeartbeats 4000000 in
theorem B_X7_begin (Z : mX) (o : Nat) (a1 : Int) (w : mW) : mm_run (zP Z) 93 [.inr (.inr (some o)), .inl a1] w =
  (mm_p w o 7 1 (.inl a1)).bind fun w1 =>
  (mm_p w1 o 7 2 (.inl 0)).bind fun w2 =>
  (mm_p w2 o 7 4 (.inl 0)).bind fun w3 =>
  (mm_p w3 o 7 9 (.inl 0)).bind fun w4 =>
  (mm_p w4 o 7 10 (.inl (-1))).bind fun w5 =>
  if mm_cls w5 o = 7 then
   (mm_kV (mm_run (zP Z) 94 [.inr (.inr (some o))] w5) fun w6 =>
  some (none, w6))
  else none :=
  (mm_run_eq (P := zP Z) (y := 93) z_cd93 rfl (l := [some (.inr (.inr (some o))), some (.inl a1)]) rfl [] 19 w).trans rfl

-- ThornSchool$Text.advance()V
set_option maxRecDepth 100000 in
set_option maxHeartbeats 4000000 in
theorem B_X7_advance (Z : mX) (o : Nat) (w : mW) : mm_run (zP Z) 94 [.inr (.inr (some o))] w =
  (mm_gI w o 7 2).bind fun x1 =>
  (mm_gI w o 7 1).bind fun x2 =>
  if x1 < x2 then
   (mm_gR w o 7 0).bind fun r3 =>
   (mm_gI w o 7 2).bind fun x4 =>
   mm_kI (mm_run (zP Z) 199 [.inr (.inr r3), .inl x4] w) fun x6 w5 =>
   mm_kI (mm_run (zP Z) 98 [.inl x6] w5) fun x8 w7 =>
   if x8 = 0 then
    mm_at (zP Z) 94 19 [some (.inr (.inr (some o))), none] [] w7
   else
    (mm_gI w7 o 7 2).bind fun x9 =>
    (mm_p w7 o 7 2 (.inl (mm_w32 (x9 + 1)))).bind fun w10 =>
    mm_at (zP Z) 94 0 [some (.inr (.inr (some o))), none] [] w10
  else
   mm_at (zP Z) 94 19 [some (.inr (.inr (some o))), none] [] w :=
  (mm_run_eq (P := zP Z) (y := 94) z_cd94 rfl (l := [some (.inr (.inr (some o))), none]) rfl [0, 19, 52, 74, 77] 20 w).trans rfl

set_option maxRecDepth 100000 in
set_option maxHeartbeats 4000000 in
theorem B_X7_advance_19 (Z : mX) (o : Nat) (w : mW) : mm_at (zP Z) 94 19 [some (.inr (.inr (some o))), none] [] w =
  (mm_gI w o 7 2).bind fun x1 =>
  (mm_p w o 7 3 (.inl x1)).bind fun w2 =>
  (mm_gR w2 o 7 0).bind fun r3 =>
  (mm_gI w2 o 7 2).bind fun x4 =>
  mm_kI (mm_run (zP Z) 199 [.inr (.inr r3), .inl x4] w2) fun x6 w5 =>
  (mm_gI w5 o 7 2).bind fun x7 =>
  (mm_gI w5 o 7 1).bind fun x8 =>
  if x7 < x8 then
   mm_kI (mm_run (zP Z) 99 [.inl x6] w5) fun x10 w9 =>
   if x10 = 0 then
    mm_kI (mm_run (zP Z) 100 [.inl x6] w9) fun x12 w11 =>
    if x12 = 0 then
     if x6 = 59 then
      mm_at (zP Z) 94 74 [some (.inr (.inr (some o))), some (.inl x6)] [.inr (.inr (some o))] w11
     else
      mm_kI (mm_run (zP Z) 101 [.inl x6] w11) fun x14 w13 =>
      if x14 = 0 then
       mm_at (zP Z) 94 77 [some (.inr (.inr (some o))), some (.inl x6)] [.inl 1, .inr (.inr (some o))] w13
      else
       mm_at (zP Z) 94 74 [some (.inr (.inr (some o))), some (.inl x6)] [.inr (.inr (some o))] w13
    else
     if mm_cls w11 o = 7 then
      (mm_kV (mm_run (zP Z) 97 [.inr (.inr (some o))] w11) fun w15 =>
     some (none, w15))
     else none
   else
    if mm_cls w9 o = 7 then
     (mm_kV (mm_run (zP Z) 95 [.inr (.inr (some o))] w9) fun w16 =>
    (mm_gI w16 o 7 5).bind fun x17 =>
    if x17 = 3 then
     if mm_cls w16 o = 7 then
      (mm_kI (mm_run (zP Z) 96 [.inr (.inr (some o))] w16) fun x19 w18 =>
     mm_at (zP Z) 94 52 [some (.inr (.inr (some o))), none] [.inl x19, .inr (.inr (some o))] w18)
     else none
    else
     mm_at (zP Z) 94 52 [some (.inr (.inr (some o))), none] [.inl (-1), .inr (.inr (some o))] w16)
    else none
  else
   (mm_p w5 o 7 5 (.inl 0)).bind fun w20 =>
   some (none, w20) :=
  (mm_V_eq (P := zP Z) (y := 94) z_cd94 [0, 19, 52, 74, 77] 30 19 _ _ w).trans rfl

set_option maxRecDepth 100000 in
set_option maxHeartbeats 4000000 in
theorem B_X7_advance_52 (Z : mX) (o : Nat) (s0 : Option Nat) (s1 : Int) (w : mW) : mm_at (zP Z) 94 52 [some (.inr (.inr (some o))), none] [.inl s1, .inr (.inr s0)] w =
  s0.bind fun q1 =>
  (mm_p w q1 7 6 (.inl s1)).bind fun w2 =>
  (mm_gI w2 o 7 6).bind fun x3 =>
  if x3 = (-1) then
   some (none, w2)
  else
   (mm_p w2 o 7 5 (.inl 2)).bind fun w4 =>
   some (none, w4) :=
  (mm_V_eq (P := zP Z) (y := 94) z_cd94 [0, 19, 52, 74, 77] 11 52 _ _ w).trans rfl

set_option maxRecDepth 100000 in
set_option maxHeartbeats 4000000 in
theorem B_X7_advance_74 (Z : mX) (o : Nat) (l1 : Int) (s0 : Option Nat) (w : mW) : mm_at (zP Z) 94 74 [some (.inr (.inr (some o))), some (.inl l1)] [.inr (.inr s0)] w =
  mm_at (zP Z) 94 77 [some (.inr (.inr (some o))), some (.inl l1)] [.inl 6, .inr (.inr s0)] w :=
  (mm_V_eq (P := zP Z) (y := 94) z_cd94 [0, 19, 52, 74, 77] 3 74 _ _ w).trans rfl

set_option maxRecDepth 100000 in
set_option maxHeartbeats 4000000 in
theorem B_X7_advance_77 (Z : mX) (o : Nat) (l1 : Int) (s0 : Option Nat) (s1 : Int) (w : mW) : mm_at (zP Z) 94 77 [some (.inr (.inr (some o))), some (.inl l1)] [.inl s1, .inr (.inr s0)] w =
  s0.bind fun q1 =>
  (mm_p w q1 7 5 (.inl s1)).bind fun w2 =>
  (mm_p w2 o 7 6 (.inl l1)).bind fun w3 =>
  (mm_gI w3 o 7 2).bind fun x4 =>
  (mm_p w3 o 7 2 (.inl (mm_w32 (x4 + 1)))).bind fun w5 =>
  some (none, w5) :=
  (mm_V_eq (P := zP Z) (y := 94) z_cd94 [0, 19, 52, 74, 77] 12 77 _ _ w).trans rfl

-- ThornSchool$Text.scanWord()V
set_option maxRecDepth 100000 in
set_option maxHeartbeats 4000000 in
theorem B_X7_scanWord (Z : mX) (o : Nat) (w : mW) : mm_run (zP Z) 95 [.inr (.inr (some o))] w =
  (mm_p w o 7 7 (.inr (.inl 0))).bind fun w1 =>
  mm_at (zP Z) 95 5 [some (.inr (.inr (some o))), some (.inl 0)] [] w1 :=
  (mm_run_eq (P := zP Z) (y := 95) z_cd95 rfl (l := [some (.inr (.inr (some o))), none]) rfl [5, 38] 6 w).trans rfl

set_option maxRecDepth 100000 in
set_option maxHeartbeats 4000000 in
theorem B_X7_scanWord_5 (Z : mX) (o : Nat) (l1 : Int) (w : mW) : mm_at (zP Z) 95 5 [some (.inr (.inr (some o))), some (.inl l1)] [] w =
  (mm_gI w o 7 2).bind fun x1 =>
  (mm_gI w o 7 1).bind fun x2 =>
  if x1 < x2 then
   (mm_gR w o 7 0).bind fun r3 =>
   (mm_gI w o 7 2).bind fun x4 =>
   mm_kI (mm_run (zP Z) 199 [.inr (.inr r3), .inl x4] w) fun x6 w5 =>
   mm_kI (mm_run (zP Z) 99 [.inl x6] w5) fun x8 w7 =>
   if x8 = 0 then
    mm_at (zP Z) 95 38 [some (.inr (.inr (some o))), some (.inl l1)] [] w7
   else
    (mm_gJ w7 o 7 7).bind fun x9 =>
    (mm_gR w7 o 7 0).bind fun r10 =>
    (mm_gI w7 o 7 2).bind fun x11 =>
    mm_kI (mm_run (zP Z) 199 [.inr (.inr r10), .inl x11] w7) fun x13 w12 =>
    (mm_p w12 o 7 7 (.inr (.inl (mm_lor (mm_lshl x9 8) x13)))).bind fun w14 =>
    (mm_gI w14 o 7 2).bind fun x15 =>
    (mm_p w14 o 7 2 (.inl (mm_w32 (x15 + 1)))).bind fun w16 =>
    mm_at (zP Z) 95 5 [some (.inr (.inr (some o))), some (.inl (mm_w32 (l1 + 1)))] [] w16
  else
   mm_at (zP Z) 95 38 [some (.inr (.inr (some o))), some (.inl l1)] [] w :=
  (mm_V_eq (P := zP Z) (y := 95) z_cd95 [5, 38] 34 5 _ _ w).trans rfl

set_option maxRecDepth 100000 in
set_option maxHeartbeats 4000000 in
theorem B_X7_scanWord_38 (Z : mX) (o : Nat) (l1 : Int) (w : mW) : mm_at (zP Z) 95 38 [some (.inr (.inr (some o))), some (.inl l1)] [] w =
  if 8 < l1 then
   (mm_p w o 7 5 (.inl 4)).bind fun w2 =>
   some (none, w2)
  else
   (mm_p w o 7 5 (.inl 3)).bind fun w1 =>
   some (none, w1) :=
  (mm_V_eq (P := zP Z) (y := 95) z_cd95 [5, 38] 9 38 _ _ w).trans rfl

-- ThornSchool$Text.wordNumber()I
set_option maxRecDepth 100000 in
set_option maxHeartbeats 4000000 in
theorem B_X7_wordNumber (Z : mX) (o : Nat) (w : mW) : mm_run (zP Z) 96 [.inr (.inr (some o))] w =
  mm_at (zP Z) 96 6 [some (.inr (.inr (some o))), some (.inl 0), some (.inr (.inl 0)), none, some (.inl 0), none] [] w :=
  (mm_run_eq (P := zP Z) (y := 96) z_cd96 rfl (l := [some (.inr (.inr (some o))), none, none, none, none, none]) rfl [6] 7 w).trans rfl

set_option maxRecDepth 100000 in
set_option maxHeartbeats 4000000 in
theorem B_X7_wordNumber_6 (Z : mX) (o : Nat) (l1 : Int) (l2 : Int) (l4 : Int) (w : mW) : mm_at (zP Z) 96 6 [some (.inr (.inr (some o))), some (.inl l1), some (.inr (.inl l2)), none, some (.inl l4), none] [] w =
  if 0 < 2 then
   (if l4 < ((z_strs 0).length : Int) then
   if 0 < 2 ∧ 0 ≤ l4 ∧ l4 < (z_strs 0).length then
    (if (z_strs 0).getD (Int.toNat l4) 0 = 32 then
    (mm_gJ w o 7 7).bind fun x1 =>
    if mm_lcmp l2 x1 = 0 then
     some (some (.inl l1), w)
    else
     mm_at (zP Z) 96 6 [some (.inr (.inr (some o))), some (.inl (mm_w32 (l1 + 1))), some (.inr (.inl 0)), none, some (.inl (mm_w32 (l4 + 1))), none] [] w
   else
    mm_at (zP Z) 96 6 [some (.inr (.inr (some o))), some (.inl l1), some (.inr (.inl (mm_lor (mm_lshl l2 8) ((z_strs 0).getD (Int.toNat l4) 0)))), none, some (.inl (mm_w32 (l4 + 1))), none] [] w)
   else none
  else
   some (some (.inl (-1)), w))
  else none :=
  (mm_V_eq (P := zP Z) (y := 96) z_cd96 [6] 22 6 _ _ w).trans rfl

-- ThornSchool$Text.scanNumber()V
set_option maxRecDepth 100000 in
set_option maxHeartbeats 4000000 in
theorem B_X7_scanNumber (Z : mX) (o : Nat) (w : mW) : mm_run (zP Z) 97 [.inr (.inr (some o))] w =
  (mm_p w o 7 6 (.inl 0)).bind fun w1 =>
  mm_at (zP Z) 97 5 [some (.inr (.inr (some o))), some (.inl 0)] [] w1 :=
  (mm_run_eq (P := zP Z) (y := 97) z_cd97 rfl (l := [some (.inr (.inr (some o))), none]) rfl [5, 35, 42] 6 w).trans rfl

set_option maxRecDepth 100000 in
set_option maxHeartbeats 4000000 in
theorem B_X7_scanNumber_5 (Z : mX) (o : Nat) (l1 : Int) (w : mW) : mm_at (zP Z) 97 5 [some (.inr (.inr (some o))), some (.inl l1)] [] w =
  (mm_gI w o 7 2).bind fun x1 =>
  (mm_gI w o 7 1).bind fun x2 =>
  if x1 < x2 then
   (mm_gR w o 7 0).bind fun r3 =>
   (mm_gI w o 7 2).bind fun x4 =>
   mm_kI (mm_run (zP Z) 199 [.inr (.inr r3), .inl x4] w) fun x6 w5 =>
   mm_kI (mm_run (zP Z) 100 [.inl x6] w5) fun x8 w7 =>
   if x8 = 0 then
    mm_at (zP Z) 97 42 [some (.inr (.inr (some o))), some (.inl l1)] [] w7
   else
    if 4 < mm_w32 (l1 + 1) then
     mm_at (zP Z) 97 35 [some (.inr (.inr (some o))), some (.inl (mm_w32 (l1 + 1)))] [] w7
    else
     (mm_gI w7 o 7 6).bind fun x9 =>
     (mm_gR w7 o 7 0).bind fun r10 =>
     (mm_gI w7 o 7 2).bind fun x11 =>
     mm_kI (mm_run (zP Z) 199 [.inr (.inr r10), .inl x11] w7) fun x13 w12 =>
     (mm_p w12 o 7 6 (.inl (mm_w32 ((mm_w32 ((mm_w32 (x9 * 10)) + x13)) - 48)))).bind fun w14 =>
     mm_at (zP Z) 97 35 [some (.inr (.inr (some o))), some (.inl (mm_w32 (l1 + 1)))] [] w14
  else
   mm_at (zP Z) 97 42 [some (.inr (.inr (some o))), some (.inl l1)] [] w :=
  (mm_V_eq (P := zP Z) (y := 97) z_cd97 [5, 35, 42] 31 5 _ _ w).trans rfl

set_option maxRecDepth 100000 in
set_option maxHeartbeats 4000000 in
theorem B_X7_scanNumber_35 (Z : mX) (o : Nat) (l1 : Int) (w : mW) : mm_at (zP Z) 97 35 [some (.inr (.inr (some o))), some (.inl l1)] [] w =
  (mm_gI w o 7 2).bind fun x1 =>
  (mm_p w o 7 2 (.inl (mm_w32 (x1 + 1)))).bind fun w2 =>
  mm_at (zP Z) 97 5 [some (.inr (.inr (some o))), some (.inl l1)] [] w2 :=
  (mm_V_eq (P := zP Z) (y := 97) z_cd97 [5, 35, 42] 8 35 _ _ w).trans rfl

set_option maxRecDepth 100000 in
set_option maxHeartbeats 4000000 in
theorem B_X7_scanNumber_42 (Z : mX) (o : Nat) (l1 : Int) (w : mW) : mm_at (zP Z) 97 42 [some (.inr (.inr (some o))), some (.inl l1)] [] w =
  if 4 < l1 then
   (mm_p w o 7 5 (.inl 1)).bind fun w1 =>
   some (none, w1)
  else
   (mm_p w o 7 5 (.inl 5)).bind fun w2 =>
   some (none, w2) :=
  (mm_V_eq (P := zP Z) (y := 97) z_cd97 [5, 35, 42] 9 42 _ _ w).trans rfl

-- ThornSchool$Text.isBlank(I)Z
set_option maxRecDepth 100000 in
set_option maxHeartbeats 4000000 in
theorem B_X7_isBlank (Z : mX) (a0 : Int) (w : mW) : mm_run (zP Z) 98 [.inl a0] w =
  if a0 = 10 then
   some (some (.inl 1), w)
  else
   if a0 = 32 then
    some (some (.inl 1), w)
   else
    some (some (.inl 0), w) :=
  (mm_run_eq (P := zP Z) (y := 98) z_cd98 rfl (l := [some (.inl a0)]) rfl [] 10 w).trans rfl

-- ThornSchool$Text.isLetter(I)Z
set_option maxRecDepth 100000 in
set_option maxHeartbeats 4000000 in
theorem B_X7_isLetter (Z : mX) (a0 : Int) (w : mW) : mm_run (zP Z) 99 [.inl a0] w =
  if a0 < 97 then
   some (some (.inl 0), w)
  else
   if 122 < a0 then
    some (some (.inl 0), w)
   else
    some (some (.inl 1), w) :=
  (mm_run_eq (P := zP Z) (y := 99) z_cd99 rfl (l := [some (.inl a0)]) rfl [] 10 w).trans rfl

-- ThornSchool$Text.isDigit(I)Z
set_option maxRecDepth 100000 in
set_option maxHeartbeats 4000000 in
theorem B_X7_isDigit (Z : mX) (a0 : Int) (w : mW) : mm_run (zP Z) 100 [.inl a0] w =
  if a0 < 48 then
   some (some (.inl 0), w)
  else
   if 57 < a0 then
    some (some (.inl 0), w)
   else
    some (some (.inl 1), w) :=
  (mm_run_eq (P := zP Z) (y := 100) z_cd100 rfl (l := [some (.inl a0)]) rfl [] 10 w).trans rfl

-- ThornSchool$Text.isCompare(I)Z
set_option maxRecDepth 100000 in
set_option maxHeartbeats 4000000 in
theorem B_X7_isCompare (Z : mX) (a0 : Int) (w : mW) : mm_run (zP Z) 101 [.inl a0] w =
  if a0 = 60 then
   some (some (.inl 1), w)
  else
   if a0 = 62 then
    some (some (.inl 1), w)
   else
    if a0 = 61 then
     some (some (.inl 1), w)
    else
     some (some (.inl 0), w) :=
  (mm_run_eq (P := zP Z) (y := 101) z_cd101 rfl (l := [some (.inl a0)]) rfl [] 13 w).trans rfl

-- ThornSchool$Text.isWord(I)Z
set_option maxRecDepth 100000 in
set_option maxHeartbeats 4000000 in
theorem B_X7_isWord (Z : mX) (o : Nat) (a1 : Int) (w : mW) : mm_run (zP Z) 102 [.inr (.inr (some o)), .inl a1] w =
  (mm_gI w o 7 5).bind fun x1 =>
  if x1 = 2 then
   (mm_gI w o 7 6).bind fun x2 =>
   if x2 = a1 then
    some (some (.inl 1), w)
   else
    some (some (.inl 0), w)
  else
   some (some (.inl 0), w) :=
  (mm_run_eq (P := zP Z) (y := 102) z_cd102 rfl (l := [some (.inr (.inr (some o))), some (.inl a1)]) rfl [] 12 w).trans rfl

-- ThornSchool$Text.fails(I)Z
set_option maxRecDepth 100000 in
set_option maxHeartbeats 4000000 in
theorem B_X7_fails (Z : mX) (o : Nat) (a1 : Int) (w : mW) : mm_run (zP Z) 103 [.inr (.inr (some o)), .inl a1] w =
  (mm_p w o 7 9 (.inl a1)).bind fun w1 =>
  (mm_gI w1 o 7 3).bind fun x2 =>
  (mm_p w1 o 7 10 (.inl x2)).bind fun w3 =>
  some (some (.inl 0), w3) :=
  (mm_run_eq (P := zP Z) (y := 103) z_cd103 rfl (l := [some (.inr (.inr (some o))), some (.inl a1)]) rfl [] 10 w).trans rfl

-- ThornSchool$Text.strays()Z
set_option maxRecDepth 100000 in
set_option maxHeartbeats 4000000 in
theorem B_X7_strays (Z : mX) (o : Nat) (w : mW) : mm_run (zP Z) 104 [.inr (.inr (some o))] w =
  (mm_gI w o 7 5).bind fun x1 =>
  if x1 = 1 then
   if mm_cls w o = 7 then
    (mm_kI (mm_run (zP Z) 103 [.inr (.inr (some o)), .inl 1] w) fun x5 w4 =>
   if x5 = 0 ∨ x5 = 1 then some (some (.inl x5), w4) else none)
   else none
  else
   if mm_cls w o = 7 then
    (mm_kI (mm_run (zP Z) 103 [.inr (.inr (some o)), .inl 2] w) fun x3 w2 =>
   if x3 = 0 ∨ x3 = 1 then some (some (.inl x3), w2) else none)
   else none :=
  (mm_run_eq (P := zP Z) (y := 104) z_cd104 rfl (l := [some (.inr (.inr (some o)))]) rfl [] 10 w).trans rfl

-- ThornSchool$Text.takesWord(I)Z
set_option maxRecDepth 100000 in
set_option maxHeartbeats 4000000 in
theorem B_X7_takesWord (Z : mX) (o : Nat) (a1 : Int) (w : mW) : mm_run (zP Z) 105 [.inr (.inr (some o)), .inl a1] w =
  if mm_cls w o = 7 then
   (mm_kI (mm_run (zP Z) 102 [.inr (.inr (some o)), .inl a1] w) fun x2 w1 =>
  if x2 = 0 then
   if mm_cls w1 o = 7 then
    (mm_kI (mm_run (zP Z) 104 [.inr (.inr (some o))] w1) fun x5 w4 =>
   if x5 = 0 ∨ x5 = 1 then some (some (.inl x5), w4) else none)
   else none
  else
   if mm_cls w1 o = 7 then
    (mm_kV (mm_run (zP Z) 94 [.inr (.inr (some o))] w1) fun w3 =>
   some (some (.inl 1), w3))
   else none)
  else none :=
  (mm_run_eq (P := zP Z) (y := 105) z_cd105 rfl (l := [some (.inr (.inr (some o))), some (.inl a1)]) rfl [] 9 w).trans rfl

-- ThornSchool$Text.takesSemicolon()Z
set_option maxRecDepth 100000 in
set_option maxHeartbeats 4000000 in
theorem B_X7_takesSemicolon (Z : mX) (o : Nat) (w : mW) : mm_run (zP Z) 106 [.inr (.inr (some o))] w =
  (mm_gI w o 7 5).bind fun x1 =>
  if x1 = 6 then
   (mm_gI w o 7 6).bind fun x4 =>
   if x4 = 59 then
    if mm_cls w o = 7 then
     (mm_kV (mm_run (zP Z) 94 [.inr (.inr (some o))] w) fun w5 =>
    some (some (.inl 1), w5))
    else none
   else
    if mm_cls w o = 7 then
     (mm_kI (mm_run (zP Z) 104 [.inr (.inr (some o))] w) fun x7 w6 =>
    if x7 = 0 ∨ x7 = 1 then some (some (.inl x7), w6) else none)
    else none
  else
   if mm_cls w o = 7 then
    (mm_kI (mm_run (zP Z) 104 [.inr (.inr (some o))] w) fun x3 w2 =>
   if x3 = 0 ∨ x3 = 1 then some (some (.inl x3), w2) else none)
   else none :=
  (mm_run_eq (P := zP Z) (y := 106) z_cd106 rfl (l := [some (.inr (.inr (some o)))]) rfl [] 13 w).trans rfl

-- ThornSchool$Text.takesNumber(II)Z
set_option maxRecDepth 100000 in
set_option maxHeartbeats 4000000 in
theorem B_X7_takesNumber (Z : mX) (o : Nat) (a1 : Int) (a2 : Int) (w : mW) : mm_run (zP Z) 107 [.inr (.inr (some o)), .inl a1, .inl a2] w =
  (mm_gI w o 7 5).bind fun x1 =>
  if x1 = 5 then
   (mm_gI w o 7 6).bind fun x2 =>
   mm_kI (mm_run (zP Z) 208 [.inl x2, .inl a1, .inl a2] w) fun x4 w3 =>
   if x4 = 0 then
    if mm_cls w3 o = 7 then
     (mm_kI (mm_run (zP Z) 103 [.inr (.inr (some o)), .inl 4] w3) fun x9 w8 =>
    if x9 = 0 ∨ x9 = 1 then some (some (.inl x9), w8) else none)
    else none
   else
    (mm_gI w3 o 7 6).bind fun x5 =>
    (mm_p w3 o 7 8 (.inl x5)).bind fun w6 =>
    if mm_cls w6 o = 7 then
     (mm_kV (mm_run (zP Z) 94 [.inr (.inr (some o))] w6) fun w7 =>
    some (some (.inl 1), w7))
    else none
  else
   if mm_cls w o = 7 then
    (mm_kI (mm_run (zP Z) 104 [.inr (.inr (some o))] w) fun x11 w10 =>
   if x11 = 0 ∨ x11 = 1 then some (some (.inl x11), w10) else none)
   else none :=
  (mm_run_eq (P := zP Z) (y := 107) z_cd107 rfl (l := [some (.inr (.inr (some o))), some (.inl a1), some (.inl a2)]) rfl [] 19 w).trans rfl

-- ThornSchool$Walks.<init>(LThornSchool$School;)V
set_option maxRecDepth 100000 in
set_option maxHeartbeats 4000000 in
theorem B_X9_init (Z : mX) (o : Nat) (a1 : Option Nat) (w : mW) : mm_run (zP Z) 116 [.inr (.inr (some o)), .inr (.inr a1)] w =
  if 25 < 0 ∨ 100000 < 25 then none else
  (mm_p (mm_alloc w (.inr (0, Int.toNat 25, fun _ => 0)) (Int.toNat 25)) o 9 1 (.inr (.inr (some w.2.1)))).bind fun w1 =>
  (mm_p w1 o 9 0 (.inr (.inr a1))).bind fun w2 =>
  some (none, w2) :=
  (mm_run_eq (P := zP Z) (y := 116) z_cd116 rfl (l := [some (.inr (.inr (some o))), some (.inr (.inr a1))]) rfl [] 11 w).trans rfl

-- ThornSchool$Walks.ownCell(I)I
set_option maxRecDepth 100000 in
set_option maxHeartbeats 4000000 in
theorem B_X9_ownCell (Z : mX) (o : Nat) (a1 : Int) (w : mW) : mm_run (zP Z) 117 [.inr (.inr (some o)), .inl a1] w =
  (mm_gR w o 9 0).bind fun r1 =>
  r1.bind fun q2 =>
  (mm_gR w q2 5 11).bind fun r3 =>
  mm_kI (mm_run (zP Z) 199 [.inr (.inr r3), .inl a1] w) fun x5 w4 =>
  some (some (.inl x5), w4) :=
  (mm_run_eq (P := zP Z) (y := 117) z_cd117 rfl (l := [some (.inr (.inr (some o))), some (.inl a1)]) rfl [] 7 w).trans rfl

-- ThornSchool$Walks.clearSet(I)I
set_option maxRecDepth 100000 in
set_option maxHeartbeats 4000000 in
theorem B_X9_clearSet (Z : mX) (o : Nat) (a1 : Int) (w : mW) : mm_run (zP Z) 118 [.inr (.inr (some o)), .inl a1] w =
  (mm_gR w o 9 0).bind fun r1 =>
  (mm_gR w o 9 0).bind fun r2 =>
  r2.bind fun q3 =>
  (mm_gR w q3 5 12).bind fun r4 =>
  mm_kI (mm_run (zP Z) 199 [.inr (.inr r4), .inl a1] w) fun x6 w5 =>
  r1.bind fun q7 =>
  if mm_cls w5 q7 = 5 then
   (mm_kI (mm_run (zP Z) 63 [.inr (.inr (some q7)), .inl a1, .inl x6] w5) fun x9 w8 =>
  some (some (.inl x9), w8))
  else none :=
  (mm_run_eq (P := zP Z) (y := 118) z_cd118 rfl (l := [some (.inr (.inr (some o))), some (.inl a1)]) rfl [] 11 w).trans rfl

-- ThornSchool$Walks.within(III)I
set_option maxRecDepth 100000 in
set_option maxHeartbeats 4000000 in
theorem B_X9_within (Z : mX) (o : Nat) (a1 : Int) (a2 : Int) (a3 : Int) (w : mW) : mm_run (zP Z) 119 [.inr (.inr (some o)), .inl a1, .inl a2, .inl a3] w =
  mm_at (zP Z) 119 4 [some (.inr (.inr (some o))), none, some (.inl a2), some (.inl a3), some (.inl a1), some (.inl 0), none] [] w :=
  (mm_run_eq (P := zP Z) (y := 119) z_cd119 rfl (l := [some (.inr (.inr (some o))), some (.inl a1), some (.inl a2), some (.inl a3), none, none, none]) rfl [4] 5 w).trans rfl

set_option maxRecDepth 100000 in
set_option maxHeartbeats 4000000 in
theorem B_X9_within_4 (Z : mX) (o : Nat) (l2 : Int) (l3 : Int) (l4 : Int) (l5 : Int) (w : mW) : mm_at (zP Z) 119 4 [some (.inr (.inr (some o))), none, some (.inl l2), some (.inl l3), some (.inl l4), some (.inl l5), none] [] w =
  if l5 < l3 then
   (mm_gR w o 9 0).bind fun r1 =>
   r1.bind fun q2 =>
   if mm_cls w q2 = 5 then
    (mm_kI (mm_run (zP Z) 58 [.inr (.inr (some q2)), .inl l4] w) fun x4 w3 =>
   if mm_ior l4 (mm_iand x4 l2) = l4 then
    some (some (.inl l4), w3)
   else
    mm_at (zP Z) 119 4 [some (.inr (.inr (some o))), none, some (.inl l2), some (.inl l3), some (.inl (mm_ior l4 (mm_iand x4 l2))), some (.inl (mm_w32 (l5 + 1))), none] [] w3)
   else none
  else
   some (some (.inl l4), w) :=
  (mm_V_eq (P := zP Z) (y := 119) z_cd119 [4] 20 4 _ _ w).trans rfl

-- ThornSchool$Walks.comeSet(I)I
set_option maxRecDepth 100000 in
set_option maxHeartbeats 4000000 in
theorem B_X9_comeSet (Z : mX) (o : Nat) (a1 : Int) (w : mW) : mm_run (zP Z) 120 [.inr (.inr (some o)), .inl a1] w =
  if mm_cls w o = 9 then
   (mm_kI (mm_run (zP Z) 117 [.inr (.inr (some o)), .inl a1] w) fun x2 w1 =>
  mm_kI (mm_run (zP Z) 206 [.inl x2] w1) fun x4 w3 =>
  (mm_gR w3 o 9 0).bind fun r5 =>
  r5.bind fun q6 =>
  if mm_cls w3 q6 = 5 then
   (mm_kI (mm_run (zP Z) 64 [.inr (.inr (some q6)), .inl a1] w3) fun x8 w7 =>
  if x8 = 0 then
   if mm_cls w7 o = 9 then
    (mm_kI (mm_run (zP Z) 118 [.inr (.inr (some o)), .inl a1] w7) fun x10 w9 =>
   if mm_cls w9 o = 9 then
    (mm_kI (mm_run (zP Z) 119 [.inr (.inr (some o)), .inl x4, .inl x10, .inl 25] w9) fun x12 w11 =>
   some (some (.inl x12), w11))
   else none)
   else none
  else
   some (some (.inl x4), w7))
  else none)
  else none :=
  (mm_run_eq (P := zP Z) (y := 120) z_cd120 rfl (l := [some (.inr (.inr (some o))), some (.inl a1), none]) rfl [] 19 w).trans rfl

-- ThornSchool$Walks.steps(II)I
set_option maxRecDepth 100000 in
set_option maxHeartbeats 4000000 in
theorem B_X9_steps (Z : mX) (o : Nat) (a1 : Int) (a2 : Int) (w : mW) : mm_run (zP Z) 121 [.inr (.inr (some o)), .inl a1, .inl a2] w =
  if mm_cls w o = 9 then
   (mm_kI (mm_run (zP Z) 117 [.inr (.inr (some o)), .inl a1] w) fun x2 w1 =>
  mm_kI (mm_run (zP Z) 206 [.inl x2] w1) fun x4 w3 =>
  (mm_gR w3 o 9 0).bind fun r5 =>
  r5.bind fun q6 =>
  if mm_cls w3 q6 = 5 then
   (mm_kI (mm_run (zP Z) 64 [.inr (.inr (some q6)), .inl a1] w3) fun x8 w7 =>
  if x8 = 0 then
   if mm_cls w7 o = 9 then
    (mm_kI (mm_run (zP Z) 118 [.inr (.inr (some o)), .inl a1] w7) fun x10 w9 =>
   mm_at (zP Z) 121 18 [some (.inr (.inr (some o))), none, some (.inl a2), some (.inl x4), some (.inl x10), some (.inl 0)] [] w9)
   else none
  else
   mm_at (zP Z) 121 18 [some (.inr (.inr (some o))), none, some (.inl a2), some (.inl x4), some (.inl 0), some (.inl 0)] [] w7)
  else none)
  else none :=
  (mm_run_eq (P := zP Z) (y := 121) z_cd121 rfl (l := [some (.inr (.inr (some o))), some (.inl a1), some (.inl a2), none, none, none]) rfl [18] 17 w).trans rfl

set_option maxRecDepth 100000 in
set_option maxHeartbeats 4000000 in
theorem B_X9_steps_18 (Z : mX) (o : Nat) (l2 : Int) (l3 : Int) (l4 : Int) (l5 : Int) (w : mW) : mm_at (zP Z) 121 18 [some (.inr (.inr (some o))), none, some (.inl l2), some (.inl l3), some (.inl l4), some (.inl l5)] [] w =
  if l5 < 25 then
   mm_kI (mm_run (zP Z) 207 [.inl l3, .inl l2] w) fun x2 w1 =>
   if x2 = 0 then
    (mm_gR w1 o 9 0).bind fun r3 =>
    r3.bind fun q4 =>
    if mm_cls w1 q4 = 5 then
     (mm_kI (mm_run (zP Z) 58 [.inr (.inr (some q4)), .inl l3] w1) fun x6 w5 =>
    mm_at (zP Z) 121 18 [some (.inr (.inr (some o))), none, some (.inl l2), some (.inl (mm_ior l3 (mm_iand x6 l4))), some (.inl l4), some (.inl (mm_w32 (l5 + 1)))] [] w5)
    else none
   else
    some (some (.inl l5), w1)
  else
   some (some (.inl (-1)), w) :=
  (mm_V_eq (P := zP Z) (y := 121) z_cd121 [18] 19 18 _ _ w).trans rfl

-- ThornSchool$Walks.onWay(IIII)I
set_option maxRecDepth 100000 in
set_option maxHeartbeats 4000000 in
theorem B_X9_onWay (Z : mX) (o : Nat) (a1 : Int) (a2 : Int) (a3 : Int) (a4 : Int) (w : mW) : mm_run (zP Z) 122 [.inr (.inr (some o)), .inl a1, .inl a2, .inl a3, .inl a4] w =
  if mm_cls w o = 9 then
   (mm_kI (mm_run (zP Z) 118 [.inr (.inr (some o)), .inl a1] w) fun x2 w1 =>
  if mm_cls w1 o = 9 then
   (mm_kI (mm_run (zP Z) 117 [.inr (.inr (some o)), .inl a1] w1) fun x4 w3 =>
  mm_at (zP Z) 122 10 [some (.inr (.inr (some o))), none, some (.inl a2), some (.inl a3), some (.inl a4), some (.inl x2), some (.inl x4), some (.inl 1), none] [] w3)
  else none)
  else none :=
  (mm_run_eq (P := zP Z) (y := 122) z_cd122 rfl (l := [some (.inr (.inr (some o))), some (.inl a1), some (.inl a2), some (.inl a3), some (.inl a4), none, none, none, none]) rfl [10] 11 w).trans rfl

set_option maxRecDepth 100000 in
set_option maxHeartbeats 4000000 in
theorem B_X9_onWay_10 (Z : mX) (o : Nat) (l2 : Int) (l3 : Int) (l4 : Int) (l5 : Int) (l6 : Int) (l7 : Int) (w : mW) : mm_at (zP Z) 122 10 [some (.inr (.inr (some o))), none, some (.inl l2), some (.inl l3), some (.inl l4), some (.inl l5), some (.inl l6), some (.inl l7), none] [] w =
  if l4 < l7 then
   some (some (.inl l6), w)
  else
   if l3 < l7 then
    some (some (.inl l6), w)
   else
    mm_kI (mm_run (zP Z) 206 [.inl l2] w) fun x2 w1 =>
    if mm_cls w1 o = 9 then
     (mm_kI (mm_run (zP Z) 119 [.inr (.inr (some o)), .inl x2, .inl l5, .inl (mm_w32 (l3 - l7))] w1) fun x4 w3 =>
    (mm_gR w3 o 9 0).bind fun r5 =>
    mm_kI (mm_run (zP Z) 206 [.inl l6] w3) fun x7 w6 =>
    r5.bind fun q8 =>
    if mm_cls w6 q8 = 5 then
     (mm_kI (mm_run (zP Z) 58 [.inr (.inr (some q8)), .inl x7] w6) fun x10 w9 =>
    if mm_cls w9 o = 9 then
     (mm_kI (mm_run (zP Z) 123 [.inr (.inr (some o)), .inl (mm_iand (mm_iand x10 l5) x4)] w9) fun x12 w11 =>
    mm_at (zP Z) 122 10 [some (.inr (.inr (some o))), none, some (.inl l2), some (.inl l3), some (.inl l4), some (.inl l5), some (.inl x12), some (.inl (mm_w32 (l7 + 1))), none] [] w11)
    else none)
    else none)
    else none :=
  (mm_V_eq (P := zP Z) (y := 122) z_cd122 [10] 30 10 _ _ w).trans rfl

-- ThornSchool$Walks.first(I)I
set_option maxRecDepth 100000 in
set_option maxHeartbeats 4000000 in
theorem B_X9_first (Z : mX) (o : Nat) (a1 : Int) (w : mW) : mm_run (zP Z) 123 [.inr (.inr (some o)), .inl a1] w =
  mm_at (zP Z) 123 2 [none, some (.inl a1), some (.inl 0)] [] w :=
  (mm_run_eq (P := zP Z) (y := 123) z_cd123 rfl (l := [some (.inr (.inr (some o))), some (.inl a1), none]) rfl [2] 3 w).trans rfl

set_option maxRecDepth 100000 in
set_option maxHeartbeats 4000000 in
theorem B_X9_first_2 (Z : mX) (l1 : Int) (l2 : Int) (w : mW) : mm_at (zP Z) 123 2 [none, some (.inl l1), some (.inl l2)] [] w =
  if l2 < 25 then
   mm_kI (mm_run (zP Z) 207 [.inl l1, .inl l2] w) fun x2 w1 =>
   if x2 = 0 then
    mm_at (zP Z) 123 2 [none, some (.inl l1), some (.inl (mm_w32 (l2 + 1)))] [] w1
   else
    some (some (.inl l2), w1)
  else
   some (some (.inl 0), w) :=
  (mm_V_eq (P := zP Z) (y := 123) z_cd123 [2] 10 2 _ _ w).trans rfl

-- ThornSchool$Walks.greatestWant(II)I
set_option maxRecDepth 100000 in
set_option maxHeartbeats 4000000 in
theorem B_X9_greatestWant (Z : mX) (o : Nat) (a1 : Int) (a2 : Int) (w : mW) : mm_run (zP Z) 124 [.inr (.inr (some o)), .inl a1, .inl a2] w =
  if mm_cls w o = 9 then
   (mm_kI (mm_run (zP Z) 117 [.inr (.inr (some o)), .inl a1] w) fun x2 w1 =>
  mm_kI (mm_run (zP Z) 206 [.inl x2] w1) fun x4 w3 =>
  mm_at (zP Z) 124 7 [some (.inr (.inr (some o))), some (.inl a1), some (.inl a2), some (.inl x4), some (.inl 9)] [] w3)
  else none :=
  (mm_run_eq (P := zP Z) (y := 124) z_cd124 rfl (l := [some (.inr (.inr (some o))), some (.inl a1), some (.inl a2), none, none]) rfl [7] 8 w).trans rfl

set_option maxRecDepth 100000 in
set_option maxHeartbeats 4000000 in
theorem B_X9_greatestWant_7 (Z : mX) (o : Nat) (l1 : Int) (l2 : Int) (l3 : Int) (l4 : Int) (w : mW) : mm_at (zP Z) 124 7 [some (.inr (.inr (some o))), some (.inl l1), some (.inl l2), some (.inl l3), some (.inl l4)] [] w =
  if l4 < 0 then
   some (some (.inl (-1)), w)
  else
   (mm_gR w o 9 0).bind fun r1 =>
   r1.bind fun q2 =>
   if mm_cls w q2 = 5 then
    (mm_kI (mm_run (zP Z) 63 [.inr (.inr (some q2)), .inl l1, .inl l4] w) fun x4 w3 =>
   if mm_cls w3 o = 9 then
    (mm_kI (mm_run (zP Z) 119 [.inr (.inr (some o)), .inl l3, .inl x4, .inl 25] w3) fun x6 w5 =>
   mm_kI (mm_run (zP Z) 207 [.inl x6, .inl l2] w5) fun x8 w7 =>
   if x8 = 0 then
    mm_at (zP Z) 124 7 [some (.inr (.inr (some o))), some (.inl l1), some (.inl l2), some (.inl l3), some (.inl (mm_w32 (l4 + (-1))))] [] w7
   else
    some (some (.inl l4), w7))
   else none)
   else none :=
  (mm_V_eq (P := zP Z) (y := 124) z_cd124 [7] 17 7 _ _ w).trans rfl

-- ThornSchool$Walks.fewestThorns(II)I
set_option maxRecDepth 100000 in
set_option maxHeartbeats 4000000 in
theorem B_X9_fewestThorns (Z : mX) (o : Nat) (a1 : Int) (a2 : Int) (w : mW) : mm_run (zP Z) 125 [.inr (.inr (some o)), .inl a1, .inl a2] w =
  if mm_cls w o = 9 then
   (mm_kI (mm_run (zP Z) 117 [.inr (.inr (some o)), .inl a1] w) fun x2 w1 =>
  if a2 = x2 then
   some (some (.inl 0), w1)
  else
   (mm_gR w1 o 9 1).bind fun r3 =>
   mm_kV (mm_run (zP Z) 202 [.inr (.inr r3), .inl 1000000] w1) fun w4 =>
   (mm_gR w4 o 9 1).bind fun r5 =>
   if mm_cls w4 o = 9 then
    (mm_kI (mm_run (zP Z) 117 [.inr (.inr (some o)), .inl a1] w4) fun x7 w6 =>
   (mm_gR w6 o 9 0).bind fun r8 =>
   r8.bind fun q9 =>
   (mm_gR w6 q9 5 14).bind fun r10 =>
   mm_kI (mm_run (zP Z) 199 [.inr (.inr r10), .inl a1] w6) fun x12 w11 =>
   mm_kV (mm_run (zP Z) 200 [.inr (.inr r5), .inl x7, .inl x12] w11) fun w13 =>
   mm_at (zP Z) 125 26 [some (.inr (.inr (some o))), some (.inl a1), some (.inl a2), some (.inl 1), some (.inl 0), none] [] w13)
   else none)
  else none :=
  (mm_run_eq (P := zP Z) (y := 125) z_cd125 rfl (l := [some (.inr (.inr (some o))), some (.inl a1), some (.inl a2), none, none, none]) rfl [26, 35] 25 w).trans rfl

set_option maxRecDepth 100000 in
set_option maxHeartbeats 4000000 in
theorem B_X9_fewestThorns_26 (Z : mX) (o : Nat) (l1 : Int) (l2 : Int) (l3 : Int) (l4 : Int) (w : mW) : mm_at (zP Z) 125 26 [some (.inr (.inr (some o))), some (.inl l1), some (.inl l2), some (.inl l3), some (.inl l4), none] [] w =
  if l4 < 25 then
   if l3 = 0 then
    (mm_gR w o 9 1).bind fun r4 =>
    mm_kI (mm_run (zP Z) 199 [.inr (.inr r4), .inl l2] w) fun x6 w5 =>
    some (some (.inl x6), w5)
   else
    mm_at (zP Z) 125 35 [some (.inr (.inr (some o))), some (.inl l1), some (.inl l2), some (.inl 0), some (.inl l4), some (.inl 0)] [] w
  else
   (mm_gR w o 9 1).bind fun r1 =>
   mm_kI (mm_run (zP Z) 199 [.inr (.inr r1), .inl l2] w) fun x3 w2 =>
   some (some (.inl x3), w2) :=
  (mm_V_eq (P := zP Z) (y := 125) z_cd125 [26, 35] 11 26 _ _ w).trans rfl

set_option maxRecDepth 100000 in
set_option maxHeartbeats 4000000 in
theorem B_X9_fewestThorns_35 (Z : mX) (o : Nat) (l1 : Int) (l2 : Int) (l3 : Int) (l4 : Int) (l5 : Int) (w : mW) : mm_at (zP Z) 125 35 [some (.inr (.inr (some o))), some (.inl l1), some (.inl l2), some (.inl l3), some (.inl l4), some (.inl l5)] [] w =
  (mm_gR w o 9 0).bind fun r1 =>
  r1.bind fun q2 =>
  if mm_cls w q2 = 5 then
   (mm_kI (mm_run (zP Z) 48 [.inr (.inr (some q2))] w) fun x4 w3 =>
  if l5 < x4 then
   if mm_cls w3 o = 9 then
    (mm_kI (mm_run (zP Z) 126 [.inr (.inr (some o)), .inl l1, .inl l5] w3) fun x6 w5 =>
   if x6 = 0 then
    mm_at (zP Z) 125 35 [some (.inr (.inr (some o))), some (.inl l1), some (.inl l2), some (.inl l3), some (.inl l4), some (.inl (mm_w32 (l5 + 1)))] [] w5
   else
    mm_at (zP Z) 125 35 [some (.inr (.inr (some o))), some (.inl l1), some (.inl l2), some (.inl 1), some (.inl l4), some (.inl (mm_w32 (l5 + 1)))] [] w5)
   else none
  else
   mm_at (zP Z) 125 26 [some (.inr (.inr (some o))), some (.inl l1), some (.inl l2), some (.inl l3), some (.inl (mm_w32 (l4 + 1))), none] [] w3)
  else none :=
  (mm_V_eq (P := zP Z) (y := 125) z_cd125 [26, 35] 15 35 _ _ w).trans rfl

-- ThornSchool$Walks.lowers(II)Z
set_option maxRecDepth 100000 in
set_option maxHeartbeats 4000000 in
theorem B_X9_lowers (Z : mX) (o : Nat) (a1 : Int) (a2 : Int) (w : mW) : mm_run (zP Z) 126 [.inr (.inr (some o)), .inl a1, .inl a2] w =
  mm_at (zP Z) 126 4 [some (.inr (.inr (some o))), some (.inl a1), some (.inl a2), some (.inl 1000000), some (.inl 0), none] [] w :=
  (mm_run_eq (P := zP Z) (y := 126) z_cd126 rfl (l := [some (.inr (.inr (some o))), some (.inl a1), some (.inl a2), none, none, none]) rfl [4] 5 w).trans rfl

set_option maxRecDepth 100000 in
set_option maxHeartbeats 4000000 in
theorem B_X9_lowers_4 (Z : mX) (o : Nat) (l1 : Int) (l2 : Int) (l3 : Int) (l4 : Int) (w : mW) : mm_at (zP Z) 126 4 [some (.inr (.inr (some o))), some (.inl l1), some (.inl l2), some (.inl l3), some (.inl l4), none] [] w =
  if l4 < 4 then
   (mm_gR w o 9 0).bind fun r15 =>
   r15.bind fun q16 =>
   if mm_cls w q16 = 5 then
    (mm_kI (mm_run (zP Z) 57 [.inr (.inr (some q16)), .inl l2, .inl l4] w) fun x18 w17 =>
   if x18 = (-1) then
    mm_at (zP Z) 126 4 [some (.inr (.inr (some o))), some (.inl l1), some (.inl l2), some (.inl l3), some (.inl (mm_w32 (l4 + 1))), none] [] w17
   else
    (mm_gR w17 o 9 1).bind fun r19 =>
    mm_kI (mm_run (zP Z) 199 [.inr (.inr r19), .inl x18] w17) fun x21 w20 =>
    mm_at (zP Z) 126 4 [some (.inr (.inr (some o))), some (.inl l1), some (.inl l2), some (.inl (if x21 < l3 then x21 else l3)), some (.inl (mm_w32 (l4 + 1))), none] [] w20)
   else none
  else
   (mm_gR w o 9 0).bind fun r1 =>
   (mm_gR w o 9 0).bind fun r2 =>
   r2.bind fun q3 =>
   (mm_gR w q3 5 12).bind fun r4 =>
   mm_kI (mm_run (zP Z) 199 [.inr (.inr r4), .inl l1] w) fun x6 w5 =>
   r1.bind fun q7 =>
   if mm_cls w5 q7 = 5 then
    (mm_kI (mm_run (zP Z) 62 [.inr (.inr (some q7)), .inl l1, .inl l2, .inl x6] w5) fun x9 w8 =>
   (mm_gR w8 o 9 1).bind fun r10 =>
   mm_kI (mm_run (zP Z) 199 [.inr (.inr r10), .inl l2] w8) fun x12 w11 =>
   if mm_w32 (l3 + x9) < x12 then
    (mm_gR w11 o 9 1).bind fun r13 =>
    mm_kV (mm_run (zP Z) 200 [.inr (.inr r13), .inl l2, .inl (mm_w32 (l3 + x9))] w11) fun w14 =>
    some (some (.inl 1), w14)
   else
    some (some (.inl 0), w11))
   else none :=
  (mm_V_eq (P := zP Z) (y := 126) z_cd126 [4] 30 4 _ _ w).trans rfl

-- ThornSchool$Walks.fewestCleared(II)I
set_option maxRecDepth 100000 in
set_option maxHeartbeats 4000000 in
theorem B_X9_fewestCleared (Z : mX) (o : Nat) (a1 : Int) (a2 : Int) (w : mW) : mm_run (zP Z) 127 [.inr (.inr (some o)), .inl a1, .inl a2] w =
  if mm_cls w o = 9 then
   (mm_kI (mm_run (zP Z) 118 [.inr (.inr (some o)), .inl a1] w) fun x2 w1 =>
  if mm_cls w1 o = 9 then
   (mm_kI (mm_run (zP Z) 117 [.inr (.inr (some o)), .inl a1] w1) fun x4 w3 =>
  mm_kI (mm_run (zP Z) 206 [.inl x4] w3) fun x6 w5 =>
  if mm_cls w5 o = 9 then
   (mm_kI (mm_run (zP Z) 119 [.inr (.inr (some o)), .inl x6, .inl x2, .inl 25] w5) fun x8 w7 =>
  mm_at (zP Z) 127 15 [some (.inr (.inr (some o))), none, some (.inl a2), some (.inl x2), some (.inl x8), some (.inl 0)] [] w7)
  else none)
  else none)
  else none :=
  (mm_run_eq (P := zP Z) (y := 127) z_cd127 rfl (l := [some (.inr (.inr (some o))), some (.inl a1), some (.inl a2), none, none, none]) rfl [15] 16 w).trans rfl

set_option maxRecDepth 100000 in
set_option maxHeartbeats 4000000 in
theorem B_X9_fewestCleared_15 (Z : mX) (o : Nat) (l2 : Int) (l3 : Int) (l4 : Int) (l5 : Int) (w : mW) : mm_at (zP Z) 127 15 [some (.inr (.inr (some o))), none, some (.inl l2), some (.inl l3), some (.inl l4), some (.inl l5)] [] w =
  if l5 < 25 then
   mm_kI (mm_run (zP Z) 207 [.inl l4, .inl l2] w) fun x2 w1 =>
   if x2 = 0 then
    (mm_gR w1 o 9 0).bind fun r3 =>
    r3.bind fun q4 =>
    if mm_cls w1 q4 = 5 then
     (mm_kI (mm_run (zP Z) 58 [.inr (.inr (some q4)), .inl l4] w1) fun x6 w5 =>
    if mm_cls w5 o = 9 then
     (mm_kI (mm_run (zP Z) 119 [.inr (.inr (some o)), .inl (mm_ior l4 x6), .inl l3, .inl 25] w5) fun x8 w7 =>
    mm_at (zP Z) 127 15 [some (.inr (.inr (some o))), none, some (.inl l2), some (.inl l3), some (.inl x8), some (.inl (mm_w32 (l5 + 1)))] [] w7)
    else none)
    else none
   else
    some (some (.inl l5), w1)
  else
   some (some (.inl l5), w) :=
  (mm_V_eq (P := zP Z) (y := 127) z_cd127 [15] 21 15 _ _ w).trans rfl

-- ThornSchool$Walks.whoComeToAll(I)I
set_option maxRecDepth 100000 in
set_option maxHeartbeats 4000000 in
theorem B_X9_whoComeToAll (Z : mX) (o : Nat) (a1 : Int) (w : mW) : mm_run (zP Z) 128 [.inr (.inr (some o)), .inl a1] w =
  mm_at (zP Z) 128 4 [some (.inr (.inr (some o))), some (.inl a1), some (.inl 0), some (.inl 0)] [] w :=
  (mm_run_eq (P := zP Z) (y := 128) z_cd128 rfl (l := [some (.inr (.inr (some o))), some (.inl a1), none, none]) rfl [4] 5 w).trans rfl

set_option maxRecDepth 100000 in
set_option maxHeartbeats 4000000 in
theorem B_X9_whoComeToAll_4 (Z : mX) (o : Nat) (l1 : Int) (l2 : Int) (l3 : Int) (w : mW) : mm_at (zP Z) 128 4 [some (.inr (.inr (some o))), some (.inl l1), some (.inl l2), some (.inl l3)] [] w =
  (mm_gR w o 9 0).bind fun r1 =>
  r1.bind fun q2 =>
  (mm_gI w q2 5 10).bind fun x3 =>
  if l3 < x3 then
   if mm_cls w o = 9 then
    (mm_kI (mm_run (zP Z) 120 [.inr (.inr (some o)), .inl l3] w) fun x5 w4 =>
   if mm_iand l1 (mm_ixor x5 (-1)) = 0 then
    mm_kI (mm_run (zP Z) 206 [.inl l3] w4) fun x7 w6 =>
    mm_at (zP Z) 128 4 [some (.inr (.inr (some o))), some (.inl l1), some (.inl (mm_ior l2 x7)), some (.inl (mm_w32 (l3 + 1)))] [] w6
   else
    mm_at (zP Z) 128 4 [some (.inr (.inr (some o))), some (.inl l1), some (.inl l2), some (.inl (mm_w32 (l3 + 1)))] [] w4)
   else none
  else
   some (some (.inl l2), w) :=
  (mm_V_eq (P := zP Z) (y := 128) z_cd128 [4] 21 4 _ _ w).trans rfl

-- ThornSchool$Wants.<init>(LThornSchool$School;)V
set_option maxRecDepth 100000 in
set_option maxHeartbeats 4000000 in
theorem B_X10_init (Z : mX) (o : Nat) (a1 : Option Nat) (w : mW) : mm_run (zP Z) 129 [.inr (.inr (some o)), .inr (.inr a1)] w =
  if 19 < 0 ∨ 100000 < 19 then none else
  (mm_p (mm_alloc w (.inr (0, Int.toNat 19, fun _ => 0)) (Int.toNat 19)) o 10 1 (.inr (.inr (some w.2.1)))).bind fun w1 =>
  (mm_p w1 o 10 0 (.inr (.inr a1))).bind fun w2 =>
  some (none, w2) :=
  (mm_run_eq (P := zP Z) (y := 129) z_cd129 rfl (l := [some (.inr (.inr (some o))), some (.inr (.inr a1))]) rfl [] 11 w).trans rfl

-- ThornSchool$Wants.fitting(ILThornSchool$Tray;I)I
set_option maxRecDepth 100000 in
set_option maxHeartbeats 4000000 in
theorem B_X10_fitting (Z : mX) (o : Nat) (a1 : Int) (a2 : Option Nat) (a3 : Int) (w : mW) : mm_run (zP Z) 130 [.inr (.inr (some o)), .inl a1, .inr (.inr a2), .inl a3] w =
  mm_at (zP Z) 130 4 [some (.inr (.inr (some o))), some (.inl a1), some (.inr (.inr a2)), some (.inl a3), some (.inl 0), some (.inl 0)] [] w :=
  (mm_run_eq (P := zP Z) (y := 130) z_cd130 rfl (l := [some (.inr (.inr (some o))), some (.inl a1), some (.inr (.inr a2)), some (.inl a3), none, none]) rfl [4] 5 w).trans rfl

set_option maxRecDepth 100000 in
set_option maxHeartbeats 4000000 in
theorem B_X10_fitting_4 (Z : mX) (o : Nat) (l1 : Int) (l2 : Option Nat) (l3 : Int) (l4 : Int) (l5 : Int) (w : mW) : mm_at (zP Z) 130 4 [some (.inr (.inr (some o))), some (.inl l1), some (.inr (.inr l2)), some (.inl l3), some (.inl l4), some (.inl l5)] [] w =
  if 9 < l5 then
   some (some (.inl l4), w)
  else
   if mm_cls w o = 10 then
    (mm_kI (mm_run (zP Z) 131 [.inr (.inr (some o)), .inl l1, .inr (.inr l2), .inl l3, .inl l5] w) fun x2 w1 =>
   if x2 = 0 then
    mm_at (zP Z) 130 4 [some (.inr (.inr (some o))), some (.inl l1), some (.inr (.inr l2)), some (.inl l3), some (.inl l4), some (.inl (mm_w32 (l5 + 1)))] [] w1
   else
    mm_kI (mm_run (zP Z) 206 [.inl l5] w1) fun x4 w3 =>
    mm_at (zP Z) 130 4 [some (.inr (.inr (some o))), some (.inl l1), some (.inr (.inr l2)), some (.inl l3), some (.inl (mm_ior l4 x4)), some (.inl (mm_w32 (l5 + 1)))] [] w3)
   else none :=
  (mm_V_eq (P := zP Z) (y := 130) z_cd130 [4] 18 4 _ _ w).trans rfl

-- ThornSchool$Wants.isAsTold(ILThornSchool$Tray;II)Z
set_option maxRecDepth 100000 in
set_option maxHeartbeats 4000000 in
theorem B_X10_isAsTold (Z : mX) (o : Nat) (a1 : Int) (a2 : Option Nat) (a3 : Int) (a4 : Int) (w : mW) : mm_run (zP Z) 131 [.inr (.inr (some o)), .inl a1, .inr (.inr a2), .inl a3, .inl a4] w =
  if a2 = none then
   some (some (.inl 0), w)
  else
   mm_at (zP Z) 131 6 [some (.inr (.inr (some o))), some (.inl a1), some (.inr (.inr a2)), some (.inl a3), some (.inl a4), some (.inl 0)] [] w :=
  (mm_run_eq (P := zP Z) (y := 131) z_cd131 rfl (l := [some (.inr (.inr (some o))), some (.inl a1), some (.inr (.inr a2)), some (.inl a3), some (.inl a4), none]) rfl [6] 5 w).trans rfl

set_option maxRecDepth 100000 in
set_option maxHeartbeats 4000000 in
theorem B_X10_isAsTold_6 (Z : mX) (o : Nat) (l1 : Int) (l2 : Option Nat) (l3 : Int) (l4 : Int) (l5 : Int) (w : mW) : mm_at (zP Z) 131 6 [some (.inr (.inr (some o))), some (.inl l1), some (.inr (.inr l2)), some (.inl l3), some (.inl l4), some (.inl l5)] [] w =
  if l5 < l3 then
   (mm_gR w o 10 0).bind fun r1 =>
   l2.bind fun q2 =>
   if mm_cls w q2 = 8 then
    (mm_kJ (mm_run (zP Z) 112 [.inr (.inr (some q2)), .inl (mm_w32 (2 * l5))] w) fun x4 w3 =>
   r1.bind fun q5 =>
   if mm_cls w3 q5 = 5 then
    (mm_kI (mm_run (zP Z) 62 [.inr (.inr (some q5)), .inl l1, .inl (mm_w32 x4), .inl l4] w3) fun x7 w6 =>
   l2.bind fun q8 =>
   if mm_cls w6 q8 = 8 then
    (mm_kJ (mm_run (zP Z) 112 [.inr (.inr (some q8)), .inl (mm_w32 ((mm_w32 (2 * l5)) + 1))] w6) fun x10 w9 =>
   if mm_lcmp x7 x10 = 0 then
    mm_at (zP Z) 131 6 [some (.inr (.inr (some o))), some (.inl l1), some (.inr (.inr l2)), some (.inl l3), some (.inl l4), some (.inl (mm_w32 (l5 + 1)))] [] w9
   else
    some (some (.inl 0), w9))
   else none)
   else none)
   else none
  else
   some (some (.inl 1), w) :=
  (mm_V_eq (P := zP Z) (y := 131) z_cd131 [6] 27 6 _ _ w).trans rfl

-- ThornSchool$Wants.inSet(II)I
set_option maxRecDepth 100000 in
set_option maxHeartbeats 4000000 in
theorem B_X10_inSet (Z : mX) (o : Nat) (a1 : Int) (a2 : Int) (w : mW) : mm_run (zP Z) 132 [.inr (.inr (some o)), .inl a1, .inl a2] w =
  mm_at (zP Z) 132 4 [none, some (.inl a1), none, some (.inl a2), some (.inl 0)] [] w :=
  (mm_run_eq (P := zP Z) (y := 132) z_cd132 rfl (l := [some (.inr (.inr (some o))), some (.inl a1), some (.inl a2), none, none]) rfl [4] 5 w).trans rfl

set_option maxRecDepth 100000 in
set_option maxHeartbeats 4000000 in
theorem B_X10_inSet_4 (Z : mX) (l1 : Int) (l3 : Int) (l4 : Int) (w : mW) : mm_at (zP Z) 132 4 [none, some (.inl l1), none, some (.inl l3), some (.inl l4)] [] w =
  if 9 < l4 then
   some (some (.inl (-1)), w)
  else
   mm_kI (mm_run (zP Z) 207 [.inl l1, .inl l4] w) fun x2 w1 =>
   if x2 = 0 then
    mm_at (zP Z) 132 4 [none, some (.inl l1), none, some (.inl l3), some (.inl (mm_w32 (l4 + 1)))] [] w1
   else
    if l3 = 0 then
     some (some (.inl l4), w1)
    else
     mm_at (zP Z) 132 4 [none, some (.inl l1), none, some (.inl (mm_w32 (l3 + (-1)))), some (.inl (mm_w32 (l4 + 1)))] [] w1 :=
  (mm_V_eq (P := zP Z) (y := 132) z_cd132 [4] 13 4 _ _ w).trans rfl

-- ThornSchool$Wants.bestAsked(II)I
set_option maxRecDepth 100000 in
set_option maxHeartbeats 4000000 in
theorem B_X10_bestAsked (Z : mX) (o : Nat) (a1 : Int) (a2 : Int) (w : mW) : mm_run (zP Z) 133 [.inr (.inr (some o)), .inl a1, .inl a2] w =
  mm_at (zP Z) 133 6 [some (.inr (.inr (some o))), some (.inl a1), some (.inl a2), some (.inl 0), some (.inl 11), some (.inl 0), none] [] w :=
  (mm_run_eq (P := zP Z) (y := 133) z_cd133 rfl (l := [some (.inr (.inr (some o))), some (.inl a1), some (.inl a2), none, none, none, none]) rfl [6] 7 w).trans rfl

set_option maxRecDepth 100000 in
set_option maxHeartbeats 4000000 in
theorem B_X10_bestAsked_6 (Z : mX) (o : Nat) (l1 : Int) (l2 : Int) (l3 : Int) (l4 : Int) (l5 : Int) (w : mW) : mm_at (zP Z) 133 6 [some (.inr (.inr (some o))), some (.inl l1), some (.inl l2), some (.inl l3), some (.inl l4), some (.inl l5), none] [] w =
  (mm_gR w o 10 0).bind fun r1 =>
  r1.bind fun q2 =>
  if mm_cls w q2 = 5 then
   (mm_kI (mm_run (zP Z) 48 [.inr (.inr (some q2))] w) fun x4 w3 =>
  if l5 < x4 then
   if mm_cls w3 o = 10 then
    (mm_kI (mm_run (zP Z) 134 [.inr (.inr (some o)), .inl l1, .inl l2, .inl l5] w3) fun x6 w5 =>
   if x6 < l4 then
    mm_at (zP Z) 133 6 [some (.inr (.inr (some o))), some (.inl l1), some (.inl l2), some (.inl l5), some (.inl x6), some (.inl (mm_w32 (l5 + 1))), none] [] w5
   else
    mm_at (zP Z) 133 6 [some (.inr (.inr (some o))), some (.inl l1), some (.inl l2), some (.inl l3), some (.inl l4), some (.inl (mm_w32 (l5 + 1))), none] [] w5)
   else none
  else
   some (some (.inl l3), w3))
  else none :=
  (mm_V_eq (P := zP Z) (y := 133) z_cd133 [6] 21 6 _ _ w).trans rfl

-- ThornSchool$Wants.mostWithOneCatch(III)I
set_option maxRecDepth 100000 in
set_option maxHeartbeats 4000000 in
theorem B_X10_mostWithOneCatch (Z : mX) (o : Nat) (a1 : Int) (a2 : Int) (a3 : Int) (w : mW) : mm_run (zP Z) 134 [.inr (.inr (some o)), .inl a1, .inl a2, .inl a3] w =
  (mm_gR w o 10 1).bind fun r1 =>
  mm_kV (mm_run (zP Z) 202 [.inr (.inr r1), .inl 0] w) fun w2 =>
  mm_at (zP Z) 134 8 [some (.inr (.inr (some o))), some (.inl a1), some (.inl a2), some (.inl a3), some (.inl 0), some (.inl 0), none] [] w2 :=
  (mm_run_eq (P := zP Z) (y := 134) z_cd134 rfl (l := [some (.inr (.inr (some o))), some (.inl a1), some (.inl a2), some (.inl a3), none, none, none]) rfl [8] 9 w).trans rfl

set_option maxRecDepth 100000 in
set_option maxHeartbeats 4000000 in
theorem B_X10_mostWithOneCatch_8 (Z : mX) (o : Nat) (l1 : Int) (l2 : Int) (l3 : Int) (l4 : Int) (l5 : Int) (w : mW) : mm_at (zP Z) 134 8 [some (.inr (.inr (some o))), some (.inl l1), some (.inl l2), some (.inl l3), some (.inl l4), some (.inl l5), none] [] w =
  if 9 < l5 then
   some (some (.inl l4), w)
  else
   mm_kI (mm_run (zP Z) 207 [.inl l2, .inl l5] w) fun x2 w1 =>
   if x2 = 0 then
    mm_at (zP Z) 134 8 [some (.inr (.inr (some o))), some (.inl l1), some (.inl l2), some (.inl l3), some (.inl l4), some (.inl (mm_w32 (l5 + 1))), none] [] w1
   else
    (mm_gR w1 o 10 0).bind fun r3 =>
    r3.bind fun q4 =>
    if mm_cls w1 q4 = 5 then
     (mm_kI (mm_run (zP Z) 62 [.inr (.inr (some q4)), .inl l1, .inl l3, .inl l5] w1) fun x6 w5 =>
    (mm_gR w5 o 10 1).bind fun r7 =>
    (mm_gR w5 o 10 1).bind fun r8 =>
    mm_kI (mm_run (zP Z) 199 [.inr (.inr r8), .inl x6] w5) fun x10 w9 =>
    mm_kV (mm_run (zP Z) 200 [.inr (.inr r7), .inl x6, .inl (mm_w32 (x10 + 1))] w9) fun w11 =>
    (mm_gR w11 o 10 1).bind fun r12 =>
    mm_kI (mm_run (zP Z) 199 [.inr (.inr r12), .inl x6] w11) fun x14 w13 =>
    mm_at (zP Z) 134 8 [some (.inr (.inr (some o))), some (.inl l1), some (.inl l2), some (.inl l3), some (.inl (if l4 < x14 then x14 else l4)), some (.inl (mm_w32 (l5 + 1))), none] [] w13)
    else none :=
  (mm_V_eq (P := zP Z) (y := 134) z_cd134 [8] 34 8 _ _ w).trans rfl

