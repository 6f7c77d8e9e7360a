/-! printed by wip/whole/gen/emit.py: each method of the mini machine up to its labels -/
-- ThornSchoolModel.<init>()V
set_option maxRecDepth 100000 in
set_option maxHeartbeats 4000000 in
theorem B_X12_init (Z : mX) (o : Nat) (w : mW) : mm_run (zP Z) 210 [.inr (.inr (some o))] w =
  if 2464 < 0 ∨ 100000 < 2464 then none else
  (mm_p (mm_alloc w (.inr (0, Int.toNat 2464, fun _ => 0)) (Int.toNat 2464)) o 12 0 (.inr (.inr (some w.2.1)))).bind fun w1 =>
  if 72 < 0 ∨ 100000 < 72 then none else
  (mm_p (mm_alloc w1 (.inr (3, Int.toNat 72, fun _ => 0)) (Int.toNat 72)) o 12 1 (.inr (.inr (some w1.2.1)))).bind fun w2 =>
  (mm_p w2 o 12 4 (.inr (.inl 1))).bind fun w3 =>
  if 4 < 0 ∨ 100000 < 4 then none else
  (mm_p (mm_alloc w3 (.inr (0, Int.toNat 4, fun _ => 0)) (Int.toNat 4)) o 12 5 (.inr (.inr (some w3.2.1)))).bind fun w4 =>
  if 4 < 0 ∨ 100000 < 4 then none else
  (mm_st 0 (mm_alloc w4 (.inr (0, Int.toNat 4, fun _ => 0)) (Int.toNat 4)) w4.2.1 0 (-1)).bind fun w5 =>
  (mm_st 0 w5 w4.2.1 1 (-1)).bind fun w6 =>
  (mm_st 0 w6 w4.2.1 2 (-1)).bind fun w7 =>
  (mm_st 0 w7 w4.2.1 3 (-1)).bind fun w8 =>
  (mm_p w8 o 12 6 (.inr (.inr (some w4.2.1)))).bind fun w9 =>
  if 240 < 0 ∨ 100000 < 240 then none else
  (mm_p (mm_alloc w9 (.inr (3, Int.toNat 240, fun _ => 0)) (Int.toNat 240)) o 12 7 (.inr (.inr (some w9.2.1)))).bind fun w10 =>
  if 900 < 0 ∨ 100000 < 900 then none else
  (mm_p (mm_alloc w10 (.inr (1, Int.toNat 900, fun _ => 0)) (Int.toNat 900)) o 12 8 (.inr (.inr (some w10.2.1)))).bind fun w11 =>
  if 900 < 0 ∨ 100000 < 900 then none else
  (mm_p (mm_alloc w11 (.inr (1, Int.toNat 900, fun _ => 0)) (Int.toNat 900)) o 12 9 (.inr (.inr (some w11.2.1)))).bind fun w12 =>
  (mm_p w12 o 12 16 (.inl (-1))).bind fun w13 =>
  (mm_p w13 o 12 17 (.inl (-1))).bind fun w14 =>
  if 3 < 0 ∨ 100000 < 3 then none else
  (mm_p (mm_alloc w14 (.inr (0, Int.toNat 3, fun _ => 0)) (Int.toNat 3)) o 12 21 (.inr (.inr (some w14.2.1)))).bind fun w15 =>
  if 25 < 0 ∨ 100000 < 25 then none else
  (mm_p (mm_alloc w15 (.inr (0, Int.toNat 25, fun _ => 0)) (Int.toNat 25)) o 12 25 (.inr (.inr (some w15.2.1)))).bind fun w16 =>
  if 25 < 0 ∨ 100000 < 25 then none else
  (mm_p (mm_alloc w16 (.inr (0, Int.toNat 25, fun _ => 0)) (Int.toNat 25)) o 12 26 (.inr (.inr (some w16.2.1)))).bind fun w17 =>
  if 7 < 0 ∨ 100000 < 7 then none else
  (mm_p (mm_alloc w17 (.inr (0, Int.toNat 7, fun _ => 0)) (Int.toNat 7)) o 12 27 (.inr (.inr (some w17.2.1)))).bind fun w18 =>
  if 128 < 0 ∨ 100000 < 128 then none else
  (mm_p (mm_alloc w18 (.inr (0, Int.toNat 128, fun _ => 0)) (Int.toNat 128)) o 12 28 (.inr (.inr (some w18.2.1)))).bind fun w19 =>
  if 10 < 0 ∨ 100000 < 10 then none else
  (mm_p (mm_alloc w19 (.inr (2, Int.toNat 10, fun _ => 0)) (Int.toNat 10)) o 12 29 (.inr (.inr (some w19.2.1)))).bind fun w20 =>
  if 3125 < 0 ∨ 100000 < 3125 then none else
  (mm_p (mm_alloc w20 (.inr (2, Int.toNat 3125, fun _ => 0)) (Int.toNat 3125)) o 12 30 (.inr (.inr (some w20.2.1)))).bind fun w21 =>
  if 13 < 0 ∨ 100000 < 13 then none else
  (mm_p (mm_alloc w21 (.inr (3, Int.toNat 13, fun _ => 0)) (Int.toNat 13)) o 12 31 (.inr (.inr (some w21.2.1)))).bind fun w22 =>
  if 80 < 0 ∨ 100000 < 80 then none else
  (mm_p (mm_alloc w22 (.inr (0, Int.toNat 80, fun _ => 0)) (Int.toNat 80)) o 12 34 (.inr (.inr (some w22.2.1)))).bind fun w23 =>
  if 5 < 0 ∨ 100000 < 5 then none else
  (mm_p (mm_alloc w23 (.inr (0, Int.toNat 5, fun _ => 0)) (Int.toNat 5)) o 12 35 (.inr (.inr (some w23.2.1)))).bind fun w24 =>
  if 5 < 0 ∨ 100000 < 5 then none else
  (mm_p (mm_alloc w24 (.inr (0, Int.toNat 5, fun _ => 0)) (Int.toNat 5)) o 12 36 (.inr (.inr (some w24.2.1)))).bind fun w25 =>
  if mm_cls w25 o = 12 then
   (mm_kV (mm_run (zP Z) 211 [.inr (.inr (some o)), .inl 0] w25) fun w26 =>
  some (none, w26))
  else none :=
  (mm_run_eq (P := zP Z) (y := 210) z_cd210 rfl (l := [some (.inr (.inr (some o)))]) rfl [] 104 w).trans rfl

-- ThornSchoolModel.plain(I)V
set_option maxRecDepth 100000 in
set_option maxHeartbeats 4000000 in
theorem B_X12_plain (Z : mX) (o : Nat) (a1 : Int) (w : mW) : mm_run (zP Z) 211 [.inr (.inr (some o)), .inl a1] w =
  mm_at (zP Z) 211 2 [some (.inr (.inr (some o))), some (.inl a1), some (.inl 0)] [] w :=
  (mm_run_eq (P := zP Z) (y := 211) z_cd211 rfl (l := [some (.inr (.inr (some o))), some (.inl a1), none]) rfl [2] 3 w).trans rfl

set_option maxRecDepth 100000 in
set_option maxHeartbeats 4000000 in
theorem B_X12_plain_2 (Z : mX) (o : Nat) (l1 : Int) (l2 : Int) (w : mW) : mm_at (zP Z) 211 2 [some (.inr (.inr (some o))), some (.inl l1), some (.inl l2)] [] w =
  if l2 < 472 then
   (mm_gR w o 12 0).bind fun r13 =>
   r13.bind fun q14 =>
   (mm_st 0 w q14 (mm_w32 (l1 + l2)) 0).bind fun w15 =>
   mm_at (zP Z) 211 2 [some (.inr (.inr (some o))), some (.inl l1), some (.inl (mm_w32 (l2 + 1)))] [] w15
  else
   (mm_gR w o 12 0).bind fun r1 =>
   r1.bind fun q2 =>
   (mm_st 0 w q2 (mm_w32 (l1 + 0)) 4).bind fun w3 =>
   (mm_gR w3 o 12 0).bind fun r4 =>
   r4.bind fun q5 =>
   (mm_st 0 w3 q5 (mm_w32 (l1 + 1)) 4).bind fun w6 =>
   (mm_gR w6 o 12 0).bind fun r7 =>
   r7.bind fun q8 =>
   (mm_st 0 w6 q8 (mm_w32 (l1 + 4)) 2).bind fun w9 =>
   (mm_gR w9 o 12 0).bind fun r10 =>
   r10.bind fun q11 =>
   (mm_st 0 w9 q11 (mm_w32 (l1 + 7)) (-1)).bind fun w12 =>
   some (none, w12) :=
  (mm_V_eq (P := zP Z) (y := 211) z_cd211 [2] 33 2 _ _ w).trans rfl

-- ThornSchoolModel.status()I
set_option maxRecDepth 100000 in
set_option maxHeartbeats 4000000 in
theorem B_X12_status (Z : mX) (o : Nat) (w : mW) : mm_run (zP Z) 212 [.inr (.inr (some o))] w =
  (mm_gI w o 12 2).bind fun x1 =>
  some (some (.inl x1), w) :=
  (mm_run_eq (P := zP Z) (y := 212) z_cd212 rfl (l := [some (.inr (.inr (some o)))]) rfl [] 4 w).trans rfl

-- ThornSchoolModel.top()J
set_option maxRecDepth 100000 in
set_option maxHeartbeats 4000000 in
theorem B_X12_top (Z : mX) (o : Nat) (w : mW) : mm_run (zP Z) 213 [.inr (.inr (some o))] w =
  (mm_gJ w o 12 3).bind fun x1 =>
  some (some (.inr (.inl x1)), w) :=
  (mm_run_eq (P := zP Z) (y := 213) z_cd213 rfl (l := [some (.inr (.inr (some o)))]) rfl [] 4 w).trans rfl

-- ThornSchoolModel.bottom()J
set_option maxRecDepth 100000 in
set_option maxHeartbeats 4000000 in
theorem B_X12_bottom (Z : mX) (o : Nat) (w : mW) : mm_run (zP Z) 214 [.inr (.inr (some o))] w =
  (mm_gJ w o 12 4).bind fun x1 =>
  some (some (.inr (.inl x1)), w) :=
  (mm_run_eq (P := zP Z) (y := 214) z_cd214 rfl (l := [some (.inr (.inr (some o)))]) rfl [] 4 w).trans rfl

-- ThornSchoolModel.is(I)Z
set_option maxRecDepth 100000 in
set_option maxHeartbeats 4000000 in
theorem B_X12_is (Z : mX) (o : Nat) (a1 : Int) (w : mW) : mm_run (zP Z) 215 [.inr (.inr (some o)), .inl a1] w =
  (mm_p w o 12 2 (.inl a1)).bind fun w1 =>
  if a1 = 0 then
   some (some (.inl 1), w1)
  else
   some (some (.inl 0), w1) :=
  (mm_run_eq (P := zP Z) (y := 215) z_cd215 rfl (l := [some (.inr (.inr (some o))), some (.inl a1)]) rfl [] 9 w).trans rfl

-- ThornSchoolModel.refuse(I)I
set_option maxRecDepth 100000 in
set_option maxHeartbeats 4000000 in
theorem B_X12_refuse (Z : mX) (o : Nat) (a1 : Int) (w : mW) : mm_run (zP Z) 216 [.inr (.inr (some o)), .inl a1] w =
  (mm_p w o 12 2 (.inl a1)).bind fun w1 =>
  some (some (.inl (-1)), w1) :=
  (mm_run_eq (P := zP Z) (y := 216) z_cd216 rfl (l := [some (.inr (.inr (some o))), some (.inl a1)]) rfl [] 6 w).trans rfl

-- ThornSchoolModel.gives(I)I
set_option maxRecDepth 100000 in
set_option maxHeartbeats 4000000 in
theorem B_X12_gives (Z : mX) (o : Nat) (a1 : Int) (w : mW) : mm_run (zP Z) 217 [.inr (.inr (some o)), .inl a1] w =
  (mm_p w o 12 2 (.inl 0)).bind fun w1 =>
  some (some (.inl a1), w1) :=
  (mm_run_eq (P := zP Z) (y := 217) z_cd217 rfl (l := [some (.inr (.inr (some o))), some (.inl a1)]) rfl [] 6 w).trans rfl

-- ThornSchoolModel.orNone(I)I
set_option maxRecDepth 100000 in
set_option maxHeartbeats 4000000 in
theorem B_X12_orNone (Z : mX) (o : Nat) (a1 : Int) (w : mW) : mm_run (zP Z) 218 [.inr (.inr (some o)), .inl a1] w =
  if a1 = (-1) then
   if mm_cls w o = 12 then
    (mm_kI (mm_run (zP Z) 216 [.inr (.inr (some o)), .inl 6] w) fun x4 w3 =>
   some (some (.inl x4), w3))
   else none
  else
   if mm_cls w o = 12 then
    (mm_kI (mm_run (zP Z) 217 [.inr (.inr (some o)), .inl a1] w) fun x2 w1 =>
   some (some (.inl x2), w1))
   else none :=
  (mm_run_eq (P := zP Z) (y := 218) z_cd218 rfl (l := [some (.inr (.inr (some o))), some (.inl a1)]) rfl [] 8 w).trans rfl

-- ThornSchoolModel.tellsBy(JJ)Z
set_option maxRecDepth 100000 in
set_option maxHeartbeats 4000000 in
theorem B_X12_tellsBy (Z : mX) (o : Nat) (a1 : Int) (a2 : Int) (w : mW) : mm_run (zP Z) 219 [.inr (.inr (some o)), .inr (.inl a1), .inr (.inl a2)] w =
  mm_at (zP Z) 219 4 [some (.inr (.inr (some o))), some (.inr (.inl a1)), none, some (.inr (.inl a2)), none, some (.inr (.inl a1)), none, some (.inr (.inl a2)), none, none, none] [] w :=
  (mm_run_eq (P := zP Z) (y := 219) z_cd219 rfl (l := [some (.inr (.inr (some o))), some (.inr (.inl a1)), none, some (.inr (.inl a2)), none, none, none, none, none, none, none]) rfl [4] 5 w).trans rfl

set_option maxRecDepth 100000 in
set_option maxHeartbeats 4000000 in
theorem B_X12_tellsBy_4 (Z : mX) (o : Nat) (l1 : Int) (l3 : Int) (l5 : Int) (l7 : Int) (w : mW) : mm_at (zP Z) 219 4 [some (.inr (.inr (some o))), some (.inr (.inl l1)), none, some (.inr (.inl l3)), none, some (.inr (.inl l5)), none, some (.inr (.inl l7)), none, none, none] [] w =
  if mm_lcmp l7 0 = 0 then
   if l5 = 0 then none else
   (mm_p w o 12 3 (.inr (.inl (mm_ldiv l1 l5)))).bind fun w1 =>
   if l5 = 0 then none else
   (mm_p w1 o 12 4 (.inr (.inl (mm_ldiv l3 l5)))).bind fun w2 =>
   if mm_cls w2 o = 12 then
    (mm_kI (mm_run (zP Z) 215 [.inr (.inr (some o)), .inl 0] w2) fun x4 w3 =>
   if x4 = 0 ∨ x4 = 1 then some (some (.inl x4), w3) else none)
   else none
  else
   if l7 = 0 then none else
   mm_at (zP Z) 219 4 [some (.inr (.inr (some o))), some (.inr (.inl l1)), none, some (.inr (.inl l3)), none, some (.inr (.inl l7)), none, some (.inr (.inl (mm_lrem l5 l7))), none, none, none] [] w :=
  (mm_V_eq (P := zP Z) (y := 219) z_cd219 [4] 19 4 _ _ w).trans rfl

-- ThornSchoolModel.isTray(I)Z
set_option maxRecDepth 100000 in
set_option maxHeartbeats 4000000 in
theorem B_X12_isTray (Z : mX) (a0 : Int) (w : mW) : mm_run (zP Z) 220 [.inl a0] w =
  if a0 < 0 then
   some (some (.inl 0), w)
  else
   if a0 < 4 then
    some (some (.inl 1), w)
   else
    some (some (.inl 0), w) :=
  (mm_run_eq (P := zP Z) (y := 220) z_cd220 rfl (l := [some (.inl a0)]) rfl [] 9 w).trans rfl

-- ThornSchoolModel.cut(JI)J
set_option maxRecDepth 100000 in
set_option maxHeartbeats 4000000 in
theorem B_X12_cut (Z : mX) (a0 : Int) (a1 : Int) (w : mW) : mm_run (zP Z) 221 [.inr (.inl a0), .inl a1] w =
  if a1 = 0 then
   some (some (.inr (.inl (mm_i2b (mm_w32 a0)))), w)
  else
   if a1 = 1 then
    some (some (.inr (.inl (mm_i2s (mm_w32 a0)))), w)
   else
    if a1 = 2 then
     some (some (.inr (.inl (mm_w32 a0))), w)
    else
     some (some (.inr (.inl a0)), w) :=
  (mm_run_eq (P := zP Z) (y := 221) z_cd221 rfl (l := [some (.inr (.inl a0)), none, some (.inl a1)]) rfl [] 14 w).trans rfl

-- ThornSchoolModel.tray(III)Z
set_option maxRecDepth 100000 in
set_option maxHeartbeats 4000000 in
theorem B_X12_tray (Z : mX) (o : Nat) (a1 : Int) (a2 : Int) (a3 : Int) (w : mW) : mm_run (zP Z) 222 [.inr (.inr (some o)), .inl a1, .inl a2, .inl a3] w =
  mm_kI (mm_run (zP Z) 220 [.inl a1] w) fun x2 w1 =>
  if x2 = 0 then
   if mm_cls w1 o = 12 then
    (mm_kI (mm_run (zP Z) 215 [.inr (.inr (some o)), .inl 1] w1) fun x4 w3 =>
   if x4 = 0 ∨ x4 = 1 then some (some (.inl x4), w3) else none)
   else none
  else
   if a2 < 0 then
    if mm_cls w1 o = 12 then
     (mm_kI (mm_run (zP Z) 215 [.inr (.inr (some o)), .inl 1] w1) fun x6 w5 =>
    if x6 = 0 ∨ x6 = 1 then some (some (.inl x6), w5) else none)
    else none
   else
    if 3 < a2 then
     if mm_cls w1 o = 12 then
      (mm_kI (mm_run (zP Z) 215 [.inr (.inr (some o)), .inl 1] w1) fun x8 w7 =>
     if x8 = 0 ∨ x8 = 1 then some (some (.inl x8), w7) else none)
     else none
    else
     if a3 < 0 then
      if mm_cls w1 o = 12 then
       (mm_kI (mm_run (zP Z) 215 [.inr (.inr (some o)), .inl 1] w1) fun x10 w9 =>
      if x10 = 0 ∨ x10 = 1 then some (some (.inl x10), w9) else none)
      else none
     else
      if 60 < a3 then
       if mm_cls w1 o = 12 then
        (mm_kI (mm_run (zP Z) 215 [.inr (.inr (some o)), .inl 1] w1) fun x18 w17 =>
       if x18 = 0 ∨ x18 = 1 then some (some (.inl x18), w17) else none)
       else none
      else
       (mm_gR w1 o 12 5).bind fun r11 =>
       r11.bind fun q12 =>
       (mm_st 0 w1 q12 a1 a2).bind fun w13 =>
       (mm_gR w13 o 12 6).bind fun r14 =>
       r14.bind fun q15 =>
       (mm_st 0 w13 q15 a1 a3).bind fun w16 =>
       mm_at (zP Z) 222 29 [some (.inr (.inr (some o))), some (.inl a1), none, some (.inl a3), some (.inl 0)] [] w16 :=
  (mm_run_eq (P := zP Z) (y := 222) z_cd222 rfl (l := [some (.inr (.inr (some o))), some (.inl a1), some (.inl a2), some (.inl a3), none]) rfl [29] 26 w).trans rfl

set_option maxRecDepth 100000 in
set_option maxHeartbeats 4000000 in
theorem B_X12_tray_29 (Z : mX) (o : Nat) (l1 : Int) (l3 : Int) (l4 : Int) (w : mW) : mm_at (zP Z) 222 29 [some (.inr (.inr (some o))), some (.inl l1), none, some (.inl l3), some (.inl l4)] [] w =
  if l4 < l3 then
   (mm_gR w o 12 7).bind fun r3 =>
   r3.bind fun q4 =>
   (mm_st 3 w q4 (mm_w32 ((mm_w32 (60 * l1)) + l4)) 0).bind fun w5 =>
   mm_at (zP Z) 222 29 [some (.inr (.inr (some o))), some (.inl l1), none, some (.inl l3), some (.inl (mm_w32 (l4 + 1)))] [] w5
  else
   if mm_cls w o = 12 then
    (mm_kI (mm_run (zP Z) 215 [.inr (.inr (some o)), .inl 0] w) fun x2 w1 =>
   if x2 = 0 ∨ x2 = 1 then some (some (.inl x2), w1) else none)
   else none :=
  (mm_V_eq (P := zP Z) (y := 222) z_cd222 [29] 15 29 _ _ w).trans rfl

-- ThornSchoolModel.wrongPlace(II)I
set_option maxRecDepth 100000 in
set_option maxHeartbeats 4000000 in
theorem B_X12_wrongPlace (Z : mX) (o : Nat) (a1 : Int) (a2 : Int) (w : mW) : mm_run (zP Z) 223 [.inr (.inr (some o)), .inl a1, .inl a2] w =
  mm_kI (mm_run (zP Z) 220 [.inl a1] w) fun x2 w1 =>
  if x2 = 0 then
   some (some (.inl 1), w1)
  else
   (mm_gR w1 o 12 6).bind fun r3 =>
   r3.bind fun q4 =>
   (mm_ld 0 w1 q4 a1).bind fun x5 =>
   if x5 = (-1) then
    some (some (.inl 2), w1)
   else
    if a2 < 0 then
     some (some (.inl 3), w1)
    else
     (mm_gR w1 o 12 6).bind fun r6 =>
     r6.bind fun q7 =>
     (mm_ld 0 w1 q7 a1).bind fun x8 =>
     if a2 < x8 then
      some (some (.inl 0), w1)
     else
      some (some (.inl 3), w1) :=
  (mm_run_eq (P := zP Z) (y := 223) z_cd223 rfl (l := [some (.inr (.inr (some o))), some (.inl a1), some (.inl a2)]) rfl [] 21 w).trans rfl

-- ThornSchoolModel.write(IIJ)Z
set_option maxRecDepth 100000 in
set_option maxHeartbeats 4000000 in
theorem B_X12_write (Z : mX) (o : Nat) (a1 : Int) (a2 : Int) (a3 : Int) (w : mW) : mm_run (zP Z) 224 [.inr (.inr (some o)), .inl a1, .inl a2, .inr (.inl a3)] w =
  if mm_cls w o = 12 then
   (mm_kI (mm_run (zP Z) 223 [.inr (.inr (some o)), .inl a1, .inl a2] w) fun x2 w1 =>
  if x2 = 0 then
   (mm_gR w1 o 12 7).bind fun r5 =>
   (mm_gR w1 o 12 5).bind fun r6 =>
   r6.bind fun q7 =>
   (mm_ld 0 w1 q7 a1).bind fun x8 =>
   mm_kJ (mm_run (zP Z) 221 [.inr (.inl a3), .inl x8] w1) fun x10 w9 =>
   r5.bind fun q11 =>
   (mm_st 3 w9 q11 (mm_w32 ((mm_w32 (60 * a1)) + a2)) x10).bind fun w12 =>
   if mm_cls w12 o = 12 then
    (mm_kI (mm_run (zP Z) 215 [.inr (.inr (some o)), .inl x2] w12) fun x14 w13 =>
   if x14 = 0 ∨ x14 = 1 then some (some (.inl x14), w13) else none)
   else none
  else
   if mm_cls w1 o = 12 then
    (mm_kI (mm_run (zP Z) 215 [.inr (.inr (some o)), .inl x2] w1) fun x4 w3 =>
   if x4 = 0 ∨ x4 = 1 then some (some (.inl x4), w3) else none)
   else none)
  else none :=
  (mm_run_eq (P := zP Z) (y := 224) z_cd224 rfl (l := [some (.inr (.inr (some o))), some (.inl a1), some (.inl a2), some (.inr (.inl a3)), none, none]) rfl [] 26 w).trans rfl

-- ThornSchoolModel.read(II)J
set_option maxRecDepth 100000 in
set_option maxHeartbeats 4000000 in
theorem B_X12_read (Z : mX) (o : Nat) (a1 : Int) (a2 : Int) (w : mW) : mm_run (zP Z) 225 [.inr (.inr (some o)), .inl a1, .inl a2] w =
  if mm_cls w o = 12 then
   (mm_kI (mm_run (zP Z) 223 [.inr (.inr (some o)), .inl a1, .inl a2] w) fun x2 w1 =>
  (mm_p w1 o 12 2 (.inl x2)).bind fun w3 =>
  (mm_gI w3 o 12 2).bind fun x4 =>
  if 0 < x4 then
   some (some (.inr (.inl (-1))), w3)
  else
   (mm_gR w3 o 12 7).bind fun r5 =>
   r5.bind fun q6 =>
   (mm_ld 3 w3 q6 (mm_w32 ((mm_w32 (60 * a1)) + a2))).bind fun x7 =>
   some (some (.inr (.inl x7)), w3))
  else none :=
  (mm_run_eq (P := zP Z) (y := 225) z_cd225 rfl (l := [some (.inr (.inr (some o))), some (.inl a1), some (.inl a2)]) rfl [] 19 w).trans rfl

-- ThornSchoolModel.pour(IIIII)Z
set_option maxRecDepth 100000 in
set_option maxHeartbeats 4000000 in
theorem B_X12_pour (Z : mX) (o : Nat) (a1 : Int) (a2 : Int) (a3 : Int) (a4 : Int) (a5 : Int) (w : mW) : mm_run (zP Z) 226 [.inr (.inr (some o)), .inl a1, .inl a2, .inl a3, .inl a4, .inl a5] w =
  mm_kI (mm_run (zP Z) 220 [.inl a1] w) fun x2 w1 =>
  if x2 = 0 then
   if mm_cls w1 o = 12 then
    (mm_kI (mm_run (zP Z) 215 [.inr (.inr (some o)), .inl 1] w1) fun x4 w3 =>
   if x4 = 0 ∨ x4 = 1 then some (some (.inl x4), w3) else none)
   else none
  else
   mm_kI (mm_run (zP Z) 220 [.inl a3] w1) fun x6 w5 =>
   if x6 = 0 then
    if mm_cls w5 o = 12 then
     (mm_kI (mm_run (zP Z) 215 [.inr (.inr (some o)), .inl 1] w5) fun x8 w7 =>
    if x8 = 0 ∨ x8 = 1 then some (some (.inl x8), w7) else none)
    else none
   else
    if a2 < 0 then
     if mm_cls w5 o = 12 then
      (mm_kI (mm_run (zP Z) 215 [.inr (.inr (some o)), .inl 1] w5) fun x10 w9 =>
     if x10 = 0 ∨ x10 = 1 then some (some (.inl x10), w9) else none)
     else none
    else
     if a4 < 0 then
      if mm_cls w5 o = 12 then
       (mm_kI (mm_run (zP Z) 215 [.inr (.inr (some o)), .inl 1] w5) fun x12 w11 =>
      if x12 = 0 ∨ x12 = 1 then some (some (.inl x12), w11) else none)
      else none
     else
      if a5 < 0 then
       if mm_cls w5 o = 12 then
        (mm_kI (mm_run (zP Z) 215 [.inr (.inr (some o)), .inl 1] w5) fun x42 w41 =>
       if x42 = 0 ∨ x42 = 1 then some (some (.inl x42), w41) else none)
       else none
      else
       (mm_gR w5 o 12 6).bind fun r13 =>
       r13.bind fun q14 =>
       (mm_ld 0 w5 q14 a1).bind fun x15 =>
       if x15 = (-1) then
        if mm_cls w5 o = 12 then
         (mm_kI (mm_run (zP Z) 215 [.inr (.inr (some o)), .inl 2] w5) fun x17 w16 =>
        if x17 = 0 ∨ x17 = 1 then some (some (.inl x17), w16) else none)
        else none
       else
        (mm_gR w5 o 12 6).bind fun r18 =>
        r18.bind fun q19 =>
        (mm_ld 0 w5 q19 a3).bind fun x20 =>
        if x20 = (-1) then
         if mm_cls w5 o = 12 then
          (mm_kI (mm_run (zP Z) 215 [.inr (.inr (some o)), .inl 2] w5) fun x40 w39 =>
         if x40 = 0 ∨ x40 = 1 then some (some (.inl x40), w39) else none)
         else none
        else
         (mm_gR w5 o 12 5).bind fun r21 =>
         r21.bind fun q22 =>
         (mm_ld 0 w5 q22 a1).bind fun x23 =>
         (mm_gR w5 o 12 5).bind fun r24 =>
         r24.bind fun q25 =>
         (mm_ld 0 w5 q25 a3).bind fun x26 =>
         if x23 = x26 then
          (mm_gR w5 o 12 6).bind fun r27 =>
          r27.bind fun q28 =>
          (mm_ld 0 w5 q28 a1).bind fun x29 =>
          if mm_w32 (x29 - a2) < a5 then
           if mm_cls w5 o = 12 then
            (mm_kI (mm_run (zP Z) 215 [.inr (.inr (some o)), .inl 3] w5) fun x31 w30 =>
           if x31 = 0 ∨ x31 = 1 then some (some (.inl x31), w30) else none)
           else none
          else
           (mm_gR w5 o 12 6).bind fun r32 =>
           r32.bind fun q33 =>
           (mm_ld 0 w5 q33 a3).bind fun x34 =>
           if mm_w32 (x34 - a4) < a5 then
            if mm_cls w5 o = 12 then
             (mm_kI (mm_run (zP Z) 215 [.inr (.inr (some o)), .inl 3] w5) fun x36 w35 =>
            if x36 = 0 ∨ x36 = 1 then some (some (.inl x36), w35) else none)
            else none
           else
            mm_at (zP Z) 226 67 [some (.inr (.inr (some o))), some (.inl a1), some (.inl a2), some (.inl a3), some (.inl a4), some (.inl a5), some (.inl 0), none] [] w5
         else
          if mm_cls w5 o = 12 then
           (mm_kI (mm_run (zP Z) 215 [.inr (.inr (some o)), .inl 8] w5) fun x38 w37 =>
          if x38 = 0 ∨ x38 = 1 then some (some (.inl x38), w37) else none)
          else none :=
  (mm_run_eq (P := zP Z) (y := 226) z_cd226 rfl (l := [some (.inr (.inr (some o))), some (.inl a1), some (.inl a2), some (.inl a3), some (.inl a4), some (.inl a5), none, none]) rfl [67, 80] 54 w).trans rfl

set_option maxRecDepth 100000 in
set_option maxHeartbeats 4000000 in
theorem B_X12_pour_67 (Z : mX) (o : Nat) (l1 : Int) (l2 : Int) (l3 : Int) (l4 : Int) (l5 : Int) (l6 : Int) (w : mW) : mm_at (zP Z) 226 67 [some (.inr (.inr (some o))), some (.inl l1), some (.inl l2), some (.inl l3), some (.inl l4), some (.inl l5), some (.inl l6), none] [] w =
  if l6 < l5 then
   if l2 < l4 then
    mm_at (zP Z) 226 80 [some (.inr (.inr (some o))), some (.inl l1), some (.inl l2), some (.inl l3), some (.inl l4), some (.inl l5), some (.inl l6), none] [.inl (mm_w32 ((mm_w32 (l5 - 1)) - l6))] w
   else
    mm_at (zP Z) 226 80 [some (.inr (.inr (some o))), some (.inl l1), some (.inl l2), some (.inl l3), some (.inl l4), some (.inl l5), some (.inl l6), none] [.inl l6] w
  else
   if mm_cls w o = 12 then
    (mm_kI (mm_run (zP Z) 215 [.inr (.inr (some o)), .inl 0] w) fun x2 w1 =>
   if x2 = 0 ∨ x2 = 1 then some (some (.inl x2), w1) else none)
   else none :=
  (mm_V_eq (P := zP Z) (y := 226) z_cd226 [67, 80] 13 67 _ _ w).trans rfl

set_option maxRecDepth 100000 in
set_option maxHeartbeats 4000000 in
theorem B_X12_pour_80 (Z : mX) (o : Nat) (l1 : Int) (l2 : Int) (l3 : Int) (l4 : Int) (l5 : Int) (l6 : Int) (s0 : Int) (w : mW) : mm_at (zP Z) 226 80 [some (.inr (.inr (some o))), some (.inl l1), some (.inl l2), some (.inl l3), some (.inl l4), some (.inl l5), some (.inl l6), none] [.inl s0] w =
  (mm_gR w o 12 7).bind fun r1 =>
  (mm_gR w o 12 7).bind fun r2 =>
  r2.bind fun q3 =>
  (mm_ld 3 w q3 (mm_w32 ((mm_w32 ((mm_w32 (60 * l1)) + l2)) + s0))).bind fun x4 =>
  r1.bind fun q5 =>
  (mm_st 3 w q5 (mm_w32 ((mm_w32 ((mm_w32 (60 * l3)) + l4)) + s0)) x4).bind fun w6 =>
  mm_at (zP Z) 226 67 [some (.inr (.inr (some o))), some (.inl l1), some (.inl l2), some (.inl l3), some (.inl l4), some (.inl l5), some (.inl (mm_w32 (l6 + 1))), none] [] w6 :=
  (mm_V_eq (P := zP Z) (y := 226) z_cd226 [67, 80] 24 80 _ _ w).trans rfl

-- ThornSchoolModel.isFrom(JJJ)Z
set_option maxRecDepth 100000 in
set_option maxHeartbeats 4000000 in
theorem B_X12_isFrom (Z : mX) (a0 : Int) (a1 : Int) (a2 : Int) (w : mW) : mm_run (zP Z) 227 [.inr (.inl a0), .inr (.inl a1), .inr (.inl a2)] w =
  if mm_lcmp a0 a1 < 0 then
   some (some (.inl 0), w)
  else
   if 0 < mm_lcmp a0 a2 then
    some (some (.inl 0), w)
   else
    some (some (.inl 1), w) :=
  (mm_run_eq (P := zP Z) (y := 227) z_cd227 rfl (l := [some (.inr (.inl a0)), none, some (.inr (.inl a1)), none, some (.inr (.inl a2)), none]) rfl [] 12 w).trans rfl

-- ThornSchoolModel.feed(IIIII)I
set_option maxRecDepth 100000 in
set_option maxHeartbeats 4000000 in
theorem B_X12_feed (Z : mX) (o : Nat) (a1 : Int) (a2 : Int) (a3 : Int) (a4 : Int) (a5 : Int) (w : mW) : mm_run (zP Z) 228 [.inr (.inr (some o)), .inl a1, .inl a2, .inl a3, .inl a4, .inl a5] w =
  (mm_gI w o 12 10).bind fun x1 =>
  if 900 < mm_w32 (x1 + 20) then
   some (some (.inl (-1)), w)
  else
   if mm_cls w o = 12 then
    (mm_kV (mm_run (zP Z) 229 [.inr (.inr (some o)), .inl a1] w) fun w2 =>
   if mm_cls w2 o = 12 then
    (mm_kV (mm_run (zP Z) 229 [.inr (.inr (some o)), .inl a2] w2) fun w3 =>
   if mm_cls w3 o = 12 then
    (mm_kV (mm_run (zP Z) 229 [.inr (.inr (some o)), .inl a3] w3) fun w4 =>
   if mm_cls w4 o = 12 then
    (mm_kV (mm_run (zP Z) 229 [.inr (.inr (some o)), .inl a4] w4) fun w5 =>
   if mm_cls w5 o = 12 then
    (mm_kV (mm_run (zP Z) 229 [.inr (.inr (some o)), .inl a5] w5) fun w6 =>
   (mm_gI w6 o 12 10).bind fun x7 =>
   some (some (.inl x7), w6))
   else none)
   else none)
   else none)
   else none)
   else none :=
  (mm_run_eq (P := zP Z) (y := 228) z_cd228 rfl (l := [some (.inr (.inr (some o))), some (.inl a1), some (.inl a2), some (.inl a3), some (.inl a4), some (.inl a5)]) rfl [] 25 w).trans rfl

-- ThornSchoolModel.four(I)V
set_option maxRecDepth 100000 in
set_option maxHeartbeats 4000000 in
theorem B_X12_four (Z : mX) (o : Nat) (a1 : Int) (w : mW) : mm_run (zP Z) 229 [.inr (.inr (some o)), .inl a1] w =
  mm_at (zP Z) 229 2 [some (.inr (.inr (some o))), some (.inl a1), some (.inl 24)] [] w :=
  (mm_run_eq (P := zP Z) (y := 229) z_cd229 rfl (l := [some (.inr (.inr (some o))), some (.inl a1), none]) rfl [2] 3 w).trans rfl

set_option maxRecDepth 100000 in
set_option maxHeartbeats 4000000 in
theorem B_X12_four_2 (Z : mX) (o : Nat) (l1 : Int) (l2 : Int) (w : mW) : mm_at (zP Z) 229 2 [some (.inr (.inr (some o))), some (.inl l1), some (.inl l2)] [] w =
  if l2 < 0 then
   some (none, w)
  else
   (mm_gR w o 12 8).bind fun r1 =>
   (mm_gI w o 12 10).bind fun x2 =>
   r1.bind fun q3 =>
   (mm_st 1 w q3 x2 (mm_i2b (mm_i2b (mm_ishr l1 l2)))).bind fun w4 =>
   (mm_gI w4 o 12 10).bind fun x5 =>
   (mm_p w4 o 12 10 (.inl (mm_w32 (x5 + 1)))).bind fun w6 =>
   mm_at (zP Z) 229 2 [some (.inr (.inr (some o))), some (.inl l1), some (.inl (mm_w32 (l2 + (-8))))] [] w6 :=
  (mm_V_eq (P := zP Z) (y := 229) z_cd229 [2] 20 2 _ _ w).trans rfl

-- ThornSchoolModel.byteAt(I)I
set_option maxRecDepth 100000 in
set_option maxHeartbeats 4000000 in
theorem B_X12_byteAt (Z : mX) (o : Nat) (a1 : Int) (w : mW) : mm_run (zP Z) 230 [.inr (.inr (some o)), .inl a1] w =
  (mm_gI w o 12 11).bind fun x1 =>
  if a1 < x1 then
   (mm_gR w o 12 9).bind fun r2 =>
   r2.bind fun q3 =>
   (mm_ld 1 w q3 a1).bind fun x4 =>
   some (some (.inl (mm_iand x4 255)), w)
  else
   some (some (.inl (-1)), w) :=
  (mm_run_eq (P := zP Z) (y := 230) z_cd230 rfl (l := [some (.inr (.inr (some o))), some (.inl a1)]) rfl [] 13 w).trans rfl

-- ThornSchoolModel.isSmall(I)Z
set_option maxRecDepth 100000 in
set_option maxHeartbeats 4000000 in
theorem B_X12_isSmall (Z : mX) (a0 : Int) (w : mW) : mm_run (zP Z) 231 [.inl a0] w =
  if a0 < 97 then
   some (some (.inl 0), w)
  else
   if 122 < a0 then
    some (some (.inl 0), w)
   else
    some (some (.inl 1), w) :=
  (mm_run_eq (P := zP Z) (y := 231) z_cd231 rfl (l := [some (.inl a0)]) rfl [] 10 w).trans rfl

-- ThornSchoolModel.isDigit(I)Z
set_option maxRecDepth 100000 in
set_option maxHeartbeats 4000000 in
theorem B_X12_isDigit (Z : mX) (a0 : Int) (w : mW) : mm_run (zP Z) 232 [.inl a0] w =
  if a0 < 48 then
   some (some (.inl 0), w)
  else
   if 57 < a0 then
    some (some (.inl 0), w)
   else
    some (some (.inl 1), w) :=
  (mm_run_eq (P := zP Z) (y := 232) z_cd232 rfl (l := [some (.inl a0)]) rfl [] 10 w).trans rfl

-- ThornSchoolModel.ahead()V
set_option maxRecDepth 100000 in
set_option maxHeartbeats 4000000 in
theorem B_X12_ahead (Z : mX) (o : Nat) (w : mW) : mm_run (zP Z) 233 [.inr (.inr (some o))] w =
  (mm_gI w o 12 14).bind fun x1 =>
  if mm_cls w o = 12 then
   (mm_kI (mm_run (zP Z) 230 [.inr (.inr (some o)), .inl x1] w) fun x3 w2 =>
  if x3 = 32 then
   mm_at (zP Z) 233 12 [some (.inr (.inr (some o))), none] [] w2
  else
   (mm_gI w2 o 12 14).bind fun x4 =>
   if mm_cls w2 o = 12 then
    (mm_kI (mm_run (zP Z) 230 [.inr (.inr (some o)), .inl x4] w2) fun x6 w5 =>
   if x6 = 10 then
    mm_at (zP Z) 233 12 [some (.inr (.inr (some o))), none] [] w5
   else
    (mm_gI w5 o 12 14).bind fun x7 =>
    (mm_p w5 o 12 13 (.inl x7)).bind fun w8 =>
    (mm_gI w8 o 12 14).bind fun x9 =>
    if mm_cls w8 o = 12 then
     (mm_kI (mm_run (zP Z) 230 [.inr (.inr (some o)), .inl x9] w8) fun x11 w10 =>
    (mm_p w10 o 12 15 (.inl x11)).bind fun w12 =>
    if x11 = (-1) then
     (mm_p w12 o 12 12 (.inl 0)).bind fun w25 =>
     some (none, w25)
    else
     mm_kI (mm_run (zP Z) 231 [.inl x11] w12) fun x14 w13 =>
     if x14 = 0 then
      mm_kI (mm_run (zP Z) 232 [.inl x11] w13) fun x16 w15 =>
      if x16 = 0 then
       (mm_gI w15 o 12 14).bind fun x17 =>
       (mm_p w15 o 12 14 (.inl (mm_w32 (x17 + 1)))).bind fun w18 =>
       if x11 = 59 then
        (mm_p w18 o 12 12 (.inl 4)).bind fun w19 =>
        some (none, w19)
       else
        if x11 = 60 then
         (mm_p w18 o 12 12 (.inl 4)).bind fun w20 =>
         some (none, w20)
        else
         if x11 = 62 then
          (mm_p w18 o 12 12 (.inl 4)).bind fun w21 =>
          some (none, w21)
         else
          if x11 = 61 then
           (mm_p w18 o 12 12 (.inl 4)).bind fun w23 =>
           some (none, w23)
          else
           (mm_p w18 o 12 12 (.inl 1)).bind fun w22 =>
           some (none, w22)
      else
       (mm_p w15 o 12 15 (.inl 0)).bind fun w24 =>
       mm_at (zP Z) 233 64 [some (.inr (.inr (some o))), none] [] w24
     else
      mm_at (zP Z) 233 41 [some (.inr (.inr (some o))), none] [] w13)
    else none)
   else none)
  else none :=
  (mm_run_eq (P := zP Z) (y := 233) z_cd233 rfl (l := [some (.inr (.inr (some o))), none]) rfl [0, 12, 41, 64] 57 w).trans rfl

set_option maxRecDepth 100000 in
set_option maxHeartbeats 4000000 in
theorem B_X12_ahead_12 (Z : mX) (o : Nat) (w : mW) : mm_at (zP Z) 233 12 [some (.inr (.inr (some o))), none] [] w =
  (mm_gI w o 12 14).bind fun x1 =>
  (mm_p w o 12 14 (.inl (mm_w32 (x1 + 1)))).bind fun w2 =>
  mm_at (zP Z) 233 0 [some (.inr (.inr (some o))), none] [] w2 :=
  (mm_V_eq (P := zP Z) (y := 233) z_cd233 [0, 12, 41, 64] 8 12 _ _ w).trans rfl

set_option maxRecDepth 100000 in
set_option maxHeartbeats 4000000 in
theorem B_X12_ahead_41 (Z : mX) (o : Nat) (w : mW) : mm_at (zP Z) 233 41 [some (.inr (.inr (some o))), none] [] w =
  (mm_gI w o 12 14).bind fun x1 =>
  if mm_cls w o = 12 then
   (mm_kI (mm_run (zP Z) 230 [.inr (.inr (some o)), .inl x1] w) fun x3 w2 =>
  mm_kI (mm_run (zP Z) 231 [.inl x3] w2) fun x5 w4 =>
  if x5 = 0 then
   (mm_p w4 o 12 12 (.inl 2)).bind fun w6 =>
   some (none, w6)
  else
   (mm_gI w4 o 12 14).bind fun x7 =>
   (mm_p w4 o 12 14 (.inl (mm_w32 (x7 + 1)))).bind fun w8 =>
   mm_at (zP Z) 233 41 [some (.inr (.inr (some o))), none] [] w8)
  else none :=
  (mm_V_eq (P := zP Z) (y := 233) z_cd233 [0, 12, 41, 64] 14 41 _ _ w).trans rfl

set_option maxRecDepth 100000 in
set_option maxHeartbeats 4000000 in
theorem B_X12_ahead_64 (Z : mX) (o : Nat) (w : mW) : mm_at (zP Z) 233 64 [some (.inr (.inr (some o))), none] [] w =
  (mm_gI w o 12 14).bind fun x1 =>
  if mm_cls w o = 12 then
   (mm_kI (mm_run (zP Z) 230 [.inr (.inr (some o)), .inl x1] w) fun x3 w2 =>
  mm_kI (mm_run (zP Z) 232 [.inl x3] w2) fun x5 w4 =>
  if x5 = 0 then
   (mm_gI w4 o 12 14).bind fun x6 =>
   (mm_gI w4 o 12 13).bind fun x7 =>
   if 4 < mm_w32 (x6 - x7) then
    (mm_p w4 o 12 12 (.inl 1)).bind fun w9 =>
    some (none, w9)
   else
    (mm_p w4 o 12 12 (.inl 3)).bind fun w8 =>
    some (none, w8)
  else
   (mm_gI w4 o 12 15).bind fun x10 =>
   (mm_gI w4 o 12 14).bind fun x11 =>
   if mm_cls w4 o = 12 then
    (mm_kI (mm_run (zP Z) 230 [.inr (.inr (some o)), .inl x11] w4) fun x13 w12 =>
   (mm_p w12 o 12 15 (.inl (if mm_w32 ((mm_w32 ((mm_w32 (10 * x10)) + x13)) - 48) < 100000 then mm_w32 ((mm_w32 ((mm_w32 (10 * x10)) + x13)) - 48) else 100000))).bind fun w14 =>
   (mm_gI w14 o 12 14).bind fun x15 =>
   (mm_p w14 o 12 14 (.inl (mm_w32 (x15 + 1)))).bind fun w16 =>
   mm_at (zP Z) 233 64 [some (.inr (.inr (some o))), none] [] w16)
   else none)
  else none :=
  (mm_V_eq (P := zP Z) (y := 233) z_cd233 [0, 12, 41, 64] 29 64 _ _ w).trans rfl

-- ThornSchoolModel.isSign(I)Z
set_option maxRecDepth 100000 in
set_option maxHeartbeats 4000000 in
theorem B_X12_isSign (Z : mX) (o : Nat) (a1 : Int) (w : mW) : mm_run (zP Z) 234 [.inr (.inr (some o)), .inl a1] w =
  (mm_gI w o 12 12).bind fun x1 =>
  if x1 = 4 then
   (mm_gI w o 12 15).bind fun x2 =>
   if x2 = a1 then
    some (some (.inl 1), w)
   else
    some (some (.inl 0), w)
  else
   some (some (.inl 0), w) :=
  (mm_run_eq (P := zP Z) (y := 234) z_cd234 rfl (l := [some (.inr (.inr (some o))), some (.inl a1)]) rfl [] 12 w).trans rfl

-- ThornSchoolModel.inWords(Ljava/lang/String;)I
set_option maxRecDepth 100000 in
set_option maxHeartbeats 4000000 in
theorem B_X12_inWords (Z : mX) (o : Nat) (a1 : Option Nat) (w : mW) : mm_run (zP Z) 235 [.inr (.inr (some o)), .inr (.inr a1)] w =
  (mm_gI w o 12 12).bind fun x1 =>
  if x1 = 2 then
   mm_at (zP Z) 235 10 [some (.inr (.inr (some o))), some (.inr (.inr a1)), some (.inl 0), some (.inl 1), none, none, none] [] w
  else
   some (some (.inl (-1)), w) :=
  (mm_run_eq (P := zP Z) (y := 235) z_cd235 rfl (l := [some (.inr (.inr (some o))), some (.inr (.inr a1)), none, none, none, none, none]) rfl [10, 16, 38, 61] 9 w).trans rfl

set_option maxRecDepth 100000 in
set_option maxHeartbeats 4000000 in
theorem B_X12_inWords_10 (Z : mX) (o : Nat) (l1 : Option Nat) (l2 : Int) (l3 : Int) (w : mW) : mm_at (zP Z) 235 10 [some (.inr (.inr (some o))), some (.inr (.inr l1)), some (.inl l2), some (.inl l3), none, none, none] [] w =
  l1.bind fun q1 =>
  if q1 < 2 then
   (if l3 < ((z_strs q1).length : Int) then
   mm_at (zP Z) 235 16 [some (.inr (.inr (some o))), some (.inr (.inr l1)), some (.inl l2), some (.inl l3), some (.inl l3), none, none] [] w
  else
   some (some (.inl (-1)), w))
  else none :=
  (mm_V_eq (P := zP Z) (y := 235) z_cd235 [10, 16, 38, 61] 7 10 _ _ w).trans rfl

set_option maxRecDepth 100000 in
set_option maxHeartbeats 4000000 in
theorem B_X12_inWords_16 (Z : mX) (o : Nat) (l1 : Option Nat) (l2 : Int) (l3 : Int) (l4 : Int) (w : mW) : mm_at (zP Z) 235 16 [some (.inr (.inr (some o))), some (.inr (.inr l1)), some (.inl l2), some (.inl l3), some (.inl l4), none, none] [] w =
  l1.bind fun q1 =>
  if q1 < 2 ∧ 0 ≤ l4 ∧ l4 < (z_strs q1).length then
   (if (z_strs q1).getD (Int.toNat l4) 0 = 32 then
   (mm_gI w o 12 14).bind fun x2 =>
   (mm_gI w o 12 13).bind fun x3 =>
   if mm_w32 (l4 - l3) = mm_w32 (x2 - x3) then
    mm_at (zP Z) 235 38 [some (.inr (.inr (some o))), some (.inr (.inr l1)), some (.inl l2), some (.inl l3), some (.inl l4), some (.inl 1), some (.inl l3)] [] w
   else
    mm_at (zP Z) 235 38 [some (.inr (.inr (some o))), some (.inr (.inr l1)), some (.inl l2), some (.inl l3), some (.inl l4), some (.inl 0), some (.inl l3)] [] w
  else
   mm_at (zP Z) 235 16 [some (.inr (.inr (some o))), some (.inr (.inr l1)), some (.inl l2), some (.inl l3), some (.inl (mm_w32 (l4 + 1))), none, none] [] w)
  else none :=
  (mm_V_eq (P := zP Z) (y := 235) z_cd235 [10, 16, 38, 61] 20 16 _ _ w).trans rfl

set_option maxRecDepth 100000 in
set_option maxHeartbeats 4000000 in
theorem B_X12_inWords_38 (Z : mX) (o : Nat) (l1 : Option Nat) (l2 : Int) (l3 : Int) (l4 : Int) (l5 : Int) (l6 : Int) (w : mW) : mm_at (zP Z) 235 38 [some (.inr (.inr (some o))), some (.inr (.inr l1)), some (.inl l2), some (.inl l3), some (.inl l4), some (.inl l5), some (.inl l6)] [] w =
  if l6 < l4 then
   if l5 = 0 then
    mm_at (zP Z) 235 61 [some (.inr (.inr (some o))), some (.inr (.inr l1)), some (.inl l2), none, some (.inl l4), some (.inl l5), none] [] w
   else
    l1.bind fun q1 =>
    if q1 < 2 ∧ 0 ≤ l6 ∧ l6 < (z_strs q1).length then
     ((mm_gI w o 12 13).bind fun x2 =>
    if mm_cls w o = 12 then
     (mm_kI (mm_run (zP Z) 230 [.inr (.inr (some o)), .inl (mm_w32 ((mm_w32 (x2 + l6)) - l3))] w) fun x4 w3 =>
    if (z_strs q1).getD (Int.toNat l6) 0 = x4 then
     mm_at (zP Z) 235 38 [some (.inr (.inr (some o))), some (.inr (.inr l1)), some (.inl l2), some (.inl l3), some (.inl l4), some (.inl 1), some (.inl (mm_w32 (l6 + 1)))] [] w3
    else
     mm_at (zP Z) 235 38 [some (.inr (.inr (some o))), some (.inr (.inr l1)), some (.inl l2), some (.inl l3), some (.inl l4), some (.inl 0), some (.inl (mm_w32 (l6 + 1)))] [] w3)
    else none)
    else none
  else
   mm_at (zP Z) 235 61 [some (.inr (.inr (some o))), some (.inr (.inr l1)), some (.inl l2), none, some (.inl l4), some (.inl l5), none] [] w :=
  (mm_V_eq (P := zP Z) (y := 235) z_cd235 [10, 16, 38, 61] 23 38 _ _ w).trans rfl

set_option maxRecDepth 100000 in
set_option maxHeartbeats 4000000 in
theorem B_X12_inWords_61 (Z : mX) (o : Nat) (l1 : Option Nat) (l2 : Int) (l4 : Int) (l5 : Int) (w : mW) : mm_at (zP Z) 235 61 [some (.inr (.inr (some o))), some (.inr (.inr l1)), some (.inl l2), none, some (.inl l4), some (.inl l5), none] [] w =
  if l5 = 0 then
   mm_at (zP Z) 235 10 [some (.inr (.inr (some o))), some (.inr (.inr l1)), some (.inl (mm_w32 (l2 + 1))), some (.inl (mm_w32 (l4 + 1))), none, none, none] [] w
  else
   some (some (.inl l2), w) :=
  (mm_V_eq (P := zP Z) (y := 235) z_cd235 [10, 16, 38, 61] 9 61 _ _ w).trans rfl

-- ThornSchoolModel.fails(I)Z
set_option maxRecDepth 100000 in
set_option maxHeartbeats 4000000 in
theorem B_X12_fails (Z : mX) (o : Nat) (a1 : Int) (w : mW) : mm_run (zP Z) 236 [.inr (.inr (some o)), .inl a1] w =
  (mm_gI w o 12 18).bind fun x1 =>
  if x1 = 0 then
   (mm_gI w o 12 12).bind fun x2 =>
   if x2 = 1 then
    mm_at (zP Z) 236 11 [some (.inr (.inr (some o))), none] [.inl 1, .inr (.inr (some o))] w
   else
    mm_at (zP Z) 236 11 [some (.inr (.inr (some o))), none] [.inl a1, .inr (.inr (some o))] w
  else
   some (some (.inl 0), w) :=
  (mm_run_eq (P := zP Z) (y := 236) z_cd236 rfl (l := [some (.inr (.inr (some o))), some (.inl a1)]) rfl [11] 11 w).trans rfl

set_option maxRecDepth 100000 in
set_option maxHeartbeats 4000000 in
theorem B_X12_fails_11 (Z : mX) (o : Nat) (s0 : Option Nat) (s1 : Int) (w : mW) : mm_at (zP Z) 236 11 [some (.inr (.inr (some o))), none] [.inl s1, .inr (.inr s0)] w =
  s0.bind fun q1 =>
  (mm_p w q1 12 18 (.inl s1)).bind fun w2 =>
  (mm_gI w2 o 12 13).bind fun x3 =>
  (mm_p w2 o 12 17 (.inl x3)).bind fun w4 =>
  some (some (.inl 0), w4) :=
  (mm_V_eq (P := zP Z) (y := 236) z_cd236 [11] 8 11 _ _ w).trans rfl

-- ThornSchoolModel.begins(II)Z
set_option maxRecDepth 100000 in
set_option maxHeartbeats 4000000 in
theorem B_X12_begins (Z : mX) (o : Nat) (a1 : Int) (a2 : Int) (w : mW) : mm_run (zP Z) 237 [.inr (.inr (some o)), .inl a1, .inl a2] w =
  if a1 < 0 then
   some (some (.inl 0), w)
  else
   (mm_gI w o 12 10).bind fun x1 =>
   if x1 < a1 then
    some (some (.inl 0), w)
   else
    if a2 < a1 then
     some (some (.inl 0), w)
    else
     (mm_p w o 12 11 (.inl a1)).bind fun w2 =>
     mm_at (zP Z) 237 16 [some (.inr (.inr (some o))), some (.inl a1), none, some (.inl 0)] [] w2 :=
  (mm_run_eq (P := zP Z) (y := 237) z_cd237 rfl (l := [some (.inr (.inr (some o))), some (.inl a1), some (.inl a2), none]) rfl [16] 15 w).trans rfl

set_option maxRecDepth 100000 in
set_option maxHeartbeats 4000000 in
theorem B_X12_begins_16 (Z : mX) (o : Nat) (l1 : Int) (l3 : Int) (w : mW) : mm_at (zP Z) 237 16 [some (.inr (.inr (some o))), some (.inl l1), none, some (.inl l3)] [] w =
  if l3 < l1 then
   (mm_gR w o 12 9).bind fun r7 =>
   (mm_gR w o 12 8).bind fun r8 =>
   r8.bind fun q9 =>
   (mm_ld 1 w q9 l3).bind fun x10 =>
   r7.bind fun q11 =>
   (mm_st 1 w q11 l3 (mm_i2b x10)).bind fun w12 =>
   mm_at (zP Z) 237 16 [some (.inr (.inr (some o))), some (.inl l1), none, some (.inl (mm_w32 (l3 + 1)))] [] w12
  else
   (mm_p w o 12 10 (.inl 0)).bind fun w1 =>
   (mm_p w1 o 12 18 (.inl 0)).bind fun w2 =>
   (mm_p w2 o 12 17 (.inl (-1))).bind fun w3 =>
   (mm_p w3 o 12 14 (.inl 0)).bind fun w4 =>
   (mm_p w4 o 12 19 (.inl 0)).bind fun w5 =>
   if mm_cls w5 o = 12 then
    (mm_kV (mm_run (zP Z) 233 [.inr (.inr (some o))] w5) fun w6 =>
   some (some (.inl 1), w6))
   else none :=
  (mm_V_eq (P := zP Z) (y := 237) z_cd237 [16] 23 16 _ _ w).trans rfl

-- ThornSchoolModel.wantSign(I)Z
set_option maxRecDepth 100000 in
set_option maxHeartbeats 4000000 in
theorem B_X12_wantSign (Z : mX) (o : Nat) (a1 : Int) (w : mW) : mm_run (zP Z) 238 [.inr (.inr (some o)), .inl a1] w =
  if mm_cls w o = 12 then
   (mm_kI (mm_run (zP Z) 234 [.inr (.inr (some o)), .inl a1] w) fun x2 w1 =>
  if x2 = 0 then
   if mm_cls w1 o = 12 then
    (mm_kI (mm_run (zP Z) 236 [.inr (.inr (some o)), .inl 2] w1) fun x5 w4 =>
   if x5 = 0 ∨ x5 = 1 then some (some (.inl x5), w4) else none)
   else none
  else
   if mm_cls w1 o = 12 then
    (mm_kV (mm_run (zP Z) 233 [.inr (.inr (some o))] w1) fun w3 =>
   some (some (.inl 1), w3))
   else none)
  else none :=
  (mm_run_eq (P := zP Z) (y := 238) z_cd238 rfl (l := [some (.inr (.inr (some o))), some (.inl a1)]) rfl [] 9 w).trans rfl

-- ThornSchoolModel.wantWord(Ljava/lang/String;I)Z
set_option maxRecDepth 100000 in
set_option maxHeartbeats 4000000 in
theorem B_X12_wantWord (Z : mX) (o : Nat) (a1 : Option Nat) (a2 : Int) (w : mW) : mm_run (zP Z) 239 [.inr (.inr (some o)), .inr (.inr a1), .inl a2] w =
  if mm_cls w o = 12 then
   (mm_kI (mm_run (zP Z) 235 [.inr (.inr (some o)), .inr (.inr a1)] w) fun x2 w1 =>
  if x2 = a2 then
   if mm_cls w1 o = 12 then
    (mm_kV (mm_run (zP Z) 233 [.inr (.inr (some o))] w1) fun w3 =>
   some (some (.inl 1), w3))
   else none
  else
   if mm_cls w1 o = 12 then
    (mm_kI (mm_run (zP Z) 236 [.inr (.inr (some o)), .inl 2] w1) fun x5 w4 =>
   if x5 = 0 ∨ x5 = 1 then some (some (.inl x5), w4) else none)
   else none)
  else none :=
  (mm_run_eq (P := zP Z) (y := 239) z_cd239 rfl (l := [some (.inr (.inr (some o))), some (.inr (.inr a1)), some (.inl a2)]) rfl [] 10 w).trans rfl

-- ThornSchoolModel.number(III)Z
set_option maxRecDepth 100000 in
set_option maxHeartbeats 4000000 in
theorem B_X12_number (Z : mX) (o : Nat) (a1 : Int) (a2 : Int) (a3 : Int) (w : mW) : mm_run (zP Z) 240 [.inr (.inr (some o)), .inl a1, .inl a2, .inl a3] w =
  (mm_gI w o 12 12).bind fun x1 =>
  if x1 = 3 then
   (mm_gI w o 12 15).bind fun x2 =>
   if x2 < a2 then
    if mm_cls w o = 12 then
     (mm_kI (mm_run (zP Z) 236 [.inr (.inr (some o)), .inl 4] w) fun x4 w3 =>
    if x4 = 0 ∨ x4 = 1 then some (some (.inl x4), w3) else none)
    else none
   else
    (mm_gI w o 12 15).bind fun x5 =>
    if a3 < x5 then
     if mm_cls w o = 12 then
      (mm_kI (mm_run (zP Z) 236 [.inr (.inr (some o)), .inl 4] w) fun x12 w11 =>
     if x12 = 0 ∨ x12 = 1 then some (some (.inl x12), w11) else none)
     else none
    else
     (mm_gR w o 12 0).bind fun r6 =>
     (mm_gI w o 12 15).bind fun x7 =>
     r6.bind fun q8 =>
     (mm_st 0 w q8 a1 x7).bind fun w9 =>
     if mm_cls w9 o = 12 then
      (mm_kV (mm_run (zP Z) 233 [.inr (.inr (some o))] w9) fun w10 =>
     some (some (.inl 1), w10))
     else none
  else
   if mm_cls w o = 12 then
    (mm_kI (mm_run (zP Z) 236 [.inr (.inr (some o)), .inl 2] w) fun x14 w13 =>
   if x14 = 0 ∨ x14 = 1 then some (some (.inl x14), w13) else none)
   else none :=
  (mm_run_eq (P := zP Z) (y := 240) z_cd240 rfl (l := [some (.inr (.inr (some o))), some (.inl a1), some (.inl a2), some (.inl a3)]) rfl [] 23 w).trans rfl

-- ThornSchoolModel.isName(Ljava/lang/String;)Z
set_option maxRecDepth 100000 in
set_option maxHeartbeats 4000000 in
theorem B_X12_isName (Z : mX) (o : Nat) (a1 : Option Nat) (w : mW) : mm_run (zP Z) 241 [.inr (.inr (some o)), .inr (.inr a1)] w =
  (mm_gI w o 12 12).bind fun x1 =>
  if x1 = 2 then
   (mm_gI w o 12 14).bind fun x2 =>
   (mm_gI w o 12 13).bind fun x3 =>
   if 8 < mm_w32 (x2 - x3) then
    some (some (.inl 0), w)
   else
    if mm_cls w o = 12 then
     (mm_kI (mm_run (zP Z) 235 [.inr (.inr (some o)), .inr (.inr a1)] w) fun x5 w4 =>
    if x5 = (-1) then
     some (some (.inl 1), w4)
    else
     some (some (.inl 0), w4))
    else none
  else
   some (some (.inl 0), w) :=
  (mm_run_eq (P := zP Z) (y := 241) z_cd241 rfl (l := [some (.inr (.inr (some o))), some (.inr (.inr a1))]) rfl [] 20 w).trans rfl

-- ThornSchoolModel.nameHere()J
set_option maxRecDepth 100000 in
set_option maxHeartbeats 4000000 in
theorem B_X12_nameHere (Z : mX) (o : Nat) (w : mW) : mm_run (zP Z) 242 [.inr (.inr (some o))] w =
  (mm_gI w o 12 13).bind fun x1 =>
  mm_at (zP Z) 242 5 [some (.inr (.inr (some o))), some (.inr (.inl 0)), none, some (.inl x1)] [] w :=
  (mm_run_eq (P := zP Z) (y := 242) z_cd242 rfl (l := [some (.inr (.inr (some o))), none, none, none]) rfl [5] 6 w).trans rfl

set_option maxRecDepth 100000 in
set_option maxHeartbeats 4000000 in
theorem B_X12_nameHere_5 (Z : mX) (o : Nat) (l1 : Int) (l3 : Int) (w : mW) : mm_at (zP Z) 242 5 [some (.inr (.inr (some o))), some (.inr (.inl l1)), none, some (.inl l3)] [] w =
  (mm_gI w o 12 14).bind fun x1 =>
  if l3 < x1 then
   if mm_cls w o = 12 then
    (mm_kI (mm_run (zP Z) 230 [.inr (.inr (some o)), .inl l3] w) fun x3 w2 =>
   mm_at (zP Z) 242 5 [some (.inr (.inr (some o))), some (.inr (.inl (mm_lor (mm_lshl l1 8) x3))), none, some (.inl (mm_w32 (l3 + 1)))] [] w2)
   else none
  else
   some (some (.inr (.inl l1)), w) :=
  (mm_V_eq (P := zP Z) (y := 242) z_cd242 [5] 16 5 _ _ w).trans rfl

-- ThornSchoolModel.findHere(II)I
set_option maxRecDepth 100000 in
set_option maxHeartbeats 4000000 in
theorem B_X12_findHere (Z : mX) (o : Nat) (a1 : Int) (a2 : Int) (w : mW) : mm_run (zP Z) 243 [.inr (.inr (some o)), .inl a1, .inl a2] w =
  mm_at (zP Z) 243 2 [some (.inr (.inr (some o))), some (.inl a1), some (.inl a2), some (.inl 0)] [] w :=
  (mm_run_eq (P := zP Z) (y := 243) z_cd243 rfl (l := [some (.inr (.inr (some o))), some (.inl a1), some (.inl a2), none]) rfl [2] 3 w).trans rfl

set_option maxRecDepth 100000 in
set_option maxHeartbeats 4000000 in
theorem B_X12_findHere_2 (Z : mX) (o : Nat) (l1 : Int) (l2 : Int) (l3 : Int) (w : mW) : mm_at (zP Z) 243 2 [some (.inr (.inr (some o))), some (.inl l1), some (.inl l2), some (.inl l3)] [] w =
  if l3 < l2 then
   (mm_gR w o 12 1).bind fun r1 =>
   r1.bind fun q2 =>
   (mm_ld 3 w q2 (mm_w32 (l1 + l3))).bind fun x3 =>
   if mm_cls w o = 12 then
    (mm_kJ (mm_run (zP Z) 242 [.inr (.inr (some o))] w) fun x5 w4 =>
   if mm_lcmp x3 x5 = 0 then
    some (some (.inl l3), w4)
   else
    mm_at (zP Z) 243 2 [some (.inr (.inr (some o))), some (.inl l1), some (.inl l2), some (.inl (mm_w32 (l3 + 1)))] [] w4)
   else none
  else
   some (some (.inl (-1)), w) :=
  (mm_V_eq (P := zP Z) (y := 243) z_cd243 [2] 16 2 _ _ w).trans rfl

-- ThornSchoolModel.fault(I)I
set_option maxRecDepth 100000 in
set_option maxHeartbeats 4000000 in
theorem B_X12_fault (Z : mX) (o : Nat) (a1 : Int) (w : mW) : mm_run (zP Z) 244 [.inr (.inr (some o)), .inl a1] w =
  if a1 = 0 then
   (mm_gI w o 12 16).bind fun x2 =>
   some (some (.inl x2), w)
  else
   if a1 = 1 then
    (mm_gI w o 12 17).bind fun x1 =>
    some (some (.inl x1), w)
   else
    some (some (.inl (-1)), w) :=
  (mm_run_eq (P := zP Z) (y := 244) z_cd244 rfl (l := [some (.inr (.inr (some o))), some (.inl a1)]) rfl [] 10 w).trans rfl

-- ThornSchoolModel.taken(I)I
set_option maxRecDepth 100000 in
set_option maxHeartbeats 4000000 in
theorem B_X12_taken (Z : mX) (o : Nat) (a1 : Int) (w : mW) : mm_run (zP Z) 245 [.inr (.inr (some o)), .inl a1] w =
  (mm_gI w o 12 18).bind fun x1 =>
  (mm_p w o 12 16 (.inl x1)).bind fun w2 =>
  (mm_gI w2 o 12 18).bind fun x3 =>
  if 0 < x3 then
   if mm_cls w2 o = 12 then
    (mm_kI (mm_run (zP Z) 216 [.inr (.inr (some o)), .inl 9] w2) fun x7 w6 =>
   some (some (.inl x7), w6))
   else none
  else
   if mm_cls w2 o = 12 then
    (mm_kI (mm_run (zP Z) 217 [.inr (.inr (some o)), .inl a1] w2) fun x5 w4 =>
   some (some (.inl x5), w4))
   else none :=
  (mm_run_eq (P := zP Z) (y := 245) z_cd245 rfl (l := [some (.inr (.inr (some o))), some (.inl a1)]) rfl [] 13 w).trans rfl

-- ThornSchoolModel.lessonRow(I)I
set_option maxRecDepth 100000 in
set_option maxHeartbeats 4000000 in
theorem B_X12_lessonRow (Z : mX) (a0 : Int) (w : mW) : mm_run (zP Z) 246 [.inl a0] w =
  some (some (.inl (mm_w32 (60 + (mm_w32 (2 * a0))))), w) :=
  (mm_run_eq (P := zP Z) (y := 246) z_cd246 rfl (l := [some (.inl a0)]) rfl [] 7 w).trans rfl

-- ThornSchoolModel.pupilRow(I)I
set_option maxRecDepth 100000 in
set_option maxHeartbeats 4000000 in
theorem B_X12_pupilRow (Z : mX) (a0 : Int) (w : mW) : mm_run (zP Z) 247 [.inl a0] w =
  some (some (.inl (mm_w32 (74 + (mm_w32 (6 * a0))))), w) :=
  (mm_run_eq (P := zP Z) (y := 247) z_cd247 rfl (l := [some (.inl a0)]) rfl [] 7 w).trans rfl

-- ThornSchoolModel.cellsOf(I)I
set_option maxRecDepth 100000 in
set_option maxHeartbeats 4000000 in
theorem B_X12_cellsOf (Z : mX) (o : Nat) (a1 : Int) (w : mW) : mm_run (zP Z) 248 [.inr (.inr (some o)), .inl a1] w =
  (mm_gR w o 12 0).bind fun r1 =>
  r1.bind fun q2 =>
  (mm_ld 0 w q2 (mm_w32 (a1 + 0))).bind fun x3 =>
  (mm_gR w o 12 0).bind fun r4 =>
  r4.bind fun q5 =>
  (mm_ld 0 w q5 (mm_w32 (a1 + 1))).bind fun x6 =>
  some (some (.inl (mm_w32 (x3 * x6))), w) :=
  (mm_run_eq (P := zP Z) (y := 248) z_cd248 rfl (l := [some (.inr (.inr (some o))), some (.inl a1)]) rfl [] 15 w).trans rfl

-- ThornSchoolModel.isIn(II)Z
set_option maxRecDepth 100000 in
set_option maxHeartbeats 4000000 in
theorem B_X12_isIn (Z : mX) (o : Nat) (a1 : Int) (a2 : Int) (w : mW) : mm_run (zP Z) 249 [.inr (.inr (some o)), .inl a1, .inl a2] w =
  if mm_iand (mm_ishr a1 a2) 1 = 1 then
   some (some (.inl 1), w)
  else
   some (some (.inl 0), w) :=
  (mm_run_eq (P := zP Z) (y := 249) z_cd249 rfl (l := [some (.inr (.inr (some o))), some (.inl a1), some (.inl a2)]) rfl [] 11 w).trans rfl

-- ThornSchoolModel.isThere(I)Z
set_option maxRecDepth 100000 in
set_option maxHeartbeats 4000000 in
theorem B_X12_isThere (Z : mX) (o : Nat) (a1 : Int) (w : mW) : mm_run (zP Z) 250 [.inr (.inr (some o)), .inl a1] w =
  if mm_cls w o = 12 then
   (mm_kI (mm_run (zP Z) 235 [.inr (.inr (some o)), .inr (.inr (some 1))] w) fun x2 w1 =>
  if x2 = a1 then
   if mm_cls w1 o = 12 then
    (mm_kV (mm_run (zP Z) 233 [.inr (.inr (some o))] w1) fun w3 =>
   some (some (.inl 1), w3))
   else none
  else
   some (some (.inl 0), w1))
  else none :=
  (mm_run_eq (P := zP Z) (y := 250) z_cd250 rfl (l := [some (.inr (.inr (some o))), some (.inl a1)]) rfl [] 10 w).trans rfl

-- ThornSchoolModel.perhaps(IIIII)Z
set_option maxRecDepth 100000 in
set_option maxHeartbeats 4000000 in
theorem B_X12_perhaps (Z : mX) (o : Nat) (a1 : Int) (a2 : Int) (a3 : Int) (a4 : Int) (a5 : Int) (w : mW) : mm_run (zP Z) 251 [.inr (.inr (some o)), .inl a1, .inl a2, .inl a3, .inl a4, .inl a5] w =
  if mm_cls w o = 12 then
   (mm_kI (mm_run (zP Z) 250 [.inr (.inr (some o)), .inl a1] w) fun x2 w1 =>
  if x2 = 0 then
   (mm_gR w1 o 12 0).bind fun r3 =>
   r3.bind fun q4 =>
   (mm_st 0 w1 q4 a2 a5).bind fun w5 =>
   some (some (.inl 1), w5)
  else
   if mm_cls w1 o = 12 then
    (mm_kI (mm_run (zP Z) 240 [.inr (.inr (some o)), .inl a2, .inl a3, .inl a4] w1) fun x7 w6 =>
   if x7 = 0 ∨ x7 = 1 then some (some (.inl x7), w6) else none)
   else none)
  else none :=
  (mm_run_eq (P := zP Z) (y := 251) z_cd251 rfl (l := [some (.inr (.inr (some o))), some (.inl a1), some (.inl a2), some (.inl a3), some (.inl a4), some (.inl a5)]) rfl [] 12 w).trans rfl

-- ThornSchoolModel.isFull(II)Z
set_option maxRecDepth 100000 in
set_option maxHeartbeats 4000000 in
theorem B_X12_isFull (Z : mX) (o : Nat) (a1 : Int) (a2 : Int) (w : mW) : mm_run (zP Z) 252 [.inr (.inr (some o)), .inl a1, .inl a2] w =
  (mm_gR w o 12 0).bind fun r1 =>
  r1.bind fun q2 =>
  (mm_ld 0 w q2 (mm_w32 (1888 + a1))).bind fun x3 =>
  if x3 = a2 then
   some (some (.inl 1), w)
  else
   some (some (.inl 0), w) :=
  (mm_run_eq (P := zP Z) (y := 252) z_cd252 rfl (l := [some (.inr (.inr (some o))), some (.inl a1), some (.inl a2)]) rfl [] 12 w).trans rfl

-- ThornSchoolModel.isOld()Z
set_option maxRecDepth 100000 in
set_option maxHeartbeats 4000000 in
theorem B_X12_isOld (Z : mX) (o : Nat) (w : mW) : mm_run (zP Z) 253 [.inr (.inr (some o))] w =
  (mm_gR w o 12 0).bind fun r1 =>
  r1.bind fun q2 =>
  (mm_ld 0 w q2 1890).bind fun x3 =>
  if mm_cls w o = 12 then
   (mm_kI (mm_run (zP Z) 243 [.inr (.inr (some o)), .inl 48, .inl x3] w) fun x5 w4 =>
  if x5 = (-1) then
   (mm_gR w4 o 12 0).bind fun r6 =>
   r6.bind fun q7 =>
   (mm_ld 0 w4 q7 1891).bind fun x8 =>
   if mm_cls w4 o = 12 then
    (mm_kI (mm_run (zP Z) 243 [.inr (.inr (some o)), .inl 55, .inl x8] w4) fun x10 w9 =>
   if x10 = (-1) then
    some (some (.inl 0), w9)
   else
    some (some (.inl 1), w9))
   else none
  else
   some (some (.inl 1), w4))
  else none :=
  (mm_run_eq (P := zP Z) (y := 253) z_cd253 rfl (l := [some (.inr (.inr (some o)))]) rfl [] 22 w).trans rfl

-- ThornSchoolModel.newOne(III)Z
set_option maxRecDepth 100000 in
set_option maxHeartbeats 4000000 in
theorem B_X12_newOne (Z : mX) (o : Nat) (a1 : Int) (a2 : Int) (a3 : Int) (w : mW) : mm_run (zP Z) 254 [.inr (.inr (some o)), .inl a1, .inl a2, .inl a3] w =
  if mm_cls w o = 12 then
   (mm_kI (mm_run (zP Z) 252 [.inr (.inr (some o)), .inl a1, .inl a2] w) fun x2 w1 =>
  if x2 = 0 then
   if mm_cls w1 o = 12 then
    (mm_kV (mm_run (zP Z) 233 [.inr (.inr (some o))] w1) fun w3 =>
   if mm_cls w3 o = 12 then
    (mm_kI (mm_run (zP Z) 241 [.inr (.inr (some o)), .inr (.inr (some 1))] w3) fun x5 w4 =>
   if x5 = 0 then
    if mm_cls w4 o = 12 then
     (mm_kI (mm_run (zP Z) 236 [.inr (.inr (some o)), .inl 2] w4) fun x20 w19 =>
    if x20 = 0 ∨ x20 = 1 then some (some (.inl x20), w19) else none)
    else none
   else
    if mm_cls w4 o = 12 then
     (mm_kI (mm_run (zP Z) 253 [.inr (.inr (some o))] w4) fun x7 w6 =>
    if x7 = 0 then
     (mm_gR w6 o 12 1).bind fun r8 =>
     (mm_gR w6 o 12 0).bind fun r9 =>
     r9.bind fun q10 =>
     (mm_ld 0 w6 q10 (mm_w32 (1888 + a1))).bind fun x11 =>
     if mm_cls w6 o = 12 then
      (mm_kJ (mm_run (zP Z) 242 [.inr (.inr (some o))] w6) fun x13 w12 =>
     r8.bind fun q14 =>
     (mm_st 3 w12 q14 (mm_w32 ((mm_w32 (48 + a3)) + x11)) x13).bind fun w15 =>
     if mm_cls w15 o = 12 then
      (mm_kV (mm_run (zP Z) 233 [.inr (.inr (some o))] w15) fun w16 =>
     some (some (.inl 1), w16))
     else none)
     else none
    else
     if mm_cls w6 o = 12 then
      (mm_kI (mm_run (zP Z) 236 [.inr (.inr (some o)), .inl 3] w6) fun x18 w17 =>
     if x18 = 0 ∨ x18 = 1 then some (some (.inl x18), w17) else none)
     else none)
    else none)
   else none)
   else none
  else
   if mm_cls w1 o = 12 then
    (mm_kI (mm_run (zP Z) 236 [.inr (.inr (some o)), .inl 6] w1) fun x22 w21 =>
   if x22 = 0 ∨ x22 = 1 then some (some (.inl x22), w21) else none)
   else none)
  else none :=
  (mm_run_eq (P := zP Z) (y := 254) z_cd254 rfl (l := [some (.inr (.inr (some o))), some (.inl a1), some (.inl a2), some (.inl a3)]) rfl [] 34 w).trans rfl

-- ThornSchoolModel.newCellTo(I)Z
set_option maxRecDepth 100000 in
set_option maxHeartbeats 4000000 in
theorem B_X12_newCellTo (Z : mX) (o : Nat) (a1 : Int) (w : mW) : mm_run (zP Z) 255 [.inr (.inr (some o)), .inl a1] w =
  if mm_cls w o = 12 then
   (mm_kI (mm_run (zP Z) 248 [.inr (.inr (some o)), .inl 1888] w) fun x2 w1 =>
  if mm_cls w1 o = 12 then
   (mm_kI (mm_run (zP Z) 240 [.inr (.inr (some o)), .inl a1, .inl 0, .inl (mm_w32 (x2 - 1))] w1) fun x4 w3 =>
  if x4 = 0 ∨ x4 = 1 then some (some (.inl x4), w3) else none)
  else none)
  else none :=
  (mm_run_eq (P := zP Z) (y := 255) z_cd255 rfl (l := [some (.inr (.inr (some o))), some (.inl a1)]) rfl [] 11 w).trans rfl

-- ThornSchoolModel.lessonsTo(I)Z
set_option maxRecDepth 100000 in
set_option maxHeartbeats 4000000 in
theorem B_X12_lessonsTo (Z : mX) (o : Nat) (a1 : Int) (w : mW) : mm_run (zP Z) 256 [.inr (.inr (some o)), .inl a1] w =
  if mm_cls w o = 12 then
   (mm_kI (mm_run (zP Z) 241 [.inr (.inr (some o)), .inr (.inr (some 1))] w) fun x2 w1 =>
  if x2 = 0 then
   some (some (.inl 1), w1)
  else
   (mm_gR w1 o 12 0).bind fun r3 =>
   r3.bind fun q4 =>
   (mm_ld 0 w1 q4 1890).bind fun x5 =>
   if mm_cls w1 o = 12 then
    (mm_kI (mm_run (zP Z) 243 [.inr (.inr (some o)), .inl 48, .inl x5] w1) fun x7 w6 =>
   if x7 = (-1) then
    if mm_cls w6 o = 12 then
     (mm_kI (mm_run (zP Z) 236 [.inr (.inr (some o)), .inl 3] w6) fun x22 w21 =>
    if x22 = 0 ∨ x22 = 1 then some (some (.inl x22), w21) else none)
    else none
   else
    (mm_gR w6 o 12 0).bind fun r8 =>
    r8.bind fun q9 =>
    (mm_ld 0 w6 q9 a1).bind fun x10 =>
    if mm_cls w6 o = 12 then
     (mm_kI (mm_run (zP Z) 249 [.inr (.inr (some o)), .inl x10, .inl x7] w6) fun x12 w11 =>
    if x12 = 0 then
     (mm_gR w11 o 12 0).bind fun r13 =>
     r13.bind fun q14 =>
     (mm_ld 0 w11 q14 a1).bind fun x15 =>
     r13.bind fun q16 =>
     (mm_st 0 w11 q16 a1 (mm_ior x15 (mm_ishl 1 x7))).bind fun w17 =>
     if mm_cls w17 o = 12 then
      (mm_kV (mm_run (zP Z) 233 [.inr (.inr (some o))] w17) fun w18 =>
     mm_at (zP Z) 256 0 [some (.inr (.inr (some o))), some (.inl a1), some (.inl x7)] [] w18)
     else none
    else
     if mm_cls w11 o = 12 then
      (mm_kI (mm_run (zP Z) 236 [.inr (.inr (some o)), .inl 5] w11) fun x20 w19 =>
     if x20 = 0 ∨ x20 = 1 then some (some (.inl x20), w19) else none)
     else none)
    else none)
   else none)
  else none :=
  (mm_run_eq (P := zP Z) (y := 256) z_cd256 rfl (l := [some (.inr (.inr (some o))), some (.inl a1), none]) rfl [0] 37 w).trans rfl

-- ThornSchoolModel.aThicket()Z
set_option maxRecDepth 100000 in
set_option maxHeartbeats 4000000 in
theorem B_X12_aThicket (Z : mX) (o : Nat) (w : mW) : mm_run (zP Z) 257 [.inr (.inr (some o))] w =
  if mm_cls w o = 12 then
   (mm_kI (mm_run (zP Z) 240 [.inr (.inr (some o)), .inl 1888, .inl 1, .inl 5] w) fun x2 w1 =>
  if x2 = 0 then
   some (some (.inl 0), w1)
  else
   if mm_cls w1 o = 12 then
    (mm_kI (mm_run (zP Z) 239 [.inr (.inr (some o)), .inr (.inr (some 1)), .inl 6] w1) fun x4 w3 =>
   if x4 = 0 then
    some (some (.inl 0), w3)
   else
    if mm_cls w3 o = 12 then
     (mm_kI (mm_run (zP Z) 240 [.inr (.inr (some o)), .inl 1889, .inl 1, .inl 5] w3) fun x6 w5 =>
    if x6 = 0 then
     some (some (.inl 0), w5)
    else
     some (some (.inl 1), w5))
    else none)
   else none)
  else none :=
  (mm_run_eq (P := zP Z) (y := 257) z_cd257 rfl (l := [some (.inr (.inr (some o)))]) rfl [] 21 w).trans rfl

-- ThornSchoolModel.aPlant(I)Z
set_option maxRecDepth 100000 in
set_option maxHeartbeats 4000000 in
theorem B_X12_aPlant (Z : mX) (o : Nat) (a1 : Int) (w : mW) : mm_run (zP Z) 258 [.inr (.inr (some o)), .inl a1] w =
  if mm_cls w o = 12 then
   (mm_kI (mm_run (zP Z) 255 [.inr (.inr (some o)), .inl 2352] w) fun x2 w1 =>
  if x2 = 0 then
   some (some (.inl 0), w1)
  else
   (mm_gR w1 o 12 0).bind fun r3 =>
   r3.bind fun q4 =>
   (mm_ld 0 w1 q4 2352).bind fun x5 =>
   if mm_cls w1 o = 12 then
    (mm_kI (mm_run (zP Z) 240 [.inr (.inr (some o)), .inl (mm_w32 (a1 + x5)), .inl 0, .inl 9] w1) fun x7 w6 =>
   if x7 = 0 then
    some (some (.inl 0), w6)
   else
    some (some (.inl 1), w6))
   else none)
  else none :=
  (mm_run_eq (P := zP Z) (y := 258) z_cd258 rfl (l := [some (.inr (.inr (some o))), some (.inl a1), none]) rfl [] 21 w).trans rfl

-- ThornSchoolModel.aLesson()Z
set_option maxRecDepth 100000 in
set_option maxHeartbeats 4000000 in
theorem B_X12_aLesson (Z : mX) (o : Nat) (w : mW) : mm_run (zP Z) 259 [.inr (.inr (some o))] w =
  (mm_gR w o 12 0).bind fun r1 =>
  r1.bind fun q2 =>
  (mm_ld 0 w q2 1890).bind fun x3 =>
  mm_kI (mm_run (zP Z) 246 [.inl x3] w) fun x5 w4 =>
  if mm_cls w4 o = 12 then
   (mm_kI (mm_run (zP Z) 254 [.inr (.inr (some o)), .inl 2, .inl 7, .inl 0] w4) fun x7 w6 =>
  if x7 = 0 then
   some (some (.inl 0), w6)
  else
   if mm_cls w6 o = 12 then
    (mm_kI (mm_run (zP Z) 239 [.inr (.inr (some o)), .inr (.inr (some 1)), .inl 7] w6) fun x9 w8 =>
   if x9 = 0 then
    some (some (.inl 0), w8)
   else
    if mm_cls w8 o = 12 then
     (mm_kI (mm_run (zP Z) 240 [.inr (.inr (some o)), .inl (mm_w32 (1888 + x5)), .inl 1, .inl 9] w8) fun x11 w10 =>
    if x11 = 0 then
     some (some (.inl 0), w10)
    else
     (mm_gR w10 o 12 0).bind fun r12 =>
     r12.bind fun q13 =>
     (mm_st 0 w10 q13 (mm_w32 ((mm_w32 (1888 + x5)) + 1)) 0).bind fun w14 =>
     if mm_cls w14 o = 12 then
      (mm_kI (mm_run (zP Z) 250 [.inr (.inr (some o)), .inl 8] w14) fun x16 w15 =>
     if x16 = 0 then
      mm_at (zP Z) 259 46 [some (.inr (.inr (some o))), none] [] w15
     else
      if mm_cls w15 o = 12 then
       (mm_kI (mm_run (zP Z) 256 [.inr (.inr (some o)), .inl (mm_w32 ((mm_w32 (1888 + x5)) + 1))] w15) fun x18 w17 =>
      if x18 = 0 then
       some (some (.inl 0), w17)
      else
       mm_at (zP Z) 259 46 [some (.inr (.inr (some o))), none] [] w17)
      else none)
     else none)
    else none)
   else none)
  else none :=
  (mm_run_eq (P := zP Z) (y := 259) z_cd259 rfl (l := [some (.inr (.inr (some o))), none]) rfl [46] 45 w).trans rfl

set_option maxRecDepth 100000 in
set_option maxHeartbeats 4000000 in
theorem B_X12_aLesson_46 (Z : mX) (o : Nat) (w : mW) : mm_at (zP Z) 259 46 [some (.inr (.inr (some o))), none] [] w =
  (mm_gR w o 12 0).bind fun r1 =>
  r1.bind fun q2 =>
  (mm_ld 0 w q2 1890).bind fun x3 =>
  r1.bind fun q4 =>
  (mm_st 0 w q4 1890 (mm_w32 (x3 + 1))).bind fun w5 =>
  some (some (.inl 1), w5) :=
  (mm_V_eq (P := zP Z) (y := 259) z_cd259 [46] 11 46 _ _ w).trans rfl

-- ThornSchoolModel.aPupil()Z
set_option maxRecDepth 100000 in
set_option maxHeartbeats 4000000 in
theorem B_X12_aPupil (Z : mX) (o : Nat) (w : mW) : mm_run (zP Z) 260 [.inr (.inr (some o))] w =
  (mm_gR w o 12 0).bind fun r1 =>
  r1.bind fun q2 =>
  (mm_ld 0 w q2 1891).bind fun x3 =>
  mm_kI (mm_run (zP Z) 247 [.inl x3] w) fun x5 w4 =>
  if mm_cls w4 o = 12 then
   (mm_kI (mm_run (zP Z) 254 [.inr (.inr (some o)), .inl 3, .inl 5, .inl 7] w4) fun x7 w6 =>
  if x7 = 0 then
   some (some (.inl 0), w6)
  else
   if mm_cls w6 o = 12 then
    (mm_kI (mm_run (zP Z) 239 [.inr (.inr (some o)), .inr (.inr (some 1)), .inl 9] w6) fun x9 w8 =>
   if x9 = 0 then
    some (some (.inl 0), w8)
   else
    if mm_cls w8 o = 12 then
     (mm_kI (mm_run (zP Z) 255 [.inr (.inr (some o)), .inl (mm_w32 (1888 + x5))] w8) fun x11 w10 =>
    if x11 = 0 then
     some (some (.inl 0), w10)
    else
     if mm_cls w10 o = 12 then
      (mm_kI (mm_run (zP Z) 251 [.inr (.inr (some o)), .inl 10, .inl (mm_w32 ((mm_w32 (1888 + x5)) + 1)), .inl 0, .inl 9, .inl 0] w10) fun x13 w12 =>
     if x13 = 0 then
      some (some (.inl 0), w12)
     else
      (mm_gR w12 o 12 0).bind fun r14 =>
      r14.bind fun q15 =>
      (mm_st 0 w12 q15 (mm_w32 ((mm_w32 (1888 + x5)) + 2)) 0).bind fun w16 =>
      if mm_cls w16 o = 12 then
       (mm_kI (mm_run (zP Z) 250 [.inr (.inr (some o)), .inl 11] w16) fun x18 w17 =>
      if x18 = 0 then
       mm_at (zP Z) 260 54 [some (.inr (.inr (some o))), none] [] w17
      else
       if mm_cls w17 o = 12 then
        (mm_kI (mm_run (zP Z) 256 [.inr (.inr (some o)), .inl (mm_w32 ((mm_w32 (1888 + x5)) + 2))] w17) fun x20 w19 =>
       if x20 = 0 then
        some (some (.inl 0), w19)
       else
        mm_at (zP Z) 260 54 [some (.inr (.inr (some o))), none] [] w19)
       else none)
      else none)
     else none)
    else none)
   else none)
  else none :=
  (mm_run_eq (P := zP Z) (y := 260) z_cd260 rfl (l := [some (.inr (.inr (some o))), none]) rfl [54] 53 w).trans rfl

set_option maxRecDepth 100000 in
set_option maxHeartbeats 4000000 in
theorem B_X12_aPupil_54 (Z : mX) (o : Nat) (w : mW) : mm_at (zP Z) 260 54 [some (.inr (.inr (some o))), none] [] w =
  (mm_gR w o 12 0).bind fun r1 =>
  r1.bind fun q2 =>
  (mm_ld 0 w q2 1891).bind fun x3 =>
  r1.bind fun q4 =>
  (mm_st 0 w q4 1891 (mm_w32 (x3 + 1))).bind fun w5 =>
  some (some (.inl 1), w5) :=
  (mm_V_eq (P := zP Z) (y := 260) z_cd260 [54] 11 54 _ _ w).trans rfl

-- ThornSchoolModel.schoolPart()Z
set_option maxRecDepth 100000 in
set_option maxHeartbeats 4000000 in
theorem B_X12_schoolPart (Z : mX) (o : Nat) (w : mW) : mm_run (zP Z) 261 [.inr (.inr (some o))] w =
  if mm_cls w o = 12 then
   (mm_kI (mm_run (zP Z) 235 [.inr (.inr (some o)), .inr (.inr (some 1))] w) fun x2 w1 =>
  if x2 < 0 then
   if mm_cls w1 o = 12 then
    (mm_kI (mm_run (zP Z) 236 [.inr (.inr (some o)), .inl 2] w1) fun x4 w3 =>
   if x4 = 0 ∨ x4 = 1 then some (some (.inl x4), w3) else none)
   else none
  else
   if 5 < x2 then
    if mm_cls w1 o = 12 then
     (mm_kI (mm_run (zP Z) 236 [.inr (.inr (some o)), .inl 2] w1) fun x9 w8 =>
    if x9 = 0 ∨ x9 = 1 then some (some (.inl x9), w8) else none)
    else none
   else
    if 1 < x2 then
     mm_at (zP Z) 261 28 [some (.inr (.inr (some o))), some (.inl x2), none] [] w1
    else
     (mm_gI w1 o 12 20).bind fun x5 =>
     if mm_iand (mm_ishr x5 x2) 1 = 1 then
      if mm_cls w1 o = 12 then
       (mm_kI (mm_run (zP Z) 236 [.inr (.inr (some o)), .inl 5] w1) fun x7 w6 =>
      if x7 = 0 ∨ x7 = 1 then some (some (.inl x7), w6) else none)
      else none
     else
      mm_at (zP Z) 261 28 [some (.inr (.inr (some o))), some (.inl x2), none] [] w1)
  else none :=
  (mm_run_eq (P := zP Z) (y := 261) z_cd261 rfl (l := [some (.inr (.inr (some o))), none, none]) rfl [28, 43, 46, 54, 84] 25 w).trans rfl

set_option maxRecDepth 100000 in
set_option maxHeartbeats 4000000 in
theorem B_X12_schoolPart_28 (Z : mX) (o : Nat) (l1 : Int) (w : mW) : mm_at (zP Z) 261 28 [some (.inr (.inr (some o))), some (.inl l1), none] [] w =
  (mm_gI w o 12 20).bind fun x1 =>
  if l1 = 2 then
   mm_at (zP Z) 261 43 [some (.inr (.inr (some o))), some (.inl l1), none] [.inl (mm_ishl 1 l1), .inl x1, .inr (.inr (some o))] w
  else
   if l1 = 3 then
    mm_at (zP Z) 261 43 [some (.inr (.inr (some o))), some (.inl l1), none] [.inl (mm_ishl 1 l1), .inl x1, .inr (.inr (some o))] w
   else
    if l1 = 5 then
     mm_at (zP Z) 261 43 [some (.inr (.inr (some o))), some (.inl l1), none] [.inl (mm_ishl 1 l1), .inl x1, .inr (.inr (some o))] w
    else
     mm_at (zP Z) 261 46 [some (.inr (.inr (some o))), some (.inl l1), none] [.inl 0, .inl (mm_ishl 1 l1), .inl x1, .inr (.inr (some o))] w :=
  (mm_V_eq (P := zP Z) (y := 261) z_cd261 [28, 43, 46, 54, 84] 17 28 _ _ w).trans rfl

set_option maxRecDepth 100000 in
set_option maxHeartbeats 4000000 in
theorem B_X12_schoolPart_43 (Z : mX) (o : Nat) (l1 : Int) (s0 : Option Nat) (s1 : Int) (s2 : Int) (w : mW) : mm_at (zP Z) 261 43 [some (.inr (.inr (some o))), some (.inl l1), none] [.inl s2, .inl s1, .inr (.inr s0)] w =
  mm_at (zP Z) 261 46 [some (.inr (.inr (some o))), some (.inl l1), none] [.inl 1, .inl s2, .inl s1, .inr (.inr s0)] w :=
  (mm_V_eq (P := zP Z) (y := 261) z_cd261 [28, 43, 46, 54, 84] 3 43 _ _ w).trans rfl

set_option maxRecDepth 100000 in
set_option maxHeartbeats 4000000 in
theorem B_X12_schoolPart_46 (Z : mX) (o : Nat) (l1 : Int) (s0 : Option Nat) (s1 : Int) (s2 : Int) (s3 : Int) (w : mW) : mm_at (zP Z) 261 46 [some (.inr (.inr (some o))), some (.inl l1), none] [.inl s3, .inl s2, .inl s1, .inr (.inr s0)] w =
  s0.bind fun q1 =>
  (mm_p w q1 12 20 (.inl (mm_ior s1 (mm_ior s2 s3)))).bind fun w2 =>
  if 3 < l1 then
   mm_at (zP Z) 261 54 [some (.inr (.inr (some o))), some (.inl l1), none] [] w2
  else
   if mm_cls w2 o = 12 then
    (mm_kV (mm_run (zP Z) 233 [.inr (.inr (some o))] w2) fun w3 =>
   mm_at (zP Z) 261 54 [some (.inr (.inr (some o))), some (.inl l1), none] [] w3)
   else none :=
  (mm_V_eq (P := zP Z) (y := 261) z_cd261 [28, 43, 46, 54, 84] 9 46 _ _ w).trans rfl

set_option maxRecDepth 100000 in
set_option maxHeartbeats 4000000 in
theorem B_X12_schoolPart_54 (Z : mX) (o : Nat) (l1 : Int) (w : mW) : mm_at (zP Z) 261 54 [some (.inr (.inr (some o))), some (.inl l1), none] [] w =
  if l1 = 0 then
   if mm_cls w o = 12 then
    (mm_kI (mm_run (zP Z) 257 [.inr (.inr (some o))] w) fun x2 w1 =>
   mm_at (zP Z) 261 84 [some (.inr (.inr (some o))), none, some (.inl x2)] [] w1)
   else none
  else if l1 = 1 then
   if mm_cls w o = 12 then
    (mm_kI (mm_run (zP Z) 240 [.inr (.inr (some o)), .inl 1892, .inl 0, .inl 16] w) fun x4 w3 =>
   mm_at (zP Z) 261 84 [some (.inr (.inr (some o))), none, some (.inl x4)] [] w3)
   else none
  else if l1 = 2 then
   if mm_cls w o = 12 then
    (mm_kI (mm_run (zP Z) 258 [.inr (.inr (some o)), .inl 1898] w) fun x6 w5 =>
   mm_at (zP Z) 261 84 [some (.inr (.inr (some o))), none, some (.inl x6)] [] w5)
   else none
  else if l1 = 3 then
   if mm_cls w o = 12 then
    (mm_kI (mm_run (zP Z) 258 [.inr (.inr (some o)), .inl 1923] w) fun x8 w7 =>
   mm_at (zP Z) 261 84 [some (.inr (.inr (some o))), none, some (.inl x8)] [] w7)
   else none
  else if l1 = 4 then
   if mm_cls w o = 12 then
    (mm_kI (mm_run (zP Z) 259 [.inr (.inr (some o))] w) fun x10 w9 =>
   mm_at (zP Z) 261 84 [some (.inr (.inr (some o))), none, some (.inl x10)] [] w9)
   else none
  else if mm_cls w o = 12 then
    (mm_kI (mm_run (zP Z) 260 [.inr (.inr (some o))] w) fun x12 w11 =>
   mm_at (zP Z) 261 84 [some (.inr (.inr (some o))), none, some (.inl x12)] [] w11)
   else none :=
  (mm_V_eq (P := zP Z) (y := 261) z_cd261 [28, 43, 46, 54, 84] 10 54 _ _ w).trans rfl

set_option maxRecDepth 100000 in
set_option maxHeartbeats 4000000 in
theorem B_X12_schoolPart_84 (Z : mX) (o : Nat) (l2 : Int) (w : mW) : mm_at (zP Z) 261 84 [some (.inr (.inr (some o))), none, some (.inl l2)] [] w =
  if l2 = 0 then
   some (some (.inl 0), w)
  else
   if mm_cls w o = 12 then
    (mm_kI (mm_run (zP Z) 238 [.inr (.inr (some o)), .inl 59] w) fun x2 w1 =>
   if x2 = 0 then
    some (some (.inl 0), w1)
   else
    some (some (.inl 1), w1))
   else none :=
  (mm_V_eq (P := zP Z) (y := 261) z_cd261 [28, 43, 46, 54, 84] 10 84 _ _ w).trans rfl

-- ThornSchoolModel.school(I)I
set_option maxRecDepth 100000 in
set_option maxHeartbeats 4000000 in
theorem B_X12_school (Z : mX) (o : Nat) (a1 : Int) (w : mW) : mm_run (zP Z) 262 [.inr (.inr (some o)), .inl a1] w =
  if mm_cls w o = 12 then
   (mm_kI (mm_run (zP Z) 237 [.inr (.inr (some o)), .inl a1, .inl 900] w) fun x2 w1 =>
  if x2 = 0 then
   if mm_cls w1 o = 12 then
    (mm_kI (mm_run (zP Z) 216 [.inr (.inr (some o)), .inl 1] w1) fun x6 w5 =>
   some (some (.inl x6), w5))
   else none
  else
   if mm_cls w1 o = 12 then
    (mm_kV (mm_run (zP Z) 211 [.inr (.inr (some o)), .inl 1888] w1) fun w3 =>
   (mm_p w3 o 12 20 (.inl 0)).bind fun w4 =>
   mm_at (zP Z) 262 17 [some (.inr (.inr (some o))), none, some (.inl 1), none] [] w4)
   else none)
  else none :=
  (mm_run_eq (P := zP Z) (y := 262) z_cd262 rfl (l := [some (.inr (.inr (some o))), some (.inl a1), none, none]) rfl [17, 26, 31, 48, 63] 14 w).trans rfl

set_option maxRecDepth 100000 in
set_option maxHeartbeats 4000000 in
theorem B_X12_school_17 (Z : mX) (o : Nat) (l2 : Int) (w : mW) : mm_at (zP Z) 262 17 [some (.inr (.inr (some o))), none, some (.inl l2), none] [] w =
  if l2 = 0 then
   mm_at (zP Z) 262 26 [some (.inr (.inr (some o))), none, none, none] [] w
  else
   (mm_gI w o 12 12).bind fun x1 =>
   if x1 = 0 then
    mm_at (zP Z) 262 26 [some (.inr (.inr (some o))), none, none, none] [] w
   else
    if mm_cls w o = 12 then
     (mm_kI (mm_run (zP Z) 261 [.inr (.inr (some o))] w) fun x3 w2 =>
    mm_at (zP Z) 262 17 [some (.inr (.inr (some o))), none, some (.inl x3), none] [] w2)
    else none :=
  (mm_V_eq (P := zP Z) (y := 262) z_cd262 [17, 26, 31, 48, 63] 10 17 _ _ w).trans rfl

set_option maxRecDepth 100000 in
set_option maxHeartbeats 4000000 in
theorem B_X12_school_26 (Z : mX) (o : Nat) (w : mW) : mm_at (zP Z) 262 26 [some (.inr (.inr (some o))), none, none, none] [] w =
  (mm_gI w o 12 18).bind fun x1 =>
  if x1 = 0 then
   mm_at (zP Z) 262 31 [some (.inr (.inr (some o))), none, none, some (.inl 0)] [] w
  else
   mm_at (zP Z) 262 63 [some (.inr (.inr (some o))), none, none, none] [] w :=
  (mm_V_eq (P := zP Z) (y := 262) z_cd262 [17, 26, 31, 48, 63] 6 26 _ _ w).trans rfl

set_option maxRecDepth 100000 in
set_option maxHeartbeats 4000000 in
theorem B_X12_school_31 (Z : mX) (o : Nat) (l3 : Int) (w : mW) : mm_at (zP Z) 262 31 [some (.inr (.inr (some o))), none, none, some (.inl l3)] [] w =
  if l3 < 472 then
   (mm_gR w o 12 0).bind fun r1 =>
   (mm_gR w o 12 0).bind fun r2 =>
   r2.bind fun q3 =>
   (mm_ld 0 w q3 (mm_w32 (1888 + l3))).bind fun x4 =>
   r1.bind fun q5 =>
   (mm_st 0 w q5 l3 x4).bind fun w6 =>
   mm_at (zP Z) 262 31 [some (.inr (.inr (some o))), none, none, some (.inl (mm_w32 (l3 + 1)))] [] w6
  else
   mm_at (zP Z) 262 48 [some (.inr (.inr (some o))), none, none, some (.inl 0)] [] w :=
  (mm_V_eq (P := zP Z) (y := 262) z_cd262 [17, 26, 31, 48, 63] 16 31 _ _ w).trans rfl

set_option maxRecDepth 100000 in
set_option maxHeartbeats 4000000 in
theorem B_X12_school_48 (Z : mX) (o : Nat) (l3 : Int) (w : mW) : mm_at (zP Z) 262 48 [some (.inr (.inr (some o))), none, none, some (.inl l3)] [] w =
  if l3 < 12 then
   (mm_gR w o 12 1).bind fun r1 =>
   (mm_gR w o 12 1).bind fun r2 =>
   r2.bind fun q3 =>
   (mm_ld 3 w q3 (mm_w32 (48 + l3))).bind fun x4 =>
   r1.bind fun q5 =>
   (mm_st 3 w q5 l3 x4).bind fun w6 =>
   mm_at (zP Z) 262 48 [some (.inr (.inr (some o))), none, none, some (.inl (mm_w32 (l3 + 1)))] [] w6
  else
   mm_at (zP Z) 262 63 [some (.inr (.inr (some o))), none, none, none] [] w :=
  (mm_V_eq (P := zP Z) (y := 262) z_cd262 [17, 26, 31, 48, 63] 16 48 _ _ w).trans rfl

set_option maxRecDepth 100000 in
set_option maxHeartbeats 4000000 in
theorem B_X12_school_63 (Z : mX) (o : Nat) (w : mW) : mm_at (zP Z) 262 63 [some (.inr (.inr (some o))), none, none, none] [] w =
  (mm_gR w o 12 0).bind fun r1 =>
  r1.bind fun q2 =>
  (mm_ld 0 w q2 3).bind fun x3 =>
  if mm_cls w o = 12 then
   (mm_kI (mm_run (zP Z) 245 [.inr (.inr (some o)), .inl x3] w) fun x5 w4 =>
  some (some (.inl x5), w4))
  else none :=
  (mm_V_eq (P := zP Z) (y := 262) z_cd262 [17, 26, 31, 48, 63] 8 63 _ _ w).trans rfl

-- ThornSchoolModel.pupilTo(I)Z
set_option maxRecDepth 100000 in
set_option maxHeartbeats 4000000 in
theorem B_X12_pupilTo (Z : mX) (o : Nat) (a1 : Int) (w : mW) : mm_run (zP Z) 263 [.inr (.inr (some o)), .inl a1] w =
  if mm_cls w o = 12 then
   (mm_kI (mm_run (zP Z) 241 [.inr (.inr (some o)), .inr (.inr (some 1))] w) fun x2 w1 =>
  if x2 = 0 then
   if mm_cls w1 o = 12 then
    (mm_kI (mm_run (zP Z) 236 [.inr (.inr (some o)), .inl 2] w1) fun x18 w17 =>
   if x18 = 0 ∨ x18 = 1 then some (some (.inl x18), w17) else none)
   else none
  else
   (mm_gR w1 o 12 0).bind fun r3 =>
   (mm_gR w1 o 12 0).bind fun r4 =>
   r4.bind fun q5 =>
   (mm_ld 0 w1 q5 3).bind fun x6 =>
   if mm_cls w1 o = 12 then
    (mm_kI (mm_run (zP Z) 243 [.inr (.inr (some o)), .inl 7, .inl x6] w1) fun x8 w7 =>
   r3.bind fun q9 =>
   (mm_st 0 w7 q9 a1 x8).bind fun w10 =>
   (mm_gR w10 o 12 0).bind fun r11 =>
   r11.bind fun q12 =>
   (mm_ld 0 w10 q12 a1).bind fun x13 =>
   if x13 = (-1) then
    if mm_cls w10 o = 12 then
     (mm_kI (mm_run (zP Z) 236 [.inr (.inr (some o)), .inl 3] w10) fun x16 w15 =>
    if x16 = 0 ∨ x16 = 1 then some (some (.inl x16), w15) else none)
    else none
   else
    if mm_cls w10 o = 12 then
     (mm_kV (mm_run (zP Z) 233 [.inr (.inr (some o))] w10) fun w14 =>
    some (some (.inl 1), w14))
    else none)
   else none)
  else none :=
  (mm_run_eq (P := zP Z) (y := 263) z_cd263 rfl (l := [some (.inr (.inr (some o))), some (.inl a1)]) rfl [] 26 w).trans rfl

-- ThornSchoolModel.cellTo(I)Z
set_option maxRecDepth 100000 in
set_option maxHeartbeats 4000000 in
theorem B_X12_cellTo (Z : mX) (o : Nat) (a1 : Int) (w : mW) : mm_run (zP Z) 264 [.inr (.inr (some o)), .inl a1] w =
  if mm_cls w o = 12 then
   (mm_kI (mm_run (zP Z) 248 [.inr (.inr (some o)), .inl 0] w) fun x2 w1 =>
  if mm_cls w1 o = 12 then
   (mm_kI (mm_run (zP Z) 240 [.inr (.inr (some o)), .inl a1, .inl 0, .inl (mm_w32 (x2 - 1))] w1) fun x4 w3 =>
  if x4 = 0 ∨ x4 = 1 then some (some (.inl x4), w3) else none)
  else none)
  else none :=
  (mm_run_eq (P := zP Z) (y := 264) z_cd264 rfl (l := [some (.inr (.inr (some o))), some (.inl a1)]) rfl [] 11 w).trans rfl

-- ThornSchoolModel.sideTo(I)Z
set_option maxRecDepth 100000 in
set_option maxHeartbeats 4000000 in
theorem B_X12_sideTo (Z : mX) (o : Nat) (a1 : Int) (w : mW) : mm_run (zP Z) 265 [.inr (.inr (some o)), .inl a1] w =
  if mm_cls w o = 12 then
   (mm_kI (mm_run (zP Z) 235 [.inr (.inr (some o)), .inr (.inr (some 1))] w) fun x2 w1 =>
  if x2 < 12 then
   if mm_cls w1 o = 12 then
    (mm_kI (mm_run (zP Z) 236 [.inr (.inr (some o)), .inl 2] w1) fun x4 w3 =>
   if x4 = 0 ∨ x4 = 1 then some (some (.inl x4), w3) else none)
   else none
  else
   if 15 < x2 then
    if mm_cls w1 o = 12 then
     (mm_kI (mm_run (zP Z) 236 [.inr (.inr (some o)), .inl 2] w1) fun x10 w9 =>
    if x10 = 0 ∨ x10 = 1 then some (some (.inl x10), w9) else none)
    else none
   else
    (mm_gR w1 o 12 0).bind fun r5 =>
    r5.bind fun q6 =>
    (mm_st 0 w1 q6 a1 (mm_w32 (x2 - 12))).bind fun w7 =>
    if mm_cls w7 o = 12 then
     (mm_kV (mm_run (zP Z) 233 [.inr (.inr (some o))] w7) fun w8 =>
    some (some (.inl 1), w8))
    else none)
  else none :=
  (mm_run_eq (P := zP Z) (y := 265) z_cd265 rfl (l := [some (.inr (.inr (some o))), some (.inl a1), none]) rfl [] 22 w).trans rfl

-- ThornSchoolModel.test(I)Z
set_option maxRecDepth 100000 in
set_option maxHeartbeats 4000000 in
theorem B_X12_test (Z : mX) (o : Nat) (a1 : Int) (w : mW) : mm_run (zP Z) 266 [.inr (.inr (some o)), .inl a1] w =
  if mm_cls w o = 12 then
   (mm_kI (mm_run (zP Z) 235 [.inr (.inr (some o)), .inr (.inr (some 1))] w) fun x2 w1 =>
  if x2 = 2 then
   mm_at (zP Z) 266 20 [some (.inr (.inr (some o))), some (.inl a1), some (.inl x2), none] [] w1
  else
   if x2 = 9 then
    mm_at (zP Z) 266 20 [some (.inr (.inr (some o))), some (.inl a1), some (.inl x2), none] [] w1
   else
    if x2 = 11 then
     mm_at (zP Z) 266 20 [some (.inr (.inr (some o))), some (.inl a1), some (.inl x2), none] [] w1
    else
     if x2 = 26 then
      mm_at (zP Z) 266 20 [some (.inr (.inr (some o))), some (.inl a1), some (.inl x2), none] [] w1
     else
      if mm_cls w1 o = 12 then
       (mm_kI (mm_run (zP Z) 236 [.inr (.inr (some o)), .inl 2] w1) fun x4 w3 =>
      if x4 = 0 ∨ x4 = 1 then some (some (.inl x4), w3) else none)
      else none)
  else none :=
  (mm_run_eq (P := zP Z) (y := 266) z_cd266 rfl (l := [some (.inr (.inr (some o))), some (.inl a1), none, none]) rfl [20, 71, 92] 21 w).trans rfl

set_option maxRecDepth 100000 in
set_option maxHeartbeats 4000000 in
theorem B_X12_test_20 (Z : mX) (o : Nat) (l1 : Int) (l2 : Int) (w : mW) : mm_at (zP Z) 266 20 [some (.inr (.inr (some o))), some (.inl l1), some (.inl l2), none] [] w =
  (mm_gR w o 12 0).bind fun r1 =>
  r1.bind fun q2 =>
  (mm_st 0 w q2 l1 (mm_w32 (2200 + l2))).bind fun w3 =>
  if mm_cls w3 o = 12 then
   (mm_kV (mm_run (zP Z) 233 [.inr (.inr (some o))] w3) fun w4 =>
  if l2 = 26 then
   if mm_cls w4 o = 12 then
    (mm_kI (mm_run (zP Z) 263 [.inr (.inr (some o)), .inl (mm_w32 (l1 + 1))] w4) fun x14 w13 =>
   if x14 = 0 ∨ x14 = 1 then some (some (.inl x14), w13) else none)
   else none
  else
   if l2 = 9 then
    if mm_cls w4 o = 12 then
     (mm_kI (mm_run (zP Z) 263 [.inr (.inr (some o)), .inl (mm_w32 (l1 + 1))] w4) fun x10 w9 =>
    if x10 = 0 then
     some (some (.inl 0), w9)
    else
     if mm_cls w9 o = 12 then
      (mm_kI (mm_run (zP Z) 264 [.inr (.inr (some o)), .inl (mm_w32 (l1 + 2))] w9) fun x12 w11 =>
     if x12 = 0 then
      some (some (.inl 0), w11)
     else
      some (some (.inl 1), w11))
     else none)
    else none
   else
    if l2 = 11 then
     if mm_cls w4 o = 12 then
      (mm_kI (mm_run (zP Z) 263 [.inr (.inr (some o)), .inl (mm_w32 (l1 + 1))] w4) fun x8 w7 =>
     mm_at (zP Z) 266 71 [some (.inr (.inr (some o))), some (.inl l1), none, none] [.inl x8] w7)
     else none
    else
     if mm_cls w4 o = 12 then
      (mm_kI (mm_run (zP Z) 264 [.inr (.inr (some o)), .inl (mm_w32 (l1 + 1))] w4) fun x6 w5 =>
     mm_at (zP Z) 266 71 [some (.inr (.inr (some o))), some (.inl l1), none, none] [.inl x6] w5)
     else none)
  else none :=
  (mm_V_eq (P := zP Z) (y := 266) z_cd266 [20, 71, 92] 31 20 _ _ w).trans rfl

set_option maxRecDepth 100000 in
set_option maxHeartbeats 4000000 in
theorem B_X12_test_71 (Z : mX) (o : Nat) (l1 : Int) (s0 : Int) (w : mW) : mm_at (zP Z) 266 71 [some (.inr (.inr (some o))), some (.inl l1), none, none] [.inl s0] w =
  if s0 = 0 then
   some (some (.inl 0), w)
  else
   if mm_cls w o = 12 then
    (mm_kI (mm_run (zP Z) 234 [.inr (.inr (some o)), .inl 60] w) fun x2 w1 =>
   if x2 = 0 then
    if mm_cls w1 o = 12 then
     (mm_kI (mm_run (zP Z) 234 [.inr (.inr (some o)), .inl 62] w1) fun x4 w3 =>
    if x4 = 0 then
     if mm_cls w3 o = 12 then
      (mm_kI (mm_run (zP Z) 234 [.inr (.inr (some o)), .inl 61] w3) fun x6 w5 =>
     if x6 = 0 then
      if mm_cls w5 o = 12 then
       (mm_kI (mm_run (zP Z) 236 [.inr (.inr (some o)), .inl 2] w5) fun x8 w7 =>
      if x8 = 0 ∨ x8 = 1 then some (some (.inl x8), w7) else none)
      else none
     else
      mm_at (zP Z) 266 92 [some (.inr (.inr (some o))), some (.inl l1), none, none] [] w5)
     else none
    else
     mm_at (zP Z) 266 92 [some (.inr (.inr (some o))), some (.inl l1), none, none] [] w3)
    else none
   else
    mm_at (zP Z) 266 92 [some (.inr (.inr (some o))), some (.inl l1), none, none] [] w1)
   else none :=
  (mm_V_eq (P := zP Z) (y := 266) z_cd266 [20, 71, 92] 20 71 _ _ w).trans rfl

set_option maxRecDepth 100000 in
set_option maxHeartbeats 4000000 in
theorem B_X12_test_92 (Z : mX) (o : Nat) (l1 : Int) (w : mW) : mm_at (zP Z) 266 92 [some (.inr (.inr (some o))), some (.inl l1), none, none] [] w =
  (mm_gR w o 12 0).bind fun r1 =>
  (mm_gI w o 12 15).bind fun x2 =>
  r1.bind fun q3 =>
  (mm_st 0 w q3 (mm_w32 (l1 + 5)) x2).bind fun w4 =>
  if mm_cls w4 o = 12 then
   (mm_kV (mm_run (zP Z) 233 [.inr (.inr (some o))] w4) fun w5 =>
  if mm_cls w5 o = 12 then
   (mm_kI (mm_run (zP Z) 240 [.inr (.inr (some o)), .inl (mm_w32 (l1 + 2)), .inl 0, .inl 9] w5) fun x7 w6 =>
  if x7 = 0 ∨ x7 = 1 then some (some (.inl x7), w6) else none)
  else none)
  else none :=
  (mm_V_eq (P := zP Z) (y := 266) z_cd266 [20, 71, 92] 19 92 _ _ w).trans rfl

-- ThornSchoolModel.autumnOrder(II)Z
set_option maxRecDepth 100000 in
set_option maxHeartbeats 4000000 in
theorem B_X12_autumnOrder (Z : mX) (o : Nat) (a1 : Int) (a2 : Int) (w : mW) : mm_run (zP Z) 267 [.inr (.inr (some o)), .inl a1, .inl a2] w =
  if a1 = 16 then
   if mm_cls w o = 12 then
    (mm_kI (mm_run (zP Z) 263 [.inr (.inr (some o)), .inl (mm_w32 (a2 + 1))] w) fun x2 w1 =>
   if x2 = 0 then
    some (some (.inl 0), w1)
   else
    if mm_cls w1 o = 12 then
     (mm_kI (mm_run (zP Z) 265 [.inr (.inr (some o)), .inl (mm_w32 (a2 + 2))] w1) fun x4 w3 =>
    if x4 = 0 then
     some (some (.inl 0), w3)
    else
     some (some (.inl 1), w3))
    else none)
   else none
  else if a1 = 17 then
   if mm_cls w o = 12 then
    (mm_kI (mm_run (zP Z) 263 [.inr (.inr (some o)), .inl (mm_w32 (a2 + 1))] w) fun x6 w5 =>
   if x6 = 0 then
    some (some (.inl 0), w5)
   else
    if mm_cls w5 o = 12 then
     (mm_kI (mm_run (zP Z) 263 [.inr (.inr (some o)), .inl (mm_w32 (a2 + 2))] w5) fun x8 w7 =>
    if x8 = 0 then
     some (some (.inl 0), w7)
    else
     some (some (.inl 1), w7))
    else none)
   else none
  else if a1 = 18 then
   mm_at (zP Z) 267 34 [some (.inr (.inr (some o))), none, some (.inl a2)] [] w
  else if a1 = 19 then
   mm_at (zP Z) 267 34 [some (.inr (.inr (some o))), none, some (.inl a2)] [] w
  else if a1 = 20 then
   if mm_cls w o = 12 then
    (mm_kI (mm_run (zP Z) 240 [.inr (.inr (some o)), .inl (mm_w32 (a2 + 1)), .inl 1, .inl 20] w) fun x10 w9 =>
   if x10 = 0 ∨ x10 = 1 then some (some (.inl x10), w9) else none)
   else none
  else if a1 = 21 then
   some (some (.inl 1), w)
  else if a1 = 22 then
   if mm_cls w o = 12 then
    (mm_kI (mm_run (zP Z) 266 [.inr (.inr (some o)), .inl a2] w) fun x12 w11 =>
   if x12 = 0 ∨ x12 = 1 then some (some (.inl x12), w11) else none)
   else none
  else if a1 = 23 then
   if mm_cls w o = 12 then
    (mm_kI (mm_run (zP Z) 240 [.inr (.inr (some o)), .inl (mm_w32 (a2 + 1)), .inl 1, .inl 99] w) fun x14 w13 =>
   if x14 = 0 ∨ x14 = 1 then some (some (.inl x14), w13) else none)
   else none
  else some (some (.inl 1), w) :=
  (mm_run_eq (P := zP Z) (y := 267) z_cd267 rfl (l := [some (.inr (.inr (some o))), some (.inl a1), some (.inl a2)]) rfl [34] 18 w).trans rfl

set_option maxRecDepth 100000 in
set_option maxHeartbeats 4000000 in
theorem B_X12_autumnOrder_34 (Z : mX) (o : Nat) (l2 : Int) (w : mW) : mm_at (zP Z) 267 34 [some (.inr (.inr (some o))), none, some (.inl l2)] [] w =
  if mm_cls w o = 12 then
   (mm_kI (mm_run (zP Z) 263 [.inr (.inr (some o)), .inl (mm_w32 (l2 + 1))] w) fun x2 w1 =>
  if x2 = 0 ∨ x2 = 1 then some (some (.inl x2), w1) else none)
  else none :=
  (mm_V_eq (P := zP Z) (y := 267) z_cd267 [34] 7 34 _ _ w).trans rfl

-- ThornSchoolModel.autumnStep()Z
set_option maxRecDepth 100000 in
set_option maxHeartbeats 4000000 in
theorem B_X12_autumnStep (Z : mX) (o : Nat) (w : mW) : mm_run (zP Z) 268 [.inr (.inr (some o))] w =
  if mm_cls w o = 12 then
   (mm_kI (mm_run (zP Z) 235 [.inr (.inr (some o)), .inr (.inr (some 1))] w) fun x2 w1 =>
  (mm_gR w1 o 12 0).bind fun r3 =>
  r3.bind fun q4 =>
  (mm_ld 0 w1 q4 1895).bind fun x5 =>
  if x2 = 22 then
   mm_at (zP Z) 268 21 [some (.inr (.inr (some o))), some (.inl x2), some (.inl x5), some (.inl (mm_w32 (1992 + (mm_w32 (6 * x5))))), none, none] [] w1
  else
   if x2 = 23 then
    mm_at (zP Z) 268 21 [some (.inr (.inr (some o))), some (.inl x2), some (.inl x5), some (.inl (mm_w32 (1992 + (mm_w32 (6 * x5))))), none, none] [] w1
   else
    mm_at (zP Z) 268 24 [some (.inr (.inr (some o))), some (.inl x2), some (.inl x5), some (.inl (mm_w32 (1992 + (mm_w32 (6 * x5))))), none, none] [.inl 0] w1)
  else none :=
  (mm_run_eq (P := zP Z) (y := 268) z_cd268 rfl (l := [some (.inr (.inr (some o))), none, none, none, none, none]) rfl [21, 24, 41, 52, 62, 71, 80, 123] 23 w).trans rfl

set_option maxRecDepth 100000 in
set_option maxHeartbeats 4000000 in
theorem B_X12_autumnStep_21 (Z : mX) (o : Nat) (l1 : Int) (l2 : Int) (l3 : Int) (w : mW) : mm_at (zP Z) 268 21 [some (.inr (.inr (some o))), some (.inl l1), some (.inl l2), some (.inl l3), none, none] [] w =
  mm_at (zP Z) 268 24 [some (.inr (.inr (some o))), some (.inl l1), some (.inl l2), some (.inl l3), none, none] [.inl 1] w :=
  (mm_V_eq (P := zP Z) (y := 268) z_cd268 [21, 24, 41, 52, 62, 71, 80, 123] 3 21 _ _ w).trans rfl

set_option maxRecDepth 100000 in
set_option maxHeartbeats 4000000 in
theorem B_X12_autumnStep_24 (Z : mX) (o : Nat) (l1 : Int) (l2 : Int) (l3 : Int) (s0 : Int) (w : mW) : mm_at (zP Z) 268 24 [some (.inr (.inr (some o))), some (.inl l1), some (.inl l2), some (.inl l3), none, none] [.inl s0] w =
  if l1 < 16 then
   if mm_cls w o = 12 then
    (mm_kI (mm_run (zP Z) 236 [.inr (.inr (some o)), .inl 2] w) fun x2 w1 =>
   if x2 = 0 ∨ x2 = 1 then some (some (.inl x2), w1) else none)
   else none
  else
   if 25 < l1 then
    if mm_cls w o = 12 then
     (mm_kI (mm_run (zP Z) 236 [.inr (.inr (some o)), .inl 2] w) fun x4 w3 =>
    if x4 = 0 ∨ x4 = 1 then some (some (.inl x4), w3) else none)
    else none
   else
    if l1 = 24 then
     (mm_gI w o 12 22).bind fun x5 =>
     if x5 = 0 then
      if mm_cls w o = 12 then
       (mm_kI (mm_run (zP Z) 236 [.inr (.inr (some o)), .inl 2] w) fun x7 w6 =>
      if x7 = 0 ∨ x7 = 1 then some (some (.inl x7), w6) else none)
      else none
     else
      mm_at (zP Z) 268 41 [some (.inr (.inr (some o))), some (.inl l1), some (.inl l2), some (.inl l3), some (.inl s0), none] [] w
    else
     mm_at (zP Z) 268 41 [some (.inr (.inr (some o))), some (.inl l1), some (.inl l2), some (.inl l3), some (.inl s0), none] [] w :=
  (mm_V_eq (P := zP Z) (y := 268) z_cd268 [21, 24, 41, 52, 62, 71, 80, 123] 18 24 _ _ w).trans rfl

set_option maxRecDepth 100000 in
set_option maxHeartbeats 4000000 in
theorem B_X12_autumnStep_41 (Z : mX) (o : Nat) (l1 : Int) (l2 : Int) (l3 : Int) (l4 : Int) (w : mW) : mm_at (zP Z) 268 41 [some (.inr (.inr (some o))), some (.inl l1), some (.inl l2), some (.inl l3), some (.inl l4), none] [] w =
  if l1 = 24 then
   mm_at (zP Z) 268 52 [some (.inr (.inr (some o))), some (.inl l1), some (.inl l2), some (.inl l3), some (.inl l4), none] [] w
  else
   (mm_gI w o 12 23).bind fun x1 =>
   if x1 = 30 then
    if mm_cls w o = 12 then
     (mm_kI (mm_run (zP Z) 236 [.inr (.inr (some o)), .inl 6] w) fun x3 w2 =>
    if x3 = 0 ∨ x3 = 1 then some (some (.inl x3), w2) else none)
    else none
   else
    mm_at (zP Z) 268 52 [some (.inr (.inr (some o))), some (.inl l1), some (.inl l2), some (.inl l3), some (.inl l4), none] [] w :=
  (mm_V_eq (P := zP Z) (y := 268) z_cd268 [21, 24, 41, 52, 62, 71, 80, 123] 12 41 _ _ w).trans rfl

set_option maxRecDepth 100000 in
set_option maxHeartbeats 4000000 in
theorem B_X12_autumnStep_52 (Z : mX) (o : Nat) (l1 : Int) (l2 : Int) (l3 : Int) (l4 : Int) (w : mW) : mm_at (zP Z) 268 52 [some (.inr (.inr (some o))), some (.inl l1), some (.inl l2), some (.inl l3), some (.inl l4), none] [] w =
  if l4 = 0 then
   mm_at (zP Z) 268 62 [some (.inr (.inr (some o))), some (.inl l1), some (.inl l2), some (.inl l3), some (.inl l4), none] [] w
  else
   (mm_gI w o 12 22).bind fun x1 =>
   if x1 = 3 then
    if mm_cls w o = 12 then
     (mm_kI (mm_run (zP Z) 236 [.inr (.inr (some o)), .inl 7] w) fun x3 w2 =>
    if x3 = 0 ∨ x3 = 1 then some (some (.inl x3), w2) else none)
    else none
   else
    mm_at (zP Z) 268 62 [some (.inr (.inr (some o))), some (.inl l1), some (.inl l2), some (.inl l3), some (.inl l4), none] [] w :=
  (mm_V_eq (P := zP Z) (y := 268) z_cd268 [21, 24, 41, 52, 62, 71, 80, 123] 11 52 _ _ w).trans rfl

set_option maxRecDepth 100000 in
set_option maxHeartbeats 4000000 in
theorem B_X12_autumnStep_62 (Z : mX) (o : Nat) (l1 : Int) (l2 : Int) (l3 : Int) (l4 : Int) (w : mW) : mm_at (zP Z) 268 62 [some (.inr (.inr (some o))), some (.inl l1), some (.inl l2), some (.inl l3), some (.inl l4), none] [] w =
  (mm_gI w o 12 23).bind fun x1 =>
  if l1 = 24 then
   mm_at (zP Z) 268 71 [some (.inr (.inr (some o))), some (.inl l1), some (.inl l2), some (.inl l3), some (.inl l4), none] [.inl 0, .inl x1, .inr (.inr (some o))] w
  else
   mm_at (zP Z) 268 71 [some (.inr (.inr (some o))), some (.inl l1), some (.inl l2), some (.inl l3), some (.inl l4), none] [.inl 1, .inl x1, .inr (.inr (some o))] w :=
  (mm_V_eq (P := zP Z) (y := 268) z_cd268 [21, 24, 41, 52, 62, 71, 80, 123] 9 62 _ _ w).trans rfl

set_option maxRecDepth 100000 in
set_option maxHeartbeats 4000000 in
theorem B_X12_autumnStep_71 (Z : mX) (o : Nat) (l1 : Int) (l2 : Int) (l3 : Int) (l4 : Int) (s0 : Option Nat) (s1 : Int) (s2 : Int) (w : mW) : mm_at (zP Z) 268 71 [some (.inr (.inr (some o))), some (.inl l1), some (.inl l2), some (.inl l3), some (.inl l4), none] [.inl s2, .inl s1, .inr (.inr s0)] w =
  s0.bind fun q1 =>
  (mm_p w q1 12 23 (.inl (mm_w32 (s1 + s2)))).bind fun w2 =>
  (mm_gR w2 o 12 0).bind fun r3 =>
  r3.bind fun q4 =>
  (mm_st 0 w2 q4 l3 l1).bind fun w5 =>
  mm_at (zP Z) 268 80 [some (.inr (.inr (some o))), some (.inl l1), some (.inl l2), some (.inl l3), some (.inl l4), some (.inl 1)] [] w5 :=
  (mm_V_eq (P := zP Z) (y := 268) z_cd268 [21, 24, 41, 52, 62, 71, 80, 123] 10 71 _ _ w).trans rfl

set_option maxRecDepth 100000 in
set_option maxHeartbeats 4000000 in
theorem B_X12_autumnStep_80 (Z : mX) (o : Nat) (l1 : Int) (l2 : Int) (l3 : Int) (l4 : Int) (l5 : Int) (w : mW) : mm_at (zP Z) 268 80 [some (.inr (.inr (some o))), some (.inl l1), some (.inl l2), some (.inl l3), some (.inl l4), some (.inl l5)] [] w =
  if l5 < 6 then
   (mm_gR w o 12 0).bind fun r15 =>
   r15.bind fun q16 =>
   (mm_st 0 w q16 (mm_w32 (l3 + l5)) 0).bind fun w17 =>
   mm_at (zP Z) 268 80 [some (.inr (.inr (some o))), some (.inl l1), some (.inl l2), some (.inl l3), some (.inl l4), some (.inl (mm_w32 (l5 + 1)))] [] w17
  else
   (mm_gR w o 12 0).bind fun r1 =>
   r1.bind fun q2 =>
   (mm_ld 0 w q2 1895).bind fun x3 =>
   r1.bind fun q4 =>
   (mm_st 0 w q4 1895 (mm_w32 (x3 + 1))).bind fun w5 =>
   if mm_cls w5 o = 12 then
    (mm_kV (mm_run (zP Z) 233 [.inr (.inr (some o))] w5) fun w6 =>
   if mm_cls w6 o = 12 then
    (mm_kI (mm_run (zP Z) 267 [.inr (.inr (some o)), .inl l1, .inl l3] w6) fun x8 w7 =>
   if x8 = 0 then
    some (some (.inl 0), w7)
   else
    if l4 = 0 then
     mm_at (zP Z) 268 123 [some (.inr (.inr (some o))), some (.inl l1), some (.inl l2), some (.inl l3), none, none] [] w7
    else
     (mm_gR w7 o 12 21).bind fun r9 =>
     (mm_gI w7 o 12 22).bind fun x10 =>
     r9.bind fun q11 =>
     (mm_st 0 w7 q11 x10 l2).bind fun w12 =>
     (mm_gI w12 o 12 22).bind fun x13 =>
     (mm_p w12 o 12 22 (.inl (mm_w32 (x13 + 1)))).bind fun w14 =>
     mm_at (zP Z) 268 123 [some (.inr (.inr (some o))), some (.inl l1), some (.inl l2), some (.inl l3), none, none] [] w14)
   else none)
   else none :=
  (mm_V_eq (P := zP Z) (y := 268) z_cd268 [21, 24, 41, 52, 62, 71, 80, 123] 33 80 _ _ w).trans rfl

set_option maxRecDepth 100000 in
set_option maxHeartbeats 4000000 in
theorem B_X12_autumnStep_123 (Z : mX) (o : Nat) (l1 : Int) (l2 : Int) (l3 : Int) (w : mW) : mm_at (zP Z) 268 123 [some (.inr (.inr (some o))), some (.inl l1), some (.inl l2), some (.inl l3), none, none] [] w =
  if l1 = 24 then
   (mm_gI w o 12 22).bind fun x3 =>
   (mm_p w o 12 22 (.inl (mm_w32 (x3 - 1)))).bind fun w4 =>
   (mm_gR w4 o 12 0).bind fun r5 =>
   (mm_gR w4 o 12 21).bind fun r6 =>
   (mm_gI w4 o 12 22).bind fun x7 =>
   r6.bind fun q8 =>
   (mm_ld 0 w4 q8 x7).bind fun x9 =>
   r5.bind fun q10 =>
   (mm_st 0 w4 q10 (mm_w32 (l3 + 4)) x9).bind fun w11 =>
   (mm_gR w11 o 12 0).bind fun r12 =>
   (mm_gR w11 o 12 21).bind fun r13 =>
   (mm_gI w11 o 12 22).bind fun x14 =>
   r13.bind fun q15 =>
   (mm_ld 0 w11 q15 x14).bind fun x16 =>
   r12.bind fun q17 =>
   (mm_st 0 w11 q17 (mm_w32 ((mm_w32 (1992 + (mm_w32 (6 * x16)))) + 4)) l2).bind fun w18 =>
   if mm_cls w18 o = 12 then
    (mm_kI (mm_run (zP Z) 238 [.inr (.inr (some o)), .inl 59] w18) fun x20 w19 =>
   if x20 = 0 ∨ x20 = 1 then some (some (.inl x20), w19) else none)
   else none
  else
   if mm_cls w o = 12 then
    (mm_kI (mm_run (zP Z) 238 [.inr (.inr (some o)), .inl 59] w) fun x2 w1 =>
   if x2 = 0 ∨ x2 = 1 then some (some (.inl x2), w1) else none)
   else none :=
  (mm_V_eq (P := zP Z) (y := 268) z_cd268 [21, 24, 41, 52, 62, 71, 80, 123] 40 123 _ _ w).trans rfl

-- ThornSchoolModel.autumns(I)I
set_option maxRecDepth 100000 in
set_option maxHeartbeats 4000000 in
theorem B_X12_autumns (Z : mX) (o : Nat) (a1 : Int) (w : mW) : mm_run (zP Z) 269 [.inr (.inr (some o)), .inl a1] w =
  if mm_cls w o = 12 then
   (mm_kI (mm_run (zP Z) 237 [.inr (.inr (some o)), .inl a1, .inl 300] w) fun x2 w1 =>
  if x2 = 0 then
   if mm_cls w1 o = 12 then
    (mm_kI (mm_run (zP Z) 216 [.inr (.inr (some o)), .inl 1] w1) fun x9 w8 =>
   some (some (.inl x9), w8))
   else none
  else
   (mm_gR w1 o 12 0).bind fun r3 =>
   r3.bind fun q4 =>
   (mm_st 0 w1 q4 1895 0).bind fun w5 =>
   (mm_p w5 o 12 22 (.inl 0)).bind fun w6 =>
   (mm_p w6 o 12 23 (.inl 0)).bind fun w7 =>
   mm_at (zP Z) 269 22 [some (.inr (.inr (some o))), none, some (.inl 1), none] [] w7)
  else none :=
  (mm_run_eq (P := zP Z) (y := 269) z_cd269 rfl (l := [some (.inr (.inr (some o))), some (.inl a1), none, none]) rfl [22, 31, 41, 54] 19 w).trans rfl

set_option maxRecDepth 100000 in
set_option maxHeartbeats 4000000 in
theorem B_X12_autumns_22 (Z : mX) (o : Nat) (l2 : Int) (w : mW) : mm_at (zP Z) 269 22 [some (.inr (.inr (some o))), none, some (.inl l2), none] [] w =
  if l2 = 0 then
   mm_at (zP Z) 269 31 [some (.inr (.inr (some o))), none, none, none] [] w
  else
   (mm_gI w o 12 12).bind fun x1 =>
   if x1 = 0 then
    mm_at (zP Z) 269 31 [some (.inr (.inr (some o))), none, none, none] [] w
   else
    if mm_cls w o = 12 then
     (mm_kI (mm_run (zP Z) 268 [.inr (.inr (some o))] w) fun x3 w2 =>
    mm_at (zP Z) 269 22 [some (.inr (.inr (some o))), none, some (.inl x3), none] [] w2)
    else none :=
  (mm_V_eq (P := zP Z) (y := 269) z_cd269 [22, 31, 41, 54] 10 22 _ _ w).trans rfl

set_option maxRecDepth 100000 in
set_option maxHeartbeats 4000000 in
theorem B_X12_autumns_31 (Z : mX) (o : Nat) (w : mW) : mm_at (zP Z) 269 31 [some (.inr (.inr (some o))), none, none, none] [] w =
  (mm_gI w o 12 18).bind fun x1 =>
  if x1 = 0 then
   (mm_gI w o 12 22).bind fun x2 =>
   if 0 < x2 then
    if mm_cls w o = 12 then
     (mm_kI (mm_run (zP Z) 236 [.inr (.inr (some o)), .inl 2] w) fun x4 w3 =>
    mm_at (zP Z) 269 41 [some (.inr (.inr (some o))), none, none, none] [] w3)
    else none
   else
    mm_at (zP Z) 269 41 [some (.inr (.inr (some o))), none, none, none] [] w
  else
   mm_at (zP Z) 269 41 [some (.inr (.inr (some o))), none, none, none] [] w :=
  (mm_V_eq (P := zP Z) (y := 269) z_cd269 [22, 31, 41, 54] 11 31 _ _ w).trans rfl

set_option maxRecDepth 100000 in
set_option maxHeartbeats 4000000 in
theorem B_X12_autumns_41 (Z : mX) (o : Nat) (w : mW) : mm_at (zP Z) 269 41 [some (.inr (.inr (some o))), none, none, none] [] w =
  (mm_gI w o 12 18).bind fun x1 =>
  if x1 = 0 then
   (mm_gR w o 12 0).bind fun r5 =>
   (mm_gR w o 12 0).bind fun r6 =>
   r6.bind fun q7 =>
   (mm_ld 0 w q7 1895).bind fun x8 =>
   r5.bind fun q9 =>
   (mm_st 0 w q9 7 x8).bind fun w10 =>
   mm_at (zP Z) 269 54 [some (.inr (.inr (some o))), none, none, some (.inl 104)] [] w10
  else
   (mm_gI w o 12 23).bind fun x2 =>
   if mm_cls w o = 12 then
    (mm_kI (mm_run (zP Z) 245 [.inr (.inr (some o)), .inl x2] w) fun x4 w3 =>
   some (some (.inl x4), w3))
   else none :=
  (mm_V_eq (P := zP Z) (y := 269) z_cd269 [22, 31, 41, 54] 14 41 _ _ w).trans rfl

set_option maxRecDepth 100000 in
set_option maxHeartbeats 4000000 in
theorem B_X12_autumns_54 (Z : mX) (o : Nat) (l3 : Int) (w : mW) : mm_at (zP Z) 269 54 [some (.inr (.inr (some o))), none, none, some (.inl l3)] [] w =
  if l3 < 464 then
   (mm_gR w o 12 0).bind fun r4 =>
   (mm_gR w o 12 0).bind fun r5 =>
   r5.bind fun q6 =>
   (mm_ld 0 w q6 (mm_w32 (1888 + l3))).bind fun x7 =>
   r4.bind fun q8 =>
   (mm_st 0 w q8 l3 x7).bind fun w9 =>
   mm_at (zP Z) 269 54 [some (.inr (.inr (some o))), none, none, some (.inl (mm_w32 (l3 + 1)))] [] w9
  else
   (mm_gI w o 12 23).bind fun x1 =>
   if mm_cls w o = 12 then
    (mm_kI (mm_run (zP Z) 245 [.inr (.inr (some o)), .inl x1] w) fun x3 w2 =>
   some (some (.inl x3), w2))
   else none :=
  (mm_V_eq (P := zP Z) (y := 269) z_cd269 [22, 31, 41, 54] 16 54 _ _ w).trans rfl

-- ThornSchoolModel.isCell(I)Z
set_option maxRecDepth 100000 in
set_option maxHeartbeats 4000000 in
theorem B_X12_isCell (Z : mX) (o : Nat) (a1 : Int) (w : mW) : mm_run (zP Z) 270 [.inr (.inr (some o)), .inl a1] w =
  if a1 < 0 then
   some (some (.inl 0), w)
  else
   if mm_cls w o = 12 then
    (mm_kI (mm_run (zP Z) 248 [.inr (.inr (some o)), .inl 0] w) fun x2 w1 =>
   if a1 < x2 then
    some (some (.inl 1), w1)
   else
    some (some (.inl 0), w1))
   else none :=
  (mm_run_eq (P := zP Z) (y := 270) z_cd270 rfl (l := [some (.inr (.inr (some o))), some (.inl a1)]) rfl [] 11 w).trans rfl

-- ThornSchoolModel.isLesson(I)Z
set_option maxRecDepth 100000 in
set_option maxHeartbeats 4000000 in
theorem B_X12_isLesson (Z : mX) (o : Nat) (a1 : Int) (w : mW) : mm_run (zP Z) 271 [.inr (.inr (some o)), .inl a1] w =
  if a1 < 0 then
   some (some (.inl 0), w)
  else
   (mm_gR w o 12 0).bind fun r1 =>
   r1.bind fun q2 =>
   (mm_ld 0 w q2 2).bind fun x3 =>
   if a1 < x3 then
    some (some (.inl 1), w)
   else
    some (some (.inl 0), w) :=
  (mm_run_eq (P := zP Z) (y := 271) z_cd271 rfl (l := [some (.inr (.inr (some o))), some (.inl a1)]) rfl [] 12 w).trans rfl

-- ThornSchoolModel.isPupil(I)Z
set_option maxRecDepth 100000 in
set_option maxHeartbeats 4000000 in
theorem B_X12_isPupil (Z : mX) (o : Nat) (a1 : Int) (w : mW) : mm_run (zP Z) 272 [.inr (.inr (some o)), .inl a1] w =
  if a1 < 0 then
   some (some (.inl 0), w)
  else
   (mm_gR w o 12 0).bind fun r1 =>
   r1.bind fun q2 =>
   (mm_ld 0 w q2 3).bind fun x3 =>
   if a1 < x3 then
    some (some (.inl 1), w)
   else
    some (some (.inl 0), w) :=
  (mm_run_eq (P := zP Z) (y := 272) z_cd272 rfl (l := [some (.inr (.inr (some o))), some (.inl a1)]) rfl [] 12 w).trans rfl

-- ThornSchoolModel.bits(I)I
set_option maxRecDepth 100000 in
set_option maxHeartbeats 4000000 in
theorem B_X12_bits (Z : mX) (a0 : Int) (w : mW) : mm_run (zP Z) 273 [.inl a0] w =
  mm_at (zP Z) 273 4 [none, some (.inl 0), some (.inl a0)] [] w :=
  (mm_run_eq (P := zP Z) (y := 273) z_cd273 rfl (l := [some (.inl a0), none, none]) rfl [4] 5 w).trans rfl

set_option maxRecDepth 100000 in
set_option maxHeartbeats 4000000 in
theorem B_X12_bits_4 (Z : mX) (l1 : Int) (l2 : Int) (w : mW) : mm_at (zP Z) 273 4 [none, some (.inl l1), some (.inl l2)] [] w =
  if l2 = 0 then
   some (some (.inl l1), w)
  else
   mm_at (zP Z) 273 4 [none, some (.inl (mm_w32 (l1 + 1))), some (.inl (mm_iand l2 (mm_w32 (l2 - 1))))] [] w :=
  (mm_V_eq (P := zP Z) (y := 273) z_cd273 [4] 11 4 _ _ w).trans rfl

-- ThornSchoolModel.pupilOf(II)I
set_option maxRecDepth 100000 in
set_option maxHeartbeats 4000000 in
theorem B_X12_pupilOf (Z : mX) (o : Nat) (a1 : Int) (a2 : Int) (w : mW) : mm_run (zP Z) 274 [.inr (.inr (some o)), .inl a1, .inl a2] w =
  (mm_gR w o 12 0).bind fun r1 =>
  mm_kI (mm_run (zP Z) 247 [.inl a1] w) fun x3 w2 =>
  r1.bind fun q4 =>
  (mm_ld 0 w2 q4 (mm_w32 (x3 + a2))).bind fun x5 =>
  some (some (.inl x5), w2) :=
  (mm_run_eq (P := zP Z) (y := 274) z_cd274 rfl (l := [some (.inr (.inr (some o))), some (.inl a1), some (.inl a2)]) rfl [] 9 w).trans rfl

-- ThornSchoolModel.needsOf(I)I
set_option maxRecDepth 100000 in
set_option maxHeartbeats 4000000 in
theorem B_X12_needsOf (Z : mX) (o : Nat) (a1 : Int) (w : mW) : mm_run (zP Z) 275 [.inr (.inr (some o)), .inl a1] w =
  (mm_gR w o 12 0).bind fun r1 =>
  mm_kI (mm_run (zP Z) 246 [.inl a1] w) fun x3 w2 =>
  r1.bind fun q4 =>
  (mm_ld 0 w2 q4 (mm_w32 (x3 + 1))).bind fun x5 =>
  some (some (.inl x5), w2) :=
  (mm_run_eq (P := zP Z) (y := 275) z_cd275 rfl (l := [some (.inr (.inr (some o))), some (.inl a1)]) rfl [] 9 w).trans rfl

-- ThornSchoolModel.catchBy(III)I
set_option maxRecDepth 100000 in
set_option maxHeartbeats 4000000 in
theorem B_X12_catchBy (Z : mX) (o : Nat) (a1 : Int) (a2 : Int) (a3 : Int) (w : mW) : mm_run (zP Z) 276 [.inr (.inr (some o)), .inl a1, .inl a2, .inl a3] w =
  (mm_gR w o 12 0).bind fun r1 =>
  r1.bind fun q2 =>
  (mm_ld 0 w q2 (mm_w32 (10 + a2))).bind fun x3 =>
  if x3 = 0 then
   some (some (.inl 0), w)
  else
   if mm_cls w o = 12 then
    (mm_kI (mm_run (zP Z) 274 [.inr (.inr (some o)), .inl a1, .inl 2] w) fun x5 w4 =>
   mm_kI (mm_run (zP Z) 273 [.inl x5] w4) fun x7 w6 =>
   some (some (.inl (if 0 < mm_w32 ((mm_w32 (x3 + a3)) - x7) then mm_w32 ((mm_w32 (x3 + a3)) - x7) else 0)), w6))
   else none :=
  (mm_run_eq (P := zP Z) (y := 276) z_cd276 rfl (l := [some (.inr (.inr (some o))), some (.inl a1), some (.inl a2), some (.inl a3), none]) rfl [] 22 w).trans rfl

-- ThornSchoolModel.catchOf(II)I
set_option maxRecDepth 100000 in
set_option maxHeartbeats 4000000 in
theorem B_X12_catchOf (Z : mX) (o : Nat) (a1 : Int) (a2 : Int) (w : mW) : mm_run (zP Z) 277 [.inr (.inr (some o)), .inl a1, .inl a2] w =
  if mm_cls w o = 12 then
   (mm_kI (mm_run (zP Z) 274 [.inr (.inr (some o)), .inl a1, .inl 1] w) fun x2 w1 =>
  if mm_cls w1 o = 12 then
   (mm_kI (mm_run (zP Z) 276 [.inr (.inr (some o)), .inl a1, .inl a2, .inl x2] w1) fun x4 w3 =>
  some (some (.inl x4), w3))
  else none)
  else none :=
  (mm_run_eq (P := zP Z) (y := 277) z_cd277 rfl (l := [some (.inr (.inr (some o))), some (.inl a1), some (.inl a2)]) rfl [] 10 w).trans rfl

-- ThornSchoolModel.isCaught(I)Z
set_option maxRecDepth 100000 in
set_option maxHeartbeats 4000000 in
theorem B_X12_isCaught (Z : mX) (o : Nat) (a1 : Int) (w : mW) : mm_run (zP Z) 278 [.inr (.inr (some o)), .inl a1] w =
  if mm_cls w o = 12 then
   (mm_kI (mm_run (zP Z) 274 [.inr (.inr (some o)), .inl a1, .inl 3] w) fun x2 w1 =>
  if 0 < x2 then
   some (some (.inl 1), w1)
  else
   some (some (.inl 0), w1))
  else none :=
  (mm_run_eq (P := zP Z) (y := 278) z_cd278 rfl (l := [some (.inr (.inr (some o))), some (.inl a1)]) rfl [] 9 w).trans rfl

-- ThornSchoolModel.allOf(I)I
set_option maxRecDepth 100000 in
set_option maxHeartbeats 4000000 in
theorem B_X12_allOf (Z : mX) (o : Nat) (a1 : Int) (w : mW) : mm_run (zP Z) 279 [.inr (.inr (some o)), .inl a1] w =
  mm_at (zP Z) 279 4 [some (.inr (.inr (some o))), some (.inl a1), some (.inl 0), some (.inl 0)] [] w :=
  (mm_run_eq (P := zP Z) (y := 279) z_cd279 rfl (l := [some (.inr (.inr (some o))), some (.inl a1), none, none]) rfl [4] 5 w).trans rfl

set_option maxRecDepth 100000 in
set_option maxHeartbeats 4000000 in
theorem B_X12_allOf_4 (Z : mX) (o : Nat) (l1 : Int) (l2 : Int) (l3 : Int) (w : mW) : mm_at (zP Z) 279 4 [some (.inr (.inr (some o))), some (.inl l1), some (.inl l2), some (.inl l3)] [] w =
  if mm_cls w o = 12 then
   (mm_kI (mm_run (zP Z) 248 [.inr (.inr (some o)), .inl 0] w) fun x2 w1 =>
  if l3 < x2 then
   (mm_gR w1 o 12 0).bind fun r3 =>
   r3.bind fun q4 =>
   (mm_ld 0 w1 q4 (mm_w32 (l1 + l3))).bind fun x5 =>
   mm_at (zP Z) 279 4 [some (.inr (.inr (some o))), some (.inl l1), some (.inl (mm_w32 (l2 + x5))), some (.inl (mm_w32 (l3 + 1)))] [] w1
  else
   some (some (.inl l2), w1))
  else none :=
  (mm_V_eq (P := zP Z) (y := 279) z_cd279 [4] 17 4 _ _ w).trans rfl

-- ThornSchoolModel.together0(I)I
set_option maxRecDepth 100000 in
set_option maxHeartbeats 4000000 in
theorem B_X12_together0 (Z : mX) (o : Nat) (a1 : Int) (w : mW) : mm_run (zP Z) 280 [.inr (.inr (some o)), .inl a1] w =
  mm_at (zP Z) 280 4 [some (.inr (.inr (some o))), some (.inl a1), some (.inl 0), some (.inl 0)] [] w :=
  (mm_run_eq (P := zP Z) (y := 280) z_cd280 rfl (l := [some (.inr (.inr (some o))), some (.inl a1), none, none]) rfl [4] 5 w).trans rfl

set_option maxRecDepth 100000 in
set_option maxHeartbeats 4000000 in
theorem B_X12_together0_4 (Z : mX) (o : Nat) (l1 : Int) (l2 : Int) (l3 : Int) (w : mW) : mm_at (zP Z) 280 4 [some (.inr (.inr (some o))), some (.inl l1), some (.inl l2), some (.inl l3)] [] w =
  (mm_gR w o 12 0).bind fun r1 =>
  r1.bind fun q2 =>
  (mm_ld 0 w q2 3).bind fun x3 =>
  if l3 < x3 then
   if mm_cls w o = 12 then
    (mm_kI (mm_run (zP Z) 274 [.inr (.inr (some o)), .inl l3, .inl l1] w) fun x5 w4 =>
   mm_at (zP Z) 280 4 [some (.inr (.inr (some o))), some (.inl l1), some (.inl (mm_w32 (l2 + x5))), some (.inl (mm_w32 (l3 + 1)))] [] w4)
   else none
  else
   some (some (.inl l2), w) :=
  (mm_V_eq (P := zP Z) (y := 280) z_cd280 [4] 16 4 _ _ w).trans rfl

-- ThornSchoolModel.allCaught()I
set_option maxRecDepth 100000 in
set_option maxHeartbeats 4000000 in
theorem B_X12_allCaught (Z : mX) (o : Nat) (w : mW) : mm_run (zP Z) 281 [.inr (.inr (some o))] w =
  mm_at (zP Z) 281 4 [some (.inr (.inr (some o))), some (.inl 0), some (.inl 0)] [] w :=
  (mm_run_eq (P := zP Z) (y := 281) z_cd281 rfl (l := [some (.inr (.inr (some o))), none, none]) rfl [4] 5 w).trans rfl

set_option maxRecDepth 100000 in
set_option maxHeartbeats 4000000 in
theorem B_X12_allCaught_4 (Z : mX) (o : Nat) (l1 : Int) (l2 : Int) (w : mW) : mm_at (zP Z) 281 4 [some (.inr (.inr (some o))), some (.inl l1), some (.inl l2)] [] w =
  (mm_gR w o 12 0).bind fun r1 =>
  r1.bind fun q2 =>
  (mm_ld 0 w q2 3).bind fun x3 =>
  if l2 < x3 then
   if mm_cls w o = 12 then
    (mm_kI (mm_run (zP Z) 278 [.inr (.inr (some o)), .inl l2] w) fun x5 w4 =>
   if x5 = 0 then
    mm_at (zP Z) 281 4 [some (.inr (.inr (some o))), some (.inl (mm_ior l1 0)), some (.inl (mm_w32 (l2 + 1)))] [] w4
   else
    mm_at (zP Z) 281 4 [some (.inr (.inr (some o))), some (.inl (mm_ior l1 (mm_ishl 1 l2))), some (.inl (mm_w32 (l2 + 1)))] [] w4)
   else none
  else
   some (some (.inl l1), w) :=
  (mm_V_eq (P := zP Z) (y := 281) z_cd281 [4] 20 4 _ _ w).trans rfl

-- ThornSchoolModel.told(I)I
set_option maxRecDepth 100000 in
set_option maxHeartbeats 4000000 in
theorem B_X12_told (Z : mX) (o : Nat) (a1 : Int) (w : mW) : mm_run (zP Z) 282 [.inr (.inr (some o)), .inl a1] w =
  if a1 = 0 then
   mm_at (zP Z) 282 2 [some (.inr (.inr (some o))), some (.inl a1)] [] w
  else if a1 = 1 then
   mm_at (zP Z) 282 2 [some (.inr (.inr (some o))), some (.inl a1)] [] w
  else if a1 = 2 then
   mm_at (zP Z) 282 2 [some (.inr (.inr (some o))), some (.inl a1)] [] w
  else if a1 = 3 then
   mm_at (zP Z) 282 2 [some (.inr (.inr (some o))), some (.inl a1)] [] w
  else if a1 = 4 then
   mm_at (zP Z) 282 2 [some (.inr (.inr (some o))), some (.inl a1)] [] w
  else if a1 = 5 then
   mm_at (zP Z) 282 2 [some (.inr (.inr (some o))), some (.inl a1)] [] w
  else if a1 = 6 then
   if mm_cls w o = 12 then
    (mm_kI (mm_run (zP Z) 279 [.inr (.inr (some o)), .inl 10] w) fun x2 w1 =>
   if mm_cls w1 o = 12 then
    (mm_kI (mm_run (zP Z) 217 [.inr (.inr (some o)), .inl x2] w1) fun x4 w3 =>
   some (some (.inl x4), w3))
   else none)
   else none
  else if a1 = 7 then
   if mm_cls w o = 12 then
    (mm_kI (mm_run (zP Z) 279 [.inr (.inr (some o)), .inl 35] w) fun x6 w5 =>
   if mm_cls w5 o = 12 then
    (mm_kI (mm_run (zP Z) 217 [.inr (.inr (some o)), .inl x6] w5) fun x8 w7 =>
   some (some (.inl x8), w7))
   else none)
   else none
  else if a1 = 8 then
   if mm_cls w o = 12 then
    (mm_kI (mm_run (zP Z) 281 [.inr (.inr (some o))] w) fun x10 w9 =>
   if mm_cls w9 o = 12 then
    (mm_kI (mm_run (zP Z) 217 [.inr (.inr (some o)), .inl x10] w9) fun x12 w11 =>
   some (some (.inl x12), w11))
   else none)
   else none
  else if a1 = 9 then
   if mm_cls w o = 12 then
    (mm_kI (mm_run (zP Z) 280 [.inr (.inr (some o)), .inl 4] w) fun x14 w13 =>
   if mm_cls w13 o = 12 then
    (mm_kI (mm_run (zP Z) 217 [.inr (.inr (some o)), .inl x14] w13) fun x16 w15 =>
   some (some (.inl x16), w15))
   else none)
   else none
  else if a1 = 10 then
   if mm_cls w o = 12 then
    (mm_kI (mm_run (zP Z) 280 [.inr (.inr (some o)), .inl 5] w) fun x18 w17 =>
   if mm_cls w17 o = 12 then
    (mm_kI (mm_run (zP Z) 217 [.inr (.inr (some o)), .inl x18] w17) fun x20 w19 =>
   some (some (.inl x20), w19))
   else none)
   else none
  else if mm_cls w o = 12 then
    (mm_kI (mm_run (zP Z) 216 [.inr (.inr (some o)), .inl 1] w) fun x22 w21 =>
   some (some (.inl x22), w21))
   else none :=
  (mm_run_eq (P := zP Z) (y := 282) z_cd282 rfl (l := [some (.inr (.inr (some o))), some (.inl a1)]) rfl [2] 9 w).trans rfl

set_option maxRecDepth 100000 in
set_option maxHeartbeats 4000000 in
theorem B_X12_told_2 (Z : mX) (o : Nat) (l1 : Int) (w : mW) : mm_at (zP Z) 282 2 [some (.inr (.inr (some o))), some (.inl l1)] [] w =
  (mm_gR w o 12 0).bind fun r1 =>
  r1.bind fun q2 =>
  (mm_ld 0 w q2 l1).bind fun x3 =>
  if mm_cls w o = 12 then
   (mm_kI (mm_run (zP Z) 217 [.inr (.inr (some o)), .inl x3] w) fun x5 w4 =>
  some (some (.inl x5), w4))
  else none :=
  (mm_V_eq (P := zP Z) (y := 282) z_cd282 [2] 8 2 _ _ w).trans rfl

-- ThornSchoolModel.whoIs(II)I
set_option maxRecDepth 100000 in
set_option maxHeartbeats 4000000 in
theorem B_X12_whoIs (Z : mX) (o : Nat) (a1 : Int) (a2 : Int) (w : mW) : mm_run (zP Z) 283 [.inr (.inr (some o)), .inl a1, .inl a2] w =
  mm_at (zP Z) 283 4 [some (.inr (.inr (some o))), some (.inl a1), some (.inl a2), some (.inl 0), some (.inl 0), none] [] w :=
  (mm_run_eq (P := zP Z) (y := 283) z_cd283 rfl (l := [some (.inr (.inr (some o))), some (.inl a1), some (.inl a2), none, none, none]) rfl [4, 29] 5 w).trans rfl

set_option maxRecDepth 100000 in
set_option maxHeartbeats 4000000 in
theorem B_X12_whoIs_4 (Z : mX) (o : Nat) (l1 : Int) (l2 : Int) (l3 : Int) (l4 : Int) (w : mW) : mm_at (zP Z) 283 4 [some (.inr (.inr (some o))), some (.inl l1), some (.inl l2), some (.inl l3), some (.inl l4), none] [] w =
  (mm_gR w o 12 0).bind fun r1 =>
  r1.bind fun q2 =>
  (mm_ld 0 w q2 3).bind fun x3 =>
  if l4 < x3 then
   if l2 = 0 then
    if mm_cls w o = 12 then
     (mm_kI (mm_run (zP Z) 274 [.inr (.inr (some o)), .inl l4, .inl 0] w) fun x9 w8 =>
    if x9 = l1 then
     mm_at (zP Z) 283 29 [some (.inr (.inr (some o))), some (.inl l1), some (.inl l2), some (.inl l3), some (.inl l4), none] [.inl 1] w8
    else
     mm_at (zP Z) 283 29 [some (.inr (.inr (some o))), some (.inl l1), some (.inl l2), some (.inl l3), some (.inl l4), none] [.inl 0] w8)
    else none
   else
    if mm_cls w o = 12 then
     (mm_kI (mm_run (zP Z) 274 [.inr (.inr (some o)), .inl l4, .inl 2] w) fun x5 w4 =>
    if mm_cls w4 o = 12 then
     (mm_kI (mm_run (zP Z) 249 [.inr (.inr (some o)), .inl x5, .inl l1] w4) fun x7 w6 =>
    mm_at (zP Z) 283 29 [some (.inr (.inr (some o))), some (.inl l1), some (.inl l2), some (.inl l3), some (.inl l4), none] [.inl x7] w6)
    else none)
    else none
  else
   some (some (.inl l3), w) :=
  (mm_V_eq (P := zP Z) (y := 283) z_cd283 [4, 29] 17 4 _ _ w).trans rfl

set_option maxRecDepth 100000 in
set_option maxHeartbeats 4000000 in
theorem B_X12_whoIs_29 (Z : mX) (o : Nat) (l1 : Int) (l2 : Int) (l3 : Int) (l4 : Int) (s0 : Int) (w : mW) : mm_at (zP Z) 283 29 [some (.inr (.inr (some o))), some (.inl l1), some (.inl l2), some (.inl l3), some (.inl l4), none] [.inl s0] w =
  if s0 = 0 then
   mm_at (zP Z) 283 4 [some (.inr (.inr (some o))), some (.inl l1), some (.inl l2), some (.inl (mm_ior l3 0)), some (.inl (mm_w32 (l4 + 1))), none] [] w
  else
   mm_at (zP Z) 283 4 [some (.inr (.inr (some o))), some (.inl l1), some (.inl l2), some (.inl (mm_ior l3 (mm_ishl 1 l4))), some (.inl (mm_w32 (l4 + 1))), none] [] w :=
  (mm_V_eq (P := zP Z) (y := 283) z_cd283 [4, 29] 13 29 _ _ w).trans rfl

-- ThornSchoolModel.cell(II)I
set_option maxRecDepth 100000 in
set_option maxHeartbeats 4000000 in
theorem B_X12_cell (Z : mX) (o : Nat) (a1 : Int) (a2 : Int) (w : mW) : mm_run (zP Z) 284 [.inr (.inr (some o)), .inl a1, .inl a2] w =
  if mm_cls w o = 12 then
   (mm_kI (mm_run (zP Z) 270 [.inr (.inr (some o)), .inl a1] w) fun x2 w1 =>
  if x2 = 0 then
   if mm_cls w1 o = 12 then
    (mm_kI (mm_run (zP Z) 216 [.inr (.inr (some o)), .inl 1] w1) fun x20 w19 =>
   some (some (.inl x20), w19))
   else none
  else
   if a2 = 0 then
    (mm_gR w1 o 12 0).bind fun r3 =>
    r3.bind fun q4 =>
    (mm_ld 0 w1 q4 (mm_w32 (10 + a1))).bind fun x5 =>
    if mm_cls w1 o = 12 then
     (mm_kI (mm_run (zP Z) 217 [.inr (.inr (some o)), .inl x5] w1) fun x7 w6 =>
    some (some (.inl x7), w6))
    else none
   else if a2 = 1 then
    (mm_gR w1 o 12 0).bind fun r8 =>
    r8.bind fun q9 =>
    (mm_ld 0 w1 q9 (mm_w32 (35 + a1))).bind fun x10 =>
    if mm_cls w1 o = 12 then
     (mm_kI (mm_run (zP Z) 217 [.inr (.inr (some o)), .inl x10] w1) fun x12 w11 =>
    some (some (.inl x12), w11))
    else none
   else if a2 = 2 then
    if mm_cls w1 o = 12 then
     (mm_kI (mm_run (zP Z) 283 [.inr (.inr (some o)), .inl a1, .inl 0] w1) fun x14 w13 =>
    if mm_cls w13 o = 12 then
     (mm_kI (mm_run (zP Z) 217 [.inr (.inr (some o)), .inl x14] w13) fun x16 w15 =>
    some (some (.inl x16), w15))
    else none)
    else none
   else if mm_cls w1 o = 12 then
     (mm_kI (mm_run (zP Z) 216 [.inr (.inr (some o)), .inl 1] w1) fun x18 w17 =>
    some (some (.inl x18), w17))
    else none)
  else none :=
  (mm_run_eq (P := zP Z) (y := 284) z_cd284 rfl (l := [some (.inr (.inr (some o))), some (.inl a1), some (.inl a2)]) rfl [] 16 w).trans rfl

-- ThornSchoolModel.lesson(II)I
set_option maxRecDepth 100000 in
set_option maxHeartbeats 4000000 in
theorem B_X12_lesson (Z : mX) (o : Nat) (a1 : Int) (a2 : Int) (w : mW) : mm_run (zP Z) 285 [.inr (.inr (some o)), .inl a1, .inl a2] w =
  if mm_cls w o = 12 then
   (mm_kI (mm_run (zP Z) 271 [.inr (.inr (some o)), .inl a1] w) fun x2 w1 =>
  if x2 = 0 then
   if mm_cls w1 o = 12 then
    (mm_kI (mm_run (zP Z) 216 [.inr (.inr (some o)), .inl 1] w1) fun x4 w3 =>
   some (some (.inl x4), w3))
   else none
  else
   if a2 < 0 then
    if mm_cls w1 o = 12 then
     (mm_kI (mm_run (zP Z) 216 [.inr (.inr (some o)), .inl 1] w1) fun x6 w5 =>
    some (some (.inl x6), w5))
    else none
   else
    if 2 < a2 then
     if mm_cls w1 o = 12 then
      (mm_kI (mm_run (zP Z) 216 [.inr (.inr (some o)), .inl 1] w1) fun x19 w18 =>
     some (some (.inl x19), w18))
     else none
    else
     if a2 = 2 then
      if mm_cls w1 o = 12 then
       (mm_kI (mm_run (zP Z) 283 [.inr (.inr (some o)), .inl a1, .inl 1] w1) fun x15 w14 =>
      if mm_cls w14 o = 12 then
       (mm_kI (mm_run (zP Z) 217 [.inr (.inr (some o)), .inl x15] w14) fun x17 w16 =>
      some (some (.inl x17), w16))
      else none)
      else none
     else
      (mm_gR w1 o 12 0).bind fun r7 =>
      mm_kI (mm_run (zP Z) 246 [.inl a1] w1) fun x9 w8 =>
      r7.bind fun q10 =>
      (mm_ld 0 w8 q10 (mm_w32 (x9 + a2))).bind fun x11 =>
      if mm_cls w8 o = 12 then
       (mm_kI (mm_run (zP Z) 217 [.inr (.inr (some o)), .inl x11] w8) fun x13 w12 =>
      some (some (.inl x13), w12))
      else none)
  else none :=
  (mm_run_eq (P := zP Z) (y := 285) z_cd285 rfl (l := [some (.inr (.inr (some o))), some (.inl a1), some (.inl a2)]) rfl [] 23 w).trans rfl

-- ThornSchoolModel.pupil(II)I
set_option maxRecDepth 100000 in
set_option maxHeartbeats 4000000 in
theorem B_X12_pupil (Z : mX) (o : Nat) (a1 : Int) (a2 : Int) (w : mW) : mm_run (zP Z) 286 [.inr (.inr (some o)), .inl a1, .inl a2] w =
  if mm_cls w o = 12 then
   (mm_kI (mm_run (zP Z) 272 [.inr (.inr (some o)), .inl a1] w) fun x2 w1 =>
  if x2 = 0 then
   if mm_cls w1 o = 12 then
    (mm_kI (mm_run (zP Z) 216 [.inr (.inr (some o)), .inl 1] w1) fun x4 w3 =>
   some (some (.inl x4), w3))
   else none
  else
   if a2 < 0 then
    if mm_cls w1 o = 12 then
     (mm_kI (mm_run (zP Z) 216 [.inr (.inr (some o)), .inl 1] w1) fun x6 w5 =>
    some (some (.inl x6), w5))
    else none
   else
    if 6 < a2 then
     if mm_cls w1 o = 12 then
      (mm_kI (mm_run (zP Z) 216 [.inr (.inr (some o)), .inl 1] w1) fun x18 w17 =>
     some (some (.inl x18), w17))
     else none
    else
     if a2 = 6 then
      if mm_cls w1 o = 12 then
       (mm_kI (mm_run (zP Z) 274 [.inr (.inr (some o)), .inl a1, .inl 2] w1) fun x12 w11 =>
      mm_kI (mm_run (zP Z) 273 [.inl x12] w11) fun x14 w13 =>
      if mm_cls w13 o = 12 then
       (mm_kI (mm_run (zP Z) 217 [.inr (.inr (some o)), .inl x14] w13) fun x16 w15 =>
      some (some (.inl x16), w15))
      else none)
      else none
     else
      if mm_cls w1 o = 12 then
       (mm_kI (mm_run (zP Z) 274 [.inr (.inr (some o)), .inl a1, .inl a2] w1) fun x8 w7 =>
      if mm_cls w7 o = 12 then
       (mm_kI (mm_run (zP Z) 217 [.inr (.inr (some o)), .inl x8] w7) fun x10 w9 =>
      some (some (.inl x10), w9))
      else none)
      else none)
  else none :=
  (mm_run_eq (P := zP Z) (y := 286) z_cd286 rfl (l := [some (.inr (.inr (some o))), some (.inl a1), some (.inl a2)]) rfl [] 22 w).trans rfl

