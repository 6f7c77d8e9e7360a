/-! printed by wip/whole/gen/emit.py: each method of the mini machine up to its labels -/
-- ThornSchool.<init>()V
set_option maxRecDepth 100000 in
set_option maxHeartbeats 4000000 in
theorem B_X11_init (Z : mX) (o : Nat) (w : mW) : mm_run (zP Z) 135 [.inr (.inr (some o))] w =
  if 4 < 0 ∨ 100000 < 4 then none else
  (mm_p (mm_alloc w (.inr (18, Int.toNat 4, fun _ => -1)) (Int.toNat 4)) o 11 0 (.inr (.inr (some w.2.1)))).bind fun w1 =>
  if mm_cls (mm_alloc w1 (.inl (7, z_defs 7)) 11) w1.2.1 = 7 then
   (mm_kV (mm_run (zP Z) 90 [.inr (.inr (some w1.2.1))] (mm_alloc w1 (.inl (7, z_defs 7)) 11)) fun w2 =>
  (mm_p w2 o 11 1 (.inr (.inr (some w1.2.1)))).bind fun w3 =>
  if mm_cls (mm_alloc w3 (.inl (5, z_defs 5)) 18) w3.2.1 = 5 then
   (mm_kV (mm_run (zP Z) 45 [.inr (.inr (some w3.2.1))] (mm_alloc w3 (.inl (5, z_defs 5)) 18)) fun w4 =>
  (mm_p w4 o 11 2 (.inr (.inr (some w3.2.1)))).bind fun w5 =>
  if mm_cls (mm_alloc w5 (.inl (5, z_defs 5)) 18) w5.2.1 = 5 then
   (mm_kV (mm_run (zP Z) 45 [.inr (.inr (some w5.2.1))] (mm_alloc w5 (.inl (5, z_defs 5)) 18)) fun w6 =>
  (mm_p w6 o 11 3 (.inr (.inr (some w5.2.1)))).bind fun w7 =>
  if mm_cls (mm_alloc w7 (.inl (0, z_defs 0)) 8) w7.2.1 = 0 then
   (mm_kV (mm_run (zP Z) 0 [.inr (.inr (some w7.2.1))] (mm_alloc w7 (.inl (0, z_defs 0)) 8)) fun w8 =>
  (mm_p w8 o 11 4 (.inr (.inr (some w7.2.1)))).bind fun w9 =>
  (mm_gR (mm_alloc w9 (.inl (6, z_defs 6)) 7) o 11 1).bind fun r10 =>
  if mm_cls (mm_alloc w9 (.inl (6, z_defs 6)) 7) w9.2.1 = 6 then
   (mm_kV (mm_run (zP Z) 80 [.inr (.inr (some w9.2.1)), .inr (.inr r10)] (mm_alloc w9 (.inl (6, z_defs 6)) 7)) fun w11 =>
  (mm_p w11 o 11 5 (.inr (.inr (some w9.2.1)))).bind fun w12 =>
  (mm_gR (mm_alloc w12 (.inl (1, z_defs 1)) 6) o 11 1).bind fun r13 =>
  (mm_gR (mm_alloc w12 (.inl (1, z_defs 1)) 6) o 11 2).bind fun r14 =>
  if mm_cls (mm_alloc w12 (.inl (1, z_defs 1)) 6) w12.2.1 = 1 then
   (mm_kV (mm_run (zP Z) 5 [.inr (.inr (some w12.2.1)), .inr (.inr r13), .inr (.inr r14)] (mm_alloc w12 (.inl (1, z_defs 1)) 6)) fun w15 =>
  (mm_p w15 o 11 6 (.inr (.inr (some w12.2.1)))).bind fun w16 =>
  if 3 < 0 ∨ 100000 < 3 then none else
  (mm_p (mm_alloc w16 (.inr (15, Int.toNat 3, fun _ => -1)) (Int.toNat 3)) o 11 7 (.inr (.inr (some w16.2.1)))).bind fun w17 =>
  if 3 < 0 ∨ 100000 < 3 then none else
  (mm_p (mm_alloc w17 (.inr (10, Int.toNat 3, fun _ => -1)) (Int.toNat 3)) o 11 8 (.inr (.inr (some w17.2.1)))).bind fun w18 =>
  (mm_gR (mm_alloc w18 (.inl (4, z_defs 4)) 12) o 11 2).bind fun r19 =>
  (mm_gR (mm_alloc w18 (.inl (4, z_defs 4)) 12) o 11 4).bind fun r20 =>
  if mm_cls (mm_alloc w18 (.inl (4, z_defs 4)) 12) w18.2.1 = 4 then
   (mm_kV (mm_run (zP Z) 30 [.inr (.inr (some w18.2.1)), .inr (.inr r19), .inr (.inr r20)] (mm_alloc w18 (.inl (4, z_defs 4)) 12)) fun w21 =>
  (mm_p w21 o 11 9 (.inr (.inr (some w18.2.1)))).bind fun w22 =>
  (mm_gR (mm_alloc w22 (.inl (9, z_defs 9)) 2) o 11 2).bind fun r23 =>
  if mm_cls (mm_alloc w22 (.inl (9, z_defs 9)) 2) w22.2.1 = 9 then
   (mm_kV (mm_run (zP Z) 116 [.inr (.inr (some w22.2.1)), .inr (.inr r23)] (mm_alloc w22 (.inl (9, z_defs 9)) 2)) fun w24 =>
  (mm_p w24 o 11 10 (.inr (.inr (some w22.2.1)))).bind fun w25 =>
  (mm_gR (mm_alloc w25 (.inl (3, z_defs 3)) 3) o 11 2).bind fun r26 =>
  if mm_cls (mm_alloc w25 (.inl (3, z_defs 3)) 3) w25.2.1 = 3 then
   (mm_kV (mm_run (zP Z) 21 [.inr (.inr (some w25.2.1)), .inr (.inr r26)] (mm_alloc w25 (.inl (3, z_defs 3)) 3)) fun w27 =>
  (mm_p w27 o 11 11 (.inr (.inr (some w25.2.1)))).bind fun w28 =>
  (mm_gR (mm_alloc w28 (.inl (2, z_defs 2)) 3) o 11 2).bind fun r29 =>
  if mm_cls (mm_alloc w28 (.inl (2, z_defs 2)) 3) w28.2.1 = 2 then
   (mm_kV (mm_run (zP Z) 15 [.inr (.inr (some w28.2.1)), .inr (.inr r29)] (mm_alloc w28 (.inl (2, z_defs 2)) 3)) fun w30 =>
  (mm_p w30 o 11 12 (.inr (.inr (some w28.2.1)))).bind fun w31 =>
  (mm_gR (mm_alloc w31 (.inl (10, z_defs 10)) 2) o 11 2).bind fun r32 =>
  if mm_cls (mm_alloc w31 (.inl (10, z_defs 10)) 2) w31.2.1 = 10 then
   (mm_kV (mm_run (zP Z) 129 [.inr (.inr (some w31.2.1)), .inr (.inr r32)] (mm_alloc w31 (.inl (10, z_defs 10)) 2)) fun w33 =>
  (mm_p w33 o 11 13 (.inr (.inr (some w31.2.1)))).bind fun w34 =>
  (mm_p w34 o 11 17 (.inr (.inl 1))).bind fun w35 =>
  mm_at (zP Z) 135 92 [some (.inr (.inr (some o))), some (.inl 0)] [] w35)
  else none)
  else none)
  else none)
  else none)
  else none)
  else none)
  else none)
  else none)
  else none)
  else none)
  else none :=
  (mm_run_eq (P := zP Z) (y := 135) z_cd135 rfl (l := [some (.inr (.inr (some o))), none]) rfl [92, 108, 124] 93 w).trans rfl

set_option maxRecDepth 100000 in
set_option maxHeartbeats 4000000 in
theorem B_X11_init_92 (Z : mX) (o : Nat) (l1 : Int) (w : mW) : mm_at (zP Z) 135 92 [some (.inr (.inr (some o))), some (.inl l1)] [] w =
  (mm_gR w o 11 0).bind fun r1 =>
  r1.bind fun q2 =>
  (mm_ln w q2).bind fun x3 =>
  if l1 < x3 then
   (mm_gR w o 11 0).bind fun r4 =>
   if mm_cls (mm_alloc w (.inl (8, z_defs 8)) 3) w.2.1 = 8 then
    (mm_kV (mm_run (zP Z) 108 [.inr (.inr (some w.2.1))] (mm_alloc w (.inl (8, z_defs 8)) 3)) fun w5 =>
   r4.bind fun q6 =>
   if mm_cls w5 w.2.1 + 10 = 18 then
    ((mm_st 18 w5 q6 l1 (w.2.1 : Int)).bind fun w7 =>
   mm_at (zP Z) 135 92 [some (.inr (.inr (some o))), some (.inl (mm_w32 (l1 + 1)))] [] w7)
   else none)
   else none
  else
   mm_at (zP Z) 135 108 [some (.inr (.inr (some o))), some (.inl 0)] [] w :=
  (mm_V_eq (P := zP Z) (y := 135) z_cd135 [92, 108, 124] 15 92 _ _ w).trans rfl

set_option maxRecDepth 100000 in
set_option maxHeartbeats 4000000 in
theorem B_X11_init_108 (Z : mX) (o : Nat) (l1 : Int) (w : mW) : mm_at (zP Z) 135 108 [some (.inr (.inr (some o))), some (.inl l1)] [] w =
  (mm_gR w o 11 7).bind fun r1 =>
  r1.bind fun q2 =>
  (mm_ln w q2).bind fun x3 =>
  if l1 < x3 then
   (mm_gR w o 11 7).bind fun r4 =>
   if mm_cls (mm_alloc w (.inl (5, z_defs 5)) 18) w.2.1 = 5 then
    (mm_kV (mm_run (zP Z) 45 [.inr (.inr (some w.2.1))] (mm_alloc w (.inl (5, z_defs 5)) 18)) fun w5 =>
   r4.bind fun q6 =>
   if mm_cls w5 w.2.1 + 10 = 15 then
    ((mm_st 15 w5 q6 l1 (w.2.1 : Int)).bind fun w7 =>
   mm_at (zP Z) 135 108 [some (.inr (.inr (some o))), some (.inl (mm_w32 (l1 + 1)))] [] w7)
   else none)
   else none
  else
   mm_at (zP Z) 135 124 [some (.inr (.inr (some o))), some (.inl 0)] [] w :=
  (mm_V_eq (P := zP Z) (y := 135) z_cd135 [92, 108, 124] 15 108 _ _ w).trans rfl

set_option maxRecDepth 100000 in
set_option maxHeartbeats 4000000 in
theorem B_X11_init_124 (Z : mX) (o : Nat) (l1 : Int) (w : mW) : mm_at (zP Z) 135 124 [some (.inr (.inr (some o))), some (.inl l1)] [] w =
  (mm_gR w o 11 8).bind fun r1 =>
  r1.bind fun q2 =>
  (mm_ln w q2).bind fun x3 =>
  if l1 < x3 then
   (mm_gR w o 11 8).bind fun r4 =>
   if mm_cls (mm_alloc w (.inl (0, z_defs 0)) 8) w.2.1 = 0 then
    (mm_kV (mm_run (zP Z) 0 [.inr (.inr (some w.2.1))] (mm_alloc w (.inl (0, z_defs 0)) 8)) fun w5 =>
   r4.bind fun q6 =>
   if mm_cls w5 w.2.1 + 10 = 10 then
    ((mm_st 10 w5 q6 l1 (w.2.1 : Int)).bind fun w7 =>
   mm_at (zP Z) 135 124 [some (.inr (.inr (some o))), some (.inl (mm_w32 (l1 + 1)))] [] w7)
   else none)
   else none
  else
   some (none, w) :=
  (mm_V_eq (P := zP Z) (y := 135) z_cd135 [92, 108, 124] 15 124 _ _ w).trans rfl

-- ThornSchool.status()I
set_option maxRecDepth 100000 in
set_option maxHeartbeats 4000000 in
theorem B_X11_status (Z : mX) (o : Nat) (w : mW) : mm_run (zP Z) 136 [.inr (.inr (some o))] w =
  (mm_gI w o 11 15).bind fun x1 =>
  some (some (.inl x1), w) :=
  (mm_run_eq (P := zP Z) (y := 136) z_cd136 rfl (l := [some (.inr (.inr (some o)))]) rfl [] 4 w).trans rfl

-- ThornSchool.top()J
set_option maxRecDepth 100000 in
set_option maxHeartbeats 4000000 in
theorem B_X11_top (Z : mX) (o : Nat) (w : mW) : mm_run (zP Z) 137 [.inr (.inr (some o))] w =
  (mm_gJ w o 11 16).bind fun x1 =>
  some (some (.inr (.inl x1)), w) :=
  (mm_run_eq (P := zP Z) (y := 137) z_cd137 rfl (l := [some (.inr (.inr (some o)))]) rfl [] 4 w).trans rfl

-- ThornSchool.bottom()J
set_option maxRecDepth 100000 in
set_option maxHeartbeats 4000000 in
theorem B_X11_bottom (Z : mX) (o : Nat) (w : mW) : mm_run (zP Z) 138 [.inr (.inr (some o))] w =
  (mm_gJ w o 11 17).bind fun x1 =>
  some (some (.inr (.inl x1)), w) :=
  (mm_run_eq (P := zP Z) (y := 138) z_cd138 rfl (l := [some (.inr (.inr (some o)))]) rfl [] 4 w).trans rfl

-- ThornSchool.tray(III)Z
set_option maxRecDepth 100000 in
set_option maxHeartbeats 4000000 in
theorem B_X11_tray (Z : mX) (o : Nat) (a1 : Int) (a2 : Int) (a3 : Int) (w : mW) : mm_run (zP Z) 139 [.inr (.inr (some o)), .inl a1, .inl a2, .inl a3] w =
  if mm_cls w o = 11 then
   (mm_kR (mm_run (zP Z) 195 [.inr (.inr (some o)), .inl a1] w) fun r2 w1 =>
  if r2 = none then
   if mm_cls w1 o = 11 then
    (mm_kI (mm_run (zP Z) 192 [.inr (.inr (some o)), .inl 1] w1) fun x4 w3 =>
   if x4 = 0 ∨ x4 = 1 then some (some (.inl x4), w3) else none)
   else none
  else
   mm_kI (mm_run (zP Z) 208 [.inl a2, .inl 0, .inl 3] w1) fun x6 w5 =>
   if x6 = 0 then
    if mm_cls w5 o = 11 then
     (mm_kI (mm_run (zP Z) 192 [.inr (.inr (some o)), .inl 1] w5) fun x8 w7 =>
    if x8 = 0 ∨ x8 = 1 then some (some (.inl x8), w7) else none)
    else none
   else
    mm_kI (mm_run (zP Z) 208 [.inl a3, .inl 0, .inl 60] w5) fun x10 w9 =>
    if x10 = 0 then
     if mm_cls w9 o = 11 then
      (mm_kI (mm_run (zP Z) 192 [.inr (.inr (some o)), .inl 1] w9) fun x16 w15 =>
     if x16 = 0 ∨ x16 = 1 then some (some (.inl x16), w15) else none)
     else none
    else
     r2.bind fun q11 =>
     if mm_cls w9 q11 = 8 then
      (mm_kV (mm_run (zP Z) 109 [.inr (.inr (some q11)), .inl a2, .inl a3] w9) fun w12 =>
     if mm_cls w12 o = 11 then
      (mm_kI (mm_run (zP Z) 193 [.inr (.inr (some o))] w12) fun x14 w13 =>
     if x14 = 0 ∨ x14 = 1 then some (some (.inl x14), w13) else none)
     else none)
     else none)
  else none :=
  (mm_run_eq (P := zP Z) (y := 139) z_cd139 rfl (l := [some (.inr (.inr (some o))), some (.inl a1), some (.inl a2), some (.inl a3), none]) rfl [] 24 w).trans rfl

-- ThornSchool.write(IIJ)Z
set_option maxRecDepth 100000 in
set_option maxHeartbeats 4000000 in
theorem B_X11_write (Z : mX) (o : Nat) (a1 : Int) (a2 : Int) (a3 : Int) (w : mW) : mm_run (zP Z) 140 [.inr (.inr (some o)), .inl a1, .inl a2, .inr (.inl a3)] w =
  if mm_cls w o = 11 then
   (mm_kR (mm_run (zP Z) 195 [.inr (.inr (some o)), .inl a1] w) fun r2 w1 =>
  if mm_cls w1 o = 11 then
   (mm_kI (mm_run (zP Z) 196 [.inr (.inr (some o)), .inr (.inr r2), .inl a2, .inl 1] w1) fun x4 w3 =>
  if r2 = none then
   if mm_cls w3 o = 11 then
    (mm_kI (mm_run (zP Z) 192 [.inr (.inr (some o)), .inl x4] w3) fun x6 w5 =>
   if x6 = 0 ∨ x6 = 1 then some (some (.inl x6), w5) else none)
   else none
  else
   if x4 = 0 then
    r2.bind fun q7 =>
    if mm_cls w3 q7 = 8 then
     (mm_kV (mm_run (zP Z) 113 [.inr (.inr (some q7)), .inl a2, .inr (.inl a3)] w3) fun w8 =>
    if mm_cls w8 o = 11 then
     (mm_kI (mm_run (zP Z) 193 [.inr (.inr (some o))] w8) fun x10 w9 =>
    if x10 = 0 ∨ x10 = 1 then some (some (.inl x10), w9) else none)
    else none)
    else none
   else
    if mm_cls w3 o = 11 then
     (mm_kI (mm_run (zP Z) 192 [.inr (.inr (some o)), .inl x4] w3) fun x12 w11 =>
    if x12 = 0 ∨ x12 = 1 then some (some (.inl x12), w11) else none)
    else none)
  else none)
  else none :=
  (mm_run_eq (P := zP Z) (y := 140) z_cd140 rfl (l := [some (.inr (.inr (some o))), some (.inl a1), some (.inl a2), some (.inr (.inl a3)), none, none, none]) rfl [] 22 w).trans rfl

-- ThornSchool.read(II)J
set_option maxRecDepth 100000 in
set_option maxHeartbeats 4000000 in
theorem B_X11_read (Z : mX) (o : Nat) (a1 : Int) (a2 : Int) (w : mW) : mm_run (zP Z) 141 [.inr (.inr (some o)), .inl a1, .inl a2] w =
  if mm_cls w o = 11 then
   (mm_kR (mm_run (zP Z) 195 [.inr (.inr (some o)), .inl a1] w) fun r2 w1 =>
  if mm_cls w1 o = 11 then
   (mm_kI (mm_run (zP Z) 196 [.inr (.inr (some o)), .inr (.inr r2), .inl a2, .inl 1] w1) fun x4 w3 =>
  if r2 = none then
   if mm_cls w3 o = 11 then
    (mm_kI (mm_run (zP Z) 190 [.inr (.inr (some o)), .inl x4] w3) fun x6 w5 =>
   some (some (.inr (.inl x6)), w5))
   else none
  else
   if x4 = 0 then
    (mm_p w3 o 11 15 (.inl 0)).bind fun w7 =>
    r2.bind fun q8 =>
    if mm_cls w7 q8 = 8 then
     (mm_kJ (mm_run (zP Z) 112 [.inr (.inr (some q8)), .inl a2] w7) fun x10 w9 =>
    some (some (.inr (.inl x10)), w9))
    else none
   else
    if mm_cls w3 o = 11 then
     (mm_kI (mm_run (zP Z) 190 [.inr (.inr (some o)), .inl x4] w3) fun x12 w11 =>
    some (some (.inr (.inl x12)), w11))
    else none)
  else none)
  else none :=
  (mm_run_eq (P := zP Z) (y := 141) z_cd141 rfl (l := [some (.inr (.inr (some o))), some (.inl a1), some (.inl a2), none, none]) rfl [] 22 w).trans rfl

-- ThornSchool.pour(IIIII)Z
set_option maxRecDepth 100000 in
set_option maxHeartbeats 4000000 in
theorem B_X11_pour (Z : mX) (o : Nat) (a1 : Int) (a2 : Int) (a3 : Int) (a4 : Int) (a5 : Int) (w : mW) : mm_run (zP Z) 142 [.inr (.inr (some o)), .inl a1, .inl a2, .inl a3, .inl a4, .inl a5] w =
  if mm_cls w o = 11 then
   (mm_kR (mm_run (zP Z) 195 [.inr (.inr (some o)), .inl a1] w) fun r2 w1 =>
  if mm_cls w1 o = 11 then
   (mm_kR (mm_run (zP Z) 195 [.inr (.inr (some o)), .inl a3] w1) fun r4 w3 =>
  if r2 = none then
   if mm_cls w3 o = 11 then
    (mm_kI (mm_run (zP Z) 192 [.inr (.inr (some o)), .inl 1] w3) fun x6 w5 =>
   if x6 = 0 ∨ x6 = 1 then some (some (.inl x6), w5) else none)
   else none
  else
   if r4 = none then
    if mm_cls w3 o = 11 then
     (mm_kI (mm_run (zP Z) 192 [.inr (.inr (some o)), .inl 1] w3) fun x44 w43 =>
    if x44 = 0 ∨ x44 = 1 then some (some (.inl x44), w43) else none)
    else none
   else
    if a2 < 0 then
     if mm_cls w3 o = 11 then
      (mm_kI (mm_run (zP Z) 192 [.inr (.inr (some o)), .inl 1] w3) fun x8 w7 =>
     if x8 = 0 ∨ x8 = 1 then some (some (.inl x8), w7) else none)
     else none
    else
     if a4 < 0 then
      if mm_cls w3 o = 11 then
       (mm_kI (mm_run (zP Z) 192 [.inr (.inr (some o)), .inl 1] w3) fun x10 w9 =>
      if x10 = 0 ∨ x10 = 1 then some (some (.inl x10), w9) else none)
      else none
     else
      if a5 < 0 then
       if mm_cls w3 o = 11 then
        (mm_kI (mm_run (zP Z) 192 [.inr (.inr (some o)), .inl 1] w3) fun x42 w41 =>
       if x42 = 0 ∨ x42 = 1 then some (some (.inl x42), w41) else none)
       else none
      else
       r2.bind fun q11 =>
       if mm_cls w3 q11 = 8 then
        (mm_kI (mm_run (zP Z) 110 [.inr (.inr (some q11))] w3) fun x13 w12 =>
       if x13 = 0 then
        r4.bind fun q16 =>
        if mm_cls w12 q16 = 8 then
         (mm_kI (mm_run (zP Z) 110 [.inr (.inr (some q16))] w12) fun x18 w17 =>
        if x18 = 0 then
         r2.bind fun q19 =>
         (mm_gI w17 q19 8 1).bind fun x20 =>
         r4.bind fun q21 =>
         (mm_gI w17 q21 8 1).bind fun x22 =>
         if x20 = x22 then
          r2.bind fun q23 =>
          if mm_cls w17 q23 = 8 then
           (mm_kI (mm_run (zP Z) 111 [.inr (.inr (some q23)), .inl a2, .inl a5] w17) fun x25 w24 =>
          if x25 = 0 then
           if mm_cls w24 o = 11 then
            (mm_kI (mm_run (zP Z) 192 [.inr (.inr (some o)), .inl 3] w24) fun x27 w26 =>
           if x27 = 0 ∨ x27 = 1 then some (some (.inl x27), w26) else none)
           else none
          else
           r4.bind fun q28 =>
           if mm_cls w24 q28 = 8 then
            (mm_kI (mm_run (zP Z) 111 [.inr (.inr (some q28)), .inl a4, .inl a5] w24) fun x30 w29 =>
           if x30 = 0 then
            if mm_cls w29 o = 11 then
             (mm_kI (mm_run (zP Z) 192 [.inr (.inr (some o)), .inl 3] w29) fun x36 w35 =>
            if x36 = 0 ∨ x36 = 1 then some (some (.inl x36), w35) else none)
            else none
           else
            r4.bind fun q31 =>
            if mm_cls w29 q31 = 8 then
             (mm_kV (mm_run (zP Z) 115 [.inr (.inr (some q31)), .inr (.inr r2), .inl a2, .inl a4, .inl a5] w29) fun w32 =>
            if mm_cls w32 o = 11 then
             (mm_kI (mm_run (zP Z) 193 [.inr (.inr (some o))] w32) fun x34 w33 =>
            if x34 = 0 ∨ x34 = 1 then some (some (.inl x34), w33) else none)
            else none)
            else none)
           else none)
          else none
         else
          if mm_cls w17 o = 11 then
           (mm_kI (mm_run (zP Z) 192 [.inr (.inr (some o)), .inl 8] w17) fun x38 w37 =>
          if x38 = 0 ∨ x38 = 1 then some (some (.inl x38), w37) else none)
          else none
        else
         if mm_cls w17 o = 11 then
          (mm_kI (mm_run (zP Z) 192 [.inr (.inr (some o)), .inl 2] w17) fun x40 w39 =>
         if x40 = 0 ∨ x40 = 1 then some (some (.inl x40), w39) else none)
         else none)
        else none
       else
        if mm_cls w12 o = 11 then
         (mm_kI (mm_run (zP Z) 192 [.inr (.inr (some o)), .inl 2] w12) fun x15 w14 =>
        if x15 = 0 ∨ x15 = 1 then some (some (.inl x15), w14) else none)
        else none)
       else none)
  else none)
  else none :=
  (mm_run_eq (P := zP Z) (y := 142) z_cd142 rfl (l := [some (.inr (.inr (some o))), some (.inl a1), some (.inl a2), some (.inl a3), some (.inl a4), some (.inl a5), none, none]) rfl [] 49 w).trans rfl

-- ThornSchool.feed(IIIII)I
set_option maxRecDepth 100000 in
set_option maxHeartbeats 4000000 in
theorem B_X11_feed (Z : mX) (o : Nat) (a1 : Int) (a2 : Int) (a3 : Int) (a4 : Int) (a5 : Int) (w : mW) : mm_run (zP Z) 143 [.inr (.inr (some o)), .inl a1, .inl a2, .inl a3, .inl a4, .inl a5] w =
  (mm_gR w o 11 1).bind fun r1 =>
  r1.bind fun q2 =>
  if mm_cls w q2 = 7 then
   (mm_kI (mm_run (zP Z) 91 [.inr (.inr (some q2))] w) fun x4 w3 =>
  if x4 = 0 then
   some (some (.inl (-1)), w3)
  else
   (mm_gR w3 o 11 1).bind fun r5 =>
   r5.bind fun q6 =>
   if mm_cls w3 q6 = 7 then
    (mm_kV (mm_run (zP Z) 92 [.inr (.inr (some q6)), .inl a1] w3) fun w7 =>
   (mm_gR w7 o 11 1).bind fun r8 =>
   r8.bind fun q9 =>
   if mm_cls w7 q9 = 7 then
    (mm_kV (mm_run (zP Z) 92 [.inr (.inr (some q9)), .inl a2] w7) fun w10 =>
   (mm_gR w10 o 11 1).bind fun r11 =>
   r11.bind fun q12 =>
   if mm_cls w10 q12 = 7 then
    (mm_kV (mm_run (zP Z) 92 [.inr (.inr (some q12)), .inl a3] w10) fun w13 =>
   (mm_gR w13 o 11 1).bind fun r14 =>
   r14.bind fun q15 =>
   if mm_cls w13 q15 = 7 then
    (mm_kV (mm_run (zP Z) 92 [.inr (.inr (some q15)), .inl a4] w13) fun w16 =>
   (mm_gR w16 o 11 1).bind fun r17 =>
   r17.bind fun q18 =>
   if mm_cls w16 q18 = 7 then
    (mm_kV (mm_run (zP Z) 92 [.inr (.inr (some q18)), .inl a5] w16) fun w19 =>
   (mm_gR w19 o 11 1).bind fun r20 =>
   r20.bind fun q21 =>
   (mm_gI w19 q21 7 4).bind fun x22 =>
   some (some (.inl x22), w19))
   else none)
   else none)
   else none)
   else none)
   else none)
  else none :=
  (mm_run_eq (P := zP Z) (y := 143) z_cd143 rfl (l := [some (.inr (.inr (some o))), some (.inl a1), some (.inl a2), some (.inl a3), some (.inl a4), some (.inl a5)]) rfl [] 29 w).trans rfl

-- ThornSchool.school(I)I
set_option maxRecDepth 100000 in
set_option maxHeartbeats 4000000 in
theorem B_X11_school (Z : mX) (o : Nat) (a1 : Int) (w : mW) : mm_run (zP Z) 144 [.inr (.inr (some o)), .inl a1] w =
  (mm_gR w o 11 1).bind fun r1 =>
  r1.bind fun q2 =>
  (mm_gI w q2 7 4).bind fun x3 =>
  mm_kI (mm_run (zP Z) 208 [.inl a1, .inl 0, .inl x3] w) fun x5 w4 =>
  if x5 = 0 then
   if mm_cls w4 o = 11 then
    (mm_kI (mm_run (zP Z) 190 [.inr (.inr (some o)), .inl 1] w4) fun x30 w29 =>
   some (some (.inl x30), w29))
   else none
  else
   (mm_gR w4 o 11 1).bind fun r6 =>
   r6.bind fun q7 =>
   if mm_cls w4 q7 = 7 then
    (mm_kV (mm_run (zP Z) 93 [.inr (.inr (some q7)), .inl a1] w4) fun w8 =>
   (mm_gR w8 o 11 5).bind fun r9 =>
   r9.bind fun q10 =>
   if mm_cls w8 q10 = 6 then
    (mm_kI (mm_run (zP Z) 81 [.inr (.inr (some q10))] w8) fun x12 w11 =>
   if x12 = 0 then
    if mm_cls w11 o = 11 then
     (mm_kI (mm_run (zP Z) 190 [.inr (.inr (some o)), .inl 9] w11) fun x28 w27 =>
    some (some (.inl x28), w27))
    else none
   else
    (mm_gR w11 o 11 2).bind fun r13 =>
    (mm_gR w11 o 11 5).bind fun r14 =>
    r14.bind fun q15 =>
    (mm_gR w11 q15 6 1).bind fun r16 =>
    r13.bind fun q17 =>
    if mm_cls w11 q17 = 5 then
     (mm_kV (mm_run (zP Z) 47 [.inr (.inr (some q17)), .inr (.inr r16)] w11) fun w18 =>
    (mm_gR w18 o 11 4).bind fun r19 =>
    r19.bind fun q20 =>
    if mm_cls w18 q20 = 0 then
     (mm_kV (mm_run (zP Z) 1 [.inr (.inr (some q20))] w18) fun w21 =>
    (mm_gR w21 o 11 2).bind fun r22 =>
    r22.bind fun q23 =>
    (mm_gI w21 q23 5 10).bind fun x24 =>
    if mm_cls w21 o = 11 then
     (mm_kI (mm_run (zP Z) 191 [.inr (.inr (some o)), .inl x24] w21) fun x26 w25 =>
    some (some (.inl x26), w25))
    else none)
    else none)
    else none)
   else none)
   else none :=
  (mm_run_eq (P := zP Z) (y := 144) z_cd144 rfl (l := [some (.inr (.inr (some o))), some (.inl a1)]) rfl [] 31 w).trans rfl

-- ThornSchool.autumns(I)I
set_option maxRecDepth 100000 in
set_option maxHeartbeats 4000000 in
theorem B_X11_autumns (Z : mX) (o : Nat) (a1 : Int) (w : mW) : mm_run (zP Z) 145 [.inr (.inr (some o)), .inl a1] w =
  (mm_gR w o 11 1).bind fun r1 =>
  r1.bind fun q2 =>
  (mm_gI w q2 7 4).bind fun x3 =>
  mm_kI (mm_run (zP Z) 208 [.inl a1, .inl 0, .inl x3] w) fun x5 w4 =>
  if x5 = 0 then
   if mm_cls w4 o = 11 then
    (mm_kI (mm_run (zP Z) 190 [.inr (.inr (some o)), .inl 1] w4) fun x7 w6 =>
   some (some (.inl x7), w6))
   else none
  else
   if 300 < a1 then
    if mm_cls w4 o = 11 then
     (mm_kI (mm_run (zP Z) 190 [.inr (.inr (some o)), .inl 1] w4) fun x29 w28 =>
    some (some (.inl x29), w28))
    else none
   else
    (mm_gR w4 o 11 1).bind fun r8 =>
    r8.bind fun q9 =>
    if mm_cls w4 q9 = 7 then
     (mm_kV (mm_run (zP Z) 93 [.inr (.inr (some q9)), .inl a1] w4) fun w10 =>
    (mm_gR w10 o 11 6).bind fun r11 =>
    r11.bind fun q12 =>
    if mm_cls w10 q12 = 1 then
     (mm_kI (mm_run (zP Z) 6 [.inr (.inr (some q12))] w10) fun x14 w13 =>
    if x14 = 0 then
     if mm_cls w13 o = 11 then
      (mm_kI (mm_run (zP Z) 190 [.inr (.inr (some o)), .inl 9] w13) fun x27 w26 =>
     some (some (.inl x27), w26))
     else none
    else
     (mm_gR w13 o 11 4).bind fun r15 =>
     (mm_gR w13 o 11 6).bind fun r16 =>
     r16.bind fun q17 =>
     (mm_gR w13 q17 1 2).bind fun r18 =>
     r15.bind fun q19 =>
     if mm_cls w13 q19 = 0 then
      (mm_kV (mm_run (zP Z) 2 [.inr (.inr (some q19)), .inr (.inr r18)] w13) fun w20 =>
     (mm_gR w20 o 11 4).bind fun r21 =>
     r21.bind fun q22 =>
     (mm_gI w20 q22 0 1).bind fun x23 =>
     if mm_cls w20 o = 11 then
      (mm_kI (mm_run (zP Z) 191 [.inr (.inr (some o)), .inl x23] w20) fun x25 w24 =>
     some (some (.inl x25), w24))
     else none)
     else none)
    else none)
    else none :=
  (mm_run_eq (P := zP Z) (y := 145) z_cd145 rfl (l := [some (.inr (.inr (some o))), some (.inl a1)]) rfl [] 31 w).trans rfl

-- ThornSchool.fault(I)I
set_option maxRecDepth 100000 in
set_option maxHeartbeats 4000000 in
theorem B_X11_fault (Z : mX) (o : Nat) (a1 : Int) (w : mW) : mm_run (zP Z) 146 [.inr (.inr (some o)), .inl a1] w =
  if a1 = 0 then
   (mm_gR w o 11 1).bind fun r4 =>
   r4.bind fun q5 =>
   (mm_gI w q5 7 9).bind fun x6 =>
   some (some (.inl x6), w)
  else
   if a1 = 1 then
    (mm_gR w o 11 1).bind fun r1 =>
    r1.bind fun q2 =>
    (mm_gI w q2 7 10).bind fun x3 =>
    some (some (.inl x3), w)
   else
    some (some (.inl (-1)), w) :=
  (mm_run_eq (P := zP Z) (y := 146) z_cd146 rfl (l := [some (.inr (.inr (some o))), some (.inl a1)]) rfl [] 11 w).trans rfl

-- ThornSchool.told(I)I
set_option maxRecDepth 100000 in
set_option maxHeartbeats 4000000 in
theorem B_X11_told (Z : mX) (o : Nat) (a1 : Int) (w : mW) : mm_run (zP Z) 147 [.inr (.inr (some o)), .inl a1] w =
  if a1 = 0 then
   (mm_gR w o 11 2).bind fun r1 =>
   r1.bind fun q2 =>
   (mm_gI w q2 5 0).bind fun x3 =>
   if mm_cls w o = 11 then
    (mm_kI (mm_run (zP Z) 191 [.inr (.inr (some o)), .inl x3] w) fun x5 w4 =>
   some (some (.inl x5), w4))
   else none
  else if a1 = 1 then
   (mm_gR w o 11 2).bind fun r6 =>
   r6.bind fun q7 =>
   (mm_gI w q7 5 1).bind fun x8 =>
   if mm_cls w o = 11 then
    (mm_kI (mm_run (zP Z) 191 [.inr (.inr (some o)), .inl x8] w) fun x10 w9 =>
   some (some (.inl x10), w9))
   else none
  else if a1 = 2 then
   (mm_gR w o 11 2).bind fun r11 =>
   r11.bind fun q12 =>
   (mm_gI w q12 5 6).bind fun x13 =>
   if mm_cls w o = 11 then
    (mm_kI (mm_run (zP Z) 191 [.inr (.inr (some o)), .inl x13] w) fun x15 w14 =>
   some (some (.inl x15), w14))
   else none
  else if a1 = 3 then
   (mm_gR w o 11 2).bind fun r16 =>
   r16.bind fun q17 =>
   (mm_gI w q17 5 10).bind fun x18 =>
   if mm_cls w o = 11 then
    (mm_kI (mm_run (zP Z) 191 [.inr (.inr (some o)), .inl x18] w) fun x20 w19 =>
   some (some (.inl x20), w19))
   else none
  else if a1 = 4 then
   (mm_gR w o 11 2).bind fun r21 =>
   r21.bind fun q22 =>
   (mm_gI w q22 5 2).bind fun x23 =>
   if mm_cls w o = 11 then
    (mm_kI (mm_run (zP Z) 191 [.inr (.inr (some o)), .inl x23] w) fun x25 w24 =>
   some (some (.inl x25), w24))
   else none
  else if a1 = 5 then
   (mm_gR w o 11 2).bind fun r26 =>
   r26.bind fun q27 =>
   (mm_gI w q27 5 3).bind fun x28 =>
   if mm_cls w o = 11 then
    (mm_kI (mm_run (zP Z) 191 [.inr (.inr (some o)), .inl x28] w) fun x30 w29 =>
   some (some (.inl x30), w29))
   else none
  else if a1 = 6 then
   (mm_gR w o 11 2).bind fun r31 =>
   r31.bind fun q32 =>
   (mm_gR w q32 5 4).bind fun r33 =>
   mm_kI (mm_run (zP Z) 205 [.inr (.inr r33)] w) fun x35 w34 =>
   if mm_cls w34 o = 11 then
    (mm_kI (mm_run (zP Z) 191 [.inr (.inr (some o)), .inl x35] w34) fun x37 w36 =>
   some (some (.inl x37), w36))
   else none
  else if a1 = 7 then
   (mm_gR w o 11 2).bind fun r38 =>
   r38.bind fun q39 =>
   (mm_gR w q39 5 5).bind fun r40 =>
   mm_kI (mm_run (zP Z) 205 [.inr (.inr r40)] w) fun x42 w41 =>
   if mm_cls w41 o = 11 then
    (mm_kI (mm_run (zP Z) 191 [.inr (.inr (some o)), .inl x42] w41) fun x44 w43 =>
   some (some (.inl x44), w43))
   else none
  else if a1 = 8 then
   (mm_gR w o 11 2).bind fun r45 =>
   r45.bind fun q46 =>
   if mm_cls w q46 = 5 then
    (mm_kI (mm_run (zP Z) 65 [.inr (.inr (some q46))] w) fun x48 w47 =>
   if mm_cls w47 o = 11 then
    (mm_kI (mm_run (zP Z) 191 [.inr (.inr (some o)), .inl x48] w47) fun x50 w49 =>
   some (some (.inl x50), w49))
   else none)
   else none
  else if a1 = 9 then
   (mm_gR w o 11 2).bind fun r51 =>
   r51.bind fun q52 =>
   (mm_gR w q52 5 15).bind fun r53 =>
   mm_kI (mm_run (zP Z) 205 [.inr (.inr r53)] w) fun x55 w54 =>
   if mm_cls w54 o = 11 then
    (mm_kI (mm_run (zP Z) 191 [.inr (.inr (some o)), .inl x55] w54) fun x57 w56 =>
   some (some (.inl x57), w56))
   else none
  else if a1 = 10 then
   (mm_gR w o 11 2).bind fun r58 =>
   r58.bind fun q59 =>
   (mm_gR w q59 5 16).bind fun r60 =>
   mm_kI (mm_run (zP Z) 205 [.inr (.inr r60)] w) fun x62 w61 =>
   if mm_cls w61 o = 11 then
    (mm_kI (mm_run (zP Z) 191 [.inr (.inr (some o)), .inl x62] w61) fun x64 w63 =>
   some (some (.inl x64), w63))
   else none
  else if mm_cls w o = 11 then
    (mm_kI (mm_run (zP Z) 190 [.inr (.inr (some o)), .inl 1] w) fun x66 w65 =>
   some (some (.inl x66), w65))
   else none :=
  (mm_run_eq (P := zP Z) (y := 147) z_cd147 rfl (l := [some (.inr (.inr (some o))), some (.inl a1)]) rfl [] 10 w).trans rfl

-- ThornSchool.cell(II)I
set_option maxRecDepth 100000 in
set_option maxHeartbeats 4000000 in
theorem B_X11_cell (Z : mX) (o : Nat) (a1 : Int) (a2 : Int) (w : mW) : mm_run (zP Z) 148 [.inr (.inr (some o)), .inl a1, .inl a2] w =
  (mm_gR w o 11 2).bind fun r1 =>
  r1.bind fun q2 =>
  if mm_cls w q2 = 5 then
   (mm_kI (mm_run (zP Z) 49 [.inr (.inr (some q2)), .inl a1] w) fun x4 w3 =>
  if x4 = 0 then
   if mm_cls w3 o = 11 then
    (mm_kI (mm_run (zP Z) 190 [.inr (.inr (some o)), .inl 1] w3) fun x28 w27 =>
   some (some (.inl x28), w27))
   else none
  else
   if a2 = 0 then
    (mm_gR w3 o 11 2).bind fun r5 =>
    r5.bind fun q6 =>
    (mm_gR w3 q6 5 4).bind fun r7 =>
    mm_kI (mm_run (zP Z) 199 [.inr (.inr r7), .inl a1] w3) fun x9 w8 =>
    if mm_cls w8 o = 11 then
     (mm_kI (mm_run (zP Z) 191 [.inr (.inr (some o)), .inl x9] w8) fun x11 w10 =>
    some (some (.inl x11), w10))
    else none
   else if a2 = 1 then
    (mm_gR w3 o 11 2).bind fun r12 =>
    r12.bind fun q13 =>
    (mm_gR w3 q13 5 5).bind fun r14 =>
    mm_kI (mm_run (zP Z) 199 [.inr (.inr r14), .inl a1] w3) fun x16 w15 =>
    if mm_cls w15 o = 11 then
     (mm_kI (mm_run (zP Z) 191 [.inr (.inr (some o)), .inl x16] w15) fun x18 w17 =>
    some (some (.inl x18), w17))
    else none
   else if a2 = 2 then
    (mm_gR w3 o 11 2).bind fun r19 =>
    r19.bind fun q20 =>
    if mm_cls w3 q20 = 5 then
     (mm_kI (mm_run (zP Z) 60 [.inr (.inr (some q20)), .inl a1] w3) fun x22 w21 =>
    if mm_cls w21 o = 11 then
     (mm_kI (mm_run (zP Z) 191 [.inr (.inr (some o)), .inl x22] w21) fun x24 w23 =>
    some (some (.inl x24), w23))
    else none)
    else none
   else if mm_cls w3 o = 11 then
     (mm_kI (mm_run (zP Z) 190 [.inr (.inr (some o)), .inl 1] w3) fun x26 w25 =>
    some (some (.inl x26), w25))
    else none)
  else none :=
  (mm_run_eq (P := zP Z) (y := 148) z_cd148 rfl (l := [some (.inr (.inr (some o))), some (.inl a1), some (.inl a2)]) rfl [] 16 w).trans rfl

-- ThornSchool.lesson(II)I
set_option maxRecDepth 100000 in
set_option maxHeartbeats 4000000 in
theorem B_X11_lesson (Z : mX) (o : Nat) (a1 : Int) (a2 : Int) (w : mW) : mm_run (zP Z) 149 [.inr (.inr (some o)), .inl a1, .inl a2] w =
  (mm_gR w o 11 2).bind fun r1 =>
  r1.bind fun q2 =>
  if mm_cls w q2 = 5 then
   (mm_kI (mm_run (zP Z) 51 [.inr (.inr (some q2)), .inl a1] w) fun x4 w3 =>
  if x4 = 0 then
   if mm_cls w3 o = 11 then
    (mm_kI (mm_run (zP Z) 190 [.inr (.inr (some o)), .inl 1] w3) fun x28 w27 =>
   some (some (.inl x28), w27))
   else none
  else
   if a2 = 0 then
    (mm_gR w3 o 11 2).bind fun r5 =>
    r5.bind fun q6 =>
    (mm_gR w3 q6 5 7).bind fun r7 =>
    mm_kI (mm_run (zP Z) 199 [.inr (.inr r7), .inl a1] w3) fun x9 w8 =>
    if mm_cls w8 o = 11 then
     (mm_kI (mm_run (zP Z) 191 [.inr (.inr (some o)), .inl x9] w8) fun x11 w10 =>
    some (some (.inl x11), w10))
    else none
   else if a2 = 1 then
    (mm_gR w3 o 11 2).bind fun r12 =>
    r12.bind fun q13 =>
    (mm_gR w3 q13 5 8).bind fun r14 =>
    mm_kI (mm_run (zP Z) 199 [.inr (.inr r14), .inl a1] w3) fun x16 w15 =>
    if mm_cls w15 o = 11 then
     (mm_kI (mm_run (zP Z) 191 [.inr (.inr (some o)), .inl x16] w15) fun x18 w17 =>
    some (some (.inl x18), w17))
    else none
   else if a2 = 2 then
    (mm_gR w3 o 11 2).bind fun r19 =>
    r19.bind fun q20 =>
    if mm_cls w3 q20 = 5 then
     (mm_kI (mm_run (zP Z) 66 [.inr (.inr (some q20)), .inl a1] w3) fun x22 w21 =>
    if mm_cls w21 o = 11 then
     (mm_kI (mm_run (zP Z) 191 [.inr (.inr (some o)), .inl x22] w21) fun x24 w23 =>
    some (some (.inl x24), w23))
    else none)
    else none
   else if mm_cls w3 o = 11 then
     (mm_kI (mm_run (zP Z) 190 [.inr (.inr (some o)), .inl 1] w3) fun x26 w25 =>
    some (some (.inl x26), w25))
    else none)
  else none :=
  (mm_run_eq (P := zP Z) (y := 149) z_cd149 rfl (l := [some (.inr (.inr (some o))), some (.inl a1), some (.inl a2)]) rfl [] 16 w).trans rfl

-- ThornSchool.pupil(II)I
set_option maxRecDepth 100000 in
set_option maxHeartbeats 4000000 in
theorem B_X11_pupil (Z : mX) (o : Nat) (a1 : Int) (a2 : Int) (w : mW) : mm_run (zP Z) 150 [.inr (.inr (some o)), .inl a1, .inl a2] w =
  (mm_gR w o 11 2).bind fun r1 =>
  r1.bind fun q2 =>
  if mm_cls w q2 = 5 then
   (mm_kI (mm_run (zP Z) 52 [.inr (.inr (some q2)), .inl a1] w) fun x4 w3 =>
  if x4 = 0 then
   if mm_cls w3 o = 11 then
    (mm_kI (mm_run (zP Z) 190 [.inr (.inr (some o)), .inl 1] w3) fun x56 w55 =>
   some (some (.inl x56), w55))
   else none
  else
   if a2 = 0 then
    (mm_gR w3 o 11 2).bind fun r5 =>
    r5.bind fun q6 =>
    (mm_gR w3 q6 5 11).bind fun r7 =>
    mm_kI (mm_run (zP Z) 199 [.inr (.inr r7), .inl a1] w3) fun x9 w8 =>
    if mm_cls w8 o = 11 then
     (mm_kI (mm_run (zP Z) 191 [.inr (.inr (some o)), .inl x9] w8) fun x11 w10 =>
    some (some (.inl x11), w10))
    else none
   else if a2 = 1 then
    (mm_gR w3 o 11 2).bind fun r12 =>
    r12.bind fun q13 =>
    (mm_gR w3 q13 5 12).bind fun r14 =>
    mm_kI (mm_run (zP Z) 199 [.inr (.inr r14), .inl a1] w3) fun x16 w15 =>
    if mm_cls w15 o = 11 then
     (mm_kI (mm_run (zP Z) 191 [.inr (.inr (some o)), .inl x16] w15) fun x18 w17 =>
    some (some (.inl x18), w17))
    else none
   else if a2 = 2 then
    (mm_gR w3 o 11 2).bind fun r19 =>
    r19.bind fun q20 =>
    (mm_gR w3 q20 5 13).bind fun r21 =>
    mm_kI (mm_run (zP Z) 199 [.inr (.inr r21), .inl a1] w3) fun x23 w22 =>
    if mm_cls w22 o = 11 then
     (mm_kI (mm_run (zP Z) 191 [.inr (.inr (some o)), .inl x23] w22) fun x25 w24 =>
    some (some (.inl x25), w24))
    else none
   else if a2 = 3 then
    (mm_gR w3 o 11 2).bind fun r26 =>
    r26.bind fun q27 =>
    (mm_gR w3 q27 5 14).bind fun r28 =>
    mm_kI (mm_run (zP Z) 199 [.inr (.inr r28), .inl a1] w3) fun x30 w29 =>
    if mm_cls w29 o = 11 then
     (mm_kI (mm_run (zP Z) 191 [.inr (.inr (some o)), .inl x30] w29) fun x32 w31 =>
    some (some (.inl x32), w31))
    else none
   else if a2 = 4 then
    (mm_gR w3 o 11 2).bind fun r33 =>
    r33.bind fun q34 =>
    (mm_gR w3 q34 5 15).bind fun r35 =>
    mm_kI (mm_run (zP Z) 199 [.inr (.inr r35), .inl a1] w3) fun x37 w36 =>
    if mm_cls w36 o = 11 then
     (mm_kI (mm_run (zP Z) 191 [.inr (.inr (some o)), .inl x37] w36) fun x39 w38 =>
    some (some (.inl x39), w38))
    else none
   else if a2 = 5 then
    (mm_gR w3 o 11 2).bind fun r40 =>
    r40.bind fun q41 =>
    (mm_gR w3 q41 5 16).bind fun r42 =>
    mm_kI (mm_run (zP Z) 199 [.inr (.inr r42), .inl a1] w3) fun x44 w43 =>
    if mm_cls w43 o = 11 then
     (mm_kI (mm_run (zP Z) 191 [.inr (.inr (some o)), .inl x44] w43) fun x46 w45 =>
    some (some (.inl x46), w45))
    else none
   else if a2 = 6 then
    (mm_gR w3 o 11 2).bind fun r47 =>
    r47.bind fun q48 =>
    if mm_cls w3 q48 = 5 then
     (mm_kI (mm_run (zP Z) 61 [.inr (.inr (some q48)), .inl a1] w3) fun x50 w49 =>
    if mm_cls w49 o = 11 then
     (mm_kI (mm_run (zP Z) 191 [.inr (.inr (some o)), .inl x50] w49) fun x52 w51 =>
    some (some (.inl x52), w51))
    else none)
    else none
   else if mm_cls w3 o = 11 then
     (mm_kI (mm_run (zP Z) 190 [.inr (.inr (some o)), .inl 1] w3) fun x54 w53 =>
    some (some (.inl x54), w53))
    else none)
  else none :=
  (mm_run_eq (P := zP Z) (y := 150) z_cd150 rfl (l := [some (.inr (.inr (some o))), some (.inl a1), some (.inl a2)]) rfl [] 16 w).trans rfl

-- ThornSchool.catches(II)I
set_option maxRecDepth 100000 in
set_option maxHeartbeats 4000000 in
theorem B_X11_catches (Z : mX) (o : Nat) (a1 : Int) (a2 : Int) (w : mW) : mm_run (zP Z) 151 [.inr (.inr (some o)), .inl a1, .inl a2] w =
  (mm_gR w o 11 2).bind fun r1 =>
  r1.bind fun q2 =>
  if mm_cls w q2 = 5 then
   (mm_kI (mm_run (zP Z) 52 [.inr (.inr (some q2)), .inl a1] w) fun x4 w3 =>
  if x4 = 0 then
   if mm_cls w3 o = 11 then
    (mm_kI (mm_run (zP Z) 190 [.inr (.inr (some o)), .inl 1] w3) fun x6 w5 =>
   some (some (.inl x6), w5))
   else none
  else
   (mm_gR w3 o 11 2).bind fun r7 =>
   r7.bind fun q8 =>
   if mm_cls w3 q8 = 5 then
    (mm_kI (mm_run (zP Z) 49 [.inr (.inr (some q8)), .inl a2] w3) fun x10 w9 =>
   if x10 = 0 then
    if mm_cls w9 o = 11 then
     (mm_kI (mm_run (zP Z) 190 [.inr (.inr (some o)), .inl 1] w9) fun x23 w22 =>
    some (some (.inl x23), w22))
    else none
   else
    (mm_gR w9 o 11 2).bind fun r11 =>
    (mm_gR w9 o 11 2).bind fun r12 =>
    r12.bind fun q13 =>
    (mm_gR w9 q13 5 12).bind fun r14 =>
    mm_kI (mm_run (zP Z) 199 [.inr (.inr r14), .inl a1] w9) fun x16 w15 =>
    r11.bind fun q17 =>
    if mm_cls w15 q17 = 5 then
     (mm_kI (mm_run (zP Z) 62 [.inr (.inr (some q17)), .inl a1, .inl a2, .inl x16] w15) fun x19 w18 =>
    if mm_cls w18 o = 11 then
     (mm_kI (mm_run (zP Z) 191 [.inr (.inr (some o)), .inl x19] w18) fun x21 w20 =>
    some (some (.inl x21), w20))
    else none)
    else none)
   else none)
  else none :=
  (mm_run_eq (P := zP Z) (y := 151) z_cd151 rfl (l := [some (.inr (.inr (some o))), some (.inl a1), some (.inl a2)]) rfl [] 24 w).trans rfl

-- ThornSchool.go(II)I
set_option maxRecDepth 100000 in
set_option maxHeartbeats 4000000 in
theorem B_X11_go (Z : mX) (o : Nat) (a1 : Int) (a2 : Int) (w : mW) : mm_run (zP Z) 152 [.inr (.inr (some o)), .inl a1, .inl a2] w =
  (mm_gR w o 11 2).bind fun r1 =>
  r1.bind fun q2 =>
  if mm_cls w q2 = 5 then
   (mm_kI (mm_run (zP Z) 52 [.inr (.inr (some q2)), .inl a1] w) fun x4 w3 =>
  if x4 = 0 then
   if mm_cls w3 o = 11 then
    (mm_kI (mm_run (zP Z) 190 [.inr (.inr (some o)), .inl 1] w3) fun x6 w5 =>
   some (some (.inl x6), w5))
   else none
  else
   mm_kI (mm_run (zP Z) 208 [.inl a2, .inl 0, .inl 3] w3) fun x8 w7 =>
   if x8 = 0 then
    if mm_cls w7 o = 11 then
     (mm_kI (mm_run (zP Z) 190 [.inr (.inr (some o)), .inl 1] w7) fun x22 w21 =>
    some (some (.inl x22), w21))
    else none
   else
    (mm_gR w7 o 11 2).bind fun r9 =>
    r9.bind fun q10 =>
    if mm_cls w7 q10 = 5 then
     (mm_kI (mm_run (zP Z) 67 [.inr (.inr (some q10)), .inl a1, .inl a2] w7) fun x12 w11 =>
    if x12 = 0 then
     if mm_cls w11 o = 11 then
      (mm_kI (mm_run (zP Z) 190 [.inr (.inr (some o)), .inl 7] w11) fun x20 w19 =>
     some (some (.inl x20), w19))
     else none
    else
     (mm_gR w11 o 11 2).bind fun r13 =>
     r13.bind fun q14 =>
     if mm_cls w11 q14 = 5 then
      (mm_kI (mm_run (zP Z) 68 [.inr (.inr (some q14)), .inl a1, .inl a2] w11) fun x16 w15 =>
     if mm_cls w15 o = 11 then
      (mm_kI (mm_run (zP Z) 191 [.inr (.inr (some o)), .inl x16] w15) fun x18 w17 =>
     some (some (.inl x18), w17))
     else none)
     else none)
    else none)
  else none :=
  (mm_run_eq (P := zP Z) (y := 152) z_cd152 rfl (l := [some (.inr (.inr (some o))), some (.inl a1), some (.inl a2)]) rfl [] 25 w).trans rfl

-- ThornSchool.free(II)I
set_option maxRecDepth 100000 in
set_option maxHeartbeats 4000000 in
theorem B_X11_free (Z : mX) (o : Nat) (a1 : Int) (a2 : Int) (w : mW) : mm_run (zP Z) 153 [.inr (.inr (some o)), .inl a1, .inl a2] w =
  if mm_cls w o = 11 then
   (mm_kI (mm_run (zP Z) 198 [.inr (.inr (some o)), .inl a1, .inl a2] w) fun x2 w1 =>
  if x2 = 0 then
   if mm_cls w1 o = 11 then
    (mm_kI (mm_run (zP Z) 190 [.inr (.inr (some o)), .inl 1] w1) fun x21 w20 =>
   some (some (.inl x21), w20))
   else none
  else
   (mm_gR w1 o 11 2).bind fun r3 =>
   r3.bind fun q4 =>
   if mm_cls w1 q4 = 5 then
    (mm_kI (mm_run (zP Z) 69 [.inr (.inr (some q4)), .inl a1, .inl a2] w1) fun x6 w5 =>
   if x6 = 0 then
    if mm_cls w5 o = 11 then
     (mm_kI (mm_run (zP Z) 190 [.inr (.inr (some o)), .inl 7] w5) fun x19 w18 =>
    some (some (.inl x19), w18))
    else none
   else
    (mm_gR w5 o 11 2).bind fun r7 =>
    r7.bind fun q8 =>
    if mm_cls w5 q8 = 5 then
     (mm_kI (mm_run (zP Z) 70 [.inr (.inr (some q8)), .inl a2] w5) fun x10 w9 =>
    (mm_gR w9 o 11 2).bind fun r11 =>
    r11.bind fun q12 =>
    (mm_gR w9 q12 5 14).bind fun r13 =>
    mm_kI (mm_run (zP Z) 199 [.inr (.inr r13), .inl a2] w9) fun x15 w14 =>
    if mm_cls w14 o = 11 then
     (mm_kI (mm_run (zP Z) 191 [.inr (.inr (some o)), .inl x15] w14) fun x17 w16 =>
    some (some (.inl x17), w16))
    else none)
    else none)
   else none)
  else none :=
  (mm_run_eq (P := zP Z) (y := 153) z_cd153 rfl (l := [some (.inr (.inr (some o))), some (.inl a1), some (.inl a2)]) rfl [] 25 w).trans rfl

-- ThornSchool.tear(I)I
set_option maxRecDepth 100000 in
set_option maxHeartbeats 4000000 in
theorem B_X11_tear (Z : mX) (o : Nat) (a1 : Int) (w : mW) : mm_run (zP Z) 154 [.inr (.inr (some o)), .inl a1] w =
  (mm_gR w o 11 2).bind fun r1 =>
  r1.bind fun q2 =>
  if mm_cls w q2 = 5 then
   (mm_kI (mm_run (zP Z) 52 [.inr (.inr (some q2)), .inl a1] w) fun x4 w3 =>
  if x4 = 0 then
   if mm_cls w3 o = 11 then
    (mm_kI (mm_run (zP Z) 190 [.inr (.inr (some o)), .inl 1] w3) fun x18 w17 =>
   some (some (.inl x18), w17))
   else none
  else
   (mm_gR w3 o 11 2).bind fun r5 =>
   r5.bind fun q6 =>
   if mm_cls w3 q6 = 5 then
    (mm_kI (mm_run (zP Z) 64 [.inr (.inr (some q6)), .inl a1] w3) fun x8 w7 =>
   if x8 = 0 then
    if mm_cls w7 o = 11 then
     (mm_kI (mm_run (zP Z) 190 [.inr (.inr (some o)), .inl 7] w7) fun x16 w15 =>
    some (some (.inl x16), w15))
    else none
   else
    (mm_gR w7 o 11 2).bind fun r9 =>
    r9.bind fun q10 =>
    if mm_cls w7 q10 = 5 then
     (mm_kI (mm_run (zP Z) 72 [.inr (.inr (some q10)), .inl a1] w7) fun x12 w11 =>
    if mm_cls w11 o = 11 then
     (mm_kI (mm_run (zP Z) 191 [.inr (.inr (some o)), .inl x12] w11) fun x14 w13 =>
    some (some (.inl x14), w13))
    else none)
    else none)
   else none)
  else none :=
  (mm_run_eq (P := zP Z) (y := 154) z_cd154 rfl (l := [some (.inr (.inr (some o))), some (.inl a1)]) rfl [] 18 w).trans rfl

-- ThornSchool.pick(I)I
set_option maxRecDepth 100000 in
set_option maxHeartbeats 4000000 in
theorem B_X11_pick (Z : mX) (o : Nat) (a1 : Int) (w : mW) : mm_run (zP Z) 155 [.inr (.inr (some o)), .inl a1] w =
  (mm_gR w o 11 2).bind fun r1 =>
  r1.bind fun q2 =>
  if mm_cls w q2 = 5 then
   (mm_kI (mm_run (zP Z) 52 [.inr (.inr (some q2)), .inl a1] w) fun x4 w3 =>
  if x4 = 0 then
   if mm_cls w3 o = 11 then
    (mm_kI (mm_run (zP Z) 190 [.inr (.inr (some o)), .inl 1] w3) fun x18 w17 =>
   some (some (.inl x18), w17))
   else none
  else
   (mm_gR w3 o 11 2).bind fun r5 =>
   r5.bind fun q6 =>
   if mm_cls w3 q6 = 5 then
    (mm_kI (mm_run (zP Z) 73 [.inr (.inr (some q6)), .inl a1] w3) fun x8 w7 =>
   if x8 = 0 then
    if mm_cls w7 o = 11 then
     (mm_kI (mm_run (zP Z) 190 [.inr (.inr (some o)), .inl 7] w7) fun x16 w15 =>
    some (some (.inl x16), w15))
    else none
   else
    (mm_gR w7 o 11 2).bind fun r9 =>
    r9.bind fun q10 =>
    if mm_cls w7 q10 = 5 then
     (mm_kI (mm_run (zP Z) 74 [.inr (.inr (some q10)), .inl a1] w7) fun x12 w11 =>
    if mm_cls w11 o = 11 then
     (mm_kI (mm_run (zP Z) 191 [.inr (.inr (some o)), .inl x12] w11) fun x14 w13 =>
    some (some (.inl x14), w13))
    else none)
    else none)
   else none)
  else none :=
  (mm_run_eq (P := zP Z) (y := 155) z_cd155 rfl (l := [some (.inr (.inr (some o))), some (.inl a1)]) rfl [] 18 w).trans rfl

-- ThornSchool.year(I)I
set_option maxRecDepth 100000 in
set_option maxHeartbeats 4000000 in
theorem B_X11_year (Z : mX) (o : Nat) (a1 : Int) (w : mW) : mm_run (zP Z) 156 [.inr (.inr (some o)), .inl a1] w =
  mm_kI (mm_run (zP Z) 208 [.inl a1, .inl 1, .inl 99] w) fun x2 w1 =>
  if x2 = 0 then
   if mm_cls w1 o = 11 then
    (mm_kI (mm_run (zP Z) 190 [.inr (.inr (some o)), .inl 1] w1) fun x20 w19 =>
   some (some (.inl x20), w19))
   else none
  else
   (mm_gR w1 o 11 2).bind fun r3 =>
   r3.bind fun q4 =>
   if mm_cls w1 q4 = 5 then
    (mm_kI (mm_run (zP Z) 75 [.inr (.inr (some q4)), .inl a1] w1) fun x6 w5 =>
   if x6 = 0 then
    if mm_cls w5 o = 11 then
     (mm_kI (mm_run (zP Z) 190 [.inr (.inr (some o)), .inl 4] w5) fun x18 w17 =>
    some (some (.inl x18), w17))
    else none
   else
    (mm_gR w5 o 11 2).bind fun r7 =>
    r7.bind fun q8 =>
    if mm_cls w5 q8 = 5 then
     (mm_kV (mm_run (zP Z) 76 [.inr (.inr (some q8)), .inl a1] w5) fun w9 =>
    (mm_gR w9 o 11 2).bind fun r10 =>
    r10.bind fun q11 =>
    (mm_gR w9 q11 5 4).bind fun r12 =>
    mm_kI (mm_run (zP Z) 205 [.inr (.inr r12)] w9) fun x14 w13 =>
    if mm_cls w13 o = 11 then
     (mm_kI (mm_run (zP Z) 191 [.inr (.inr (some o)), .inl x14] w13) fun x16 w15 =>
    some (some (.inl x16), w15))
    else none)
    else none)
   else none :=
  (mm_run_eq (P := zP Z) (y := 156) z_cd156 rfl (l := [some (.inr (.inr (some o))), some (.inl a1)]) rfl [] 22 w).trans rfl

-- ThornSchool.plant(III)I
set_option maxRecDepth 100000 in
set_option maxHeartbeats 4000000 in
theorem B_X11_plant (Z : mX) (o : Nat) (a1 : Int) (a2 : Int) (a3 : Int) (w : mW) : mm_run (zP Z) 157 [.inr (.inr (some o)), .inl a1, .inl a2, .inl a3] w =
  (mm_gR w o 11 2).bind fun r1 =>
  r1.bind fun q2 =>
  if mm_cls w q2 = 5 then
   (mm_kI (mm_run (zP Z) 49 [.inr (.inr (some q2)), .inl a1] w) fun x4 w3 =>
  if x4 = 0 then
   if mm_cls w3 o = 11 then
    (mm_kI (mm_run (zP Z) 190 [.inr (.inr (some o)), .inl 1] w3) fun x6 w5 =>
   some (some (.inl x6), w5))
   else none
  else
   mm_kI (mm_run (zP Z) 208 [.inl a2, .inl 0, .inl 1] w3) fun x8 w7 =>
   if x8 = 0 then
    if mm_cls w7 o = 11 then
     (mm_kI (mm_run (zP Z) 190 [.inr (.inr (some o)), .inl 1] w7) fun x10 w9 =>
    some (some (.inl x10), w9))
    else none
   else
    mm_kI (mm_run (zP Z) 208 [.inl a3, .inl 0, .inl 9] w7) fun x12 w11 =>
    if x12 = 0 then
     if mm_cls w11 o = 11 then
      (mm_kI (mm_run (zP Z) 190 [.inr (.inr (some o)), .inl 1] w11) fun x28 w27 =>
     some (some (.inl x28), w27))
     else none
    else
     if a2 = 0 then
      (mm_gR w11 o 11 2).bind fun r20 =>
      r20.bind fun q21 =>
      (mm_gR w11 q21 5 4).bind fun r22 =>
      mm_kI (mm_run (zP Z) 201 [.inr (.inr r22), .inl a1, .inl a3] w11) fun x24 w23 =>
      if mm_cls w23 o = 11 then
       (mm_kI (mm_run (zP Z) 191 [.inr (.inr (some o)), .inl x24] w23) fun x26 w25 =>
      some (some (.inl x26), w25))
      else none
     else
      (mm_gR w11 o 11 2).bind fun r13 =>
      r13.bind fun q14 =>
      (mm_gR w11 q14 5 5).bind fun r15 =>
      mm_kI (mm_run (zP Z) 201 [.inr (.inr r15), .inl a1, .inl a3] w11) fun x17 w16 =>
      if mm_cls w16 o = 11 then
       (mm_kI (mm_run (zP Z) 191 [.inr (.inr (some o)), .inl x17] w16) fun x19 w18 =>
      some (some (.inl x19), w18))
      else none)
  else none :=
  (mm_run_eq (P := zP Z) (y := 157) z_cd157 rfl (l := [some (.inr (.inr (some o))), some (.inl a1), some (.inl a2), some (.inl a3)]) rfl [] 28 w).trans rfl

-- ThornSchool.wish(II)I
set_option maxRecDepth 100000 in
set_option maxHeartbeats 4000000 in
theorem B_X11_wish (Z : mX) (o : Nat) (a1 : Int) (a2 : Int) (w : mW) : mm_run (zP Z) 158 [.inr (.inr (some o)), .inl a1, .inl a2] w =
  (mm_gR w o 11 2).bind fun r1 =>
  r1.bind fun q2 =>
  if mm_cls w q2 = 5 then
   (mm_kI (mm_run (zP Z) 52 [.inr (.inr (some q2)), .inl a1] w) fun x4 w3 =>
  if x4 = 0 then
   if mm_cls w3 o = 11 then
    (mm_kI (mm_run (zP Z) 190 [.inr (.inr (some o)), .inl 1] w3) fun x6 w5 =>
   some (some (.inl x6), w5))
   else none
  else
   mm_kI (mm_run (zP Z) 208 [.inl a2, .inl 0, .inl 9] w3) fun x8 w7 =>
   if x8 = 0 then
    if mm_cls w7 o = 11 then
     (mm_kI (mm_run (zP Z) 190 [.inr (.inr (some o)), .inl 1] w7) fun x17 w16 =>
    some (some (.inl x17), w16))
    else none
   else
    (mm_gR w7 o 11 2).bind fun r9 =>
    r9.bind fun q10 =>
    (mm_gR w7 q10 5 12).bind fun r11 =>
    mm_kI (mm_run (zP Z) 201 [.inr (.inr r11), .inl a1, .inl a2] w7) fun x13 w12 =>
    if mm_cls w12 o = 11 then
     (mm_kI (mm_run (zP Z) 191 [.inr (.inr (some o)), .inl x13] w12) fun x15 w14 =>
    some (some (.inl x15), w14))
    else none)
  else none :=
  (mm_run_eq (P := zP Z) (y := 158) z_cd158 rfl (l := [some (.inr (.inr (some o))), some (.inl a1), some (.inl a2)]) rfl [] 20 w).trans rfl

-- ThornSchool.teach(IIZ)Z
set_option maxRecDepth 100000 in
set_option maxHeartbeats 4000000 in
theorem B_X11_teach (Z : mX) (o : Nat) (a1 : Int) (a2 : Int) (a3 : Int) (w : mW) : mm_run (zP Z) 159 [.inr (.inr (some o)), .inl a1, .inl a2, .inl a3] w =
  (mm_gR w o 11 2).bind fun r1 =>
  r1.bind fun q2 =>
  if mm_cls w q2 = 5 then
   (mm_kI (mm_run (zP Z) 52 [.inr (.inr (some q2)), .inl a1] w) fun x4 w3 =>
  if x4 = 0 then
   if mm_cls w3 o = 11 then
    (mm_kI (mm_run (zP Z) 192 [.inr (.inr (some o)), .inl 1] w3) fun x6 w5 =>
   if x6 = 0 ∨ x6 = 1 then some (some (.inl x6), w5) else none)
   else none
  else
   (mm_gR w3 o 11 2).bind fun r7 =>
   r7.bind fun q8 =>
   if mm_cls w3 q8 = 5 then
    (mm_kI (mm_run (zP Z) 51 [.inr (.inr (some q8)), .inl a2] w3) fun x10 w9 =>
   if x10 = 0 then
    if mm_cls w9 o = 11 then
     (mm_kI (mm_run (zP Z) 192 [.inr (.inr (some o)), .inl 1] w9) fun x29 w28 =>
    if x29 = 0 ∨ x29 = 1 then some (some (.inl x29), w28) else none)
    else none
   else
    (mm_gR w9 o 11 2).bind fun r11 =>
    r11.bind fun q12 =>
    (mm_gR w9 q12 5 13).bind fun r13 =>
    mm_kI (mm_run (zP Z) 199 [.inr (.inr r13), .inl a1] w9) fun x15 w14 =>
    mm_kI (mm_run (zP Z) 207 [.inl x15, .inl a2] w14) fun x17 w16 =>
    if x17 = a3 then
     if mm_cls w16 o = 11 then
      (mm_kI (mm_run (zP Z) 192 [.inr (.inr (some o)), .inl 7] w16) fun x27 w26 =>
     if x27 = 0 ∨ x27 = 1 then some (some (.inl x27), w26) else none)
     else none
    else
     (mm_gR w16 o 11 2).bind fun r18 =>
     r18.bind fun q19 =>
     (mm_gR w16 q19 5 13).bind fun r20 =>
     mm_kI (mm_run (zP Z) 206 [.inl a2] w16) fun x22 w21 =>
     mm_kV (mm_run (zP Z) 200 [.inr (.inr r20), .inl a1, .inl (mm_ixor x15 x22)] w21) fun w23 =>
     if mm_cls w23 o = 11 then
      (mm_kI (mm_run (zP Z) 193 [.inr (.inr (some o))] w23) fun x25 w24 =>
     if x25 = 0 ∨ x25 = 1 then some (some (.inl x25), w24) else none)
     else none)
   else none)
  else none :=
  (mm_run_eq (P := zP Z) (y := 159) z_cd159 rfl (l := [some (.inr (.inr (some o))), some (.inl a1), some (.inl a2), some (.inl a3), none]) rfl [] 34 w).trans rfl

-- ThornSchool.come(I)I
set_option maxRecDepth 100000 in
set_option maxHeartbeats 4000000 in
theorem B_X11_come (Z : mX) (o : Nat) (a1 : Int) (w : mW) : mm_run (zP Z) 160 [.inr (.inr (some o)), .inl a1] w =
  (mm_gR w o 11 2).bind fun r1 =>
  r1.bind fun q2 =>
  if mm_cls w q2 = 5 then
   (mm_kI (mm_run (zP Z) 49 [.inr (.inr (some q2)), .inl a1] w) fun x4 w3 =>
  if x4 = 0 then
   if mm_cls w3 o = 11 then
    (mm_kI (mm_run (zP Z) 190 [.inr (.inr (some o)), .inl 1] w3) fun x19 w18 =>
   some (some (.inl x19), w18))
   else none
  else
   (mm_gR w3 o 11 2).bind fun r5 =>
   r5.bind fun q6 =>
   (mm_gI w3 q6 5 10).bind fun x7 =>
   if x7 < 5 then
    (mm_gR w3 o 11 2).bind fun r8 =>
    r8.bind fun q9 =>
    if mm_cls w3 q9 = 5 then
     (mm_kV (mm_run (zP Z) 56 [.inr (.inr (some q9)), .inl a1, .inl 0, .inl 0, .inr (.inl 0)] w3) fun w10 =>
    (mm_gR w10 o 11 2).bind fun r11 =>
    r11.bind fun q12 =>
    (mm_gI w10 q12 5 10).bind fun x13 =>
    if mm_cls w10 o = 11 then
     (mm_kI (mm_run (zP Z) 191 [.inr (.inr (some o)), .inl (mm_w32 (x13 - 1))] w10) fun x15 w14 =>
    some (some (.inl x15), w14))
    else none)
    else none
   else
    if mm_cls w3 o = 11 then
     (mm_kI (mm_run (zP Z) 190 [.inr (.inr (some o)), .inl 4] w3) fun x17 w16 =>
    some (some (.inl x17), w16))
    else none)
  else none :=
  (mm_run_eq (P := zP Z) (y := 160) z_cd160 rfl (l := [some (.inr (.inr (some o))), some (.inl a1)]) rfl [] 26 w).trans rfl

-- ThornSchool.rule(I)Z
set_option maxRecDepth 100000 in
set_option maxHeartbeats 4000000 in
theorem B_X11_rule (Z : mX) (o : Nat) (a1 : Int) (w : mW) : mm_run (zP Z) 161 [.inr (.inr (some o)), .inl a1] w =
  mm_kI (mm_run (zP Z) 208 [.inl a1, .inl 0, .inl 16] w) fun x2 w1 =>
  if x2 = 0 then
   if mm_cls w1 o = 11 then
    (mm_kI (mm_run (zP Z) 192 [.inr (.inr (some o)), .inl 1] w1) fun x9 w8 =>
   if x9 = 0 ∨ x9 = 1 then some (some (.inl x9), w8) else none)
   else none
  else
   (mm_gR w1 o 11 2).bind fun r3 =>
   r3.bind fun q4 =>
   (mm_p w1 q4 5 2 (.inl a1)).bind fun w5 =>
   if mm_cls w5 o = 11 then
    (mm_kI (mm_run (zP Z) 193 [.inr (.inr (some o))] w5) fun x7 w6 =>
   if x7 = 0 ∨ x7 = 1 then some (some (.inl x7), w6) else none)
   else none :=
  (mm_run_eq (P := zP Z) (y := 161) z_cd161 rfl (l := [some (.inr (.inr (some o))), some (.inl a1)]) rfl [] 13 w).trans rfl

-- ThornSchool.reach(I)I
set_option maxRecDepth 100000 in
set_option maxHeartbeats 4000000 in
theorem B_X11_reach (Z : mX) (o : Nat) (a1 : Int) (w : mW) : mm_run (zP Z) 162 [.inr (.inr (some o)), .inl a1] w =
  (mm_gR w o 11 2).bind fun r1 =>
  r1.bind fun q2 =>
  if mm_cls w q2 = 5 then
   (mm_kI (mm_run (zP Z) 52 [.inr (.inr (some q2)), .inl a1] w) fun x4 w3 =>
  if x4 = 0 then
   if mm_cls w3 o = 11 then
    (mm_kI (mm_run (zP Z) 190 [.inr (.inr (some o)), .inl 1] w3) fun x12 w11 =>
   some (some (.inl x12), w11))
   else none
  else
   (mm_gR w3 o 11 10).bind fun r5 =>
   r5.bind fun q6 =>
   if mm_cls w3 q6 = 9 then
    (mm_kI (mm_run (zP Z) 120 [.inr (.inr (some q6)), .inl a1] w3) fun x8 w7 =>
   if mm_cls w7 o = 11 then
    (mm_kI (mm_run (zP Z) 191 [.inr (.inr (some o)), .inl x8] w7) fun x10 w9 =>
   some (some (.inl x10), w9))
   else none)
   else none)
  else none :=
  (mm_run_eq (P := zP Z) (y := 162) z_cd162 rfl (l := [some (.inr (.inr (some o))), some (.inl a1)]) rfl [] 13 w).trans rfl

-- ThornSchool.far(II)I
set_option maxRecDepth 100000 in
set_option maxHeartbeats 4000000 in
theorem B_X11_far (Z : mX) (o : Nat) (a1 : Int) (a2 : Int) (w : mW) : mm_run (zP Z) 163 [.inr (.inr (some o)), .inl a1, .inl a2] w =
  (mm_gR w o 11 2).bind fun r1 =>
  r1.bind fun q2 =>
  if mm_cls w q2 = 5 then
   (mm_kI (mm_run (zP Z) 52 [.inr (.inr (some q2)), .inl a1] w) fun x4 w3 =>
  if x4 = 0 then
   if mm_cls w3 o = 11 then
    (mm_kI (mm_run (zP Z) 190 [.inr (.inr (some o)), .inl 1] w3) fun x6 w5 =>
   some (some (.inl x6), w5))
   else none
  else
   (mm_gR w3 o 11 2).bind fun r7 =>
   r7.bind fun q8 =>
   if mm_cls w3 q8 = 5 then
    (mm_kI (mm_run (zP Z) 49 [.inr (.inr (some q8)), .inl a2] w3) fun x10 w9 =>
   if x10 = 0 then
    if mm_cls w9 o = 11 then
     (mm_kI (mm_run (zP Z) 190 [.inr (.inr (some o)), .inl 1] w9) fun x20 w19 =>
    some (some (.inl x20), w19))
    else none
   else
    (mm_gR w9 o 11 10).bind fun r11 =>
    r11.bind fun q12 =>
    if mm_cls w9 q12 = 9 then
     (mm_kI (mm_run (zP Z) 121 [.inr (.inr (some q12)), .inl a1, .inl a2] w9) fun x14 w13 =>
    if x14 = (-1) then
     if mm_cls w13 o = 11 then
      (mm_kI (mm_run (zP Z) 190 [.inr (.inr (some o)), .inl 6] w13) fun x18 w17 =>
     some (some (.inl x18), w17))
     else none
    else
     if mm_cls w13 o = 11 then
      (mm_kI (mm_run (zP Z) 191 [.inr (.inr (some o)), .inl x14] w13) fun x16 w15 =>
     some (some (.inl x16), w15))
     else none)
    else none)
   else none)
  else none :=
  (mm_run_eq (P := zP Z) (y := 163) z_cd163 rfl (l := [some (.inr (.inr (some o))), some (.inl a1), some (.inl a2), none]) rfl [] 25 w).trans rfl

-- ThornSchool.way(III)I
set_option maxRecDepth 100000 in
set_option maxHeartbeats 4000000 in
theorem B_X11_way (Z : mX) (o : Nat) (a1 : Int) (a2 : Int) (a3 : Int) (w : mW) : mm_run (zP Z) 164 [.inr (.inr (some o)), .inl a1, .inl a2, .inl a3] w =
  (mm_gR w o 11 2).bind fun r1 =>
  r1.bind fun q2 =>
  if mm_cls w q2 = 5 then
   (mm_kI (mm_run (zP Z) 52 [.inr (.inr (some q2)), .inl a1] w) fun x4 w3 =>
  if x4 = 0 then
   if mm_cls w3 o = 11 then
    (mm_kI (mm_run (zP Z) 190 [.inr (.inr (some o)), .inl 1] w3) fun x6 w5 =>
   some (some (.inl x6), w5))
   else none
  else
   (mm_gR w3 o 11 2).bind fun r7 =>
   r7.bind fun q8 =>
   if mm_cls w3 q8 = 5 then
    (mm_kI (mm_run (zP Z) 49 [.inr (.inr (some q8)), .inl a2] w3) fun x10 w9 =>
   if x10 = 0 then
    if mm_cls w9 o = 11 then
     (mm_kI (mm_run (zP Z) 190 [.inr (.inr (some o)), .inl 1] w9) fun x12 w11 =>
    some (some (.inl x12), w11))
    else none
   else
    if a3 < 0 then
     if mm_cls w9 o = 11 then
      (mm_kI (mm_run (zP Z) 190 [.inr (.inr (some o)), .inl 1] w9) fun x28 w27 =>
     some (some (.inl x28), w27))
     else none
    else
     (mm_gR w9 o 11 10).bind fun r13 =>
     r13.bind fun q14 =>
     if mm_cls w9 q14 = 9 then
      (mm_kI (mm_run (zP Z) 121 [.inr (.inr (some q14)), .inl a1, .inl a2] w9) fun x16 w15 =>
     if x16 = (-1) then
      if mm_cls w15 o = 11 then
       (mm_kI (mm_run (zP Z) 190 [.inr (.inr (some o)), .inl 6] w15) fun x18 w17 =>
      some (some (.inl x18), w17))
      else none
     else
      if x16 < a3 then
       if mm_cls w15 o = 11 then
        (mm_kI (mm_run (zP Z) 190 [.inr (.inr (some o)), .inl 6] w15) fun x26 w25 =>
       some (some (.inl x26), w25))
       else none
      else
       (mm_gR w15 o 11 10).bind fun r19 =>
       r19.bind fun q20 =>
       if mm_cls w15 q20 = 9 then
        (mm_kI (mm_run (zP Z) 122 [.inr (.inr (some q20)), .inl a1, .inl a2, .inl x16, .inl a3] w15) fun x22 w21 =>
       if mm_cls w21 o = 11 then
        (mm_kI (mm_run (zP Z) 191 [.inr (.inr (some o)), .inl x22] w21) fun x24 w23 =>
       some (some (.inl x24), w23))
       else none)
       else none)
     else none)
   else none)
  else none :=
  (mm_run_eq (P := zP Z) (y := 164) z_cd164 rfl (l := [some (.inr (.inr (some o))), some (.inl a1), some (.inl a2), some (.inl a3), none]) rfl [] 35 w).trans rfl

-- ThornSchool.calm(II)I
set_option maxRecDepth 100000 in
set_option maxHeartbeats 4000000 in
theorem B_X11_calm (Z : mX) (o : Nat) (a1 : Int) (a2 : Int) (w : mW) : mm_run (zP Z) 165 [.inr (.inr (some o)), .inl a1, .inl a2] w =
  (mm_gR w o 11 2).bind fun r1 =>
  r1.bind fun q2 =>
  if mm_cls w q2 = 5 then
   (mm_kI (mm_run (zP Z) 52 [.inr (.inr (some q2)), .inl a1] w) fun x4 w3 =>
  if x4 = 0 then
   if mm_cls w3 o = 11 then
    (mm_kI (mm_run (zP Z) 190 [.inr (.inr (some o)), .inl 1] w3) fun x6 w5 =>
   some (some (.inl x6), w5))
   else none
  else
   (mm_gR w3 o 11 2).bind fun r7 =>
   r7.bind fun q8 =>
   if mm_cls w3 q8 = 5 then
    (mm_kI (mm_run (zP Z) 49 [.inr (.inr (some q8)), .inl a2] w3) fun x10 w9 =>
   if x10 = 0 then
    if mm_cls w9 o = 11 then
     (mm_kI (mm_run (zP Z) 190 [.inr (.inr (some o)), .inl 1] w9) fun x20 w19 =>
    some (some (.inl x20), w19))
    else none
   else
    (mm_gR w9 o 11 10).bind fun r11 =>
    r11.bind fun q12 =>
    if mm_cls w9 q12 = 9 then
     (mm_kI (mm_run (zP Z) 124 [.inr (.inr (some q12)), .inl a1, .inl a2] w9) fun x14 w13 =>
    if x14 = (-1) then
     if mm_cls w13 o = 11 then
      (mm_kI (mm_run (zP Z) 190 [.inr (.inr (some o)), .inl 6] w13) fun x18 w17 =>
     some (some (.inl x18), w17))
     else none
    else
     if mm_cls w13 o = 11 then
      (mm_kI (mm_run (zP Z) 191 [.inr (.inr (some o)), .inl x14] w13) fun x16 w15 =>
     some (some (.inl x16), w15))
     else none)
    else none)
   else none)
  else none :=
  (mm_run_eq (P := zP Z) (y := 165) z_cd165 rfl (l := [some (.inr (.inr (some o))), some (.inl a1), some (.inl a2), none]) rfl [] 25 w).trans rfl

-- ThornSchool.pricks(II)I
set_option maxRecDepth 100000 in
set_option maxHeartbeats 4000000 in
theorem B_X11_pricks (Z : mX) (o : Nat) (a1 : Int) (a2 : Int) (w : mW) : mm_run (zP Z) 166 [.inr (.inr (some o)), .inl a1, .inl a2] w =
  (mm_gR w o 11 2).bind fun r1 =>
  r1.bind fun q2 =>
  if mm_cls w q2 = 5 then
   (mm_kI (mm_run (zP Z) 52 [.inr (.inr (some q2)), .inl a1] w) fun x4 w3 =>
  if x4 = 0 then
   if mm_cls w3 o = 11 then
    (mm_kI (mm_run (zP Z) 190 [.inr (.inr (some o)), .inl 1] w3) fun x6 w5 =>
   some (some (.inl x6), w5))
   else none
  else
   (mm_gR w3 o 11 2).bind fun r7 =>
   r7.bind fun q8 =>
   if mm_cls w3 q8 = 5 then
    (mm_kI (mm_run (zP Z) 49 [.inr (.inr (some q8)), .inl a2] w3) fun x10 w9 =>
   if x10 = 0 then
    if mm_cls w9 o = 11 then
     (mm_kI (mm_run (zP Z) 190 [.inr (.inr (some o)), .inl 1] w9) fun x18 w17 =>
    some (some (.inl x18), w17))
    else none
   else
    (mm_gR w9 o 11 10).bind fun r11 =>
    r11.bind fun q12 =>
    if mm_cls w9 q12 = 9 then
     (mm_kI (mm_run (zP Z) 125 [.inr (.inr (some q12)), .inl a1, .inl a2] w9) fun x14 w13 =>
    if mm_cls w13 o = 11 then
     (mm_kI (mm_run (zP Z) 191 [.inr (.inr (some o)), .inl x14] w13) fun x16 w15 =>
    some (some (.inl x16), w15))
    else none)
    else none)
   else none)
  else none :=
  (mm_run_eq (P := zP Z) (y := 166) z_cd166 rfl (l := [some (.inr (.inr (some o))), some (.inl a1), some (.inl a2)]) rfl [] 19 w).trans rfl

-- ThornSchool.opening(II)I
set_option maxRecDepth 100000 in
set_option maxHeartbeats 4000000 in
theorem B_X11_opening (Z : mX) (o : Nat) (a1 : Int) (a2 : Int) (w : mW) : mm_run (zP Z) 167 [.inr (.inr (some o)), .inl a1, .inl a2] w =
  (mm_gR w o 11 2).bind fun r1 =>
  r1.bind fun q2 =>
  if mm_cls w q2 = 5 then
   (mm_kI (mm_run (zP Z) 52 [.inr (.inr (some q2)), .inl a1] w) fun x4 w3 =>
  if x4 = 0 then
   if mm_cls w3 o = 11 then
    (mm_kI (mm_run (zP Z) 190 [.inr (.inr (some o)), .inl 1] w3) fun x6 w5 =>
   some (some (.inl x6), w5))
   else none
  else
   (mm_gR w3 o 11 2).bind fun r7 =>
   r7.bind fun q8 =>
   if mm_cls w3 q8 = 5 then
    (mm_kI (mm_run (zP Z) 49 [.inr (.inr (some q8)), .inl a2] w3) fun x10 w9 =>
   if x10 = 0 then
    if mm_cls w9 o = 11 then
     (mm_kI (mm_run (zP Z) 190 [.inr (.inr (some o)), .inl 1] w9) fun x18 w17 =>
    some (some (.inl x18), w17))
    else none
   else
    (mm_gR w9 o 11 10).bind fun r11 =>
    r11.bind fun q12 =>
    if mm_cls w9 q12 = 9 then
     (mm_kI (mm_run (zP Z) 127 [.inr (.inr (some q12)), .inl a1, .inl a2] w9) fun x14 w13 =>
    if mm_cls w13 o = 11 then
     (mm_kI (mm_run (zP Z) 191 [.inr (.inr (some o)), .inl x14] w13) fun x16 w15 =>
    some (some (.inl x16), w15))
    else none)
    else none)
   else none)
  else none :=
  (mm_run_eq (P := zP Z) (y := 167) z_cd167 rfl (l := [some (.inr (.inr (some o))), some (.inl a1), some (.inl a2)]) rfl [] 19 w).trans rfl

-- ThornSchool.freed()I
set_option maxRecDepth 100000 in
set_option maxHeartbeats 4000000 in
theorem B_X11_freed (Z : mX) (o : Nat) (w : mW) : mm_run (zP Z) 168 [.inr (.inr (some o))] w =
  (mm_gR w o 11 2).bind fun r1 =>
  r1.bind fun q2 =>
  if mm_cls w q2 = 5 then
   (mm_kI (mm_run (zP Z) 78 [.inr (.inr (some q2))] w) fun x4 w3 =>
  if mm_cls w3 o = 11 then
   (mm_kI (mm_run (zP Z) 191 [.inr (.inr (some o)), .inl x4] w3) fun x6 w5 =>
  some (some (.inl x6), w5))
  else none)
  else none :=
  (mm_run_eq (P := zP Z) (y := 168) z_cd168 rfl (l := [some (.inr (.inr (some o)))]) rfl [] 7 w).trans rfl

-- ThornSchool.helpers(I)I
set_option maxRecDepth 100000 in
set_option maxHeartbeats 4000000 in
theorem B_X11_helpers (Z : mX) (o : Nat) (a1 : Int) (w : mW) : mm_run (zP Z) 169 [.inr (.inr (some o)), .inl a1] w =
  (mm_gR w o 11 2).bind fun r1 =>
  r1.bind fun q2 =>
  if mm_cls w q2 = 5 then
   (mm_kI (mm_run (zP Z) 52 [.inr (.inr (some q2)), .inl a1] w) fun x4 w3 =>
  if x4 = 0 then
   if mm_cls w3 o = 11 then
    (mm_kI (mm_run (zP Z) 190 [.inr (.inr (some o)), .inl 1] w3) fun x18 w17 =>
   some (some (.inl x18), w17))
   else none
  else
   (mm_gR w3 o 11 2).bind fun r5 =>
   r5.bind fun q6 =>
   if mm_cls w3 q6 = 5 then
    (mm_kI (mm_run (zP Z) 64 [.inr (.inr (some q6)), .inl a1] w3) fun x8 w7 =>
   if x8 = 0 then
    if mm_cls w7 o = 11 then
     (mm_kI (mm_run (zP Z) 190 [.inr (.inr (some o)), .inl 6] w7) fun x16 w15 =>
    some (some (.inl x16), w15))
    else none
   else
    (mm_gR w7 o 11 2).bind fun r9 =>
    r9.bind fun q10 =>
    if mm_cls w7 q10 = 5 then
     (mm_kI (mm_run (zP Z) 77 [.inr (.inr (some q10)), .inl a1] w7) fun x12 w11 =>
    if mm_cls w11 o = 11 then
     (mm_kI (mm_run (zP Z) 191 [.inr (.inr (some o)), .inl x12] w11) fun x14 w13 =>
    some (some (.inl x14), w13))
    else none)
    else none)
   else none)
  else none :=
  (mm_run_eq (P := zP Z) (y := 169) z_cd169 rfl (l := [some (.inr (.inr (some o))), some (.inl a1)]) rfl [] 18 w).trans rfl

-- ThornSchool.learns(I)I
set_option maxRecDepth 100000 in
set_option maxHeartbeats 4000000 in
theorem B_X11_learns (Z : mX) (o : Nat) (a1 : Int) (w : mW) : mm_run (zP Z) 170 [.inr (.inr (some o)), .inl a1] w =
  (mm_gR w o 11 2).bind fun r1 =>
  r1.bind fun q2 =>
  if mm_cls w q2 = 5 then
   (mm_kI (mm_run (zP Z) 52 [.inr (.inr (some q2)), .inl a1] w) fun x4 w3 =>
  if x4 = 0 then
   if mm_cls w3 o = 11 then
    (mm_kI (mm_run (zP Z) 190 [.inr (.inr (some o)), .inl 1] w3) fun x14 w13 =>
   some (some (.inl x14), w13))
   else none
  else
   (mm_gR w3 o 11 2).bind fun r5 =>
   r5.bind fun q6 =>
   if mm_cls w3 q6 = 5 then
    (mm_kI (mm_run (zP Z) 71 [.inr (.inr (some q6)), .inl a1] w3) fun x8 w7 =>
   if x8 = (-1) then
    if mm_cls w7 o = 11 then
     (mm_kI (mm_run (zP Z) 190 [.inr (.inr (some o)), .inl 6] w7) fun x12 w11 =>
    some (some (.inl x12), w11))
    else none
   else
    if mm_cls w7 o = 11 then
     (mm_kI (mm_run (zP Z) 191 [.inr (.inr (some o)), .inl x8] w7) fun x10 w9 =>
    some (some (.inl x10), w9))
    else none)
   else none)
  else none :=
  (mm_run_eq (P := zP Z) (y := 170) z_cd170 rfl (l := [some (.inr (.inr (some o))), some (.inl a1), none]) rfl [] 19 w).trans rfl

-- ThornSchool.alone(I)I
set_option maxRecDepth 100000 in
set_option maxHeartbeats 4000000 in
theorem B_X11_alone (Z : mX) (o : Nat) (a1 : Int) (w : mW) : mm_run (zP Z) 171 [.inr (.inr (some o)), .inl a1] w =
  (mm_gR w o 11 2).bind fun r1 =>
  r1.bind fun q2 =>
  if mm_cls w q2 = 5 then
   (mm_kI (mm_run (zP Z) 51 [.inr (.inr (some q2)), .inl a1] w) fun x4 w3 =>
  if x4 = 0 then
   if mm_cls w3 o = 11 then
    (mm_kI (mm_run (zP Z) 190 [.inr (.inr (some o)), .inl 1] w3) fun x16 w15 =>
   some (some (.inl x16), w15))
   else none
  else
   (mm_gR w3 o 11 11).bind fun r5 =>
   (mm_gR w3 o 11 11).bind fun r6 =>
   r6.bind fun q7 =>
   if mm_cls w3 q7 = 3 then
    (mm_kI (mm_run (zP Z) 22 [.inr (.inr (some q7)), .inl a1] w3) fun x9 w8 =>
   r5.bind fun q10 =>
   if mm_cls w8 q10 = 3 then
    (mm_kI (mm_run (zP Z) 23 [.inr (.inr (some q10)), .inl x9] w8) fun x12 w11 =>
   if mm_cls w11 o = 11 then
    (mm_kI (mm_run (zP Z) 191 [.inr (.inr (some o)), .inl x12] w11) fun x14 w13 =>
   some (some (.inl x14), w13))
   else none)
   else none)
   else none)
  else none :=
  (mm_run_eq (P := zP Z) (y := 171) z_cd171 rfl (l := [some (.inr (.inr (some o))), some (.inl a1)]) rfl [] 16 w).trans rfl

-- ThornSchool.together(I)I
set_option maxRecDepth 100000 in
set_option maxHeartbeats 4000000 in
theorem B_X11_together (Z : mX) (o : Nat) (a1 : Int) (w : mW) : mm_run (zP Z) 172 [.inr (.inr (some o)), .inl a1] w =
  (mm_gR w o 11 2).bind fun r1 =>
  r1.bind fun q2 =>
  if mm_cls w q2 = 5 then
   (mm_kI (mm_run (zP Z) 51 [.inr (.inr (some q2)), .inl a1] w) fun x4 w3 =>
  if x4 = 0 then
   if mm_cls w3 o = 11 then
    (mm_kI (mm_run (zP Z) 190 [.inr (.inr (some o)), .inl 1] w3) fun x12 w11 =>
   some (some (.inl x12), w11))
   else none
  else
   (mm_gR w3 o 11 11).bind fun r5 =>
   r5.bind fun q6 =>
   if mm_cls w3 q6 = 3 then
    (mm_kI (mm_run (zP Z) 24 [.inr (.inr (some q6)), .inl a1] w3) fun x8 w7 =>
   if mm_cls w7 o = 11 then
    (mm_kI (mm_run (zP Z) 191 [.inr (.inr (some o)), .inl x8] w7) fun x10 w9 =>
   some (some (.inl x10), w9))
   else none)
   else none)
  else none :=
  (mm_run_eq (P := zP Z) (y := 172) z_cd172 rfl (l := [some (.inr (.inr (some o))), some (.inl a1)]) rfl [] 13 w).trans rfl

-- ThornSchool.orders()I
set_option maxRecDepth 100000 in
set_option maxHeartbeats 4000000 in
theorem B_X11_orders (Z : mX) (o : Nat) (w : mW) : mm_run (zP Z) 173 [.inr (.inr (some o))] w =
  (mm_gR w o 11 11).bind fun r1 =>
  r1.bind fun q2 =>
  if mm_cls w q2 = 3 then
   (mm_kI (mm_run (zP Z) 26 [.inr (.inr (some q2))] w) fun x4 w3 =>
  if mm_cls w3 o = 11 then
   (mm_kI (mm_run (zP Z) 191 [.inr (.inr (some o)), .inl x4] w3) fun x6 w5 =>
  some (some (.inl x6), w5))
  else none)
  else none :=
  (mm_run_eq (P := zP Z) (y := 173) z_cd173 rfl (l := [some (.inr (.inr (some o)))]) rfl [] 7 w).trans rfl

-- ThornSchool.orderAt(I)I
set_option maxRecDepth 100000 in
set_option maxHeartbeats 4000000 in
theorem B_X11_orderAt (Z : mX) (o : Nat) (a1 : Int) (w : mW) : mm_run (zP Z) 174 [.inr (.inr (some o)), .inl a1] w =
  if a1 < 0 then
   if mm_cls w o = 11 then
    (mm_kI (mm_run (zP Z) 190 [.inr (.inr (some o)), .inl 1] w) fun x13 w12 =>
   some (some (.inl x13), w12))
   else none
  else
   (mm_gR w o 11 2).bind fun r1 =>
   r1.bind fun q2 =>
   (mm_gI w q2 5 6).bind fun x3 =>
   if a1 < x3 then
    (mm_gR w o 11 11).bind fun r4 =>
    r4.bind fun q5 =>
    if mm_cls w q5 = 3 then
     (mm_kI (mm_run (zP Z) 28 [.inr (.inr (some q5)), .inl a1] w) fun x7 w6 =>
    if mm_cls w6 o = 11 then
     (mm_kI (mm_run (zP Z) 191 [.inr (.inr (some o)), .inl x7] w6) fun x9 w8 =>
    some (some (.inl x9), w8))
    else none)
    else none
   else
    if mm_cls w o = 11 then
     (mm_kI (mm_run (zP Z) 190 [.inr (.inr (some o)), .inl 6] w) fun x11 w10 =>
    some (some (.inl x11), w10))
    else none :=
  (mm_run_eq (P := zP Z) (y := 174) z_cd174 rfl (l := [some (.inr (.inr (some o))), some (.inl a1)]) rfl [] 15 w).trans rfl

-- ThornSchool.left(II)I
set_option maxRecDepth 100000 in
set_option maxHeartbeats 4000000 in
theorem B_X11_left (Z : mX) (o : Nat) (a1 : Int) (a2 : Int) (w : mW) : mm_run (zP Z) 175 [.inr (.inr (some o)), .inl a1, .inl a2] w =
  (mm_gR w o 11 2).bind fun r1 =>
  r1.bind fun q2 =>
  if mm_cls w q2 = 5 then
   (mm_kI (mm_run (zP Z) 52 [.inr (.inr (some q2)), .inl a1] w) fun x4 w3 =>
  if x4 = 0 then
   if mm_cls w3 o = 11 then
    (mm_kI (mm_run (zP Z) 190 [.inr (.inr (some o)), .inl 1] w3) fun x6 w5 =>
   some (some (.inl x6), w5))
   else none
  else
   (mm_gR w3 o 11 2).bind fun r7 =>
   r7.bind fun q8 =>
   if mm_cls w3 q8 = 5 then
    (mm_kI (mm_run (zP Z) 51 [.inr (.inr (some q8)), .inl a2] w3) fun x10 w9 =>
   if x10 = 0 then
    if mm_cls w9 o = 11 then
     (mm_kI (mm_run (zP Z) 190 [.inr (.inr (some o)), .inl 1] w9) fun x31 w30 =>
    some (some (.inl x31), w30))
    else none
   else
    (mm_gR w9 o 11 2).bind fun r11 =>
    r11.bind fun q12 =>
    (mm_gR w9 q12 5 13).bind fun r13 =>
    mm_kI (mm_run (zP Z) 199 [.inr (.inr r13), .inl a1] w9) fun x15 w14 =>
    mm_kI (mm_run (zP Z) 207 [.inl x15, .inl a2] w14) fun x17 w16 =>
    if x17 = 0 then
     (mm_gR w16 o 11 11).bind fun r18 =>
     (mm_gR w16 o 11 11).bind fun r19 =>
     r19.bind fun q20 =>
     if mm_cls w16 q20 = 3 then
      (mm_kI (mm_run (zP Z) 22 [.inr (.inr (some q20)), .inl a2] w16) fun x22 w21 =>
     r18.bind fun q23 =>
     if mm_cls w21 q23 = 3 then
      (mm_kI (mm_run (zP Z) 23 [.inr (.inr (some q23)), .inl (mm_iand x22 (mm_ixor x15 (-1)))] w21) fun x25 w24 =>
     if mm_cls w24 o = 11 then
      (mm_kI (mm_run (zP Z) 191 [.inr (.inr (some o)), .inl x25] w24) fun x27 w26 =>
     some (some (.inl x27), w26))
     else none)
     else none)
     else none
    else
     if mm_cls w16 o = 11 then
      (mm_kI (mm_run (zP Z) 191 [.inr (.inr (some o)), .inl 0] w16) fun x29 w28 =>
     some (some (.inl x29), w28))
     else none)
   else none)
  else none :=
  (mm_run_eq (P := zP Z) (y := 175) z_cd175 rfl (l := [some (.inr (.inr (some o))), some (.inl a1), some (.inl a2), none]) rfl [] 35 w).trans rfl

-- ThornSchool.fits(III)I
set_option maxRecDepth 100000 in
set_option maxHeartbeats 4000000 in
theorem B_X11_fits (Z : mX) (o : Nat) (a1 : Int) (a2 : Int) (a3 : Int) (w : mW) : mm_run (zP Z) 176 [.inr (.inr (some o)), .inl a1, .inl a2, .inl a3] w =
  if mm_cls w o = 11 then
   (mm_kR (mm_run (zP Z) 195 [.inr (.inr (some o)), .inl a2] w) fun r2 w1 =>
  if mm_cls w1 o = 11 then
   (mm_kI (mm_run (zP Z) 197 [.inr (.inr (some o)), .inl a1, .inr (.inr r2), .inl a3] w1) fun x4 w3 =>
  if r2 = none then
   if mm_cls w3 o = 11 then
    (mm_kI (mm_run (zP Z) 190 [.inr (.inr (some o)), .inl x4] w3) fun x6 w5 =>
   some (some (.inl x6), w5))
   else none
  else
   if x4 = 0 then
    (mm_gR w3 o 11 13).bind fun r7 =>
    r7.bind fun q8 =>
    if mm_cls w3 q8 = 10 then
     (mm_kI (mm_run (zP Z) 130 [.inr (.inr (some q8)), .inl a1, .inr (.inr r2), .inl a3] w3) fun x10 w9 =>
    mm_kI (mm_run (zP Z) 364 [.inl x10] w9) fun x12 w11 =>
    if mm_cls w11 o = 11 then
     (mm_kI (mm_run (zP Z) 191 [.inr (.inr (some o)), .inl x12] w11) fun x14 w13 =>
    some (some (.inl x14), w13))
    else none)
    else none
   else
    if mm_cls w3 o = 11 then
     (mm_kI (mm_run (zP Z) 190 [.inr (.inr (some o)), .inl x4] w3) fun x16 w15 =>
    some (some (.inl x16), w15))
    else none)
  else none)
  else none :=
  (mm_run_eq (P := zP Z) (y := 176) z_cd176 rfl (l := [some (.inr (.inr (some o))), some (.inl a1), some (.inl a2), some (.inl a3), none, none]) rfl [] 25 w).trans rfl

-- ThornSchool.fitsAt(IIII)I
set_option maxRecDepth 100000 in
set_option maxHeartbeats 4000000 in
theorem B_X11_fitsAt (Z : mX) (o : Nat) (a1 : Int) (a2 : Int) (a3 : Int) (a4 : Int) (w : mW) : mm_run (zP Z) 177 [.inr (.inr (some o)), .inl a1, .inl a2, .inl a3, .inl a4] w =
  if mm_cls w o = 11 then
   (mm_kR (mm_run (zP Z) 195 [.inr (.inr (some o)), .inl a2] w) fun r2 w1 =>
  if a4 < 0 then
   mm_at (zP Z) 177 13 [some (.inr (.inr (some o))), some (.inl a1), none, some (.inl a3), some (.inl a4), some (.inr (.inr r2)), none, none] [.inl 1] w1
  else
   if mm_cls w1 o = 11 then
    (mm_kI (mm_run (zP Z) 197 [.inr (.inr (some o)), .inl a1, .inr (.inr r2), .inl a3] w1) fun x4 w3 =>
   mm_at (zP Z) 177 13 [some (.inr (.inr (some o))), some (.inl a1), none, some (.inl a3), some (.inl a4), some (.inr (.inr r2)), none, none] [.inl x4] w3)
   else none)
  else none :=
  (mm_run_eq (P := zP Z) (y := 177) z_cd177 rfl (l := [some (.inr (.inr (some o))), some (.inl a1), some (.inl a2), some (.inl a3), some (.inl a4), none, none, none]) rfl [13] 12 w).trans rfl

set_option maxRecDepth 100000 in
set_option maxHeartbeats 4000000 in
theorem B_X11_fitsAt_13 (Z : mX) (o : Nat) (l1 : Int) (l3 : Int) (l4 : Int) (l5 : Option Nat) (s0 : Int) (w : mW) : mm_at (zP Z) 177 13 [some (.inr (.inr (some o))), some (.inl l1), none, some (.inl l3), some (.inl l4), some (.inr (.inr l5)), none, none] [.inl s0] w =
  if l5 = none then
   if mm_cls w o = 11 then
    (mm_kI (mm_run (zP Z) 190 [.inr (.inr (some o)), .inl s0] w) fun x2 w1 =>
   some (some (.inl x2), w1))
   else none
  else
   if s0 = 0 then
    (mm_gR w o 11 13).bind fun r3 =>
    (mm_gR w o 11 13).bind fun r4 =>
    r4.bind fun q5 =>
    if mm_cls w q5 = 10 then
     (mm_kI (mm_run (zP Z) 130 [.inr (.inr (some q5)), .inl l1, .inr (.inr l5), .inl l3] w) fun x7 w6 =>
    r3.bind fun q8 =>
    if mm_cls w6 q8 = 10 then
     (mm_kI (mm_run (zP Z) 132 [.inr (.inr (some q8)), .inl x7, .inl l4] w6) fun x10 w9 =>
    if x10 = (-1) then
     if mm_cls w9 o = 11 then
      (mm_kI (mm_run (zP Z) 190 [.inr (.inr (some o)), .inl 6] w9) fun x14 w13 =>
     some (some (.inl x14), w13))
     else none
    else
     if mm_cls w9 o = 11 then
      (mm_kI (mm_run (zP Z) 191 [.inr (.inr (some o)), .inl x10] w9) fun x12 w11 =>
     some (some (.inl x12), w11))
     else none)
    else none)
    else none
   else
    if mm_cls w o = 11 then
     (mm_kI (mm_run (zP Z) 190 [.inr (.inr (some o)), .inl s0] w) fun x16 w15 =>
    some (some (.inl x16), w15))
    else none :=
  (mm_V_eq (P := zP Z) (y := 177) z_cd177 [13] 25 13 _ _ w).trans rfl

-- ThornSchool.ask(III)I
set_option maxRecDepth 100000 in
set_option maxHeartbeats 4000000 in
theorem B_X11_ask (Z : mX) (o : Nat) (a1 : Int) (a2 : Int) (a3 : Int) (w : mW) : mm_run (zP Z) 178 [.inr (.inr (some o)), .inl a1, .inl a2, .inl a3] w =
  if mm_cls w o = 11 then
   (mm_kR (mm_run (zP Z) 195 [.inr (.inr (some o)), .inl a2] w) fun r2 w1 =>
  if mm_cls w1 o = 11 then
   (mm_kI (mm_run (zP Z) 197 [.inr (.inr (some o)), .inl a1, .inr (.inr r2), .inl a3] w1) fun x4 w3 =>
  if r2 = none then
   if mm_cls w3 o = 11 then
    (mm_kI (mm_run (zP Z) 190 [.inr (.inr (some o)), .inl x4] w3) fun x6 w5 =>
   some (some (.inl x6), w5))
   else none
  else
   if x4 = 0 then
    (mm_gR w3 o 11 13).bind fun r7 =>
    r7.bind fun q8 =>
    if mm_cls w3 q8 = 10 then
     (mm_kI (mm_run (zP Z) 130 [.inr (.inr (some q8)), .inl a1, .inr (.inr r2), .inl a3] w3) fun x10 w9 =>
    mm_kI (mm_run (zP Z) 364 [.inl x10] w9) fun x12 w11 =>
    if x12 < 2 then
     if mm_cls w11 o = 11 then
      (mm_kI (mm_run (zP Z) 190 [.inr (.inr (some o)), .inl 6] w11) fun x20 w19 =>
     some (some (.inl x20), w19))
     else none
    else
     (mm_gR w11 o 11 13).bind fun r13 =>
     r13.bind fun q14 =>
     if mm_cls w11 q14 = 10 then
      (mm_kI (mm_run (zP Z) 133 [.inr (.inr (some q14)), .inl a1, .inl x10] w11) fun x16 w15 =>
     if mm_cls w15 o = 11 then
      (mm_kI (mm_run (zP Z) 191 [.inr (.inr (some o)), .inl x16] w15) fun x18 w17 =>
     some (some (.inl x18), w17))
     else none)
     else none)
    else none
   else
    if mm_cls w3 o = 11 then
     (mm_kI (mm_run (zP Z) 190 [.inr (.inr (some o)), .inl x4] w3) fun x22 w21 =>
    some (some (.inl x22), w21))
    else none)
  else none)
  else none :=
  (mm_run_eq (P := zP Z) (y := 178) z_cd178 rfl (l := [some (.inr (.inr (some o))), some (.inl a1), some (.inl a2), some (.inl a3), none, none, none]) rfl [] 34 w).trans rfl

-- ThornSchool.whose(II)I
set_option maxRecDepth 100000 in
set_option maxHeartbeats 4000000 in
theorem B_X11_whose (Z : mX) (o : Nat) (a1 : Int) (a2 : Int) (w : mW) : mm_run (zP Z) 179 [.inr (.inr (some o)), .inl a1, .inl a2] w =
  if mm_cls w o = 11 then
   (mm_kR (mm_run (zP Z) 195 [.inr (.inr (some o)), .inl a1] w) fun r2 w1 =>
  mm_kI (mm_run (zP Z) 208 [.inl a2, .inl 0, .inl 20] w1) fun x4 w3 =>
  if x4 = 0 then
   mm_at (zP Z) 179 16 [some (.inr (.inr (some o))), none, some (.inl a2), some (.inr (.inr r2)), none, none, none] [.inl 1] w3
  else
   if mm_cls w3 o = 11 then
    (mm_kI (mm_run (zP Z) 196 [.inr (.inr (some o)), .inr (.inr r2), .inl 0, .inl a2] w3) fun x6 w5 =>
   mm_at (zP Z) 179 16 [some (.inr (.inr (some o))), none, some (.inl a2), some (.inr (.inr r2)), none, none, none] [.inl x6] w5)
   else none)
  else none :=
  (mm_run_eq (P := zP Z) (y := 179) z_cd179 rfl (l := [some (.inr (.inr (some o))), some (.inl a1), some (.inl a2), none, none, none, none]) rfl [16, 29] 16 w).trans rfl

set_option maxRecDepth 100000 in
set_option maxHeartbeats 4000000 in
theorem B_X11_whose_16 (Z : mX) (o : Nat) (l2 : Int) (l3 : Option Nat) (s0 : Int) (w : mW) : mm_at (zP Z) 179 16 [some (.inr (.inr (some o))), none, some (.inl l2), some (.inr (.inr l3)), none, none, none] [.inl s0] w =
  if l3 = none then
   if mm_cls w o = 11 then
    (mm_kI (mm_run (zP Z) 190 [.inr (.inr (some o)), .inl s0] w) fun x2 w1 =>
   some (some (.inl x2), w1))
   else none
  else
   if s0 = 0 then
    mm_at (zP Z) 179 29 [some (.inr (.inr (some o))), none, some (.inl l2), some (.inr (.inr l3)), none, some (.inl 0), some (.inl 0)] [] w
   else
    if mm_cls w o = 11 then
     (mm_kI (mm_run (zP Z) 190 [.inr (.inr (some o)), .inl s0] w) fun x4 w3 =>
    some (some (.inl x4), w3))
    else none :=
  (mm_V_eq (P := zP Z) (y := 179) z_cd179 [16, 29] 10 16 _ _ w).trans rfl

set_option maxRecDepth 100000 in
set_option maxHeartbeats 4000000 in
theorem B_X11_whose_29 (Z : mX) (o : Nat) (l2 : Int) (l3 : Option Nat) (l5 : Int) (l6 : Int) (w : mW) : mm_at (zP Z) 179 29 [some (.inr (.inr (some o))), none, some (.inl l2), some (.inr (.inr l3)), none, some (.inl l5), some (.inl l6)] [] w =
  if l6 < l2 then
   (mm_gR w o 11 2).bind fun r7 =>
   l3.bind fun q8 =>
   if mm_cls w q8 = 8 then
    (mm_kJ (mm_run (zP Z) 112 [.inr (.inr (some q8)), .inl l6] w) fun x10 w9 =>
   r7.bind fun q11 =>
   if mm_cls w9 q11 = 5 then
    (mm_kI (mm_run (zP Z) 50 [.inr (.inr (some q11)), .inr (.inl x10)] w9) fun x13 w12 =>
   if x13 = 0 then
    if mm_cls w12 o = 11 then
     (mm_kI (mm_run (zP Z) 190 [.inr (.inr (some o)), .inl 5] w12) fun x20 w19 =>
    some (some (.inl x20), w19))
    else none
   else
    l3.bind fun q14 =>
    if mm_cls w12 q14 = 8 then
     (mm_kJ (mm_run (zP Z) 112 [.inr (.inr (some q14)), .inl l6] w12) fun x16 w15 =>
    mm_kI (mm_run (zP Z) 206 [.inl (mm_w32 x16)] w15) fun x18 w17 =>
    mm_at (zP Z) 179 29 [some (.inr (.inr (some o))), none, some (.inl l2), some (.inr (.inr l3)), none, some (.inl (mm_ior l5 x18)), some (.inl (mm_w32 (l6 + 1)))] [] w17)
    else none)
   else none)
   else none
  else
   (mm_gR w o 11 10).bind fun r1 =>
   r1.bind fun q2 =>
   if mm_cls w q2 = 9 then
    (mm_kI (mm_run (zP Z) 128 [.inr (.inr (some q2)), .inl l5] w) fun x4 w3 =>
   if mm_cls w3 o = 11 then
    (mm_kI (mm_run (zP Z) 191 [.inr (.inr (some o)), .inl x4] w3) fun x6 w5 =>
   some (some (.inl x6), w5))
   else none)
   else none :=
  (mm_V_eq (P := zP Z) (y := 179) z_cd179 [16, 29] 21 29 _ _ w).trans rfl

-- ThornSchool.game(III)I
set_option maxRecDepth 100000 in
set_option maxHeartbeats 4000000 in
theorem B_X11_game (Z : mX) (o : Nat) (a1 : Int) (a2 : Int) (a3 : Int) (w : mW) : mm_run (zP Z) 180 [.inr (.inr (some o)), .inl a1, .inl a2, .inl a3] w =
  if mm_cls w o = 11 then
   (mm_kI (mm_run (zP Z) 198 [.inr (.inr (some o)), .inl a1, .inl a2] w) fun x2 w1 =>
  if x2 = 0 then
   if mm_cls w1 o = 11 then
    (mm_kI (mm_run (zP Z) 190 [.inr (.inr (some o)), .inl 1] w1) fun x4 w3 =>
   some (some (.inl x4), w3))
   else none
  else
   mm_kI (mm_run (zP Z) 208 [.inl a3, .inl 0, .inl 4] w1) fun x6 w5 =>
   if x6 = 0 then
    if mm_cls w5 o = 11 then
     (mm_kI (mm_run (zP Z) 190 [.inr (.inr (some o)), .inl 1] w5) fun x16 w15 =>
    some (some (.inl x16), w15))
    else none
   else
    (mm_gR w5 o 11 12).bind fun r7 =>
    r7.bind fun q8 =>
    if mm_cls w5 q8 = 2 then
     (mm_kI (mm_run (zP Z) 17 [.inr (.inr (some q8)), .inl a1, .inl a2, .inl a3] w5) fun x10 w9 =>
    if x10 = 0 then
     if mm_cls w9 o = 11 then
      (mm_kI (mm_run (zP Z) 191 [.inr (.inr (some o)), .inl 0] w9) fun x12 w11 =>
     some (some (.inl x12), w11))
     else none
    else
     if mm_cls w9 o = 11 then
      (mm_kI (mm_run (zP Z) 191 [.inr (.inr (some o)), .inl 1] w9) fun x14 w13 =>
     some (some (.inl x14), w13))
     else none)
    else none)
  else none :=
  (mm_run_eq (P := zP Z) (y := 180) z_cd180 rfl (l := [some (.inr (.inr (some o))), some (.inl a1), some (.inl a2), some (.inl a3)]) rfl [] 23 w).trans rfl

-- ThornSchool.moveOf(III)I
set_option maxRecDepth 100000 in
set_option maxHeartbeats 4000000 in
theorem B_X11_moveOf (Z : mX) (o : Nat) (a1 : Int) (a2 : Int) (a3 : Int) (w : mW) : mm_run (zP Z) 181 [.inr (.inr (some o)), .inl a1, .inl a2, .inl a3] w =
  if mm_cls w o = 11 then
   (mm_kI (mm_run (zP Z) 198 [.inr (.inr (some o)), .inl a1, .inl a2] w) fun x2 w1 =>
  if x2 = 0 then
   if mm_cls w1 o = 11 then
    (mm_kI (mm_run (zP Z) 190 [.inr (.inr (some o)), .inl 1] w1) fun x4 w3 =>
   some (some (.inl x4), w3))
   else none
  else
   mm_kI (mm_run (zP Z) 208 [.inl a3, .inl 1, .inl 4] w1) fun x6 w5 =>
   if x6 = 0 then
    if mm_cls w5 o = 11 then
     (mm_kI (mm_run (zP Z) 190 [.inr (.inr (some o)), .inl 1] w5) fun x16 w15 =>
    some (some (.inl x16), w15))
    else none
   else
    (mm_gR w5 o 11 12).bind fun r7 =>
    r7.bind fun q8 =>
    if mm_cls w5 q8 = 2 then
     (mm_kI (mm_run (zP Z) 20 [.inr (.inr (some q8)), .inl a1, .inl a2, .inl a3] w5) fun x10 w9 =>
    if x10 = (-1) then
     if mm_cls w9 o = 11 then
      (mm_kI (mm_run (zP Z) 190 [.inr (.inr (some o)), .inl 6] w9) fun x14 w13 =>
     some (some (.inl x14), w13))
     else none
    else
     if mm_cls w9 o = 11 then
      (mm_kI (mm_run (zP Z) 191 [.inr (.inr (some o)), .inl x10] w9) fun x12 w11 =>
     some (some (.inl x12), w11))
     else none)
    else none)
  else none :=
  (mm_run_eq (P := zP Z) (y := 181) z_cd181 rfl (l := [some (.inr (.inr (some o))), some (.inl a1), some (.inl a2), some (.inl a3), none]) rfl [] 26 w).trans rfl

-- ThornSchool.chance(II)Z
set_option maxRecDepth 100000 in
set_option maxHeartbeats 4000000 in
theorem B_X11_chance (Z : mX) (o : Nat) (a1 : Int) (a2 : Int) (w : mW) : mm_run (zP Z) 182 [.inr (.inr (some o)), .inl a1, .inl a2] w =
  (mm_gR w o 11 2).bind fun r1 =>
  r1.bind fun q2 =>
  if mm_cls w q2 = 5 then
   (mm_kI (mm_run (zP Z) 52 [.inr (.inr (some q2)), .inl a1] w) fun x4 w3 =>
  if x4 = 0 then
   if mm_cls w3 o = 11 then
    (mm_kI (mm_run (zP Z) 192 [.inr (.inr (some o)), .inl 1] w3) fun x6 w5 =>
   if x6 = 0 ∨ x6 = 1 then some (some (.inl x6), w5) else none)
   else none
  else
   (mm_gR w3 o 11 2).bind fun r7 =>
   r7.bind fun q8 =>
   if mm_cls w3 q8 = 5 then
    (mm_kI (mm_run (zP Z) 49 [.inr (.inr (some q8)), .inl a2] w3) fun x10 w9 =>
   if x10 = 0 then
    if mm_cls w9 o = 11 then
     (mm_kI (mm_run (zP Z) 192 [.inr (.inr (some o)), .inl 1] w9) fun x30 w29 =>
    if x30 = 0 ∨ x30 = 1 then some (some (.inl x30), w29) else none)
    else none
   else
    (mm_gR w9 o 11 10).bind fun r11 =>
    r11.bind fun q12 =>
    if mm_cls w9 q12 = 9 then
     (mm_kI (mm_run (zP Z) 121 [.inr (.inr (some q12)), .inl a1, .inl a2] w9) fun x14 w13 =>
    if x14 = (-1) then
     if mm_cls w13 o = 11 then
      (mm_kI (mm_run (zP Z) 192 [.inr (.inr (some o)), .inl 6] w13) fun x16 w15 =>
     if x16 = 0 ∨ x16 = 1 then some (some (.inl x16), w15) else none)
     else none
    else
     if 15 < x14 then
      if mm_cls w13 o = 11 then
       (mm_kI (mm_run (zP Z) 192 [.inr (.inr (some o)), .inl 6] w13) fun x28 w27 =>
      if x28 = 0 ∨ x28 = 1 then some (some (.inl x28), w27) else none)
      else none
     else
      (mm_gR w13 o 11 2).bind fun r17 =>
      r17.bind fun q18 =>
      (mm_gI w13 q18 5 2).bind fun x19 =>
      mm_kJ (mm_run (zP Z) 209 [.inr (.inl (mm_w32 (16 - x19))), .inl x14] w13) fun x21 w20 =>
      mm_kJ (mm_run (zP Z) 209 [.inr (.inl 16), .inl x14] w20) fun x23 w22 =>
      if mm_cls w22 o = 11 then
       (mm_kV (mm_run (zP Z) 194 [.inr (.inr (some o)), .inr (.inl x21), .inr (.inl x23)] w22) fun w24 =>
      if mm_cls w24 o = 11 then
       (mm_kI (mm_run (zP Z) 193 [.inr (.inr (some o))] w24) fun x26 w25 =>
      if x26 = 0 ∨ x26 = 1 then some (some (.inl x26), w25) else none)
      else none)
      else none)
    else none)
   else none)
  else none :=
  (mm_run_eq (P := zP Z) (y := 182) z_cd182 rfl (l := [some (.inr (.inr (some o))), some (.inl a1), some (.inl a2), none]) rfl [] 39 w).trans rfl

-- ThornSchool.slips(II)Z
set_option maxRecDepth 100000 in
set_option maxHeartbeats 4000000 in
theorem B_X11_slips (Z : mX) (o : Nat) (a1 : Int) (a2 : Int) (w : mW) : mm_run (zP Z) 183 [.inr (.inr (some o)), .inl a1, .inl a2] w =
  mm_kI (mm_run (zP Z) 208 [.inl a1, .inl 0, .inl 12] w) fun x2 w1 =>
  if x2 = 0 then
   if mm_cls w1 o = 11 then
    (mm_kI (mm_run (zP Z) 192 [.inr (.inr (some o)), .inl 1] w1) fun x4 w3 =>
   if x4 = 0 ∨ x4 = 1 then some (some (.inl x4), w3) else none)
   else none
  else
   mm_kI (mm_run (zP Z) 208 [.inl a2, .inl 0, .inl 12] w1) fun x6 w5 =>
   if x6 = 0 then
    if mm_cls w5 o = 11 then
     (mm_kI (mm_run (zP Z) 192 [.inr (.inr (some o)), .inl 1] w5) fun x8 w7 =>
    if x8 = 0 ∨ x8 = 1 then some (some (.inl x8), w7) else none)
    else none
   else
    mm_at (zP Z) 183 20 [some (.inr (.inr (some o))), some (.inl a1), some (.inl a2), some (.inr (.inl 1)), none, some (.inr (.inl 0)), none, some (.inl 0)] [] w5 :=
  (mm_run_eq (P := zP Z) (y := 183) z_cd183 rfl (l := [some (.inr (.inr (some o))), some (.inl a1), some (.inl a2), none, none, none, none, none]) rfl [20, 48] 17 w).trans rfl

set_option maxRecDepth 100000 in
set_option maxHeartbeats 4000000 in
theorem B_X11_slips_20 (Z : mX) (o : Nat) (l1 : Int) (l2 : Int) (l3 : Int) (l5 : Int) (l7 : Int) (w : mW) : mm_at (zP Z) 183 20 [some (.inr (.inr (some o))), some (.inl l1), some (.inl l2), some (.inr (.inl l3)), none, some (.inr (.inl l5)), none, some (.inl l7)] [] w =
  if l1 < l7 then
   mm_kJ (mm_run (zP Z) 209 [.inr (.inl 16), .inl l1] w) fun x2 w1 =>
   if mm_cls w1 o = 11 then
    (mm_kV (mm_run (zP Z) 194 [.inr (.inr (some o)), .inr (.inl l5), .inr (.inl x2)] w1) fun w3 =>
   if mm_cls w3 o = 11 then
    (mm_kI (mm_run (zP Z) 193 [.inr (.inr (some o))] w3) fun x5 w4 =>
   if x5 = 0 ∨ x5 = 1 then some (some (.inl x5), w4) else none)
   else none)
   else none
  else
   if l7 < l2 then
    mm_at (zP Z) 183 48 [some (.inr (.inr (some o))), some (.inl l1), some (.inl l2), some (.inr (.inl l3)), none, some (.inr (.inl l5)), none, some (.inl l7)] [] w
   else
    (mm_gR w o 11 2).bind fun r6 =>
    r6.bind fun q7 =>
    (mm_gI w q7 5 2).bind fun x8 =>
    mm_kJ (mm_run (zP Z) 209 [.inr (.inl x8), .inl l7] w) fun x10 w9 =>
    (mm_gR w9 o 11 2).bind fun r11 =>
    r11.bind fun q12 =>
    (mm_gI w9 q12 5 2).bind fun x13 =>
    mm_kJ (mm_run (zP Z) 209 [.inr (.inl (mm_w32 (16 - x13))), .inl (mm_w32 (l1 - l7))] w9) fun x15 w14 =>
    mm_at (zP Z) 183 48 [some (.inr (.inr (some o))), some (.inl l1), some (.inl l2), some (.inr (.inl l3)), none, some (.inr (.inl (mm_w64 (l5 + (mm_w64 ((mm_w64 (l3 * x10)) * x15)))))), none, some (.inl l7)] [] w14 :=
  (mm_V_eq (P := zP Z) (y := 183) z_cd183 [20, 48] 29 20 _ _ w).trans rfl

set_option maxRecDepth 100000 in
set_option maxHeartbeats 4000000 in
theorem B_X11_slips_48 (Z : mX) (o : Nat) (l1 : Int) (l2 : Int) (l3 : Int) (l5 : Int) (l7 : Int) (w : mW) : mm_at (zP Z) 183 48 [some (.inr (.inr (some o))), some (.inl l1), some (.inl l2), some (.inr (.inl l3)), none, some (.inr (.inl l5)), none, some (.inl l7)] [] w =
  if mm_w32 (l7 + 1) = 0 then none else
  mm_at (zP Z) 183 20 [some (.inr (.inr (some o))), some (.inl l1), some (.inl l2), some (.inr (.inl (mm_ldiv (mm_w64 (l3 * (mm_w32 (l1 - l7)))) (mm_w32 (l7 + 1))))), none, some (.inr (.inl l5)), none, some (.inl (mm_w32 (l7 + 1)))] [] w :=
  (mm_V_eq (P := zP Z) (y := 183) z_cd183 [20, 48] 15 48 _ _ w).trans rfl

-- ThornSchool.copyThorns(I)I
set_option maxRecDepth 100000 in
set_option maxHeartbeats 4000000 in
theorem B_X11_copyThorns (Z : mX) (o : Nat) (a1 : Int) (w : mW) : mm_run (zP Z) 184 [.inr (.inr (some o)), .inl a1] w =
  if mm_cls w o = 11 then
   (mm_kR (mm_run (zP Z) 195 [.inr (.inr (some o)), .inl a1] w) fun r2 w1 =>
  (mm_gR w1 o 11 2).bind fun r3 =>
  r3.bind fun q4 =>
  if mm_cls w1 q4 = 5 then
   (mm_kI (mm_run (zP Z) 48 [.inr (.inr (some q4))] w1) fun x6 w5 =>
  if mm_cls w5 o = 11 then
   (mm_kI (mm_run (zP Z) 196 [.inr (.inr (some o)), .inr (.inr r2), .inl 0, .inl x6] w5) fun x8 w7 =>
  if r2 = none then
   if mm_cls w7 o = 11 then
    (mm_kI (mm_run (zP Z) 190 [.inr (.inr (some o)), .inl x8] w7) fun x10 w9 =>
   some (some (.inl x10), w9))
   else none
  else
   if x8 = 0 then
    mm_at (zP Z) 184 22 [some (.inr (.inr (some o))), none, some (.inr (.inr r2)), none, some (.inl 0)] [] w7
   else
    if mm_cls w7 o = 11 then
     (mm_kI (mm_run (zP Z) 190 [.inr (.inr (some o)), .inl x8] w7) fun x12 w11 =>
    some (some (.inl x12), w11))
    else none)
  else none)
  else none)
  else none :=
  (mm_run_eq (P := zP Z) (y := 184) z_cd184 rfl (l := [some (.inr (.inr (some o))), some (.inl a1), none, none, none]) rfl [22] 21 w).trans rfl

set_option maxRecDepth 100000 in
set_option maxHeartbeats 4000000 in
theorem B_X11_copyThorns_22 (Z : mX) (o : Nat) (l2 : Option Nat) (l4 : Int) (w : mW) : mm_at (zP Z) 184 22 [some (.inr (.inr (some o))), none, some (.inr (.inr l2)), none, some (.inl l4)] [] w =
  (mm_gR w o 11 2).bind fun r1 =>
  r1.bind fun q2 =>
  if mm_cls w q2 = 5 then
   (mm_kI (mm_run (zP Z) 48 [.inr (.inr (some q2))] w) fun x4 w3 =>
  if l4 < x4 then
   (mm_gR w3 o 11 2).bind fun r11 =>
   r11.bind fun q12 =>
   (mm_gR w3 q12 5 4).bind fun r13 =>
   mm_kI (mm_run (zP Z) 199 [.inr (.inr r13), .inl l4] w3) fun x15 w14 =>
   l2.bind fun q16 =>
   if mm_cls w14 q16 = 8 then
    (mm_kV (mm_run (zP Z) 113 [.inr (.inr (some q16)), .inl l4, .inr (.inl x15)] w14) fun w17 =>
   mm_at (zP Z) 184 22 [some (.inr (.inr (some o))), none, some (.inr (.inr l2)), none, some (.inl (mm_w32 (l4 + 1)))] [] w17)
   else none
  else
   (mm_gR w3 o 11 2).bind fun r5 =>
   r5.bind fun q6 =>
   if mm_cls w3 q6 = 5 then
    (mm_kI (mm_run (zP Z) 48 [.inr (.inr (some q6))] w3) fun x8 w7 =>
   if mm_cls w7 o = 11 then
    (mm_kI (mm_run (zP Z) 191 [.inr (.inr (some o)), .inl x8] w7) fun x10 w9 =>
   some (some (.inl x10), w9))
   else none)
   else none)
  else none :=
  (mm_V_eq (P := zP Z) (y := 184) z_cd184 [22] 17 22 _ _ w).trans rfl

-- ThornSchool.live(I)I
set_option maxRecDepth 100000 in
set_option maxHeartbeats 4000000 in
theorem B_X11_live (Z : mX) (o : Nat) (a1 : Int) (w : mW) : mm_run (zP Z) 185 [.inr (.inr (some o)), .inl a1] w =
  mm_kI (mm_run (zP Z) 208 [.inl a1, .inl 0, .inl 9999] w) fun x2 w1 =>
  if x2 = 0 then
   if mm_cls w1 o = 11 then
    (mm_kI (mm_run (zP Z) 190 [.inr (.inr (some o)), .inl 1] w1) fun x20 w19 =>
   some (some (.inl x20), w19))
   else none
  else
   (mm_gR w1 o 11 4).bind fun r3 =>
   r3.bind fun q4 =>
   (mm_gI w1 q4 0 0).bind fun x5 =>
   if x5 = 0 then
    if mm_cls w1 o = 11 then
     (mm_kI (mm_run (zP Z) 190 [.inr (.inr (some o)), .inl 6] w1) fun x18 w17 =>
    some (some (.inl x18), w17))
    else none
   else
    (mm_gR w1 o 11 9).bind fun r6 =>
    r6.bind fun q7 =>
    if mm_cls w1 q7 = 4 then
     (mm_kV (mm_run (zP Z) 32 [.inr (.inr (some q7)), .inl a1] w1) fun w8 =>
    (mm_gR w8 o 11 9).bind fun r9 =>
    r9.bind fun q10 =>
    if mm_cls w8 q10 = 4 then
     (mm_kV (mm_run (zP Z) 31 [.inr (.inr (some q10))] w8) fun w11 =>
    (mm_gR w11 o 11 9).bind fun r12 =>
    r12.bind fun q13 =>
    (mm_gI w11 q13 4 5).bind fun x14 =>
    if mm_cls w11 o = 11 then
     (mm_kI (mm_run (zP Z) 191 [.inr (.inr (some o)), .inl x14] w11) fun x16 w15 =>
    some (some (.inl x16), w15))
    else none)
    else none)
    else none :=
  (mm_run_eq (P := zP Z) (y := 185) z_cd185 rfl (l := [some (.inr (.inr (some o))), some (.inl a1)]) rfl [] 23 w).trans rfl

-- ThornSchool.lived(I)I
set_option maxRecDepth 100000 in
set_option maxHeartbeats 4000000 in
theorem B_X11_lived (Z : mX) (o : Nat) (a1 : Int) (w : mW) : mm_run (zP Z) 186 [.inr (.inr (some o)), .inl a1] w =
  mm_kI (mm_run (zP Z) 208 [.inl a1, .inl 0, .inl 4] w) fun x2 w1 =>
  if x2 = 0 then
   if mm_cls w1 o = 11 then
    (mm_kI (mm_run (zP Z) 190 [.inr (.inr (some o)), .inl 1] w1) fun x16 w15 =>
   some (some (.inl x16), w15))
   else none
  else
   (mm_gR w1 o 11 9).bind fun r3 =>
   r3.bind fun q4 =>
   (mm_gI w1 q4 4 4).bind fun x5 =>
   if x5 = 0 then
    if mm_cls w1 o = 11 then
     (mm_kI (mm_run (zP Z) 190 [.inr (.inr (some o)), .inl 6] w1) fun x7 w6 =>
    some (some (.inl x7), w6))
    else none
   else
    (mm_gR w1 o 11 9).bind fun r8 =>
    r8.bind fun q9 =>
    (mm_gR w1 q9 4 3).bind fun r10 =>
    mm_kI (mm_run (zP Z) 199 [.inr (.inr r10), .inl a1] w1) fun x12 w11 =>
    if mm_cls w11 o = 11 then
     (mm_kI (mm_run (zP Z) 191 [.inr (.inr (some o)), .inl x12] w11) fun x14 w13 =>
    some (some (.inl x14), w13))
    else none :=
  (mm_run_eq (P := zP Z) (y := 186) z_cd186 rfl (l := [some (.inr (.inr (some o))), some (.inl a1)]) rfl [] 19 w).trans rfl

-- ThornSchool.mean(II)Z
set_option maxRecDepth 100000 in
set_option maxHeartbeats 4000000 in
theorem B_X11_mean (Z : mX) (o : Nat) (a1 : Int) (a2 : Int) (w : mW) : mm_run (zP Z) 187 [.inr (.inr (some o)), .inl a1, .inl a2] w =
  mm_kI (mm_run (zP Z) 208 [.inl a2, .inl 1, .inl 20] w) fun x2 w1 =>
  if x2 = 0 then
   if mm_cls w1 o = 11 then
    (mm_kI (mm_run (zP Z) 192 [.inr (.inr (some o)), .inl 1] w1) fun x4 w3 =>
   if x4 = 0 ∨ x4 = 1 then some (some (.inl x4), w3) else none)
   else none
  else
   mm_kI (mm_run (zP Z) 208 [.inl a1, .inl 0, .inl (mm_w32 (10000 - a2))] w1) fun x6 w5 =>
   if x6 = 0 then
    if mm_cls w5 o = 11 then
     (mm_kI (mm_run (zP Z) 192 [.inr (.inr (some o)), .inl 1] w5) fun x17 w16 =>
    if x17 = 0 ∨ x17 = 1 then some (some (.inl x17), w16) else none)
    else none
   else
    (mm_gR w5 o 11 4).bind fun r7 =>
    r7.bind fun q8 =>
    (mm_gI w5 q8 0 0).bind fun x9 =>
    if x9 = 0 then
     if mm_cls w5 o = 11 then
      (mm_kI (mm_run (zP Z) 192 [.inr (.inr (some o)), .inl 6] w5) fun x15 w14 =>
     if x15 = 0 ∨ x15 = 1 then some (some (.inl x15), w14) else none)
     else none
    else
     (mm_gR w5 o 11 3).bind fun r10 =>
     (mm_gR w5 o 11 2).bind fun r11 =>
     r10.bind fun q12 =>
     if mm_cls w5 q12 = 5 then
      (mm_kV (mm_run (zP Z) 47 [.inr (.inr (some q12)), .inr (.inr r11)] w5) fun w13 =>
     mm_at (zP Z) 187 33 [some (.inr (.inr (some o))), some (.inl a1), some (.inl a2), some (.inr (.inl 0)), none, some (.inl 0)] [] w13)
     else none :=
  (mm_run_eq (P := zP Z) (y := 187) z_cd187 rfl (l := [some (.inr (.inr (some o))), some (.inl a1), some (.inl a2), none, none, none]) rfl [33] 26 w).trans rfl

set_option maxRecDepth 100000 in
set_option maxHeartbeats 4000000 in
theorem B_X11_mean_33 (Z : mX) (o : Nat) (l1 : Int) (l2 : Int) (l3 : Int) (l5 : Int) (w : mW) : mm_at (zP Z) 187 33 [some (.inr (.inr (some o))), some (.inl l1), some (.inl l2), some (.inr (.inl l3)), none, some (.inl l5)] [] w =
  if l5 < l2 then
   (mm_gR w o 11 9).bind fun r4 =>
   r4.bind fun q5 =>
   if mm_cls w q5 = 4 then
    (mm_kV (mm_run (zP Z) 32 [.inr (.inr (some q5)), .inl (mm_w32 (l1 + l5))] w) fun w6 =>
   (mm_gR w6 o 11 2).bind fun r7 =>
   r7.bind fun q8 =>
   (mm_gR w6 q8 5 16).bind fun r9 =>
   mm_kI (mm_run (zP Z) 205 [.inr (.inr r9)] w6) fun x11 w10 =>
   (mm_gR w10 o 11 2).bind fun r12 =>
   (mm_gR w10 o 11 3).bind fun r13 =>
   r12.bind fun q14 =>
   if mm_cls w10 q14 = 5 then
    (mm_kV (mm_run (zP Z) 47 [.inr (.inr (some q14)), .inr (.inr r13)] w10) fun w15 =>
   mm_at (zP Z) 187 33 [some (.inr (.inr (some o))), some (.inl l1), some (.inl l2), some (.inr (.inl (mm_w64 (l3 + x11)))), none, some (.inl (mm_w32 (l5 + 1)))] [] w15)
   else none)
   else none
  else
   if mm_cls w o = 11 then
    (mm_kV (mm_run (zP Z) 194 [.inr (.inr (some o)), .inr (.inl l3), .inr (.inl l2)] w) fun w1 =>
   if mm_cls w1 o = 11 then
    (mm_kI (mm_run (zP Z) 193 [.inr (.inr (some o))] w1) fun x3 w2 =>
   if x3 = 0 ∨ x3 = 1 then some (some (.inl x3), w2) else none)
   else none)
   else none :=
  (mm_V_eq (P := zP Z) (y := 187) z_cd187 [33] 25 33 _ _ w).trans rfl

-- ThornSchool.mark()I
set_option maxRecDepth 100000 in
set_option maxHeartbeats 4000000 in
theorem B_X11_mark (Z : mX) (o : Nat) (w : mW) : mm_run (zP Z) 188 [.inr (.inr (some o))] w =
  (mm_gI w o 11 14).bind fun x1 =>
  if x1 < 0 then
   if mm_cls w o = 11 then
    (mm_kI (mm_run (zP Z) 190 [.inr (.inr (some o)), .inl 4] w) fun x3 w2 =>
   some (some (.inl x3), w2))
   else none
  else
   (mm_gI w o 11 14).bind fun x4 =>
   (mm_gR w o 11 7).bind fun r5 =>
   r5.bind fun q6 =>
   (mm_ln w q6).bind fun x7 =>
   if x4 < x7 then
    (mm_gI w o 11 14).bind fun x10 =>
    (mm_gR w o 11 8).bind fun r11 =>
    r11.bind fun q12 =>
    (mm_ln w q12).bind fun x13 =>
    if x10 < x13 then
     (mm_gR w o 11 7).bind fun r14 =>
     (mm_gI w o 11 14).bind fun x15 =>
     r14.bind fun q16 =>
     (mm_ld 15 w q16 x15).bind fun x17 =>
     (mm_gR w o 11 8).bind fun r18 =>
     (mm_gI w o 11 14).bind fun x19 =>
     r18.bind fun q20 =>
     (mm_ld 10 w q20 x19).bind fun x21 =>
     if (if x17 < 0 then none else some (Int.toNat x17)) = none then
      if mm_cls w o = 11 then
       (mm_kI (mm_run (zP Z) 190 [.inr (.inr (some o)), .inl 4] w) fun x23 w22 =>
      some (some (.inl x23), w22))
      else none
     else
      if (if x21 < 0 then none else some (Int.toNat x21)) = none then
       if mm_cls w o = 11 then
        (mm_kI (mm_run (zP Z) 190 [.inr (.inr (some o)), .inl 4] w) fun x36 w35 =>
       some (some (.inl x36), w35))
       else none
      else
       (mm_gR w o 11 2).bind fun r24 =>
       (if x17 < 0 then none else some (Int.toNat x17)).bind fun q25 =>
       if mm_cls w q25 = 5 then
        (mm_kV (mm_run (zP Z) 47 [.inr (.inr (some q25)), .inr (.inr r24)] w) fun w26 =>
       (mm_gR w26 o 11 4).bind fun r27 =>
       (if x21 < 0 then none else some (Int.toNat x21)).bind fun q28 =>
       if mm_cls w26 q28 = 0 then
        (mm_kV (mm_run (zP Z) 2 [.inr (.inr (some q28)), .inr (.inr r27)] w26) fun w29 =>
       (mm_gI w29 o 11 14).bind fun x30 =>
       (mm_p w29 o 11 14 (.inl (mm_w32 (x30 + 1)))).bind fun w31 =>
       (mm_gI w31 o 11 14).bind fun x32 =>
       if mm_cls w31 o = 11 then
        (mm_kI (mm_run (zP Z) 191 [.inr (.inr (some o)), .inl x32] w31) fun x34 w33 =>
       some (some (.inl x34), w33))
       else none)
       else none)
       else none
    else
     if mm_cls w o = 11 then
      (mm_kI (mm_run (zP Z) 190 [.inr (.inr (some o)), .inl 4] w) fun x38 w37 =>
     some (some (.inl x38), w37))
     else none
   else
    if mm_cls w o = 11 then
     (mm_kI (mm_run (zP Z) 190 [.inr (.inr (some o)), .inl 4] w) fun x9 w8 =>
    some (some (.inl x9), w8))
    else none :=
  (mm_run_eq (P := zP Z) (y := 188) z_cd188 rfl (l := [some (.inr (.inr (some o))), none, none]) rfl [] 51 w).trans rfl

-- ThornSchool.undo()I
set_option maxRecDepth 100000 in
set_option maxHeartbeats 4000000 in
theorem B_X11_undo (Z : mX) (o : Nat) (w : mW) : mm_run (zP Z) 189 [.inr (.inr (some o))] w =
  (mm_gI w o 11 14).bind fun x1 =>
  if x1 < 1 then
   if mm_cls w o = 11 then
    (mm_kI (mm_run (zP Z) 190 [.inr (.inr (some o)), .inl 6] w) fun x3 w2 =>
   some (some (.inl x3), w2))
   else none
  else
   (mm_gI w o 11 14).bind fun x4 =>
   (mm_gR w o 11 7).bind fun r5 =>
   r5.bind fun q6 =>
   (mm_ln w q6).bind fun x7 =>
   if x7 < x4 then
    if mm_cls w o = 11 then
     (mm_kI (mm_run (zP Z) 190 [.inr (.inr (some o)), .inl 6] w) fun x9 w8 =>
    some (some (.inl x9), w8))
    else none
   else
    (mm_gI w o 11 14).bind fun x10 =>
    (mm_gR w o 11 8).bind fun r11 =>
    r11.bind fun q12 =>
    (mm_ln w q12).bind fun x13 =>
    if x13 < x10 then
     if mm_cls w o = 11 then
      (mm_kI (mm_run (zP Z) 190 [.inr (.inr (some o)), .inl 6] w) fun x38 w37 =>
     some (some (.inl x38), w37))
     else none
    else
     (mm_gR w o 11 7).bind fun r14 =>
     (mm_gI w o 11 14).bind fun x15 =>
     r14.bind fun q16 =>
     (mm_ld 15 w q16 (mm_w32 (x15 - 1))).bind fun x17 =>
     (mm_gR w o 11 8).bind fun r18 =>
     (mm_gI w o 11 14).bind fun x19 =>
     r18.bind fun q20 =>
     (mm_ld 10 w q20 (mm_w32 (x19 - 1))).bind fun x21 =>
     if (if x17 < 0 then none else some (Int.toNat x17)) = none then
      if mm_cls w o = 11 then
       (mm_kI (mm_run (zP Z) 190 [.inr (.inr (some o)), .inl 6] w) fun x23 w22 =>
      some (some (.inl x23), w22))
      else none
     else
      if (if x21 < 0 then none else some (Int.toNat x21)) = none then
       if mm_cls w o = 11 then
        (mm_kI (mm_run (zP Z) 190 [.inr (.inr (some o)), .inl 6] w) fun x36 w35 =>
       some (some (.inl x36), w35))
       else none
      else
       (mm_gI w o 11 14).bind fun x24 =>
       (mm_p w o 11 14 (.inl (mm_w32 (x24 - 1)))).bind fun w25 =>
       (mm_gR w25 o 11 2).bind fun r26 =>
       r26.bind fun q27 =>
       if mm_cls w25 q27 = 5 then
        (mm_kV (mm_run (zP Z) 47 [.inr (.inr (some q27)), .inr (.inr (if x17 < 0 then none else some (Int.toNat x17)))] w25) fun w28 =>
       (mm_gR w28 o 11 4).bind fun r29 =>
       r29.bind fun q30 =>
       if mm_cls w28 q30 = 0 then
        (mm_kV (mm_run (zP Z) 2 [.inr (.inr (some q30)), .inr (.inr (if x21 < 0 then none else some (Int.toNat x21)))] w28) fun w31 =>
       (mm_gI w31 o 11 14).bind fun x32 =>
       if mm_cls w31 o = 11 then
        (mm_kI (mm_run (zP Z) 191 [.inr (.inr (some o)), .inl x32] w31) fun x34 w33 =>
       some (some (.inl x34), w33))
       else none)
       else none)
       else none :=
  (mm_run_eq (P := zP Z) (y := 189) z_cd189 rfl (l := [some (.inr (.inr (some o))), none, none]) rfl [] 56 w).trans rfl

-- ThornSchool.none(I)I
set_option maxRecDepth 100000 in
set_option maxHeartbeats 4000000 in
theorem B_X11_none (Z : mX) (o : Nat) (a1 : Int) (w : mW) : mm_run (zP Z) 190 [.inr (.inr (some o)), .inl a1] w =
  (mm_p w o 11 15 (.inl a1)).bind fun w1 =>
  some (some (.inl (-1)), w1) :=
  (mm_run_eq (P := zP Z) (y := 190) z_cd190 rfl (l := [some (.inr (.inr (some o))), some (.inl a1)]) rfl [] 6 w).trans rfl

-- ThornSchool.done(I)I
set_option maxRecDepth 100000 in
set_option maxHeartbeats 4000000 in
theorem B_X11_done (Z : mX) (o : Nat) (a1 : Int) (w : mW) : mm_run (zP Z) 191 [.inr (.inr (some o)), .inl a1] w =
  (mm_p w o 11 15 (.inl 0)).bind fun w1 =>
  some (some (.inl a1), w1) :=
  (mm_run_eq (P := zP Z) (y := 191) z_cd191 rfl (l := [some (.inr (.inr (some o))), some (.inl a1)]) rfl [] 6 w).trans rfl

-- ThornSchool.refused(I)Z
set_option maxRecDepth 100000 in
set_option maxHeartbeats 4000000 in
theorem B_X11_refused (Z : mX) (o : Nat) (a1 : Int) (w : mW) : mm_run (zP Z) 192 [.inr (.inr (some o)), .inl a1] w =
  (mm_p w o 11 15 (.inl a1)).bind fun w1 =>
  some (some (.inl 0), w1) :=
  (mm_run_eq (P := zP Z) (y := 192) z_cd192 rfl (l := [some (.inr (.inr (some o))), some (.inl a1)]) rfl [] 6 w).trans rfl

-- ThornSchool.granted()Z
set_option maxRecDepth 100000 in
set_option maxHeartbeats 4000000 in
theorem B_X11_granted (Z : mX) (o : Nat) (w : mW) : mm_run (zP Z) 193 [.inr (.inr (some o))] w =
  (mm_p w o 11 15 (.inl 0)).bind fun w1 =>
  some (some (.inl 1), w1) :=
  (mm_run_eq (P := zP Z) (y := 193) z_cd193 rfl (l := [some (.inr (.inr (some o)))]) rfl [] 6 w).trans rfl

-- ThornSchool.tellFraction(JJ)V
set_option maxRecDepth 100000 in
set_option maxHeartbeats 4000000 in
theorem B_X11_tellFraction (Z : mX) (o : Nat) (a1 : Int) (a2 : Int) (w : mW) : mm_run (zP Z) 194 [.inr (.inr (some o)), .inr (.inl a1), .inr (.inl a2)] w =
  mm_at (zP Z) 194 6 [some (.inr (.inr (some o))), some (.inr (.inl a1)), none, some (.inr (.inl a2)), none, some (.inr (.inl a1)), none, some (.inr (.inl a2)), none, some (.inl 0), none, none] [] w :=
  (mm_run_eq (P := zP Z) (y := 194) z_cd194 rfl (l := [some (.inr (.inr (some o))), some (.inr (.inl a1)), none, some (.inr (.inl a2)), none, none, none, none, none, none, none, none]) rfl [6, 9, 13, 23] 7 w).trans rfl

set_option maxRecDepth 100000 in
set_option maxHeartbeats 4000000 in
theorem B_X11_tellFraction_6 (Z : mX) (o : Nat) (l1 : Int) (l3 : Int) (l5 : Int) (l7 : Int) (l9 : Int) (w : mW) : mm_at (zP Z) 194 6 [some (.inr (.inr (some o))), some (.inr (.inl l1)), none, some (.inr (.inl l3)), none, some (.inr (.inl l5)), none, some (.inr (.inl l7)), none, some (.inl l9), none, none] [] w =
  if l9 < 200 then
   mm_at (zP Z) 194 9 [some (.inr (.inr (some o))), some (.inr (.inl l1)), none, some (.inr (.inl l3)), none, some (.inr (.inl l5)), none, some (.inr (.inl l7)), none, some (.inl l9), none, none] [] w
  else
   mm_at (zP Z) 194 23 [some (.inr (.inr (some o))), some (.inr (.inl l1)), none, some (.inr (.inl l3)), none, some (.inr (.inl l5)), none, none, none, none, none, none] [] w :=
  (mm_V_eq (P := zP Z) (y := 194) z_cd194 [6, 9, 13, 23] 4 6 _ _ w).trans rfl

set_option maxRecDepth 100000 in
set_option maxHeartbeats 4000000 in
theorem B_X11_tellFraction_9 (Z : mX) (o : Nat) (l1 : Int) (l3 : Int) (l5 : Int) (l7 : Int) (l9 : Int) (w : mW) : mm_at (zP Z) 194 9 [some (.inr (.inr (some o))), some (.inr (.inl l1)), none, some (.inr (.inl l3)), none, some (.inr (.inl l5)), none, some (.inr (.inl l7)), none, some (.inl l9), none, none] [] w =
  if mm_lcmp l7 0 = 0 then
   mm_at (zP Z) 194 23 [some (.inr (.inr (some o))), some (.inr (.inl l1)), none, some (.inr (.inl l3)), none, some (.inr (.inl l5)), none, none, none, none, none, none] [] w
  else
   mm_at (zP Z) 194 13 [some (.inr (.inr (some o))), some (.inr (.inl l1)), none, some (.inr (.inl l3)), none, some (.inr (.inl l5)), none, some (.inr (.inl l7)), none, some (.inl l9), none, none] [] w :=
  (mm_V_eq (P := zP Z) (y := 194) z_cd194 [6, 9, 13, 23] 5 9 _ _ w).trans rfl

set_option maxRecDepth 100000 in
set_option maxHeartbeats 4000000 in
theorem B_X11_tellFraction_13 (Z : mX) (o : Nat) (l1 : Int) (l3 : Int) (l5 : Int) (l7 : Int) (l9 : Int) (w : mW) : mm_at (zP Z) 194 13 [some (.inr (.inr (some o))), some (.inr (.inl l1)), none, some (.inr (.inl l3)), none, some (.inr (.inl l5)), none, some (.inr (.inl l7)), none, some (.inl l9), none, none] [] w =
  if l7 = 0 then none else
  mm_at (zP Z) 194 6 [some (.inr (.inr (some o))), some (.inr (.inl l1)), none, some (.inr (.inl l3)), none, some (.inr (.inl l7)), none, some (.inr (.inl (mm_lrem l5 l7))), none, some (.inl (mm_w32 (l9 + 1))), none, none] [] w :=
  (mm_V_eq (P := zP Z) (y := 194) z_cd194 [6, 9, 13, 23] 11 13 _ _ w).trans rfl

set_option maxRecDepth 100000 in
set_option maxHeartbeats 4000000 in
theorem B_X11_tellFraction_23 (Z : mX) (o : Nat) (l1 : Int) (l3 : Int) (l5 : Int) (w : mW) : mm_at (zP Z) 194 23 [some (.inr (.inr (some o))), some (.inr (.inl l1)), none, some (.inr (.inl l3)), none, some (.inr (.inl l5)), none, none, none, none, none, none] [] w =
  if mm_lcmp l5 0 = 0 then
   some (none, w)
  else
   if l5 = 0 then none else
   (mm_p w o 11 16 (.inr (.inl (mm_ldiv l1 l5)))).bind fun w1 =>
   if l5 = 0 then none else
   (mm_p w1 o 11 17 (.inr (.inl (mm_ldiv l3 l5)))).bind fun w2 =>
   some (none, w2) :=
  (mm_V_eq (P := zP Z) (y := 194) z_cd194 [6, 9, 13, 23] 16 23 _ _ w).trans rfl

-- ThornSchool.trayAt(I)LThornSchool$Tray;
set_option maxRecDepth 100000 in
set_option maxHeartbeats 4000000 in
theorem B_X11_trayAt (Z : mX) (o : Nat) (a1 : Int) (w : mW) : mm_run (zP Z) 195 [.inr (.inr (some o)), .inl a1] w =
  if a1 < 0 then
   some (some (.inr (.inr none)), w)
  else
   (mm_gR w o 11 0).bind fun r1 =>
   r1.bind fun q2 =>
   (mm_ln w q2).bind fun x3 =>
   if a1 < x3 then
    (mm_gR w o 11 0).bind fun r4 =>
    r4.bind fun q5 =>
    (mm_ld 18 w q5 a1).bind fun x6 =>
    some (some (.inr (.inr (if x6 < 0 then none else some (Int.toNat x6)))), w)
   else
    some (some (.inr (.inr none)), w) :=
  (mm_run_eq (P := zP Z) (y := 195) z_cd195 rfl (l := [some (.inr (.inr (some o))), some (.inl a1)]) rfl [] 14 w).trans rfl

-- ThornSchool.troubleWith(LThornSchool$Tray;II)I
set_option maxRecDepth 100000 in
set_option maxHeartbeats 4000000 in
theorem B_X11_troubleWith (Z : mX) (o : Nat) (a1 : Option Nat) (a2 : Int) (a3 : Int) (w : mW) : mm_run (zP Z) 196 [.inr (.inr (some o)), .inr (.inr a1), .inl a2, .inl a3] w =
  if a1 = none then
   some (some (.inl 1), w)
  else
   a1.bind fun q1 =>
   if mm_cls w q1 = 8 then
    (mm_kI (mm_run (zP Z) 110 [.inr (.inr (some q1))] w) fun x3 w2 =>
   if x3 = 0 then
    a1.bind fun q4 =>
    if mm_cls w2 q4 = 8 then
     (mm_kI (mm_run (zP Z) 111 [.inr (.inr (some q4)), .inl a2, .inl a3] w2) fun x6 w5 =>
    if x6 = 0 then
     some (some (.inl 3), w5)
    else
     some (some (.inl 0), w5))
    else none
   else
    some (some (.inl 2), w2))
   else none :=
  (mm_run_eq (P := zP Z) (y := 196) z_cd196 rfl (l := [some (.inr (.inr (some o))), some (.inr (.inr a1)), some (.inl a2), some (.inl a3)]) rfl [] 14 w).trans rfl

-- ThornSchool.troubleWithTwos(ILThornSchool$Tray;I)I
set_option maxRecDepth 100000 in
set_option maxHeartbeats 4000000 in
theorem B_X11_troubleWithTwos (Z : mX) (o : Nat) (a1 : Int) (a2 : Option Nat) (a3 : Int) (w : mW) : mm_run (zP Z) 197 [.inr (.inr (some o)), .inl a1, .inr (.inr a2), .inl a3] w =
  (mm_gR w o 11 2).bind fun r1 =>
  r1.bind fun q2 =>
  if mm_cls w q2 = 5 then
   (mm_kI (mm_run (zP Z) 52 [.inr (.inr (some q2)), .inl a1] w) fun x4 w3 =>
  if x4 = 0 then
   some (some (.inl 1), w3)
  else
   mm_kI (mm_run (zP Z) 208 [.inl a3, .inl 0, .inl 20] w3) fun x6 w5 =>
   if x6 = 0 then
    some (some (.inl 1), w5)
   else
    if mm_cls w5 o = 11 then
     (mm_kI (mm_run (zP Z) 196 [.inr (.inr (some o)), .inr (.inr a2), .inl 0, .inl (mm_w32 (2 * a3))] w5) fun x8 w7 =>
    if a2 = none then
     some (some (.inl x8), w7)
    else
     if x8 = 0 then
      mm_at (zP Z) 197 28 [some (.inr (.inr (some o))), none, some (.inr (.inr a2)), some (.inl a3), none, some (.inl 0), none, none] [] w7
     else
      some (some (.inl x8), w7))
    else none)
  else none :=
  (mm_run_eq (P := zP Z) (y := 197) z_cd197 rfl (l := [some (.inr (.inr (some o))), some (.inl a1), some (.inr (.inr a2)), some (.inl a3), none, none, none, none]) rfl [28] 25 w).trans rfl

set_option maxRecDepth 100000 in
set_option maxHeartbeats 4000000 in
theorem B_X11_troubleWithTwos_28 (Z : mX) (o : Nat) (l2 : Option Nat) (l3 : Int) (l5 : Int) (w : mW) : mm_at (zP Z) 197 28 [some (.inr (.inr (some o))), none, some (.inr (.inr l2)), some (.inl l3), none, some (.inl l5), none, none] [] w =
  if l5 < l3 then
   l2.bind fun q1 =>
   if mm_cls w q1 = 8 then
    (mm_kJ (mm_run (zP Z) 112 [.inr (.inr (some q1)), .inl (mm_w32 ((mm_w32 (2 * l5)) + 1))] w) fun x3 w2 =>
   (mm_gR w2 o 11 2).bind fun r4 =>
   l2.bind fun q5 =>
   if mm_cls w2 q5 = 8 then
    (mm_kJ (mm_run (zP Z) 112 [.inr (.inr (some q5)), .inl (mm_w32 (2 * l5))] w2) fun x7 w6 =>
   r4.bind fun q8 =>
   if mm_cls w6 q8 = 5 then
    (mm_kI (mm_run (zP Z) 50 [.inr (.inr (some q8)), .inr (.inl x7)] w6) fun x10 w9 =>
   if x10 = 0 then
    some (some (.inl 5), w9)
   else
    if mm_lcmp x3 0 < 0 then
     some (some (.inl 5), w9)
    else
     if 0 < mm_lcmp x3 18 then
      some (some (.inl 5), w9)
     else
      mm_at (zP Z) 197 28 [some (.inr (.inr (some o))), none, some (.inr (.inr l2)), some (.inl l3), none, some (.inl (mm_w32 (l5 + 1))), none, none] [] w9)
   else none)
   else none)
   else none
  else
   some (some (.inl 0), w) :=
  (mm_V_eq (P := zP Z) (y := 197) z_cd197 [28] 31 28 _ _ w).trans rfl

-- ThornSchool.areTwo(II)Z
set_option maxRecDepth 100000 in
set_option maxHeartbeats 4000000 in
theorem B_X11_areTwo (Z : mX) (o : Nat) (a1 : Int) (a2 : Int) (w : mW) : mm_run (zP Z) 198 [.inr (.inr (some o)), .inl a1, .inl a2] w =
  (mm_gR w o 11 2).bind fun r1 =>
  r1.bind fun q2 =>
  if mm_cls w q2 = 5 then
   (mm_kI (mm_run (zP Z) 52 [.inr (.inr (some q2)), .inl a1] w) fun x4 w3 =>
  if x4 = 0 then
   some (some (.inl 0), w3)
  else
   (mm_gR w3 o 11 2).bind fun r5 =>
   r5.bind fun q6 =>
   if mm_cls w3 q6 = 5 then
    (mm_kI (mm_run (zP Z) 52 [.inr (.inr (some q6)), .inl a2] w3) fun x8 w7 =>
   if x8 = 0 then
    some (some (.inl 0), w7)
   else
    if a1 = a2 then
     some (some (.inl 0), w7)
    else
     some (some (.inl 1), w7))
   else none)
  else none :=
  (mm_run_eq (P := zP Z) (y := 198) z_cd198 rfl (l := [some (.inr (.inr (some o))), some (.inl a1), some (.inl a2)]) rfl [] 17 w).trans rfl

-- ThornSchool.get([II)I
set_option maxRecDepth 100000 in
set_option maxHeartbeats 4000000 in
theorem B_X11_get (Z : mX) (a0 : Option Nat) (a1 : Int) (w : mW) : mm_run (zP Z) 199 [.inr (.inr a0), .inl a1] w =
  if a0 = none then
   some (some (.inl 0), w)
  else
   if a1 < 0 then
    some (some (.inl 0), w)
   else
    a0.bind fun q1 =>
    (mm_ln w q1).bind fun x2 =>
    if a1 < x2 then
     a0.bind fun q3 =>
     (mm_ld 0 w q3 a1).bind fun x4 =>
     some (some (.inl x4), w)
    else
     some (some (.inl 0), w) :=
  (mm_run_eq (P := zP Z) (y := 199) z_cd199 rfl (l := [some (.inr (.inr a0)), some (.inl a1)]) rfl [] 14 w).trans rfl

-- ThornSchool.put([III)V
set_option maxRecDepth 100000 in
set_option maxHeartbeats 4000000 in
theorem B_X11_put (Z : mX) (a0 : Option Nat) (a1 : Int) (a2 : Int) (w : mW) : mm_run (zP Z) 200 [.inr (.inr a0), .inl a1, .inl a2] w =
  if a0 = none then
   some (none, w)
  else
   if a1 < 0 then
    some (none, w)
   else
    a0.bind fun q1 =>
    (mm_ln w q1).bind fun x2 =>
    if a1 < x2 then
     a0.bind fun q3 =>
     (mm_st 0 w q3 a1 a2).bind fun w4 =>
     some (none, w4)
    else
     some (none, w) :=
  (mm_run_eq (P := zP Z) (y := 200) z_cd200 rfl (l := [some (.inr (.inr a0)), some (.inl a1), some (.inl a2)]) rfl [] 14 w).trans rfl

-- ThornSchool.exchange([III)I
set_option maxRecDepth 100000 in
set_option maxHeartbeats 4000000 in
theorem B_X11_exchange (Z : mX) (a0 : Option Nat) (a1 : Int) (a2 : Int) (w : mW) : mm_run (zP Z) 201 [.inr (.inr a0), .inl a1, .inl a2] w =
  mm_kI (mm_run (zP Z) 199 [.inr (.inr a0), .inl a1] w) fun x2 w1 =>
  mm_kV (mm_run (zP Z) 200 [.inr (.inr a0), .inl a1, .inl a2] w1) fun w3 =>
  some (some (.inl x2), w3) :=
  (mm_run_eq (P := zP Z) (y := 201) z_cd201 rfl (l := [some (.inr (.inr a0)), some (.inl a1), some (.inl a2), none]) rfl [] 11 w).trans rfl

-- ThornSchool.fill([II)V
set_option maxRecDepth 100000 in
set_option maxHeartbeats 4000000 in
theorem B_X11_fill (Z : mX) (a0 : Option Nat) (a1 : Int) (w : mW) : mm_run (zP Z) 202 [.inr (.inr a0), .inl a1] w =
  if a0 = none then
   some (none, w)
  else
   mm_at (zP Z) 202 5 [some (.inr (.inr a0)), some (.inl a1), some (.inl 0)] [] w :=
  (mm_run_eq (P := zP Z) (y := 202) z_cd202 rfl (l := [some (.inr (.inr a0)), some (.inl a1), none]) rfl [5] 5 w).trans rfl

set_option maxRecDepth 100000 in
set_option maxHeartbeats 4000000 in
theorem B_X11_fill_5 (Z : mX) (l0 : Option Nat) (l1 : Int) (l2 : Int) (w : mW) : mm_at (zP Z) 202 5 [some (.inr (.inr l0)), some (.inl l1), some (.inl l2)] [] w =
  l0.bind fun q1 =>
  (mm_ln w q1).bind fun x2 =>
  if l2 < x2 then
   l0.bind fun q3 =>
   (mm_st 0 w q3 l2 l1).bind fun w4 =>
   mm_at (zP Z) 202 5 [some (.inr (.inr l0)), some (.inl l1), some (.inl (mm_w32 (l2 + 1)))] [] w4
  else
   some (none, w) :=
  (mm_V_eq (P := zP Z) (y := 202) z_cd202 [5] 11 5 _ _ w).trans rfl

-- ThornSchool.copy([I[I)V
set_option maxRecDepth 100000 in
set_option maxHeartbeats 4000000 in
theorem B_X11_copy (Z : mX) (a0 : Option Nat) (a1 : Option Nat) (w : mW) : mm_run (zP Z) 203 [.inr (.inr a0), .inr (.inr a1)] w =
  if a0 = none then
   some (none, w)
  else
   if a1 = none then
    some (none, w)
   else
    mm_at (zP Z) 203 7 [some (.inr (.inr a0)), some (.inr (.inr a1)), some (.inl 0)] [] w :=
  (mm_run_eq (P := zP Z) (y := 203) z_cd203 rfl (l := [some (.inr (.inr a0)), some (.inr (.inr a1)), none]) rfl [7] 7 w).trans rfl

set_option maxRecDepth 100000 in
set_option maxHeartbeats 4000000 in
theorem B_X11_copy_7 (Z : mX) (l0 : Option Nat) (l1 : Option Nat) (l2 : Int) (w : mW) : mm_at (zP Z) 203 7 [some (.inr (.inr l0)), some (.inr (.inr l1)), some (.inl l2)] [] w =
  l0.bind fun q1 =>
  (mm_ln w q1).bind fun x2 =>
  if l2 < x2 then
   l1.bind fun q3 =>
   (mm_ln w q3).bind fun x4 =>
   if l2 < x4 then
    l0.bind fun q5 =>
    (mm_ld 0 w q5 l2).bind fun x6 =>
    l1.bind fun q7 =>
    (mm_st 0 w q7 l2 x6).bind fun w8 =>
    mm_at (zP Z) 203 7 [some (.inr (.inr l0)), some (.inr (.inr l1)), some (.inl (mm_w32 (l2 + 1)))] [] w8
   else
    some (none, w)
  else
   some (none, w) :=
  (mm_V_eq (P := zP Z) (y := 203) z_cd203 [7] 17 7 _ _ w).trans rfl

-- ThornSchool.copy([J[J)V
set_option maxRecDepth 100000 in
set_option maxHeartbeats 4000000 in
theorem B_X11_copy_ (Z : mX) (a0 : Option Nat) (a1 : Option Nat) (w : mW) : mm_run (zP Z) 204 [.inr (.inr a0), .inr (.inr a1)] w =
  if a0 = none then
   some (none, w)
  else
   if a1 = none then
    some (none, w)
   else
    mm_at (zP Z) 204 7 [some (.inr (.inr a0)), some (.inr (.inr a1)), some (.inl 0)] [] w :=
  (mm_run_eq (P := zP Z) (y := 204) z_cd204 rfl (l := [some (.inr (.inr a0)), some (.inr (.inr a1)), none]) rfl [7] 7 w).trans rfl

set_option maxRecDepth 100000 in
set_option maxHeartbeats 4000000 in
theorem B_X11_copy__7 (Z : mX) (l0 : Option Nat) (l1 : Option Nat) (l2 : Int) (w : mW) : mm_at (zP Z) 204 7 [some (.inr (.inr l0)), some (.inr (.inr l1)), some (.inl l2)] [] w =
  l0.bind fun q1 =>
  (mm_ln w q1).bind fun x2 =>
  if l2 < x2 then
   l1.bind fun q3 =>
   (mm_ln w q3).bind fun x4 =>
   if l2 < x4 then
    l0.bind fun q5 =>
    (mm_ld 3 w q5 l2).bind fun x6 =>
    l1.bind fun q7 =>
    (mm_st 3 w q7 l2 x6).bind fun w8 =>
    mm_at (zP Z) 204 7 [some (.inr (.inr l0)), some (.inr (.inr l1)), some (.inl (mm_w32 (l2 + 1)))] [] w8
   else
    some (none, w)
  else
   some (none, w) :=
  (mm_V_eq (P := zP Z) (y := 204) z_cd204 [7] 17 7 _ _ w).trans rfl

-- ThornSchool.sum([I)I
set_option maxRecDepth 100000 in
set_option maxHeartbeats 4000000 in
theorem B_X11_sum (Z : mX) (a0 : Option Nat) (w : mW) : mm_run (zP Z) 205 [.inr (.inr a0)] w =
  mm_at (zP Z) 205 4 [some (.inr (.inr a0)), some (.inl 0), some (.inl 0)] [] w :=
  (mm_run_eq (P := zP Z) (y := 205) z_cd205 rfl (l := [some (.inr (.inr a0)), none, none]) rfl [4] 5 w).trans rfl

set_option maxRecDepth 100000 in
set_option maxHeartbeats 4000000 in
theorem B_X11_sum_4 (Z : mX) (l0 : Option Nat) (l1 : Int) (l2 : Int) (w : mW) : mm_at (zP Z) 205 4 [some (.inr (.inr l0)), some (.inl l1), some (.inl l2)] [] w =
  if l0 = none then
   some (some (.inl l1), w)
  else
   l0.bind fun q1 =>
   (mm_ln w q1).bind fun x2 =>
   if l2 < x2 then
    l0.bind fun q3 =>
    (mm_ld 0 w q3 l2).bind fun x4 =>
    mm_at (zP Z) 205 4 [some (.inr (.inr l0)), some (.inl (mm_w32 (l1 + x4))), some (.inl (mm_w32 (l2 + 1)))] [] w
   else
    some (some (.inl l1), w) :=
  (mm_V_eq (P := zP Z) (y := 205) z_cd205 [4] 15 4 _ _ w).trans rfl

-- ThornSchool.bit(I)I
set_option maxRecDepth 100000 in
set_option maxHeartbeats 4000000 in
theorem B_X11_bit (Z : mX) (a0 : Int) (w : mW) : mm_run (zP Z) 206 [.inl a0] w =
  some (some (.inl (mm_ishl 1 a0)), w) :=
  (mm_run_eq (P := zP Z) (y := 206) z_cd206 rfl (l := [some (.inl a0)]) rfl [] 5 w).trans rfl

-- ThornSchool.has(II)Z
set_option maxRecDepth 100000 in
set_option maxHeartbeats 4000000 in
theorem B_X11_has (Z : mX) (a0 : Int) (a1 : Int) (w : mW) : mm_run (zP Z) 207 [.inl a0, .inl a1] w =
  if mm_iand (mm_iushr a0 a1) 1 = 1 then
   some (some (.inl 1), w)
  else
   some (some (.inl 0), w) :=
  (mm_run_eq (P := zP Z) (y := 207) z_cd207 rfl (l := [some (.inl a0), some (.inl a1)]) rfl [] 11 w).trans rfl

-- ThornSchool.isIn(III)Z
set_option maxRecDepth 100000 in
set_option maxHeartbeats 4000000 in
theorem B_X11_isIn (Z : mX) (a0 : Int) (a1 : Int) (a2 : Int) (w : mW) : mm_run (zP Z) 208 [.inl a0, .inl a1, .inl a2] w =
  if a0 < a1 then
   some (some (.inl 0), w)
  else
   if a2 < a0 then
    some (some (.inl 0), w)
   else
    some (some (.inl 1), w) :=
  (mm_run_eq (P := zP Z) (y := 208) z_cd208 rfl (l := [some (.inl a0), some (.inl a1), some (.inl a2)]) rfl [] 10 w).trans rfl

-- ThornSchool.power(JI)J
set_option maxRecDepth 100000 in
set_option maxHeartbeats 4000000 in
theorem B_X11_power (Z : mX) (a0 : Int) (a1 : Int) (w : mW) : mm_run (zP Z) 209 [.inr (.inl a0), .inl a1] w =
  mm_at (zP Z) 209 4 [some (.inr (.inl a0)), none, some (.inl a1), some (.inr (.inl 1)), none, some (.inl 0)] [] w :=
  (mm_run_eq (P := zP Z) (y := 209) z_cd209 rfl (l := [some (.inr (.inl a0)), none, some (.inl a1), none, none, none]) rfl [4] 5 w).trans rfl

set_option maxRecDepth 100000 in
set_option maxHeartbeats 4000000 in
theorem B_X11_power_4 (Z : mX) (l0 : Int) (l2 : Int) (l3 : Int) (l5 : Int) (w : mW) : mm_at (zP Z) 209 4 [some (.inr (.inl l0)), none, some (.inl l2), some (.inr (.inl l3)), none, some (.inl l5)] [] w =
  if l5 < l2 then
   mm_at (zP Z) 209 4 [some (.inr (.inl l0)), none, some (.inl l2), some (.inr (.inl (mm_w64 (l3 * l0)))), none, some (.inl (mm_w32 (l5 + 1)))] [] w
  else
   some (some (.inr (.inl l3)), w) :=
  (mm_V_eq (P := zP Z) (y := 209) z_cd209 [4] 10 4 _ _ w).trans rfl

