/-! printed by wip/whole/gen/emit.py: each method of the mini machine up to its labels -/
-- ThornSchoolModel.catches(II)I
set_option maxRecDepth 100000 in
set_option maxHeartbeats 4000000 in
theorem B_X12_catches (Z : mX) (o : Nat) (a1 : Int) (a2 : Int) (w : mW) : mm_run (zP Z) 287 [.inr (.inr (some o)), .inl a1, .inl a2] w =
  if mm_cls w o = 12 then
   (mm_kI (mm_run (zP Z) 272 [.inr (.inr (some o)), .inl a1] w) fun x2 w1 =>
  if x2 = 0 then
   if mm_cls w1 o = 12 then
    (mm_kI (mm_run (zP Z) 216 [.inr (.inr (some o)), .inl 1] w1) fun x4 w3 =>
   some (some (.inl x4), w3))
   else none
  else
   if mm_cls w1 o = 12 then
    (mm_kI (mm_run (zP Z) 270 [.inr (.inr (some o)), .inl a2] w1) fun x6 w5 =>
   if x6 = 0 then
    if mm_cls w5 o = 12 then
     (mm_kI (mm_run (zP Z) 216 [.inr (.inr (some o)), .inl 1] w5) fun x12 w11 =>
    some (some (.inl x12), w11))
    else none
   else
    if mm_cls w5 o = 12 then
     (mm_kI (mm_run (zP Z) 277 [.inr (.inr (some o)), .inl a1, .inl a2] w5) fun x8 w7 =>
    if mm_cls w7 o = 12 then
     (mm_kI (mm_run (zP Z) 217 [.inr (.inr (some o)), .inl x8] w7) fun x10 w9 =>
    some (some (.inl x10), w9))
    else none)
    else none)
   else none)
  else none :=
  (mm_run_eq (P := zP Z) (y := 287) z_cd287 rfl (l := [some (.inr (.inr (some o))), some (.inl a1), some (.inl a2)]) rfl [] 16 w).trans rfl

-- ThornSchoolModel.sideOf(II)I
set_option maxRecDepth 100000 in
set_option maxHeartbeats 4000000 in
theorem B_X12_sideOf (Z : mX) (o : Nat) (a1 : Int) (a2 : Int) (w : mW) : mm_run (zP Z) 288 [.inr (.inr (some o)), .inl a1, .inl a2] w =
  (mm_gR w o 12 0).bind fun r1 =>
  r1.bind fun q2 =>
  (mm_ld 0 w q2 0).bind fun x3 =>
  if a2 = 0 then
   if x3 = 0 then none else
   if 0 < mm_irem a1 x3 then
    some (some (.inl (mm_w32 (a1 - 1))), w)
   else
    some (some (.inl (-1)), w)
  else if a2 = 1 then
   if x3 = 0 then none else
   if mm_irem a1 x3 < mm_w32 (x3 - 1) then
    some (some (.inl (mm_w32 (a1 + 1))), w)
   else
    some (some (.inl (-1)), w)
  else if a2 = 2 then
   if a1 < x3 then
    some (some (.inl (-1)), w)
   else
    some (some (.inl (mm_w32 (a1 - x3))), w)
  else if mm_cls w o = 12 then
    (mm_kI (mm_run (zP Z) 248 [.inr (.inr (some o)), .inl 0] w) fun x5 w4 =>
   if mm_w32 (a1 + x3) < x5 then
    some (some (.inl (mm_w32 (a1 + x3))), w4)
   else
    some (some (.inl (-1)), w4))
   else none :=
  (mm_run_eq (P := zP Z) (y := 288) z_cd288 rfl (l := [some (.inr (.inr (some o))), some (.inl a1), some (.inl a2), none]) rfl [] 20 w).trans rfl

-- ThornSchoolModel.isNear(II)Z
set_option maxRecDepth 100000 in
set_option maxHeartbeats 4000000 in
theorem B_X12_isNear (Z : mX) (o : Nat) (a1 : Int) (a2 : Int) (w : mW) : mm_run (zP Z) 289 [.inr (.inr (some o)), .inl a1, .inl a2] w =
  if a1 = a2 then
   mm_at (zP Z) 289 9 [some (.inr (.inr (some o))), some (.inl a1), some (.inl a2), some (.inl 1), some (.inl 0)] [] w
  else
   mm_at (zP Z) 289 9 [some (.inr (.inr (some o))), some (.inl a1), some (.inl a2), some (.inl 0), some (.inl 0)] [] w :=
  (mm_run_eq (P := zP Z) (y := 289) z_cd289 rfl (l := [some (.inr (.inr (some o))), some (.inl a1), some (.inl a2), none, none]) rfl [9] 9 w).trans rfl

set_option maxRecDepth 100000 in
set_option maxHeartbeats 4000000 in
theorem B_X12_isNear_9 (Z : mX) (o : Nat) (l1 : Int) (l2 : Int) (l3 : Int) (l4 : Int) (w : mW) : mm_at (zP Z) 289 9 [some (.inr (.inr (some o))), some (.inl l1), some (.inl l2), some (.inl l3), some (.inl l4)] [] w =
  if l4 < 4 then
   if l3 = 0 then
    if mm_cls w o = 12 then
     (mm_kI (mm_run (zP Z) 288 [.inr (.inr (some o)), .inl l1, .inl l4] w) fun x2 w1 =>
    if x2 = l2 then
     mm_at (zP Z) 289 9 [some (.inr (.inr (some o))), some (.inl l1), some (.inl l2), some (.inl 1), some (.inl (mm_w32 (l4 + 1)))] [] w1
    else
     mm_at (zP Z) 289 9 [some (.inr (.inr (some o))), some (.inl l1), some (.inl l2), some (.inl 0), some (.inl (mm_w32 (l4 + 1)))] [] w1)
    else none
   else
    mm_at (zP Z) 289 9 [some (.inr (.inr (some o))), some (.inl l1), some (.inl l2), some (.inl 1), some (.inl (mm_w32 (l4 + 1)))] [] w
  else
   if l3 = 0 ∨ l3 = 1 then some (some (.inl l3), w) else none :=
  (mm_V_eq (P := zP Z) (y := 289) z_cd289 [9] 17 9 _ _ w).trans rfl

-- ThornSchoolModel.goes(II)I
set_option maxRecDepth 100000 in
set_option maxHeartbeats 4000000 in
theorem B_X12_goes (Z : mX) (o : Nat) (a1 : Int) (a2 : Int) (w : mW) : mm_run (zP Z) 290 [.inr (.inr (some o)), .inl a1, .inl a2] w =
  if mm_cls w o = 12 then
   (mm_kI (mm_run (zP Z) 274 [.inr (.inr (some o)), .inl a1, .inl 0] w) fun x2 w1 =>
  if mm_cls w1 o = 12 then
   (mm_kI (mm_run (zP Z) 288 [.inr (.inr (some o)), .inl x2, .inl a2] w1) fun x4 w3 =>
  if mm_cls w3 o = 12 then
   (mm_kI (mm_run (zP Z) 278 [.inr (.inr (some o)), .inl a1] w3) fun x6 w5 =>
  if x6 = 0 then
   if x4 = (-1) then
    some (some (.inl (-1)), w5)
   else
    if mm_cls w5 o = 12 then
     (mm_kI (mm_run (zP Z) 277 [.inr (.inr (some o)), .inl a1, .inl x4] w5) fun x8 w7 =>
    (mm_gR w7 o 12 0).bind fun r9 =>
    mm_kI (mm_run (zP Z) 247 [.inl a1] w7) fun x11 w10 =>
    r9.bind fun q12 =>
    (mm_st 0 w10 q12 x11 x4).bind fun w13 =>
    (mm_gR w13 o 12 0).bind fun r14 =>
    mm_kI (mm_run (zP Z) 247 [.inl a1] w13) fun x16 w15 =>
    r14.bind fun q17 =>
    (mm_st 0 w15 q17 (mm_w32 (x16 + 3)) x8).bind fun w18 =>
    some (some (.inl x8), w18))
    else none
  else
   some (some (.inl (-1)), w5))
  else none)
  else none)
  else none :=
  (mm_run_eq (P := zP Z) (y := 290) z_cd290 rfl (l := [some (.inr (.inr (some o))), some (.inl a1), some (.inl a2), none, none]) rfl [] 37 w).trans rfl

-- ThornSchoolModel.go(II)I
set_option maxRecDepth 100000 in
set_option maxHeartbeats 4000000 in
theorem B_X12_go (Z : mX) (o : Nat) (a1 : Int) (a2 : Int) (w : mW) : mm_run (zP Z) 291 [.inr (.inr (some o)), .inl a1, .inl a2] w =
  if mm_cls w o = 12 then
   (mm_kI (mm_run (zP Z) 272 [.inr (.inr (some o)), .inl a1] w) fun x2 w1 =>
  if x2 = 0 then
   if mm_cls w1 o = 12 then
    (mm_kI (mm_run (zP Z) 216 [.inr (.inr (some o)), .inl 1] w1) fun x4 w3 =>
   some (some (.inl x4), w3))
   else none
  else
   mm_kI (mm_run (zP Z) 227 [.inr (.inl a2), .inr (.inl 0), .inr (.inl 3)] w1) fun x6 w5 =>
   if x6 = 0 then
    if mm_cls w5 o = 12 then
     (mm_kI (mm_run (zP Z) 216 [.inr (.inr (some o)), .inl 1] w5) fun x14 w13 =>
    some (some (.inl x14), w13))
    else none
   else
    if mm_cls w5 o = 12 then
     (mm_kI (mm_run (zP Z) 290 [.inr (.inr (some o)), .inl a1, .inl a2] w5) fun x8 w7 =>
    if x8 = (-1) then
     if mm_cls w7 o = 12 then
      (mm_kI (mm_run (zP Z) 216 [.inr (.inr (some o)), .inl 7] w7) fun x12 w11 =>
     some (some (.inl x12), w11))
     else none
    else
     if mm_cls w7 o = 12 then
      (mm_kI (mm_run (zP Z) 217 [.inr (.inr (some o)), .inl x8] w7) fun x10 w9 =>
     some (some (.inl x10), w9))
     else none)
    else none)
  else none :=
  (mm_run_eq (P := zP Z) (y := 291) z_cd291 rfl (l := [some (.inr (.inr (some o))), some (.inl a1), some (.inl a2), none]) rfl [] 24 w).trans rfl

-- ThornSchoolModel.nextLesson(I)I
set_option maxRecDepth 100000 in
set_option maxHeartbeats 4000000 in
theorem B_X12_nextLesson (Z : mX) (o : Nat) (a1 : Int) (w : mW) : mm_run (zP Z) 292 [.inr (.inr (some o)), .inl a1] w =
  if mm_cls w o = 12 then
   (mm_kI (mm_run (zP Z) 274 [.inr (.inr (some o)), .inl a1, .inl 2] w) fun x2 w1 =>
  mm_at (zP Z) 292 7 [some (.inr (.inr (some o))), none, some (.inl x2), some (.inl 0)] [] w1)
  else none :=
  (mm_run_eq (P := zP Z) (y := 292) z_cd292 rfl (l := [some (.inr (.inr (some o))), some (.inl a1), none, none]) rfl [7] 8 w).trans rfl

set_option maxRecDepth 100000 in
set_option maxHeartbeats 4000000 in
theorem B_X12_nextLesson_7 (Z : mX) (o : Nat) (l2 : Int) (l3 : Int) (w : mW) : mm_at (zP Z) 292 7 [some (.inr (.inr (some o))), none, some (.inl l2), some (.inl l3)] [] w =
  (mm_gR w o 12 0).bind fun r1 =>
  r1.bind fun q2 =>
  (mm_ld 0 w q2 2).bind fun x3 =>
  if l3 < x3 then
   if mm_cls w o = 12 then
    (mm_kI (mm_run (zP Z) 249 [.inr (.inr (some o)), .inl l2, .inl l3] w) fun x5 w4 =>
   if x5 = 0 then
    if mm_cls w4 o = 12 then
     (mm_kI (mm_run (zP Z) 275 [.inr (.inr (some o)), .inl l3] w4) fun x7 w6 =>
    if mm_iand x7 (mm_ixor l2 (-1)) = 0 then
     some (some (.inl l3), w6)
    else
     mm_at (zP Z) 292 7 [some (.inr (.inr (some o))), none, some (.inl l2), some (.inl (mm_w32 (l3 + 1)))] [] w6)
    else none
   else
    mm_at (zP Z) 292 7 [some (.inr (.inr (some o))), none, some (.inl l2), some (.inl (mm_w32 (l3 + 1)))] [] w4)
   else none
  else
   some (some (.inl (-1)), w) :=
  (mm_V_eq (P := zP Z) (y := 292) z_cd292 [7] 22 7 _ _ w).trans rfl

-- ThornSchoolModel.canFree(II)Z
set_option maxRecDepth 100000 in
set_option maxHeartbeats 4000000 in
theorem B_X12_canFree (Z : mX) (o : Nat) (a1 : Int) (a2 : Int) (w : mW) : mm_run (zP Z) 293 [.inr (.inr (some o)), .inl a1, .inl a2] w =
  if a1 = a2 then
   some (some (.inl 0), w)
  else
   if mm_cls w o = 12 then
    (mm_kI (mm_run (zP Z) 278 [.inr (.inr (some o)), .inl a1] w) fun x2 w1 =>
   if x2 = 0 then
    if mm_cls w1 o = 12 then
     (mm_kI (mm_run (zP Z) 278 [.inr (.inr (some o)), .inl a2] w1) fun x4 w3 =>
    if x4 = 0 then
     some (some (.inl 0), w3)
    else
     if mm_cls w3 o = 12 then
      (mm_kI (mm_run (zP Z) 274 [.inr (.inr (some o)), .inl a1, .inl 0] w3) fun x6 w5 =>
     if mm_cls w5 o = 12 then
      (mm_kI (mm_run (zP Z) 274 [.inr (.inr (some o)), .inl a2, .inl 0] w5) fun x8 w7 =>
     if mm_cls w7 o = 12 then
      (mm_kI (mm_run (zP Z) 289 [.inr (.inr (some o)), .inl x6, .inl x8] w7) fun x10 w9 =>
     if x10 = 0 then
      some (some (.inl 0), w9)
     else
      some (some (.inl 1), w9))
     else none)
     else none)
     else none)
    else none
   else
    some (some (.inl 0), w1))
   else none :=
  (mm_run_eq (P := zP Z) (y := 293) z_cd293 rfl (l := [some (.inr (.inr (some o))), some (.inl a1), some (.inl a2)]) rfl [] 26 w).trans rfl

-- ThornSchoolModel.frees(I)V
set_option maxRecDepth 100000 in
set_option maxHeartbeats 4000000 in
theorem B_X12_frees (Z : mX) (o : Nat) (a1 : Int) (w : mW) : mm_run (zP Z) 294 [.inr (.inr (some o)), .inl a1] w =
  mm_kI (mm_run (zP Z) 247 [.inl a1] w) fun x2 w1 =>
  (mm_gR w1 o 12 0).bind fun r3 =>
  r3.bind fun q4 =>
  (mm_ld 0 w1 q4 (mm_w32 (x2 + 3))).bind fun x5 =>
  r3.bind fun q6 =>
  (mm_st 0 w1 q6 (mm_w32 (x2 + 3)) (mm_w32 (x5 - 1))).bind fun w7 =>
  (mm_gR w7 o 12 0).bind fun r8 =>
  r8.bind fun q9 =>
  (mm_ld 0 w7 q9 (mm_w32 (x2 + 3))).bind fun x10 =>
  if x10 = 0 then
   if mm_cls w7 o = 12 then
    (mm_kI (mm_run (zP Z) 292 [.inr (.inr (some o)), .inl a1] w7) fun x12 w11 =>
   mm_at (zP Z) 294 25 [some (.inr (.inr (some o))), none, some (.inl x2), none] [.inl x12] w11)
   else none
  else
   mm_at (zP Z) 294 25 [some (.inr (.inr (some o))), none, some (.inl x2), none] [.inl (-1)] w7 :=
  (mm_run_eq (P := zP Z) (y := 294) z_cd294 rfl (l := [some (.inr (.inr (some o))), some (.inl a1), none, none]) rfl [25] 25 w).trans rfl

set_option maxRecDepth 100000 in
set_option maxHeartbeats 4000000 in
theorem B_X12_frees_25 (Z : mX) (o : Nat) (l2 : Int) (s0 : Int) (w : mW) : mm_at (zP Z) 294 25 [some (.inr (.inr (some o))), none, some (.inl l2), none] [.inl s0] w =
  if s0 = (-1) then
   some (none, w)
  else
   (mm_gR w o 12 0).bind fun r1 =>
   r1.bind fun q2 =>
   (mm_ld 0 w q2 (mm_w32 (l2 + 2))).bind fun x3 =>
   r1.bind fun q4 =>
   (mm_st 0 w q4 (mm_w32 (l2 + 2)) (mm_ior x3 (mm_ishl 1 s0))).bind fun w5 =>
   (mm_gI w5 o 12 24).bind fun x6 =>
   (mm_p w5 o 12 24 (.inl (mm_w32 (x6 + 1)))).bind fun w7 =>
   some (none, w7) :=
  (mm_V_eq (P := zP Z) (y := 294) z_cd294 [25] 24 25 _ _ w).trans rfl

-- ThornSchoolModel.free(II)I
set_option maxRecDepth 100000 in
set_option maxHeartbeats 4000000 in
theorem B_X12_free (Z : mX) (o : Nat) (a1 : Int) (a2 : Int) (w : mW) : mm_run (zP Z) 295 [.inr (.inr (some o)), .inl a1, .inl a2] w =
  if mm_cls w o = 12 then
   (mm_kI (mm_run (zP Z) 272 [.inr (.inr (some o)), .inl a1] w) fun x2 w1 =>
  if x2 = 0 then
   if mm_cls w1 o = 12 then
    (mm_kI (mm_run (zP Z) 216 [.inr (.inr (some o)), .inl 1] w1) fun x4 w3 =>
   some (some (.inl x4), w3))
   else none
  else
   if mm_cls w1 o = 12 then
    (mm_kI (mm_run (zP Z) 272 [.inr (.inr (some o)), .inl a2] w1) fun x6 w5 =>
   if x6 = 0 then
    if mm_cls w5 o = 12 then
     (mm_kI (mm_run (zP Z) 216 [.inr (.inr (some o)), .inl 1] w5) fun x8 w7 =>
    some (some (.inl x8), w7))
    else none
   else
    if a1 = a2 then
     if mm_cls w5 o = 12 then
      (mm_kI (mm_run (zP Z) 216 [.inr (.inr (some o)), .inl 1] w5) fun x19 w18 =>
     some (some (.inl x19), w18))
     else none
    else
     if mm_cls w5 o = 12 then
      (mm_kI (mm_run (zP Z) 293 [.inr (.inr (some o)), .inl a1, .inl a2] w5) fun x10 w9 =>
     if x10 = 0 then
      if mm_cls w9 o = 12 then
       (mm_kI (mm_run (zP Z) 216 [.inr (.inr (some o)), .inl 7] w9) fun x17 w16 =>
      some (some (.inl x17), w16))
      else none
     else
      if mm_cls w9 o = 12 then
       (mm_kV (mm_run (zP Z) 294 [.inr (.inr (some o)), .inl a2] w9) fun w11 =>
      if mm_cls w11 o = 12 then
       (mm_kI (mm_run (zP Z) 274 [.inr (.inr (some o)), .inl a2, .inl 3] w11) fun x13 w12 =>
      if mm_cls w12 o = 12 then
       (mm_kI (mm_run (zP Z) 217 [.inr (.inr (some o)), .inl x13] w12) fun x15 w14 =>
      some (some (.inl x15), w14))
      else none)
      else none)
      else none)
     else none)
   else none)
  else none :=
  (mm_run_eq (P := zP Z) (y := 295) z_cd295 rfl (l := [some (.inr (.inr (some o))), some (.inl a1), some (.inl a2)]) rfl [] 27 w).trans rfl

-- ThornSchoolModel.tears(I)I
set_option maxRecDepth 100000 in
set_option maxHeartbeats 4000000 in
theorem B_X12_tears (Z : mX) (o : Nat) (a1 : Int) (w : mW) : mm_run (zP Z) 296 [.inr (.inr (some o)), .inl a1] w =
  mm_kI (mm_run (zP Z) 247 [.inl a1] w) fun x2 w1 =>
  (mm_gR w1 o 12 0).bind fun r3 =>
  r3.bind fun q4 =>
  (mm_ld 0 w1 q4 (mm_w32 (x2 + 3))).bind fun x5 =>
  (mm_gR w1 o 12 0).bind fun r6 =>
  r6.bind fun q7 =>
  (mm_st 0 w1 q7 (mm_w32 (x2 + 3)) 0).bind fun w8 =>
  (mm_gR w8 o 12 0).bind fun r9 =>
  (mm_gR w8 o 12 0).bind fun r10 =>
  r10.bind fun q11 =>
  (mm_ld 0 w8 q11 (mm_w32 (x2 + 5))).bind fun x12 =>
  r9.bind fun q13 =>
  (mm_st 0 w8 q13 (mm_w32 (x2 + 5)) (if mm_w32 (x12 + x5) < 9999 then mm_w32 (x12 + x5) else 9999)).bind fun w14 =>
  some (some (.inl x5), w14) :=
  (mm_run_eq (P := zP Z) (y := 296) z_cd296 rfl (l := [some (.inr (.inr (some o))), some (.inl a1), none, none]) rfl [] 36 w).trans rfl

-- ThornSchoolModel.tear(I)I
set_option maxRecDepth 100000 in
set_option maxHeartbeats 4000000 in
theorem B_X12_tear (Z : mX) (o : Nat) (a1 : Int) (w : mW) : mm_run (zP Z) 297 [.inr (.inr (some o)), .inl a1] w =
  if mm_cls w o = 12 then
   (mm_kI (mm_run (zP Z) 272 [.inr (.inr (some o)), .inl a1] w) fun x2 w1 =>
  if x2 = 0 then
   if mm_cls w1 o = 12 then
    (mm_kI (mm_run (zP Z) 216 [.inr (.inr (some o)), .inl 1] w1) fun x10 w9 =>
   some (some (.inl x10), w9))
   else none
  else
   if mm_cls w1 o = 12 then
    (mm_kI (mm_run (zP Z) 296 [.inr (.inr (some o)), .inl a1] w1) fun x4 w3 =>
   if x4 = 0 then
    if mm_cls w3 o = 12 then
     (mm_kI (mm_run (zP Z) 216 [.inr (.inr (some o)), .inl 7] w3) fun x8 w7 =>
    some (some (.inl x8), w7))
    else none
   else
    if mm_cls w3 o = 12 then
     (mm_kI (mm_run (zP Z) 217 [.inr (.inr (some o)), .inl x4] w3) fun x6 w5 =>
    some (some (.inl x6), w5))
    else none)
   else none)
  else none :=
  (mm_run_eq (P := zP Z) (y := 297) z_cd297 rfl (l := [some (.inr (.inr (some o))), some (.inl a1), none]) rfl [] 16 w).trans rfl

-- ThornSchoolModel.picks(I)I
set_option maxRecDepth 100000 in
set_option maxHeartbeats 4000000 in
theorem B_X12_picks (Z : mX) (o : Nat) (a1 : Int) (w : mW) : mm_run (zP Z) 298 [.inr (.inr (some o)), .inl a1] w =
  if mm_cls w o = 12 then
   (mm_kI (mm_run (zP Z) 274 [.inr (.inr (some o)), .inl a1, .inl 0] w) fun x2 w1 =>
  if mm_cls w1 o = 12 then
   (mm_kI (mm_run (zP Z) 278 [.inr (.inr (some o)), .inl a1] w1) fun x4 w3 =>
  if x4 = 0 then
   (mm_gR w3 o 12 0).bind fun r5 =>
   r5.bind fun q6 =>
   (mm_ld 0 w3 q6 (mm_w32 (35 + x2))).bind fun x7 =>
   (mm_gR w3 o 12 0).bind fun r8 =>
   r8.bind fun q9 =>
   (mm_st 0 w3 q9 (mm_w32 (35 + x2)) 0).bind fun w10 =>
   (mm_gR w10 o 12 0).bind fun r11 =>
   mm_kI (mm_run (zP Z) 247 [.inl a1] w10) fun x13 w12 =>
   if mm_cls w12 o = 12 then
    (mm_kI (mm_run (zP Z) 274 [.inr (.inr (some o)), .inl a1, .inl 4] w12) fun x15 w14 =>
   r11.bind fun q16 =>
   (mm_st 0 w14 q16 (mm_w32 (x13 + 4)) (if mm_w32 (x15 + x7) < 9999 then mm_w32 (x15 + x7) else 9999)).bind fun w17 =>
   some (some (.inl x7), w17))
   else none
  else
   some (some (.inl 0), w3))
  else none)
  else none :=
  (mm_run_eq (P := zP Z) (y := 298) z_cd298 rfl (l := [some (.inr (.inr (some o))), some (.inl a1), none, none]) rfl [] 41 w).trans rfl

-- ThornSchoolModel.pick(I)I
set_option maxRecDepth 100000 in
set_option maxHeartbeats 4000000 in
theorem B_X12_pick (Z : mX) (o : Nat) (a1 : Int) (w : mW) : mm_run (zP Z) 299 [.inr (.inr (some o)), .inl a1] w =
  if mm_cls w o = 12 then
   (mm_kI (mm_run (zP Z) 272 [.inr (.inr (some o)), .inl a1] w) fun x2 w1 =>
  if x2 = 0 then
   if mm_cls w1 o = 12 then
    (mm_kI (mm_run (zP Z) 216 [.inr (.inr (some o)), .inl 1] w1) fun x10 w9 =>
   some (some (.inl x10), w9))
   else none
  else
   if mm_cls w1 o = 12 then
    (mm_kI (mm_run (zP Z) 298 [.inr (.inr (some o)), .inl a1] w1) fun x4 w3 =>
   if x4 = 0 then
    if mm_cls w3 o = 12 then
     (mm_kI (mm_run (zP Z) 216 [.inr (.inr (some o)), .inl 7] w3) fun x8 w7 =>
    some (some (.inl x8), w7))
    else none
   else
    if mm_cls w3 o = 12 then
     (mm_kI (mm_run (zP Z) 217 [.inr (.inr (some o)), .inl x4] w3) fun x6 w5 =>
    some (some (.inl x6), w5))
    else none)
   else none)
  else none :=
  (mm_run_eq (P := zP Z) (y := 299) z_cd299 rfl (l := [some (.inr (.inr (some o))), some (.inl a1), none]) rfl [] 16 w).trans rfl

-- ThornSchoolModel.yearGoes()V
set_option maxRecDepth 100000 in
set_option maxHeartbeats 4000000 in
theorem B_X12_yearGoes (Z : mX) (o : Nat) (w : mW) : mm_run (zP Z) 300 [.inr (.inr (some o))] w =
  mm_at (zP Z) 300 2 [some (.inr (.inr (some o))), some (.inl 0)] [] w :=
  (mm_run_eq (P := zP Z) (y := 300) z_cd300 rfl (l := [some (.inr (.inr (some o))), none]) rfl [2] 3 w).trans rfl

set_option maxRecDepth 100000 in
set_option maxHeartbeats 4000000 in
theorem B_X12_yearGoes_2 (Z : mX) (o : Nat) (l1 : Int) (w : mW) : mm_at (zP Z) 300 2 [some (.inr (.inr (some o))), some (.inl l1)] [] w =
  if mm_cls w o = 12 then
   (mm_kI (mm_run (zP Z) 248 [.inr (.inr (some o)), .inl 0] w) fun x2 w1 =>
  if l1 < x2 then
   (mm_gR w1 o 12 0).bind fun r8 =>
   r8.bind fun q9 =>
   (mm_ld 0 w1 q9 (mm_w32 (10 + l1))).bind fun x10 =>
   if x10 = 0 then
    mm_at (zP Z) 300 2 [some (.inr (.inr (some o))), some (.inl (mm_w32 (l1 + 1)))] [] w1
   else
    (mm_gR w1 o 12 0).bind fun r11 =>
    (mm_gR w1 o 12 0).bind fun r12 =>
    r12.bind fun q13 =>
    (mm_ld 0 w1 q13 (mm_w32 (10 + l1))).bind fun x14 =>
    r11.bind fun q15 =>
    (mm_st 0 w1 q15 (mm_w32 (10 + l1)) (if mm_w32 (x14 + 1) < 9 then mm_w32 (x14 + 1) else 9)).bind fun w16 =>
    (mm_gR w16 o 12 0).bind fun r17 =>
    (mm_gR w16 o 12 0).bind fun r18 =>
    r18.bind fun q19 =>
    (mm_ld 0 w16 q19 (mm_w32 (35 + l1))).bind fun x20 =>
    r17.bind fun q21 =>
    (mm_st 0 w16 q21 (mm_w32 (35 + l1)) (if mm_w32 (x20 + 1) < 9 then mm_w32 (x20 + 1) else 9)).bind fun w22 =>
    mm_at (zP Z) 300 2 [some (.inr (.inr (some o))), some (.inl (mm_w32 (l1 + 1)))] [] w22
  else
   (mm_gR w1 o 12 0).bind fun r3 =>
   r3.bind fun q4 =>
   (mm_ld 0 w1 q4 5).bind fun x5 =>
   r3.bind fun q6 =>
   (mm_st 0 w1 q6 5 (mm_w32 (x5 + 1))).bind fun w7 =>
   some (none, w7))
  else none :=
  (mm_V_eq (P := zP Z) (y := 300) z_cd300 [2] 47 2 _ _ w).trans rfl

-- ThornSchoolModel.yearsGo(I)V
set_option maxRecDepth 100000 in
set_option maxHeartbeats 4000000 in
theorem B_X12_yearsGo (Z : mX) (o : Nat) (a1 : Int) (w : mW) : mm_run (zP Z) 301 [.inr (.inr (some o)), .inl a1] w =
  mm_at (zP Z) 301 2 [some (.inr (.inr (some o))), some (.inl a1), some (.inl 0)] [] w :=
  (mm_run_eq (P := zP Z) (y := 301) z_cd301 rfl (l := [some (.inr (.inr (some o))), some (.inl a1), none]) rfl [2] 3 w).trans rfl

set_option maxRecDepth 100000 in
set_option maxHeartbeats 4000000 in
theorem B_X12_yearsGo_2 (Z : mX) (o : Nat) (l1 : Int) (l2 : Int) (w : mW) : mm_at (zP Z) 301 2 [some (.inr (.inr (some o))), some (.inl l1), some (.inl l2)] [] w =
  if l2 < l1 then
   if mm_cls w o = 12 then
    (mm_kV (mm_run (zP Z) 300 [.inr (.inr (some o))] w) fun w1 =>
   mm_at (zP Z) 301 2 [some (.inr (.inr (some o))), some (.inl l1), some (.inl (mm_w32 (l2 + 1)))] [] w1)
   else none
  else
   some (none, w) :=
  (mm_V_eq (P := zP Z) (y := 301) z_cd301 [2] 8 2 _ _ w).trans rfl

-- ThornSchoolModel.year(I)I
set_option maxRecDepth 100000 in
set_option maxHeartbeats 4000000 in
theorem B_X12_year (Z : mX) (o : Nat) (a1 : Int) (w : mW) : mm_run (zP Z) 302 [.inr (.inr (some o)), .inl a1] w =
  mm_kI (mm_run (zP Z) 227 [.inr (.inl a1), .inr (.inl 1), .inr (.inl 99)] w) fun x2 w1 =>
  if x2 = 0 then
   if mm_cls w1 o = 12 then
    (mm_kI (mm_run (zP Z) 216 [.inr (.inr (some o)), .inl 1] w1) fun x14 w13 =>
   some (some (.inl x14), w13))
   else none
  else
   (mm_gR w1 o 12 0).bind fun r3 =>
   r3.bind fun q4 =>
   (mm_ld 0 w1 q4 5).bind fun x5 =>
   if 9999 < mm_w32 (x5 + a1) then
    if mm_cls w1 o = 12 then
     (mm_kI (mm_run (zP Z) 216 [.inr (.inr (some o)), .inl 4] w1) fun x12 w11 =>
    some (some (.inl x12), w11))
    else none
   else
    if mm_cls w1 o = 12 then
     (mm_kV (mm_run (zP Z) 301 [.inr (.inr (some o)), .inl a1] w1) fun w6 =>
    if mm_cls w6 o = 12 then
     (mm_kI (mm_run (zP Z) 279 [.inr (.inr (some o)), .inl 10] w6) fun x8 w7 =>
    if mm_cls w7 o = 12 then
     (mm_kI (mm_run (zP Z) 217 [.inr (.inr (some o)), .inl x8] w7) fun x10 w9 =>
    some (some (.inl x10), w9))
    else none)
    else none)
    else none :=
  (mm_run_eq (P := zP Z) (y := 302) z_cd302 rfl (l := [some (.inr (.inr (some o))), some (.inl a1)]) rfl [] 24 w).trans rfl

-- ThornSchoolModel.plant(III)I
set_option maxRecDepth 100000 in
set_option maxHeartbeats 4000000 in
theorem B_X12_plant (Z : mX) (o : Nat) (a1 : Int) (a2 : Int) (a3 : Int) (w : mW) : mm_run (zP Z) 303 [.inr (.inr (some o)), .inl a1, .inl a2, .inl a3] w =
  if mm_cls w o = 12 then
   (mm_kI (mm_run (zP Z) 270 [.inr (.inr (some o)), .inl a1] w) fun x2 w1 =>
  if x2 = 0 then
   if mm_cls w1 o = 12 then
    (mm_kI (mm_run (zP Z) 216 [.inr (.inr (some o)), .inl 1] w1) fun x4 w3 =>
   some (some (.inl x4), w3))
   else none
  else
   if a2 < 0 then
    if mm_cls w1 o = 12 then
     (mm_kI (mm_run (zP Z) 216 [.inr (.inr (some o)), .inl 1] w1) fun x6 w5 =>
    some (some (.inl x6), w5))
    else none
   else
    if 1 < a2 then
     if mm_cls w1 o = 12 then
      (mm_kI (mm_run (zP Z) 216 [.inr (.inr (some o)), .inl 1] w1) fun x8 w7 =>
     some (some (.inl x8), w7))
     else none
    else
     mm_kI (mm_run (zP Z) 227 [.inr (.inl a3), .inr (.inl 0), .inr (.inl 9)] w1) fun x10 w9 =>
     if x10 = 0 then
      if mm_cls w9 o = 12 then
       (mm_kI (mm_run (zP Z) 216 [.inr (.inr (some o)), .inl 1] w9) fun x12 w11 =>
      some (some (.inl x12), w11))
      else none
     else
      if a2 = 0 then
       mm_at (zP Z) 303 24 [some (.inr (.inr (some o))), some (.inl a1), none, some (.inl a3), none, none] [.inl 10] w9
      else
       mm_at (zP Z) 303 24 [some (.inr (.inr (some o))), some (.inl a1), none, some (.inl a3), none, none] [.inl 35] w9)
  else none :=
  (mm_run_eq (P := zP Z) (y := 303) z_cd303 rfl (l := [some (.inr (.inr (some o))), some (.inl a1), some (.inl a2), some (.inl a3), none, none]) rfl [24] 20 w).trans rfl

set_option maxRecDepth 100000 in
set_option maxHeartbeats 4000000 in
theorem B_X12_plant_24 (Z : mX) (o : Nat) (l1 : Int) (l3 : Int) (s0 : Int) (w : mW) : mm_at (zP Z) 303 24 [some (.inr (.inr (some o))), some (.inl l1), none, some (.inl l3), none, none] [.inl s0] w =
  (mm_gR w o 12 0).bind fun r1 =>
  r1.bind fun q2 =>
  (mm_ld 0 w q2 (mm_w32 (s0 + l1))).bind fun x3 =>
  (mm_gR w o 12 0).bind fun r4 =>
  r4.bind fun q5 =>
  (mm_st 0 w q5 (mm_w32 (s0 + l1)) l3).bind fun w6 =>
  if mm_cls w6 o = 12 then
   (mm_kI (mm_run (zP Z) 217 [.inr (.inr (some o)), .inl x3] w6) fun x8 w7 =>
  some (some (.inl x8), w7))
  else none :=
  (mm_V_eq (P := zP Z) (y := 303) z_cd303 [24] 18 24 _ _ w).trans rfl

-- ThornSchoolModel.wish(II)I
set_option maxRecDepth 100000 in
set_option maxHeartbeats 4000000 in
theorem B_X12_wish (Z : mX) (o : Nat) (a1 : Int) (a2 : Int) (w : mW) : mm_run (zP Z) 304 [.inr (.inr (some o)), .inl a1, .inl a2] w =
  if mm_cls w o = 12 then
   (mm_kI (mm_run (zP Z) 272 [.inr (.inr (some o)), .inl a1] w) fun x2 w1 =>
  if x2 = 0 then
   if mm_cls w1 o = 12 then
    (mm_kI (mm_run (zP Z) 216 [.inr (.inr (some o)), .inl 1] w1) fun x4 w3 =>
   some (some (.inl x4), w3))
   else none
  else
   mm_kI (mm_run (zP Z) 227 [.inr (.inl a2), .inr (.inl 0), .inr (.inl 9)] w1) fun x6 w5 =>
   if x6 = 0 then
    if mm_cls w5 o = 12 then
     (mm_kI (mm_run (zP Z) 216 [.inr (.inr (some o)), .inl 1] w5) fun x17 w16 =>
    some (some (.inl x17), w16))
    else none
   else
    if mm_cls w5 o = 12 then
     (mm_kI (mm_run (zP Z) 274 [.inr (.inr (some o)), .inl a1, .inl 1] w5) fun x8 w7 =>
    (mm_gR w7 o 12 0).bind fun r9 =>
    mm_kI (mm_run (zP Z) 247 [.inl a1] w7) fun x11 w10 =>
    r9.bind fun q12 =>
    (mm_st 0 w10 q12 (mm_w32 (x11 + 1)) a2).bind fun w13 =>
    if mm_cls w13 o = 12 then
     (mm_kI (mm_run (zP Z) 217 [.inr (.inr (some o)), .inl x8] w13) fun x15 w14 =>
    some (some (.inl x15), w14))
    else none)
    else none)
  else none :=
  (mm_run_eq (P := zP Z) (y := 304) z_cd304 rfl (l := [some (.inr (.inr (some o))), some (.inl a1), some (.inl a2), none]) rfl [] 28 w).trans rfl

-- ThornSchoolModel.teach(IIZ)Z
set_option maxRecDepth 100000 in
set_option maxHeartbeats 4000000 in
theorem B_X12_teach (Z : mX) (o : Nat) (a1 : Int) (a2 : Int) (a3 : Int) (w : mW) : mm_run (zP Z) 305 [.inr (.inr (some o)), .inl a1, .inl a2, .inl a3] w =
  if mm_cls w o = 12 then
   (mm_kI (mm_run (zP Z) 272 [.inr (.inr (some o)), .inl a1] w) fun x2 w1 =>
  if x2 = 0 then
   if mm_cls w1 o = 12 then
    (mm_kI (mm_run (zP Z) 215 [.inr (.inr (some o)), .inl 1] w1) fun x4 w3 =>
   if x4 = 0 ∨ x4 = 1 then some (some (.inl x4), w3) else none)
   else none
  else
   if mm_cls w1 o = 12 then
    (mm_kI (mm_run (zP Z) 271 [.inr (.inr (some o)), .inl a2] w1) fun x6 w5 =>
   if x6 = 0 then
    if mm_cls w5 o = 12 then
     (mm_kI (mm_run (zP Z) 215 [.inr (.inr (some o)), .inl 1] w5) fun x23 w22 =>
    if x23 = 0 ∨ x23 = 1 then some (some (.inl x23), w22) else none)
    else none
   else
    if mm_cls w5 o = 12 then
     (mm_kI (mm_run (zP Z) 274 [.inr (.inr (some o)), .inl a1, .inl 2] w5) fun x8 w7 =>
    if mm_cls w7 o = 12 then
     (mm_kI (mm_run (zP Z) 249 [.inr (.inr (some o)), .inl x8, .inl a2] w7) fun x10 w9 =>
    if x10 = a3 then
     if mm_cls w9 o = 12 then
      (mm_kI (mm_run (zP Z) 215 [.inr (.inr (some o)), .inl 7] w9) fun x21 w20 =>
     if x21 = 0 ∨ x21 = 1 then some (some (.inl x21), w20) else none)
     else none
    else
     (mm_gR w9 o 12 0).bind fun r11 =>
     mm_kI (mm_run (zP Z) 247 [.inl a1] w9) fun x13 w12 =>
     r11.bind fun q14 =>
     (mm_ld 0 w12 q14 (mm_w32 (x13 + 2))).bind fun x15 =>
     r11.bind fun q16 =>
     (mm_st 0 w12 q16 (mm_w32 (x13 + 2)) (mm_ixor x15 (mm_ishl 1 a2))).bind fun w17 =>
     if mm_cls w17 o = 12 then
      (mm_kI (mm_run (zP Z) 215 [.inr (.inr (some o)), .inl 0] w17) fun x19 w18 =>
     if x19 = 0 ∨ x19 = 1 then some (some (.inl x19), w18) else none)
     else none)
    else none)
    else none)
   else none)
  else none :=
  (mm_run_eq (P := zP Z) (y := 305) z_cd305 rfl (l := [some (.inr (.inr (some o))), some (.inl a1), some (.inl a2), some (.inl a3)]) rfl [] 35 w).trans rfl

-- ThornSchoolModel.come(I)I
set_option maxRecDepth 100000 in
set_option maxHeartbeats 4000000 in
theorem B_X12_come (Z : mX) (o : Nat) (a1 : Int) (w : mW) : mm_run (zP Z) 306 [.inr (.inr (some o)), .inl a1] w =
  if mm_cls w o = 12 then
   (mm_kI (mm_run (zP Z) 270 [.inr (.inr (some o)), .inl a1] w) fun x2 w1 =>
  if x2 = 0 then
   if mm_cls w1 o = 12 then
    (mm_kI (mm_run (zP Z) 216 [.inr (.inr (some o)), .inl 1] w1) fun x14 w13 =>
   some (some (.inl x14), w13))
   else none
  else
   (mm_gR w1 o 12 0).bind fun r3 =>
   r3.bind fun q4 =>
   (mm_ld 0 w1 q4 3).bind fun x5 =>
   if x5 = 5 then
    if mm_cls w1 o = 12 then
     (mm_kI (mm_run (zP Z) 216 [.inr (.inr (some o)), .inl 4] w1) fun x12 w11 =>
    some (some (.inl x12), w11))
    else none
   else
    (mm_gR w1 o 12 0).bind fun r6 =>
    r6.bind fun q7 =>
    (mm_ld 0 w1 q7 3).bind fun x8 =>
    r6.bind fun q9 =>
    (mm_st 0 w1 q9 3 (mm_w32 (x8 + 1))).bind fun w10 =>
    mm_at (zP Z) 306 30 [some (.inr (.inr (some o))), some (.inl a1), some (.inl x5), some (.inl 0)] [] w10)
  else none :=
  (mm_run_eq (P := zP Z) (y := 306) z_cd306 rfl (l := [some (.inr (.inr (some o))), some (.inl a1), none, none]) rfl [30] 23 w).trans rfl

set_option maxRecDepth 100000 in
set_option maxHeartbeats 4000000 in
theorem B_X12_come_30 (Z : mX) (o : Nat) (l1 : Int) (l2 : Int) (l3 : Int) (w : mW) : mm_at (zP Z) 306 30 [some (.inr (.inr (some o))), some (.inl l1), some (.inl l2), some (.inl l3)] [] w =
  if l3 < 6 then
   (mm_gR w o 12 0).bind fun r11 =>
   mm_kI (mm_run (zP Z) 247 [.inl l2] w) fun x13 w12 =>
   r11.bind fun q14 =>
   (mm_st 0 w12 q14 (mm_w32 (x13 + l3)) 0).bind fun w15 =>
   mm_at (zP Z) 306 30 [some (.inr (.inr (some o))), some (.inl l1), some (.inl l2), some (.inl (mm_w32 (l3 + 1)))] [] w15
  else
   (mm_gR w o 12 0).bind fun r1 =>
   mm_kI (mm_run (zP Z) 247 [.inl l2] w) fun x3 w2 =>
   r1.bind fun q4 =>
   (mm_st 0 w2 q4 x3 l1).bind fun w5 =>
   (mm_gR w5 o 12 1).bind fun r6 =>
   r6.bind fun q7 =>
   (mm_st 3 w5 q7 (mm_w32 (7 + l2)) 0).bind fun w8 =>
   if mm_cls w8 o = 12 then
    (mm_kI (mm_run (zP Z) 217 [.inr (.inr (some o)), .inl l2] w8) fun x10 w9 =>
   some (some (.inl x10), w9))
   else none :=
  (mm_V_eq (P := zP Z) (y := 306) z_cd306 [30] 21 30 _ _ w).trans rfl

-- ThornSchoolModel.rule(I)Z
set_option maxRecDepth 100000 in
set_option maxHeartbeats 4000000 in
theorem B_X12_rule (Z : mX) (o : Nat) (a1 : Int) (w : mW) : mm_run (zP Z) 307 [.inr (.inr (some o)), .inl a1] w =
  mm_kI (mm_run (zP Z) 227 [.inr (.inl a1), .inr (.inl 0), .inr (.inl 16)] w) fun x2 w1 =>
  if x2 = 0 then
   if mm_cls w1 o = 12 then
    (mm_kI (mm_run (zP Z) 215 [.inr (.inr (some o)), .inl 1] w1) fun x9 w8 =>
   if x9 = 0 ∨ x9 = 1 then some (some (.inl x9), w8) else none)
   else none
  else
   (mm_gR w1 o 12 0).bind fun r3 =>
   r3.bind fun q4 =>
   (mm_st 0 w1 q4 4 a1).bind fun w5 =>
   if mm_cls w5 o = 12 then
    (mm_kI (mm_run (zP Z) 215 [.inr (.inr (some o)), .inl 0] w5) fun x7 w6 =>
   if x7 = 0 ∨ x7 = 1 then some (some (.inl x7), w6) else none)
   else none :=
  (mm_run_eq (P := zP Z) (y := 307) z_cd307 rfl (l := [some (.inr (.inr (some o))), some (.inl a1)]) rfl [] 16 w).trans rfl

-- ThornSchoolModel.isClear(II)Z
set_option maxRecDepth 100000 in
set_option maxHeartbeats 4000000 in
theorem B_X12_isClear (Z : mX) (o : Nat) (a1 : Int) (a2 : Int) (w : mW) : mm_run (zP Z) 308 [.inr (.inr (some o)), .inl a1, .inl a2] w =
  if mm_cls w o = 12 then
   (mm_kI (mm_run (zP Z) 277 [.inr (.inr (some o)), .inl a1, .inl a2] w) fun x2 w1 =>
  if x2 = 0 then
   some (some (.inl 1), w1)
  else
   some (some (.inl 0), w1))
  else none :=
  (mm_run_eq (P := zP Z) (y := 308) z_cd308 rfl (l := [some (.inr (.inr (some o))), some (.inl a1), some (.inl a2)]) rfl [] 9 w).trans rfl

-- ThornSchoolModel.laysFar(II)V
set_option maxRecDepth 100000 in
set_option maxHeartbeats 4000000 in
theorem B_X12_laysFar (Z : mX) (o : Nat) (a1 : Int) (a2 : Int) (w : mW) : mm_run (zP Z) 309 [.inr (.inr (some o)), .inl a1, .inl a2] w =
  mm_at (zP Z) 309 2 [some (.inr (.inr (some o))), some (.inl a1), some (.inl a2), some (.inl 0), none, none, none] [] w :=
  (mm_run_eq (P := zP Z) (y := 309) z_cd309 rfl (l := [some (.inr (.inr (some o))), some (.inl a1), some (.inl a2), none, none, none, none]) rfl [2, 19, 25] 3 w).trans rfl

set_option maxRecDepth 100000 in
set_option maxHeartbeats 4000000 in
theorem B_X12_laysFar_2 (Z : mX) (o : Nat) (l1 : Int) (l2 : Int) (l3 : Int) (w : mW) : mm_at (zP Z) 309 2 [some (.inr (.inr (some o))), some (.inl l1), some (.inl l2), some (.inl l3), none, none, none] [] w =
  if l3 < 25 then
   (mm_gR w o 12 25).bind fun r1 =>
   if l3 = l2 then
    r1.bind fun q4 =>
    (mm_st 0 w q4 l3 0).bind fun w5 =>
    mm_at (zP Z) 309 2 [some (.inr (.inr (some o))), some (.inl l1), some (.inl l2), some (.inl (mm_w32 (l3 + 1))), none, none, none] [] w5
   else
    r1.bind fun q2 =>
    (mm_st 0 w q2 l3 1000000).bind fun w3 =>
    mm_at (zP Z) 309 2 [some (.inr (.inr (some o))), some (.inl l1), some (.inl l2), some (.inl (mm_w32 (l3 + 1))), none, none, none] [] w3
  else
   mm_at (zP Z) 309 19 [some (.inr (.inr (some o))), some (.inl l1), none, some (.inl 1), none, none, none] [] w :=
  (mm_V_eq (P := zP Z) (y := 309) z_cd309 [2, 19, 25] 15 2 _ _ w).trans rfl

set_option maxRecDepth 100000 in
set_option maxHeartbeats 4000000 in
theorem B_X12_laysFar_19 (Z : mX) (o : Nat) (l1 : Int) (l3 : Int) (w : mW) : mm_at (zP Z) 309 19 [some (.inr (.inr (some o))), some (.inl l1), none, some (.inl l3), none, none, none] [] w =
  if l3 = 0 then
   some (none, w)
  else
   mm_at (zP Z) 309 25 [some (.inr (.inr (some o))), some (.inl l1), none, some (.inl 0), some (.inl 0), none, none] [] w :=
  (mm_V_eq (P := zP Z) (y := 309) z_cd309 [2, 19, 25] 7 19 _ _ w).trans rfl

set_option maxRecDepth 100000 in
set_option maxHeartbeats 4000000 in
theorem B_X12_laysFar_25 (Z : mX) (o : Nat) (l1 : Int) (l3 : Int) (l4 : Int) (w : mW) : mm_at (zP Z) 309 25 [some (.inr (.inr (some o))), some (.inl l1), none, some (.inl l3), some (.inl l4), none, none] [] w =
  if mm_cls w o = 12 then
   (mm_kI (mm_run (zP Z) 248 [.inr (.inr (some o)), .inl 0] w) fun x2 w1 =>
  if l4 < mm_w32 (4 * x2) then
   if 4 = 0 then none else
   if 4 = 0 then none else
   if mm_cls w1 o = 12 then
    (mm_kI (mm_run (zP Z) 288 [.inr (.inr (some o)), .inl (mm_idiv l4 4), .inl (mm_irem l4 4)] w1) fun x4 w3 =>
   if x4 = (-1) then
    mm_at (zP Z) 309 25 [some (.inr (.inr (some o))), some (.inl l1), none, some (.inl l3), some (.inl (mm_w32 (l4 + 1))), none, none] [] w3
   else
    if mm_cls w3 o = 12 then
     (mm_kI (mm_run (zP Z) 308 [.inr (.inr (some o)), .inl l1, .inl x4] w3) fun x6 w5 =>
    if x6 = 0 then
     mm_at (zP Z) 309 25 [some (.inr (.inr (some o))), some (.inl l1), none, some (.inl l3), some (.inl (mm_w32 (l4 + 1))), none, none] [] w5
    else
     (mm_gR w5 o 12 25).bind fun r7 =>
     r7.bind fun q8 =>
     (mm_ld 0 w5 q8 x4).bind fun x9 =>
     (mm_gR w5 o 12 25).bind fun r10 =>
     r10.bind fun q11 =>
     (mm_ld 0 w5 q11 (mm_idiv l4 4)).bind fun x12 =>
     if mm_w32 (x9 + 1) < x12 then
      (mm_gR w5 o 12 25).bind fun r13 =>
      (mm_gR w5 o 12 25).bind fun r14 =>
      r14.bind fun q15 =>
      (mm_ld 0 w5 q15 x4).bind fun x16 =>
      r13.bind fun q17 =>
      (mm_st 0 w5 q17 (mm_idiv l4 4) (mm_w32 (x16 + 1))).bind fun w18 =>
      mm_at (zP Z) 309 25 [some (.inr (.inr (some o))), some (.inl l1), none, some (.inl 1), some (.inl (mm_w32 (l4 + 1))), none, none] [] w18
     else
      mm_at (zP Z) 309 25 [some (.inr (.inr (some o))), some (.inl l1), none, some (.inl l3), some (.inl (mm_w32 (l4 + 1))), none, none] [] w5)
    else none)
   else none
  else
   mm_at (zP Z) 309 19 [some (.inr (.inr (some o))), some (.inl l1), none, some (.inl l3), none, none, none] [] w1)
  else none :=
  (mm_V_eq (P := zP Z) (y := 309) z_cd309 [2, 19, 25] 52 25 _ _ w).trans rfl

-- ThornSchoolModel.stepsTo(II)I
set_option maxRecDepth 100000 in
set_option maxHeartbeats 4000000 in
theorem B_X12_stepsTo (Z : mX) (o : Nat) (a1 : Int) (a2 : Int) (w : mW) : mm_run (zP Z) 310 [.inr (.inr (some o)), .inl a1, .inl a2] w =
  if mm_cls w o = 12 then
   (mm_kV (mm_run (zP Z) 309 [.inr (.inr (some o)), .inl a1, .inl a2] w) fun w1 =>
  if mm_cls w1 o = 12 then
   (mm_kI (mm_run (zP Z) 278 [.inr (.inr (some o)), .inl a1] w1) fun x3 w2 =>
  if x3 = 0 then
   mm_at (zP Z) 310 16 [some (.inr (.inr (some o))), some (.inl a1), none] [] w2
  else
   if mm_cls w2 o = 12 then
    (mm_kI (mm_run (zP Z) 274 [.inr (.inr (some o)), .inl a1, .inl 0] w2) fun x5 w4 =>
   if x5 = a2 then
    mm_at (zP Z) 310 16 [some (.inr (.inr (some o))), some (.inl a1), none] [] w4
   else
    some (some (.inl 1000000), w4))
   else none)
  else none)
  else none :=
  (mm_run_eq (P := zP Z) (y := 310) z_cd310 rfl (l := [some (.inr (.inr (some o))), some (.inl a1), some (.inl a2)]) rfl [16] 18 w).trans rfl

set_option maxRecDepth 100000 in
set_option maxHeartbeats 4000000 in
theorem B_X12_stepsTo_16 (Z : mX) (o : Nat) (l1 : Int) (w : mW) : mm_at (zP Z) 310 16 [some (.inr (.inr (some o))), some (.inl l1), none] [] w =
  (mm_gR w o 12 25).bind fun r1 =>
  if mm_cls w o = 12 then
   (mm_kI (mm_run (zP Z) 274 [.inr (.inr (some o)), .inl l1, .inl 0] w) fun x3 w2 =>
  r1.bind fun q4 =>
  (mm_ld 0 w2 q4 x3).bind fun x5 =>
  some (some (.inl x5), w2))
  else none :=
  (mm_V_eq (P := zP Z) (y := 310) z_cd310 [16] 9 16 _ _ w).trans rfl

-- ThornSchoolModel.reachOf(I)I
set_option maxRecDepth 100000 in
set_option maxHeartbeats 4000000 in
theorem B_X12_reachOf (Z : mX) (o : Nat) (a1 : Int) (w : mW) : mm_run (zP Z) 311 [.inr (.inr (some o)), .inl a1] w =
  mm_at (zP Z) 311 4 [some (.inr (.inr (some o))), some (.inl a1), some (.inl 0), some (.inl 0)] [] w :=
  (mm_run_eq (P := zP Z) (y := 311) z_cd311 rfl (l := [some (.inr (.inr (some o))), some (.inl a1), none, none]) rfl [4] 5 w).trans rfl

set_option maxRecDepth 100000 in
set_option maxHeartbeats 4000000 in
theorem B_X12_reachOf_4 (Z : mX) (o : Nat) (l1 : Int) (l2 : Int) (l3 : Int) (w : mW) : mm_at (zP Z) 311 4 [some (.inr (.inr (some o))), some (.inl l1), some (.inl l2), some (.inl l3)] [] w =
  if mm_cls w o = 12 then
   (mm_kI (mm_run (zP Z) 248 [.inr (.inr (some o)), .inl 0] w) fun x2 w1 =>
  if l3 < x2 then
   if mm_cls w1 o = 12 then
    (mm_kI (mm_run (zP Z) 310 [.inr (.inr (some o)), .inl l1, .inl l3] w1) fun x4 w3 =>
   if x4 < 1000000 then
    mm_at (zP Z) 311 4 [some (.inr (.inr (some o))), some (.inl l1), some (.inl (mm_ior l2 (mm_ishl 1 l3))), some (.inl (mm_w32 (l3 + 1)))] [] w3
   else
    mm_at (zP Z) 311 4 [some (.inr (.inr (some o))), some (.inl l1), some (.inl (mm_ior l2 0)), some (.inl (mm_w32 (l3 + 1)))] [] w3)
   else none
  else
   some (some (.inl l2), w1))
  else none :=
  (mm_V_eq (P := zP Z) (y := 311) z_cd311 [4] 21 4 _ _ w).trans rfl

-- ThornSchoolModel.reach(I)I
set_option maxRecDepth 100000 in
set_option maxHeartbeats 4000000 in
theorem B_X12_reach (Z : mX) (o : Nat) (a1 : Int) (w : mW) : mm_run (zP Z) 312 [.inr (.inr (some o)), .inl a1] w =
  if mm_cls w o = 12 then
   (mm_kI (mm_run (zP Z) 272 [.inr (.inr (some o)), .inl a1] w) fun x2 w1 =>
  if x2 = 0 then
   if mm_cls w1 o = 12 then
    (mm_kI (mm_run (zP Z) 216 [.inr (.inr (some o)), .inl 1] w1) fun x4 w3 =>
   some (some (.inl x4), w3))
   else none
  else
   if mm_cls w1 o = 12 then
    (mm_kI (mm_run (zP Z) 311 [.inr (.inr (some o)), .inl a1] w1) fun x6 w5 =>
   if mm_cls w5 o = 12 then
    (mm_kI (mm_run (zP Z) 217 [.inr (.inr (some o)), .inl x6] w5) fun x8 w7 =>
   some (some (.inl x8), w7))
   else none)
   else none)
  else none :=
  (mm_run_eq (P := zP Z) (y := 312) z_cd312 rfl (l := [some (.inr (.inr (some o))), some (.inl a1)]) rfl [] 12 w).trans rfl

-- ThornSchoolModel.far(II)I
set_option maxRecDepth 100000 in
set_option maxHeartbeats 4000000 in
theorem B_X12_far (Z : mX) (o : Nat) (a1 : Int) (a2 : Int) (w : mW) : mm_run (zP Z) 313 [.inr (.inr (some o)), .inl a1, .inl a2] w =
  if mm_cls w o = 12 then
   (mm_kI (mm_run (zP Z) 272 [.inr (.inr (some o)), .inl a1] w) fun x2 w1 =>
  if x2 = 0 then
   if mm_cls w1 o = 12 then
    (mm_kI (mm_run (zP Z) 216 [.inr (.inr (some o)), .inl 1] w1) fun x4 w3 =>
   some (some (.inl x4), w3))
   else none
  else
   if mm_cls w1 o = 12 then
    (mm_kI (mm_run (zP Z) 270 [.inr (.inr (some o)), .inl a2] w1) fun x6 w5 =>
   if x6 = 0 then
    if mm_cls w5 o = 12 then
     (mm_kI (mm_run (zP Z) 216 [.inr (.inr (some o)), .inl 1] w5) fun x14 w13 =>
    some (some (.inl x14), w13))
    else none
   else
    if mm_cls w5 o = 12 then
     (mm_kI (mm_run (zP Z) 310 [.inr (.inr (some o)), .inl a1, .inl a2] w5) fun x8 w7 =>
    if x8 < 1000000 then
     if mm_cls w7 o = 12 then
      (mm_kI (mm_run (zP Z) 217 [.inr (.inr (some o)), .inl x8] w7) fun x10 w9 =>
     some (some (.inl x10), w9))
     else none
    else
     if mm_cls w7 o = 12 then
      (mm_kI (mm_run (zP Z) 216 [.inr (.inr (some o)), .inl 6] w7) fun x12 w11 =>
     some (some (.inl x12), w11))
     else none)
    else none)
   else none)
  else none :=
  (mm_run_eq (P := zP Z) (y := 313) z_cd313 rfl (l := [some (.inr (.inr (some o))), some (.inl a1), some (.inl a2), none]) rfl [] 22 w).trans rfl

-- ThornSchoolModel.nextOf(II)I
set_option maxRecDepth 100000 in
set_option maxHeartbeats 4000000 in
theorem B_X12_nextOf (Z : mX) (o : Nat) (a1 : Int) (a2 : Int) (w : mW) : mm_run (zP Z) 314 [.inr (.inr (some o)), .inl a1, .inl a2] w =
  mm_at (zP Z) 314 4 [some (.inr (.inr (some o))), some (.inl a1), some (.inl a2), some (.inl 1000000), some (.inl 0), none] [] w :=
  (mm_run_eq (P := zP Z) (y := 314) z_cd314 rfl (l := [some (.inr (.inr (some o))), some (.inl a1), some (.inl a2), none, none, none]) rfl [4] 5 w).trans rfl

set_option maxRecDepth 100000 in
set_option maxHeartbeats 4000000 in
theorem B_X12_nextOf_4 (Z : mX) (o : Nat) (l1 : Int) (l2 : Int) (l3 : Int) (l4 : Int) (w : mW) : mm_at (zP Z) 314 4 [some (.inr (.inr (some o))), some (.inl l1), some (.inl l2), some (.inl l3), some (.inl l4), none] [] w =
  if l4 < 4 then
   if mm_cls w o = 12 then
    (mm_kI (mm_run (zP Z) 288 [.inr (.inr (some o)), .inl l2, .inl l4] w) fun x2 w1 =>
   if x2 = (-1) then
    mm_at (zP Z) 314 4 [some (.inr (.inr (some o))), some (.inl l1), some (.inl l2), some (.inl l3), some (.inl (mm_w32 (l4 + 1))), none] [] w1
   else
    if mm_cls w1 o = 12 then
     (mm_kI (mm_run (zP Z) 308 [.inr (.inr (some o)), .inl l1, .inl x2] w1) fun x4 w3 =>
    if x4 = 0 then
     mm_at (zP Z) 314 4 [some (.inr (.inr (some o))), some (.inl l1), some (.inl l2), some (.inl l3), some (.inl (mm_w32 (l4 + 1))), none] [] w3
    else
     (mm_gR w3 o 12 25).bind fun r5 =>
     r5.bind fun q6 =>
     (mm_ld 0 w3 q6 x2).bind fun x7 =>
     (mm_gR w3 o 12 25).bind fun r8 =>
     r8.bind fun q9 =>
     (mm_ld 0 w3 q9 l2).bind fun x10 =>
     if x7 = mm_w32 (x10 - 1) then
      mm_at (zP Z) 314 4 [some (.inr (.inr (some o))), some (.inl l1), some (.inl l2), some (.inl (if x2 < l3 then x2 else l3)), some (.inl (mm_w32 (l4 + 1))), none] [] w3
     else
      mm_at (zP Z) 314 4 [some (.inr (.inr (some o))), some (.inl l1), some (.inl l2), some (.inl l3), some (.inl (mm_w32 (l4 + 1))), none] [] w3)
    else none)
   else none
  else
   some (some (.inl l3), w) :=
  (mm_V_eq (P := zP Z) (y := 314) z_cd314 [4] 34 4 _ _ w).trans rfl

-- ThornSchoolModel.way(III)I
set_option maxRecDepth 100000 in
set_option maxHeartbeats 4000000 in
theorem B_X12_way (Z : mX) (o : Nat) (a1 : Int) (a2 : Int) (a3 : Int) (w : mW) : mm_run (zP Z) 315 [.inr (.inr (some o)), .inl a1, .inl a2, .inl a3] w =
  if mm_cls w o = 12 then
   (mm_kI (mm_run (zP Z) 272 [.inr (.inr (some o)), .inl a1] w) fun x2 w1 =>
  if x2 = 0 then
   if mm_cls w1 o = 12 then
    (mm_kI (mm_run (zP Z) 216 [.inr (.inr (some o)), .inl 1] w1) fun x4 w3 =>
   some (some (.inl x4), w3))
   else none
  else
   if mm_cls w1 o = 12 then
    (mm_kI (mm_run (zP Z) 270 [.inr (.inr (some o)), .inl a2] w1) fun x6 w5 =>
   if x6 = 0 then
    if mm_cls w5 o = 12 then
     (mm_kI (mm_run (zP Z) 216 [.inr (.inr (some o)), .inl 1] w5) fun x8 w7 =>
    some (some (.inl x8), w7))
    else none
   else
    if a3 < 0 then
     if mm_cls w5 o = 12 then
      (mm_kI (mm_run (zP Z) 216 [.inr (.inr (some o)), .inl 1] w5) fun x18 w17 =>
     some (some (.inl x18), w17))
     else none
    else
     if mm_cls w5 o = 12 then
      (mm_kI (mm_run (zP Z) 310 [.inr (.inr (some o)), .inl a1, .inl a2] w5) fun x10 w9 =>
     if x10 < 1000000 then
      if x10 < a3 then
       if mm_cls w9 o = 12 then
        (mm_kI (mm_run (zP Z) 216 [.inr (.inr (some o)), .inl 6] w9) fun x16 w15 =>
       some (some (.inl x16), w15))
       else none
      else
       if mm_cls w9 o = 12 then
        (mm_kI (mm_run (zP Z) 274 [.inr (.inr (some o)), .inl a1, .inl 0] w9) fun x14 w13 =>
       mm_at (zP Z) 315 36 [some (.inr (.inr (some o))), some (.inl a1), none, some (.inl a3), none, some (.inl x14), some (.inl 0)] [] w13)
       else none
     else
      if mm_cls w9 o = 12 then
       (mm_kI (mm_run (zP Z) 216 [.inr (.inr (some o)), .inl 6] w9) fun x12 w11 =>
      some (some (.inl x12), w11))
      else none)
     else none)
   else none)
  else none :=
  (mm_run_eq (P := zP Z) (y := 315) z_cd315 rfl (l := [some (.inr (.inr (some o))), some (.inl a1), some (.inl a2), some (.inl a3), none, none, none]) rfl [36] 29 w).trans rfl

set_option maxRecDepth 100000 in
set_option maxHeartbeats 4000000 in
theorem B_X12_way_36 (Z : mX) (o : Nat) (l1 : Int) (l3 : Int) (l5 : Int) (l6 : Int) (w : mW) : mm_at (zP Z) 315 36 [some (.inr (.inr (some o))), some (.inl l1), none, some (.inl l3), none, some (.inl l5), some (.inl l6)] [] w =
  if l6 < l3 then
   if mm_cls w o = 12 then
    (mm_kI (mm_run (zP Z) 314 [.inr (.inr (some o)), .inl l1, .inl l5] w) fun x4 w3 =>
   mm_at (zP Z) 315 36 [some (.inr (.inr (some o))), some (.inl l1), none, some (.inl l3), none, some (.inl x4), some (.inl (mm_w32 (l6 + 1)))] [] w3)
   else none
  else
   if mm_cls w o = 12 then
    (mm_kI (mm_run (zP Z) 217 [.inr (.inr (some o)), .inl l5] w) fun x2 w1 =>
   some (some (.inl x2), w1))
   else none :=
  (mm_V_eq (P := zP Z) (y := 315) z_cd315 [36] 11 36 _ _ w).trans rfl

-- ThornSchoolModel.calm(II)I
set_option maxRecDepth 100000 in
set_option maxHeartbeats 4000000 in
theorem B_X12_calm (Z : mX) (o : Nat) (a1 : Int) (a2 : Int) (w : mW) : mm_run (zP Z) 316 [.inr (.inr (some o)), .inl a1, .inl a2] w =
  if mm_cls w o = 12 then
   (mm_kI (mm_run (zP Z) 272 [.inr (.inr (some o)), .inl a1] w) fun x2 w1 =>
  if x2 = 0 then
   if mm_cls w1 o = 12 then
    (mm_kI (mm_run (zP Z) 216 [.inr (.inr (some o)), .inl 1] w1) fun x4 w3 =>
   some (some (.inl x4), w3))
   else none
  else
   if mm_cls w1 o = 12 then
    (mm_kI (mm_run (zP Z) 270 [.inr (.inr (some o)), .inl a2] w1) fun x6 w5 =>
   if x6 = 0 then
    if mm_cls w5 o = 12 then
     (mm_kI (mm_run (zP Z) 216 [.inr (.inr (some o)), .inl 1] w5) fun x13 w12 =>
    some (some (.inl x13), w12))
    else none
   else
    mm_kI (mm_run (zP Z) 247 [.inl a1] w5) fun x8 w7 =>
    (mm_gR w7 o 12 0).bind fun r9 =>
    r9.bind fun q10 =>
    (mm_ld 0 w7 q10 (mm_w32 (x8 + 1))).bind fun x11 =>
    mm_at (zP Z) 316 26 [some (.inr (.inr (some o))), some (.inl a1), some (.inl a2), some (.inl (mm_w32 (x8 + 1))), some (.inl x11), some (.inl (-1)), some (.inl 0)] [] w7)
   else none)
  else none :=
  (mm_run_eq (P := zP Z) (y := 316) z_cd316 rfl (l := [some (.inr (.inr (some o))), some (.inl a1), some (.inl a2), none, none, none, none]) rfl [26] 23 w).trans rfl

set_option maxRecDepth 100000 in
set_option maxHeartbeats 4000000 in
theorem B_X12_calm_26 (Z : mX) (o : Nat) (l1 : Int) (l2 : Int) (l3 : Int) (l4 : Int) (l5 : Int) (l6 : Int) (w : mW) : mm_at (zP Z) 316 26 [some (.inr (.inr (some o))), some (.inl l1), some (.inl l2), some (.inl l3), some (.inl l4), some (.inl l5), some (.inl l6)] [] w =
  if 9 < l6 then
   (mm_gR w o 12 0).bind fun r1 =>
   r1.bind fun q2 =>
   (mm_st 0 w q2 l3 l4).bind fun w3 =>
   if mm_cls w3 o = 12 then
    (mm_kI (mm_run (zP Z) 218 [.inr (.inr (some o)), .inl l5] w3) fun x5 w4 =>
   some (some (.inl x5), w4))
   else none
  else
   (mm_gR w o 12 0).bind fun r6 =>
   r6.bind fun q7 =>
   (mm_st 0 w q7 l3 l6).bind fun w8 =>
   if mm_cls w8 o = 12 then
    (mm_kV (mm_run (zP Z) 309 [.inr (.inr (some o)), .inl l1, .inl l2] w8) fun w9 =>
   (mm_gR w9 o 12 25).bind fun r10 =>
   if mm_cls w9 o = 12 then
    (mm_kI (mm_run (zP Z) 274 [.inr (.inr (some o)), .inl l1, .inl 0] w9) fun x12 w11 =>
   r10.bind fun q13 =>
   (mm_ld 0 w11 q13 x12).bind fun x14 =>
   if x14 < 1000000 then
    mm_at (zP Z) 316 26 [some (.inr (.inr (some o))), some (.inl l1), some (.inl l2), some (.inl l3), some (.inl l4), some (.inl l6), some (.inl (mm_w32 (l6 + 1)))] [] w11
   else
    mm_at (zP Z) 316 26 [some (.inr (.inr (some o))), some (.inl l1), some (.inl l2), some (.inl l3), some (.inl l4), some (.inl l5), some (.inl (mm_w32 (l6 + 1)))] [] w11)
   else none)
   else none :=
  (mm_V_eq (P := zP Z) (y := 316) z_cd316 [26] 26 26 _ _ w).trans rfl

-- ThornSchoolModel.stepCost(III)I
set_option maxRecDepth 100000 in
set_option maxHeartbeats 4000000 in
theorem B_X12_stepCost (Z : mX) (o : Nat) (a1 : Int) (a2 : Int) (a3 : Int) (w : mW) : mm_run (zP Z) 317 [.inr (.inr (some o)), .inl a1, .inl a2, .inl a3] w =
  if mm_cls w o = 12 then
   (mm_kI (mm_run (zP Z) 277 [.inr (.inr (some o)), .inl a1, .inl a2] w) fun x2 w1 =>
  if a3 = 0 then
   some (some (.inl x2), w1)
  else
   some (some (.inl (if x2 < 1 then x2 else 1)), w1))
  else none :=
  (mm_run_eq (P := zP Z) (y := 317) z_cd317 rfl (l := [some (.inr (.inr (some o))), some (.inl a1), some (.inl a2), some (.inl a3), none]) rfl [] 12 w).trans rfl

-- ThornSchoolModel.laysCost(II)V
set_option maxRecDepth 100000 in
set_option maxHeartbeats 4000000 in
theorem B_X12_laysCost (Z : mX) (o : Nat) (a1 : Int) (a2 : Int) (w : mW) : mm_run (zP Z) 318 [.inr (.inr (some o)), .inl a1, .inl a2] w =
  mm_at (zP Z) 318 2 [some (.inr (.inr (some o))), some (.inl a1), some (.inl a2), some (.inl 0), none, none, none] [] w :=
  (mm_run_eq (P := zP Z) (y := 318) z_cd318 rfl (l := [some (.inr (.inr (some o))), some (.inl a1), some (.inl a2), none, none, none, none]) rfl [2, 22, 28] 3 w).trans rfl

set_option maxRecDepth 100000 in
set_option maxHeartbeats 4000000 in
theorem B_X12_laysCost_2 (Z : mX) (o : Nat) (l1 : Int) (l2 : Int) (l3 : Int) (w : mW) : mm_at (zP Z) 318 2 [some (.inr (.inr (some o))), some (.inl l1), some (.inl l2), some (.inl l3), none, none, none] [] w =
  if l3 < 25 then
   (mm_gR w o 12 26).bind fun r1 =>
   if mm_cls w o = 12 then
    (mm_kI (mm_run (zP Z) 274 [.inr (.inr (some o)), .inl l1, .inl 0] w) fun x3 w2 =>
   if l3 = x3 then
    r1.bind fun q6 =>
    (mm_st 0 w2 q6 l3 0).bind fun w7 =>
    mm_at (zP Z) 318 2 [some (.inr (.inr (some o))), some (.inl l1), some (.inl l2), some (.inl (mm_w32 (l3 + 1))), none, none, none] [] w7
   else
    r1.bind fun q4 =>
    (mm_st 0 w2 q4 l3 1000000).bind fun w5 =>
    mm_at (zP Z) 318 2 [some (.inr (.inr (some o))), some (.inl l1), some (.inl l2), some (.inl (mm_w32 (l3 + 1))), none, none, none] [] w5)
   else none
  else
   mm_at (zP Z) 318 22 [some (.inr (.inr (some o))), some (.inl l1), some (.inl l2), some (.inl 1), none, none, none] [] w :=
  (mm_V_eq (P := zP Z) (y := 318) z_cd318 [2, 22, 28] 18 2 _ _ w).trans rfl

set_option maxRecDepth 100000 in
set_option maxHeartbeats 4000000 in
theorem B_X12_laysCost_22 (Z : mX) (o : Nat) (l1 : Int) (l2 : Int) (l3 : Int) (w : mW) : mm_at (zP Z) 318 22 [some (.inr (.inr (some o))), some (.inl l1), some (.inl l2), some (.inl l3), none, none, none] [] w =
  if l3 = 0 then
   some (none, w)
  else
   mm_at (zP Z) 318 28 [some (.inr (.inr (some o))), some (.inl l1), some (.inl l2), some (.inl 0), some (.inl 0), none, none] [] w :=
  (mm_V_eq (P := zP Z) (y := 318) z_cd318 [2, 22, 28] 7 22 _ _ w).trans rfl

set_option maxRecDepth 100000 in
set_option maxHeartbeats 4000000 in
theorem B_X12_laysCost_28 (Z : mX) (o : Nat) (l1 : Int) (l2 : Int) (l3 : Int) (l4 : Int) (w : mW) : mm_at (zP Z) 318 28 [some (.inr (.inr (some o))), some (.inl l1), some (.inl l2), some (.inl l3), some (.inl l4), none, none] [] w =
  if mm_cls w o = 12 then
   (mm_kI (mm_run (zP Z) 248 [.inr (.inr (some o)), .inl 0] w) fun x2 w1 =>
  if l4 < mm_w32 (4 * x2) then
   if 4 = 0 then none else
   if 4 = 0 then none else
   if mm_cls w1 o = 12 then
    (mm_kI (mm_run (zP Z) 288 [.inr (.inr (some o)), .inl (mm_idiv l4 4), .inl (mm_irem l4 4)] w1) fun x4 w3 =>
   if x4 = (-1) then
    mm_at (zP Z) 318 28 [some (.inr (.inr (some o))), some (.inl l1), some (.inl l2), some (.inl l3), some (.inl (mm_w32 (l4 + 1))), none, none] [] w3
   else
    (mm_gR w3 o 12 26).bind fun r5 =>
    if 4 = 0 then none else
    r5.bind fun q6 =>
    (mm_ld 0 w3 q6 (mm_idiv l4 4)).bind fun x7 =>
    if mm_cls w3 o = 12 then
     (mm_kI (mm_run (zP Z) 317 [.inr (.inr (some o)), .inl l1, .inl x4, .inl l2] w3) fun x9 w8 =>
    (mm_gR w8 o 12 26).bind fun r10 =>
    r10.bind fun q11 =>
    (mm_ld 0 w8 q11 x4).bind fun x12 =>
    if mm_w32 (x7 + x9) < x12 then
     (mm_gR w8 o 12 26).bind fun r13 =>
     r13.bind fun q14 =>
     (mm_st 0 w8 q14 x4 (mm_w32 (x7 + x9))).bind fun w15 =>
     mm_at (zP Z) 318 28 [some (.inr (.inr (some o))), some (.inl l1), some (.inl l2), some (.inl 1), some (.inl (mm_w32 (l4 + 1))), none, none] [] w15
    else
     mm_at (zP Z) 318 28 [some (.inr (.inr (some o))), some (.inl l1), some (.inl l2), some (.inl l3), some (.inl (mm_w32 (l4 + 1))), none, none] [] w8)
    else none)
   else none
  else
   mm_at (zP Z) 318 22 [some (.inr (.inr (some o))), some (.inl l1), some (.inl l2), some (.inl l3), none, none, none] [] w1)
  else none :=
  (mm_V_eq (P := zP Z) (y := 318) z_cd318 [2, 22, 28] 48 28 _ _ w).trans rfl

-- ThornSchoolModel.pricks(II)I
set_option maxRecDepth 100000 in
set_option maxHeartbeats 4000000 in
theorem B_X12_pricks (Z : mX) (o : Nat) (a1 : Int) (a2 : Int) (w : mW) : mm_run (zP Z) 319 [.inr (.inr (some o)), .inl a1, .inl a2] w =
  if mm_cls w o = 12 then
   (mm_kI (mm_run (zP Z) 272 [.inr (.inr (some o)), .inl a1] w) fun x2 w1 =>
  if x2 = 0 then
   if mm_cls w1 o = 12 then
    (mm_kI (mm_run (zP Z) 216 [.inr (.inr (some o)), .inl 1] w1) fun x4 w3 =>
   some (some (.inl x4), w3))
   else none
  else
   if mm_cls w1 o = 12 then
    (mm_kI (mm_run (zP Z) 270 [.inr (.inr (some o)), .inl a2] w1) fun x6 w5 =>
   if x6 = 0 then
    if mm_cls w5 o = 12 then
     (mm_kI (mm_run (zP Z) 216 [.inr (.inr (some o)), .inl 1] w5) fun x20 w19 =>
    some (some (.inl x20), w19))
    else none
   else
    if mm_cls w5 o = 12 then
     (mm_kV (mm_run (zP Z) 318 [.inr (.inr (some o)), .inl a1, .inl 0] w5) fun w7 =>
    if mm_cls w7 o = 12 then
     (mm_kI (mm_run (zP Z) 274 [.inr (.inr (some o)), .inl a1, .inl 0] w7) fun x9 w8 =>
    if a2 = x9 then
     if mm_cls w8 o = 12 then
      (mm_kI (mm_run (zP Z) 217 [.inr (.inr (some o)), .inl 0] w8) fun x18 w17 =>
     some (some (.inl x18), w17))
     else none
    else
     if mm_cls w8 o = 12 then
      (mm_kI (mm_run (zP Z) 274 [.inr (.inr (some o)), .inl a1, .inl 3] w8) fun x11 w10 =>
     (mm_gR w10 o 12 26).bind fun r12 =>
     r12.bind fun q13 =>
     (mm_ld 0 w10 q13 a2).bind fun x14 =>
     if mm_cls w10 o = 12 then
      (mm_kI (mm_run (zP Z) 217 [.inr (.inr (some o)), .inl (mm_w32 (x11 + x14))] w10) fun x16 w15 =>
     some (some (.inl x16), w15))
     else none)
     else none)
    else none)
    else none)
   else none)
  else none :=
  (mm_run_eq (P := zP Z) (y := 319) z_cd319 rfl (l := [some (.inr (.inr (some o))), some (.inl a1), some (.inl a2)]) rfl [] 31 w).trans rfl

-- ThornSchoolModel.opening(II)I
set_option maxRecDepth 100000 in
set_option maxHeartbeats 4000000 in
theorem B_X12_opening (Z : mX) (o : Nat) (a1 : Int) (a2 : Int) (w : mW) : mm_run (zP Z) 320 [.inr (.inr (some o)), .inl a1, .inl a2] w =
  if mm_cls w o = 12 then
   (mm_kI (mm_run (zP Z) 272 [.inr (.inr (some o)), .inl a1] w) fun x2 w1 =>
  if x2 = 0 then
   if mm_cls w1 o = 12 then
    (mm_kI (mm_run (zP Z) 216 [.inr (.inr (some o)), .inl 1] w1) fun x4 w3 =>
   some (some (.inl x4), w3))
   else none
  else
   if mm_cls w1 o = 12 then
    (mm_kI (mm_run (zP Z) 270 [.inr (.inr (some o)), .inl a2] w1) fun x6 w5 =>
   if x6 = 0 then
    if mm_cls w5 o = 12 then
     (mm_kI (mm_run (zP Z) 216 [.inr (.inr (some o)), .inl 1] w5) fun x14 w13 =>
    some (some (.inl x14), w13))
    else none
   else
    if mm_cls w5 o = 12 then
     (mm_kV (mm_run (zP Z) 318 [.inr (.inr (some o)), .inl a1, .inl 1] w5) fun w7 =>
    (mm_gR w7 o 12 26).bind fun r8 =>
    r8.bind fun q9 =>
    (mm_ld 0 w7 q9 a2).bind fun x10 =>
    if mm_cls w7 o = 12 then
     (mm_kI (mm_run (zP Z) 217 [.inr (.inr (some o)), .inl x10] w7) fun x12 w11 =>
    some (some (.inl x12), w11))
    else none)
    else none)
   else none)
  else none :=
  (mm_run_eq (P := zP Z) (y := 320) z_cd320 rfl (l := [some (.inr (.inr (some o))), some (.inl a1), some (.inl a2)]) rfl [] 20 w).trans rfl

-- ThornSchoolModel.nearTo(II)I
set_option maxRecDepth 100000 in
set_option maxHeartbeats 4000000 in
theorem B_X12_nearTo (Z : mX) (o : Nat) (a1 : Int) (a2 : Int) (w : mW) : mm_run (zP Z) 321 [.inr (.inr (some o)), .inl a1, .inl a2] w =
  mm_at (zP Z) 321 4 [some (.inr (.inr (some o))), some (.inl a1), some (.inl a2), some (.inl 0), some (.inl 0)] [] w :=
  (mm_run_eq (P := zP Z) (y := 321) z_cd321 rfl (l := [some (.inr (.inr (some o))), some (.inl a1), some (.inl a2), none, none]) rfl [4] 5 w).trans rfl

set_option maxRecDepth 100000 in
set_option maxHeartbeats 4000000 in
theorem B_X12_nearTo_4 (Z : mX) (o : Nat) (l1 : Int) (l2 : Int) (l3 : Int) (l4 : Int) (w : mW) : mm_at (zP Z) 321 4 [some (.inr (.inr (some o))), some (.inl l1), some (.inl l2), some (.inl l3), some (.inl l4)] [] w =
  (mm_gR w o 12 0).bind fun r1 =>
  r1.bind fun q2 =>
  (mm_ld 0 w q2 3).bind fun x3 =>
  if l4 < x3 then
   if mm_cls w o = 12 then
    (mm_kI (mm_run (zP Z) 249 [.inr (.inr (some o)), .inl l2, .inl l4] w) fun x5 w4 =>
   if x5 = 0 then
    mm_at (zP Z) 321 4 [some (.inr (.inr (some o))), some (.inl l1), some (.inl l2), some (.inl (mm_ior l3 0)), some (.inl (mm_w32 (l4 + 1)))] [] w4
   else
    if mm_cls w4 o = 12 then
     (mm_kI (mm_run (zP Z) 274 [.inr (.inr (some o)), .inl l4, .inl 0] w4) fun x7 w6 =>
    if mm_cls w6 o = 12 then
     (mm_kI (mm_run (zP Z) 289 [.inr (.inr (some o)), .inl x7, .inl l1] w6) fun x9 w8 =>
    if x9 = 0 then
     mm_at (zP Z) 321 4 [some (.inr (.inr (some o))), some (.inl l1), some (.inl l2), some (.inl (mm_ior l3 0)), some (.inl (mm_w32 (l4 + 1)))] [] w8
    else
     mm_at (zP Z) 321 4 [some (.inr (.inr (some o))), some (.inl l1), some (.inl l2), some (.inl (mm_ior l3 (mm_ishl 1 l4))), some (.inl (mm_w32 (l4 + 1)))] [] w8)
    else none)
    else none)
   else none
  else
   some (some (.inl l3), w) :=
  (mm_V_eq (P := zP Z) (y := 321) z_cd321 [4] 29 4 _ _ w).trans rfl

-- ThornSchoolModel.freed()I
set_option maxRecDepth 100000 in
set_option maxHeartbeats 4000000 in
theorem B_X12_freed (Z : mX) (o : Nat) (w : mW) : mm_run (zP Z) 322 [.inr (.inr (some o))] w =
  (mm_gR w o 12 0).bind fun r1 =>
  r1.bind fun q2 =>
  (mm_ld 0 w q2 3).bind fun x3 =>
  if mm_cls w o = 12 then
   (mm_kI (mm_run (zP Z) 281 [.inr (.inr (some o))] w) fun x5 w4 =>
  mm_at (zP Z) 322 16 [some (.inr (.inr (some o))), some (.inl (mm_iand (mm_w32 ((mm_ishl 1 x3) - 1)) (mm_ixor x5 (-1)))), some (.inl 0), none] [] w4)
  else none :=
  (mm_run_eq (P := zP Z) (y := 322) z_cd322 rfl (l := [some (.inr (.inr (some o))), none, none, none]) rfl [16, 24] 17 w).trans rfl

set_option maxRecDepth 100000 in
set_option maxHeartbeats 4000000 in
theorem B_X12_freed_16 (Z : mX) (o : Nat) (l1 : Int) (l2 : Int) (w : mW) : mm_at (zP Z) 322 16 [some (.inr (.inr (some o))), some (.inl l1), some (.inl l2), none] [] w =
  (mm_gR w o 12 0).bind fun r1 =>
  r1.bind fun q2 =>
  (mm_ld 0 w q2 3).bind fun x3 =>
  if l2 < x3 then
   mm_at (zP Z) 322 24 [some (.inr (.inr (some o))), some (.inl l1), some (.inl l2), some (.inl 0)] [] w
  else
   if mm_cls w o = 12 then
    (mm_kI (mm_run (zP Z) 217 [.inr (.inr (some o)), .inl l1] w) fun x5 w4 =>
   some (some (.inl x5), w4))
   else none :=
  (mm_V_eq (P := zP Z) (y := 322) z_cd322 [16, 24] 11 16 _ _ w).trans rfl

set_option maxRecDepth 100000 in
set_option maxHeartbeats 4000000 in
theorem B_X12_freed_24 (Z : mX) (o : Nat) (l1 : Int) (l2 : Int) (l3 : Int) (w : mW) : mm_at (zP Z) 322 24 [some (.inr (.inr (some o))), some (.inl l1), some (.inl l2), some (.inl l3)] [] w =
  (mm_gR w o 12 0).bind fun r1 =>
  r1.bind fun q2 =>
  (mm_ld 0 w q2 3).bind fun x3 =>
  if l3 < x3 then
   if mm_cls w o = 12 then
    (mm_kI (mm_run (zP Z) 274 [.inr (.inr (some o)), .inl l3, .inl 0] w) fun x5 w4 =>
   if mm_cls w4 o = 12 then
    (mm_kI (mm_run (zP Z) 321 [.inr (.inr (some o)), .inl x5, .inl l1] w4) fun x7 w6 =>
   if x7 = 0 then
    mm_at (zP Z) 322 24 [some (.inr (.inr (some o))), some (.inl (mm_ior l1 0)), some (.inl l2), some (.inl (mm_w32 (l3 + 1)))] [] w6
   else
    mm_at (zP Z) 322 24 [some (.inr (.inr (some o))), some (.inl (mm_ior l1 (mm_ishl 1 l3))), some (.inl l2), some (.inl (mm_w32 (l3 + 1)))] [] w6)
   else none)
   else none
  else
   mm_at (zP Z) 322 16 [some (.inr (.inr (some o))), some (.inl l1), some (.inl (mm_w32 (l2 + 1))), none] [] w :=
  (mm_V_eq (P := zP Z) (y := 322) z_cd322 [16, 24] 24 24 _ _ w).trans rfl

-- ThornSchoolModel.helpers(I)I
set_option maxRecDepth 100000 in
set_option maxHeartbeats 4000000 in
theorem B_X12_helpers (Z : mX) (o : Nat) (a1 : Int) (w : mW) : mm_run (zP Z) 323 [.inr (.inr (some o)), .inl a1] w =
  if mm_cls w o = 12 then
   (mm_kI (mm_run (zP Z) 272 [.inr (.inr (some o)), .inl a1] w) fun x2 w1 =>
  if x2 = 0 then
   if mm_cls w1 o = 12 then
    (mm_kI (mm_run (zP Z) 216 [.inr (.inr (some o)), .inl 1] w1) fun x16 w15 =>
   some (some (.inl x16), w15))
   else none
  else
   if mm_cls w1 o = 12 then
    (mm_kI (mm_run (zP Z) 278 [.inr (.inr (some o)), .inl a1] w1) fun x4 w3 =>
   if x4 = 0 then
    if mm_cls w3 o = 12 then
     (mm_kI (mm_run (zP Z) 216 [.inr (.inr (some o)), .inl 6] w3) fun x14 w13 =>
    some (some (.inl x14), w13))
    else none
   else
    if mm_cls w3 o = 12 then
     (mm_kI (mm_run (zP Z) 274 [.inr (.inr (some o)), .inl a1, .inl 0] w3) fun x6 w5 =>
    if mm_cls w5 o = 12 then
     (mm_kI (mm_run (zP Z) 281 [.inr (.inr (some o))] w5) fun x8 w7 =>
    if mm_cls w7 o = 12 then
     (mm_kI (mm_run (zP Z) 321 [.inr (.inr (some o)), .inl x6, .inl (mm_ixor x8 (-1))] w7) fun x10 w9 =>
    if mm_cls w9 o = 12 then
     (mm_kI (mm_run (zP Z) 217 [.inr (.inr (some o)), .inl x10] w9) fun x12 w11 =>
    some (some (.inl x12), w11))
    else none)
    else none)
    else none)
    else none)
   else none)
  else none :=
  (mm_run_eq (P := zP Z) (y := 323) z_cd323 rfl (l := [some (.inr (.inr (some o))), some (.inl a1)]) rfl [] 22 w).trans rfl

-- ThornSchoolModel.learns(I)I
set_option maxRecDepth 100000 in
set_option maxHeartbeats 4000000 in
theorem B_X12_learns (Z : mX) (o : Nat) (a1 : Int) (w : mW) : mm_run (zP Z) 324 [.inr (.inr (some o)), .inl a1] w =
  if mm_cls w o = 12 then
   (mm_kI (mm_run (zP Z) 272 [.inr (.inr (some o)), .inl a1] w) fun x2 w1 =>
  if x2 = 0 then
   if mm_cls w1 o = 12 then
    (mm_kI (mm_run (zP Z) 216 [.inr (.inr (some o)), .inl 1] w1) fun x4 w3 =>
   some (some (.inl x4), w3))
   else none
  else
   if mm_cls w1 o = 12 then
    (mm_kI (mm_run (zP Z) 292 [.inr (.inr (some o)), .inl a1] w1) fun x6 w5 =>
   if mm_cls w5 o = 12 then
    (mm_kI (mm_run (zP Z) 218 [.inr (.inr (some o)), .inl x6] w5) fun x8 w7 =>
   some (some (.inl x8), w7))
   else none)
   else none)
  else none :=
  (mm_run_eq (P := zP Z) (y := 324) z_cd324 rfl (l := [some (.inr (.inr (some o))), some (.inl a1)]) rfl [] 12 w).trans rfl

-- ThornSchoolModel.allNeeds(I)I
set_option maxRecDepth 100000 in
set_option maxHeartbeats 4000000 in
theorem B_X12_allNeeds (Z : mX) (o : Nat) (a1 : Int) (w : mW) : mm_run (zP Z) 325 [.inr (.inr (some o)), .inl a1] w =
  mm_at (zP Z) 325 6 [some (.inr (.inr (some o))), none, some (.inl (mm_ishl 1 a1)), some (.inl a1)] [] w :=
  (mm_run_eq (P := zP Z) (y := 325) z_cd325 rfl (l := [some (.inr (.inr (some o))), some (.inl a1), none, none]) rfl [6] 7 w).trans rfl

set_option maxRecDepth 100000 in
set_option maxHeartbeats 4000000 in
theorem B_X12_allNeeds_6 (Z : mX) (o : Nat) (l2 : Int) (l3 : Int) (w : mW) : mm_at (zP Z) 325 6 [some (.inr (.inr (some o))), none, some (.inl l2), some (.inl l3)] [] w =
  if l3 < 0 then
   some (some (.inl l2), w)
  else
   if mm_cls w o = 12 then
    (mm_kI (mm_run (zP Z) 249 [.inr (.inr (some o)), .inl l2, .inl l3] w) fun x2 w1 =>
   if x2 = 0 then
    mm_at (zP Z) 325 6 [some (.inr (.inr (some o))), none, some (.inl (mm_ior l2 0)), some (.inl (mm_w32 (l3 + (-1))))] [] w1
   else
    if mm_cls w1 o = 12 then
     (mm_kI (mm_run (zP Z) 275 [.inr (.inr (some o)), .inl l3] w1) fun x4 w3 =>
    mm_at (zP Z) 325 6 [some (.inr (.inr (some o))), none, some (.inl (mm_ior l2 x4)), some (.inl (mm_w32 (l3 + (-1))))] [] w3)
    else none)
   else none :=
  (mm_V_eq (P := zP Z) (y := 325) z_cd325 [6] 17 6 _ _ w).trans rfl

-- ThornSchoolModel.hoursOf(I)I
set_option maxRecDepth 100000 in
set_option maxHeartbeats 4000000 in
theorem B_X12_hoursOf (Z : mX) (o : Nat) (a1 : Int) (w : mW) : mm_run (zP Z) 326 [.inr (.inr (some o)), .inl a1] w =
  mm_at (zP Z) 326 4 [some (.inr (.inr (some o))), some (.inl a1), some (.inl 0), some (.inl 0)] [] w :=
  (mm_run_eq (P := zP Z) (y := 326) z_cd326 rfl (l := [some (.inr (.inr (some o))), some (.inl a1), none, none]) rfl [4] 5 w).trans rfl

set_option maxRecDepth 100000 in
set_option maxHeartbeats 4000000 in
theorem B_X12_hoursOf_4 (Z : mX) (o : Nat) (l1 : Int) (l2 : Int) (l3 : Int) (w : mW) : mm_at (zP Z) 326 4 [some (.inr (.inr (some o))), some (.inl l1), some (.inl l2), some (.inl l3)] [] w =
  (mm_gR w o 12 0).bind fun r1 =>
  r1.bind fun q2 =>
  (mm_ld 0 w q2 2).bind fun x3 =>
  if l3 < x3 then
   if mm_cls w o = 12 then
    (mm_kI (mm_run (zP Z) 249 [.inr (.inr (some o)), .inl l1, .inl l3] w) fun x5 w4 =>
   if x5 = 0 then
    mm_at (zP Z) 326 4 [some (.inr (.inr (some o))), some (.inl l1), some (.inl (mm_w32 (l2 + 0))), some (.inl (mm_w32 (l3 + 1)))] [] w4
   else
    (mm_gR w4 o 12 0).bind fun r6 =>
    mm_kI (mm_run (zP Z) 246 [.inl l3] w4) fun x8 w7 =>
    r6.bind fun q9 =>
    (mm_ld 0 w7 q9 x8).bind fun x10 =>
    mm_at (zP Z) 326 4 [some (.inr (.inr (some o))), some (.inl l1), some (.inl (mm_w32 (l2 + x10))), some (.inl (mm_w32 (l3 + 1)))] [] w7)
   else none
  else
   some (some (.inl l2), w) :=
  (mm_V_eq (P := zP Z) (y := 326) z_cd326 [4] 23 4 _ _ w).trans rfl

-- ThornSchoolModel.alone(I)I
set_option maxRecDepth 100000 in
set_option maxHeartbeats 4000000 in
theorem B_X12_alone (Z : mX) (o : Nat) (a1 : Int) (w : mW) : mm_run (zP Z) 327 [.inr (.inr (some o)), .inl a1] w =
  if mm_cls w o = 12 then
   (mm_kI (mm_run (zP Z) 271 [.inr (.inr (some o)), .inl a1] w) fun x2 w1 =>
  if x2 = 0 then
   if mm_cls w1 o = 12 then
    (mm_kI (mm_run (zP Z) 216 [.inr (.inr (some o)), .inl 1] w1) fun x4 w3 =>
   some (some (.inl x4), w3))
   else none
  else
   if mm_cls w1 o = 12 then
    (mm_kI (mm_run (zP Z) 325 [.inr (.inr (some o)), .inl a1] w1) fun x6 w5 =>
   if mm_cls w5 o = 12 then
    (mm_kI (mm_run (zP Z) 326 [.inr (.inr (some o)), .inl x6] w5) fun x8 w7 =>
   if mm_cls w7 o = 12 then
    (mm_kI (mm_run (zP Z) 217 [.inr (.inr (some o)), .inl x8] w7) fun x10 w9 =>
   some (some (.inl x10), w9))
   else none)
   else none)
   else none)
  else none :=
  (mm_run_eq (P := zP Z) (y := 327) z_cd327 rfl (l := [some (.inr (.inr (some o))), some (.inl a1)]) rfl [] 14 w).trans rfl

-- ThornSchoolModel.together(I)I
set_option maxRecDepth 100000 in
set_option maxHeartbeats 4000000 in
theorem B_X12_together (Z : mX) (o : Nat) (a1 : Int) (w : mW) : mm_run (zP Z) 328 [.inr (.inr (some o)), .inl a1] w =
  if mm_cls w o = 12 then
   (mm_kI (mm_run (zP Z) 271 [.inr (.inr (some o)), .inl a1] w) fun x2 w1 =>
  if x2 = 0 then
   if mm_cls w1 o = 12 then
    (mm_kI (mm_run (zP Z) 216 [.inr (.inr (some o)), .inl 1] w1) fun x4 w3 =>
   some (some (.inl x4), w3))
   else none
  else
   mm_at (zP Z) 328 10 [some (.inr (.inr (some o))), some (.inl a1), some (.inl 0), none, none] [] w1)
  else none :=
  (mm_run_eq (P := zP Z) (y := 328) z_cd328 rfl (l := [some (.inr (.inr (some o))), some (.inl a1), none, none, none]) rfl [10, 17] 9 w).trans rfl

set_option maxRecDepth 100000 in
set_option maxHeartbeats 4000000 in
theorem B_X12_together_10 (Z : mX) (o : Nat) (l1 : Int) (l2 : Int) (w : mW) : mm_at (zP Z) 328 10 [some (.inr (.inr (some o))), some (.inl l1), some (.inl l2), none, none] [] w =
  if l1 < l2 then
   (mm_gR w o 12 27).bind fun r1 =>
   r1.bind fun q2 =>
   (mm_ld 0 w q2 l1).bind fun x3 =>
   if mm_cls w o = 12 then
    (mm_kI (mm_run (zP Z) 217 [.inr (.inr (some o)), .inl x3] w) fun x5 w4 =>
   some (some (.inl x5), w4))
   else none
  else
   mm_at (zP Z) 328 17 [some (.inr (.inr (some o))), some (.inl l1), some (.inl l2), some (.inl 0), some (.inl 0)] [] w :=
  (mm_V_eq (P := zP Z) (y := 328) z_cd328 [10, 17] 11 10 _ _ w).trans rfl

set_option maxRecDepth 100000 in
set_option maxHeartbeats 4000000 in
theorem B_X12_together_17 (Z : mX) (o : Nat) (l1 : Int) (l2 : Int) (l3 : Int) (l4 : Int) (w : mW) : mm_at (zP Z) 328 17 [some (.inr (.inr (some o))), some (.inl l1), some (.inl l2), some (.inl l3), some (.inl l4)] [] w =
  if l4 < l2 then
   if mm_cls w o = 12 then
    (mm_kI (mm_run (zP Z) 275 [.inr (.inr (some o)), .inl l2] w) fun x10 w9 =>
   if mm_cls w9 o = 12 then
    (mm_kI (mm_run (zP Z) 249 [.inr (.inr (some o)), .inl x10, .inl l4] w9) fun x12 w11 =>
   if x12 = 0 then
    mm_at (zP Z) 328 17 [some (.inr (.inr (some o))), some (.inl l1), some (.inl l2), some (.inl l3), some (.inl (mm_w32 (l4 + 1)))] [] w11
   else
    (mm_gR w11 o 12 27).bind fun r13 =>
    r13.bind fun q14 =>
    (mm_ld 0 w11 q14 l4).bind fun x15 =>
    mm_at (zP Z) 328 17 [some (.inr (.inr (some o))), some (.inl l1), some (.inl l2), some (.inl (if l3 < x15 then x15 else l3)), some (.inl (mm_w32 (l4 + 1)))] [] w11)
   else none)
   else none
  else
   (mm_gR w o 12 27).bind fun r1 =>
   (mm_gR w o 12 0).bind fun r2 =>
   mm_kI (mm_run (zP Z) 246 [.inl l2] w) fun x4 w3 =>
   r2.bind fun q5 =>
   (mm_ld 0 w3 q5 x4).bind fun x6 =>
   r1.bind fun q7 =>
   (mm_st 0 w3 q7 l2 (mm_w32 (l3 + x6))).bind fun w8 =>
   mm_at (zP Z) 328 10 [some (.inr (.inr (some o))), some (.inl l1), some (.inl (mm_w32 (l2 + 1))), none, none] [] w8 :=
  (mm_V_eq (P := zP Z) (y := 328) z_cd328 [10, 17] 21 17 _ _ w).trans rfl

-- ThornSchoolModel.orders()I
set_option maxRecDepth 100000 in
set_option maxHeartbeats 4000000 in
theorem B_X12_orders (Z : mX) (o : Nat) (w : mW) : mm_run (zP Z) 329 [.inr (.inr (some o))] w =
  (mm_gR w o 12 0).bind fun r1 =>
  r1.bind fun q2 =>
  (mm_ld 0 w q2 2).bind fun x3 =>
  (mm_gR w o 12 28).bind fun r4 =>
  r4.bind fun q5 =>
  (mm_st 0 w q5 0 1).bind fun w6 =>
  mm_at (zP Z) 329 16 [some (.inr (.inr (some o))), some (.inl (mm_w32 ((mm_ishl 1 x3) - 1))), some (.inl 1), none, none] [] w6 :=
  (mm_run_eq (P := zP Z) (y := 329) z_cd329 rfl (l := [some (.inr (.inr (some o))), none, none, none, none]) rfl [16, 26, 47, 48] 17 w).trans rfl

set_option maxRecDepth 100000 in
set_option maxHeartbeats 4000000 in
theorem B_X12_orders_16 (Z : mX) (o : Nat) (l1 : Int) (l2 : Int) (w : mW) : mm_at (zP Z) 329 16 [some (.inr (.inr (some o))), some (.inl l1), some (.inl l2), none, none] [] w =
  if l1 < l2 then
   (mm_gR w o 12 28).bind fun r1 =>
   r1.bind fun q2 =>
   (mm_ld 0 w q2 l1).bind fun x3 =>
   if mm_cls w o = 12 then
    (mm_kI (mm_run (zP Z) 217 [.inr (.inr (some o)), .inl x3] w) fun x5 w4 =>
   some (some (.inl x5), w4))
   else none
  else
   (mm_gR w o 12 28).bind fun r6 =>
   r6.bind fun q7 =>
   (mm_st 0 w q7 l2 0).bind fun w8 =>
   mm_at (zP Z) 329 26 [some (.inr (.inr (some o))), some (.inl l1), some (.inl l2), some (.inl 0), none] [] w8 :=
  (mm_V_eq (P := zP Z) (y := 329) z_cd329 [16, 26, 47, 48] 11 16 _ _ w).trans rfl

set_option maxRecDepth 100000 in
set_option maxHeartbeats 4000000 in
theorem B_X12_orders_26 (Z : mX) (o : Nat) (l1 : Int) (l2 : Int) (l3 : Int) (w : mW) : mm_at (zP Z) 329 26 [some (.inr (.inr (some o))), some (.inl l1), some (.inl l2), some (.inl l3), none] [] w =
  (mm_gR w o 12 0).bind fun r1 =>
  r1.bind fun q2 =>
  (mm_ld 0 w q2 2).bind fun x3 =>
  if l3 < x3 then
   if mm_cls w o = 12 then
    (mm_kI (mm_run (zP Z) 249 [.inr (.inr (some o)), .inl l2, .inl l3] w) fun x5 w4 =>
   if x5 = 0 then
    mm_at (zP Z) 329 47 [some (.inr (.inr (some o))), some (.inl l1), some (.inl l2), some (.inl l3), none] [] w4
   else
    if mm_cls w4 o = 12 then
     (mm_kI (mm_run (zP Z) 275 [.inr (.inr (some o)), .inl l3] w4) fun x7 w6 =>
    if mm_iand x7 (mm_ixor l2 (-1)) = 0 then
     mm_at (zP Z) 329 48 [some (.inr (.inr (some o))), some (.inl l1), some (.inl l2), some (.inl l3), none] [.inl 1] w6
    else
     mm_at (zP Z) 329 47 [some (.inr (.inr (some o))), some (.inl l1), some (.inl l2), some (.inl l3), none] [] w6)
    else none)
   else none
  else
   mm_at (zP Z) 329 16 [some (.inr (.inr (some o))), some (.inl l1), some (.inl (mm_w32 (l2 + 1))), none, none] [] w :=
  (mm_V_eq (P := zP Z) (y := 329) z_cd329 [16, 26, 47, 48] 22 26 _ _ w).trans rfl

set_option maxRecDepth 100000 in
set_option maxHeartbeats 4000000 in
theorem B_X12_orders_47 (Z : mX) (o : Nat) (l1 : Int) (l2 : Int) (l3 : Int) (w : mW) : mm_at (zP Z) 329 47 [some (.inr (.inr (some o))), some (.inl l1), some (.inl l2), some (.inl l3), none] [] w =
  mm_at (zP Z) 329 48 [some (.inr (.inr (some o))), some (.inl l1), some (.inl l2), some (.inl l3), none] [.inl 0] w :=
  (mm_V_eq (P := zP Z) (y := 329) z_cd329 [16, 26, 47, 48] 2 47 _ _ w).trans rfl

set_option maxRecDepth 100000 in
set_option maxHeartbeats 4000000 in
theorem B_X12_orders_48 (Z : mX) (o : Nat) (l1 : Int) (l2 : Int) (l3 : Int) (s0 : Int) (w : mW) : mm_at (zP Z) 329 48 [some (.inr (.inr (some o))), some (.inl l1), some (.inl l2), some (.inl l3), none] [.inl s0] w =
  if s0 = 0 then
   mm_at (zP Z) 329 26 [some (.inr (.inr (some o))), some (.inl l1), some (.inl l2), some (.inl (mm_w32 (l3 + 1))), none] [] w
  else
   (mm_gR w o 12 28).bind fun r1 =>
   r1.bind fun q2 =>
   (mm_ld 0 w q2 l2).bind fun x3 =>
   (mm_gR w o 12 28).bind fun r4 =>
   r4.bind fun q5 =>
   (mm_ld 0 w q5 (mm_iand l2 (mm_ixor (mm_ishl 1 l3) (-1)))).bind fun x6 =>
   r1.bind fun q7 =>
   (mm_st 0 w q7 l2 (mm_w32 (x3 + x6))).bind fun w8 =>
   mm_at (zP Z) 329 26 [some (.inr (.inr (some o))), some (.inl l1), some (.inl l2), some (.inl (mm_w32 (l3 + 1))), none] [] w8 :=
  (mm_V_eq (P := zP Z) (y := 329) z_cd329 [16, 26, 47, 48] 23 48 _ _ w).trans rfl

-- ThornSchoolModel.orderAt(I)I
set_option maxRecDepth 100000 in
set_option maxHeartbeats 4000000 in
theorem B_X12_orderAt (Z : mX) (o : Nat) (a1 : Int) (w : mW) : mm_run (zP Z) 330 [.inr (.inr (some o)), .inl a1] w =
  if a1 < 0 then
   if mm_cls w o = 12 then
    (mm_kI (mm_run (zP Z) 216 [.inr (.inr (some o)), .inl 1] w) fun x2 w1 =>
   some (some (.inl x2), w1))
   else none
  else
   mm_at (zP Z) 330 12 [some (.inr (.inr (some o))), some (.inl a1), some (.inl 0), some (.inl (-1)), some (.inl 0)] [] w :=
  (mm_run_eq (P := zP Z) (y := 330) z_cd330 rfl (l := [some (.inr (.inr (some o))), some (.inl a1), none, none, none]) rfl [12, 28, 51] 9 w).trans rfl

set_option maxRecDepth 100000 in
set_option maxHeartbeats 4000000 in
theorem B_X12_orderAt_12 (Z : mX) (o : Nat) (l1 : Int) (l2 : Int) (l3 : Int) (l4 : Int) (w : mW) : mm_at (zP Z) 330 12 [some (.inr (.inr (some o))), some (.inl l1), some (.inl l2), some (.inl l3), some (.inl l4)] [] w =
  if l1 < l4 then
   mm_at (zP Z) 330 51 [some (.inr (.inr (some o))), some (.inl l1), none, some (.inl l3), none] [] w
  else
   (mm_gR w o 12 0).bind fun r1 =>
   r1.bind fun q2 =>
   (mm_ld 0 w q2 2).bind fun x3 =>
   if l4 < x3 then
    (mm_gR w o 12 0).bind fun r4 =>
    r4.bind fun q5 =>
    (mm_ld 0 w q5 2).bind fun x6 =>
    mm_at (zP Z) 330 28 [some (.inr (.inr (some o))), some (.inl l1), some (.inl l2), some (.inl (mm_w32 (x6 - 1))), some (.inl l4)] [] w
   else
    mm_at (zP Z) 330 51 [some (.inr (.inr (some o))), some (.inl l1), none, some (.inl l3), none] [] w :=
  (mm_V_eq (P := zP Z) (y := 330) z_cd330 [12, 28, 51] 17 12 _ _ w).trans rfl

set_option maxRecDepth 100000 in
set_option maxHeartbeats 4000000 in
theorem B_X12_orderAt_28 (Z : mX) (o : Nat) (l1 : Int) (l2 : Int) (l3 : Int) (l4 : Int) (w : mW) : mm_at (zP Z) 330 28 [some (.inr (.inr (some o))), some (.inl l1), some (.inl l2), some (.inl l3), some (.inl l4)] [] w =
  if mm_cls w o = 12 then
   (mm_kI (mm_run (zP Z) 249 [.inr (.inr (some o)), .inl l2, .inl l3] w) fun x2 w1 =>
  if x2 = 0 then
   if mm_cls w1 o = 12 then
    (mm_kI (mm_run (zP Z) 275 [.inr (.inr (some o)), .inl l3] w1) fun x4 w3 =>
   if mm_iand x4 (mm_ixor l2 (-1)) = 0 then
    mm_at (zP Z) 330 12 [some (.inr (.inr (some o))), some (.inl l1), some (.inl (mm_ior l2 (mm_ishl 1 l3))), some (.inl l3), some (.inl (mm_w32 (l4 + 1)))] [] w3
   else
    mm_at (zP Z) 330 28 [some (.inr (.inr (some o))), some (.inl l1), some (.inl l2), some (.inl (mm_w32 (l3 + (-1)))), some (.inl l4)] [] w3)
   else none
  else
   mm_at (zP Z) 330 28 [some (.inr (.inr (some o))), some (.inl l1), some (.inl l2), some (.inl (mm_w32 (l3 + (-1)))), some (.inl l4)] [] w1)
  else none :=
  (mm_V_eq (P := zP Z) (y := 330) z_cd330 [12, 28, 51] 22 28 _ _ w).trans rfl

set_option maxRecDepth 100000 in
set_option maxHeartbeats 4000000 in
theorem B_X12_orderAt_51 (Z : mX) (o : Nat) (l1 : Int) (l3 : Int) (w : mW) : mm_at (zP Z) 330 51 [some (.inr (.inr (some o))), some (.inl l1), none, some (.inl l3), none] [] w =
  (mm_gR w o 12 0).bind fun r1 =>
  r1.bind fun q2 =>
  (mm_ld 0 w q2 2).bind fun x3 =>
  if l1 < x3 then
   if mm_cls w o = 12 then
    (mm_kI (mm_run (zP Z) 217 [.inr (.inr (some o)), .inl l3] w) fun x5 w4 =>
   some (some (.inl x5), w4))
   else none
  else
   if mm_cls w o = 12 then
    (mm_kI (mm_run (zP Z) 216 [.inr (.inr (some o)), .inl 6] w) fun x7 w6 =>
   some (some (.inl x7), w6))
   else none :=
  (mm_V_eq (P := zP Z) (y := 330) z_cd330 [12, 28, 51] 12 51 _ _ w).trans rfl

-- ThornSchoolModel.left(II)I
set_option maxRecDepth 100000 in
set_option maxHeartbeats 4000000 in
theorem B_X12_left (Z : mX) (o : Nat) (a1 : Int) (a2 : Int) (w : mW) : mm_run (zP Z) 331 [.inr (.inr (some o)), .inl a1, .inl a2] w =
  if mm_cls w o = 12 then
   (mm_kI (mm_run (zP Z) 272 [.inr (.inr (some o)), .inl a1] w) fun x2 w1 =>
  if x2 = 0 then
   if mm_cls w1 o = 12 then
    (mm_kI (mm_run (zP Z) 216 [.inr (.inr (some o)), .inl 1] w1) fun x4 w3 =>
   some (some (.inl x4), w3))
   else none
  else
   if mm_cls w1 o = 12 then
    (mm_kI (mm_run (zP Z) 271 [.inr (.inr (some o)), .inl a2] w1) fun x6 w5 =>
   if x6 = 0 then
    if mm_cls w5 o = 12 then
     (mm_kI (mm_run (zP Z) 216 [.inr (.inr (some o)), .inl 1] w5) fun x20 w19 =>
    some (some (.inl x20), w19))
    else none
   else
    if mm_cls w5 o = 12 then
     (mm_kI (mm_run (zP Z) 274 [.inr (.inr (some o)), .inl a1, .inl 2] w5) fun x8 w7 =>
    if mm_cls w7 o = 12 then
     (mm_kI (mm_run (zP Z) 249 [.inr (.inr (some o)), .inl x8, .inl a2] w7) fun x10 w9 =>
    if x10 = 0 then
     if mm_cls w9 o = 12 then
      (mm_kI (mm_run (zP Z) 325 [.inr (.inr (some o)), .inl a2] w9) fun x12 w11 =>
     if mm_cls w11 o = 12 then
      (mm_kI (mm_run (zP Z) 326 [.inr (.inr (some o)), .inl (mm_iand x12 (mm_ixor x8 (-1)))] w11) fun x14 w13 =>
     if mm_cls w13 o = 12 then
      (mm_kI (mm_run (zP Z) 217 [.inr (.inr (some o)), .inl x14] w13) fun x16 w15 =>
     some (some (.inl x16), w15))
     else none)
     else none)
     else none
    else
     if mm_cls w9 o = 12 then
      (mm_kI (mm_run (zP Z) 217 [.inr (.inr (some o)), .inl 0] w9) fun x18 w17 =>
     some (some (.inl x18), w17))
     else none)
    else none)
    else none)
   else none)
  else none :=
  (mm_run_eq (P := zP Z) (y := 331) z_cd331 rfl (l := [some (.inr (.inr (some o))), some (.inl a1), some (.inl a2), none]) rfl [] 31 w).trans rfl

-- ThornSchoolModel.wrongSeen(III)I
set_option maxRecDepth 100000 in
set_option maxHeartbeats 4000000 in
theorem B_X12_wrongSeen (Z : mX) (o : Nat) (a1 : Int) (a2 : Int) (a3 : Int) (w : mW) : mm_run (zP Z) 332 [.inr (.inr (some o)), .inl a1, .inl a2, .inl a3] w =
  if mm_cls w o = 12 then
   (mm_kI (mm_run (zP Z) 272 [.inr (.inr (some o)), .inl a1] w) fun x2 w1 =>
  if x2 = 0 then
   some (some (.inl 1), w1)
  else
   mm_kI (mm_run (zP Z) 220 [.inl a2] w1) fun x4 w3 =>
   if x4 = 0 then
    some (some (.inl 1), w3)
   else
    mm_kI (mm_run (zP Z) 227 [.inr (.inl a3), .inr (.inl 0), .inr (.inl 20)] w3) fun x6 w5 =>
    if x6 = 0 then
     some (some (.inl 1), w5)
    else
     (mm_gR w5 o 12 6).bind fun r7 =>
     r7.bind fun q8 =>
     (mm_ld 0 w5 q8 a2).bind fun x9 =>
     if x9 = (-1) then
      some (some (.inl 2), w5)
     else
      (mm_gR w5 o 12 6).bind fun r10 =>
      r10.bind fun q11 =>
      (mm_ld 0 w5 q11 a2).bind fun x12 =>
      if x12 < mm_w32 (2 * a3) then
       some (some (.inl 3), w5)
      else
       mm_at (zP Z) 332 35 [some (.inr (.inr (some o))), none, some (.inl a2), some (.inl a3), some (.inl 0), none] [] w5)
  else none :=
  (mm_run_eq (P := zP Z) (y := 332) z_cd332 rfl (l := [some (.inr (.inr (some o))), some (.inl a1), some (.inl a2), some (.inl a3), none, none]) rfl [35] 30 w).trans rfl

set_option maxRecDepth 100000 in
set_option maxHeartbeats 4000000 in
theorem B_X12_wrongSeen_35 (Z : mX) (o : Nat) (l2 : Int) (l3 : Int) (l4 : Int) (w : mW) : mm_at (zP Z) 332 35 [some (.inr (.inr (some o))), none, some (.inl l2), some (.inl l3), some (.inl l4), none] [] w =
  if l4 < l3 then
   (mm_gR w o 12 7).bind fun r1 =>
   r1.bind fun q2 =>
   (mm_ld 3 w q2 (mm_w32 ((mm_w32 (60 * l2)) + (mm_w32 (2 * l4))))).bind fun x3 =>
   if mm_cls w o = 12 then
    (mm_kI (mm_run (zP Z) 248 [.inr (.inr (some o)), .inl 0] w) fun x5 w4 =>
   mm_kI (mm_run (zP Z) 227 [.inr (.inl x3), .inr (.inl 0), .inr (.inl (mm_w64 (x5 - 1)))] w4) fun x7 w6 =>
   if x7 = 0 then
    some (some (.inl 5), w6)
   else
    (mm_gR w6 o 12 7).bind fun r8 =>
    r8.bind fun q9 =>
    (mm_ld 3 w6 q9 (mm_w32 ((mm_w32 ((mm_w32 (60 * l2)) + (mm_w32 (2 * l4)))) + 1))).bind fun x10 =>
    mm_kI (mm_run (zP Z) 227 [.inr (.inl x10), .inr (.inl 0), .inr (.inl 18)] w6) fun x12 w11 =>
    if x12 = 0 then
     some (some (.inl 5), w11)
    else
     mm_at (zP Z) 332 35 [some (.inr (.inr (some o))), none, some (.inl l2), some (.inl l3), some (.inl (mm_w32 (l4 + 1))), none] [] w11)
   else none
  else
   some (some (.inl 0), w) :=
  (mm_V_eq (P := zP Z) (y := 332) z_cd332 [35] 37 35 _ _ w).trans rfl

-- ThornSchoolModel.laysFits(III)I
set_option maxRecDepth 100000 in
set_option maxHeartbeats 4000000 in
theorem B_X12_laysFits (Z : mX) (o : Nat) (a1 : Int) (a2 : Int) (a3 : Int) (w : mW) : mm_run (zP Z) 333 [.inr (.inr (some o)), .inl a1, .inl a2, .inl a3] w =
  mm_at (zP Z) 333 4 [some (.inr (.inr (some o))), some (.inl a1), some (.inl a2), some (.inl a3), some (.inl 0), some (.inl 0), none, none] [] w :=
  (mm_run_eq (P := zP Z) (y := 333) z_cd333 rfl (l := [some (.inr (.inr (some o))), some (.inl a1), some (.inl a2), some (.inl a3), none, none, none, none]) rfl [4, 14] 5 w).trans rfl

set_option maxRecDepth 100000 in
set_option maxHeartbeats 4000000 in
theorem B_X12_laysFits_4 (Z : mX) (o : Nat) (l1 : Int) (l2 : Int) (l3 : Int) (l4 : Int) (l5 : Int) (w : mW) : mm_at (zP Z) 333 4 [some (.inr (.inr (some o))), some (.inl l1), some (.inl l2), some (.inl l3), some (.inl l4), some (.inl l5), none, none] [] w =
  if 9 < l5 then
   some (some (.inl l4), w)
  else
   (mm_gR w o 12 29).bind fun r1 =>
   r1.bind fun q2 =>
   if 1 = 0 ∨ 1 = 1 then
    ((mm_st 2 w q2 l5 1).bind fun w3 =>
   mm_at (zP Z) 333 14 [some (.inr (.inr (some o))), some (.inl l1), some (.inl l2), some (.inl l3), some (.inl l4), some (.inl l5), some (.inl 0), none] [] w3)
   else none :=
  (mm_V_eq (P := zP Z) (y := 333) z_cd333 [4, 14] 11 4 _ _ w).trans rfl

set_option maxRecDepth 100000 in
set_option maxHeartbeats 4000000 in
theorem B_X12_laysFits_14 (Z : mX) (o : Nat) (l1 : Int) (l2 : Int) (l3 : Int) (l4 : Int) (l5 : Int) (l6 : Int) (w : mW) : mm_at (zP Z) 333 14 [some (.inr (.inr (some o))), some (.inl l1), some (.inl l2), some (.inl l3), some (.inl l4), some (.inl l5), some (.inl l6), none] [] w =
  if l6 < l3 then
   (mm_gR w o 12 7).bind fun r4 =>
   r4.bind fun q5 =>
   (mm_ld 3 w q5 (mm_w32 ((mm_w32 (60 * l2)) + (mm_w32 (2 * l6))))).bind fun x6 =>
   if mm_cls w o = 12 then
    (mm_kI (mm_run (zP Z) 276 [.inr (.inr (some o)), .inl l1, .inl (mm_w32 x6), .inl l5] w) fun x8 w7 =>
   (mm_gR w7 o 12 7).bind fun r9 =>
   r9.bind fun q10 =>
   (mm_ld 3 w7 q10 (mm_w32 ((mm_w32 ((mm_w32 (60 * l2)) + (mm_w32 (2 * l6)))) + 1))).bind fun x11 =>
   if mm_lcmp x8 x11 = 0 then
    mm_at (zP Z) 333 14 [some (.inr (.inr (some o))), some (.inl l1), some (.inl l2), some (.inl l3), some (.inl l4), some (.inl l5), some (.inl (mm_w32 (l6 + 1))), none] [] w7
   else
    (mm_gR w7 o 12 29).bind fun r12 =>
    r12.bind fun q13 =>
    if 0 = 0 ∨ 0 = 1 then
     ((mm_st 2 w7 q13 l5 0).bind fun w14 =>
    mm_at (zP Z) 333 14 [some (.inr (.inr (some o))), some (.inl l1), some (.inl l2), some (.inl l3), some (.inl l4), some (.inl l5), some (.inl (mm_w32 (l6 + 1))), none] [] w14)
    else none)
   else none
  else
   (mm_gR w o 12 29).bind fun r1 =>
   r1.bind fun q2 =>
   (mm_ld 2 w q2 l5).bind fun x3 =>
   if x3 = 0 then
    mm_at (zP Z) 333 4 [some (.inr (.inr (some o))), some (.inl l1), some (.inl l2), some (.inl l3), some (.inl (mm_w32 (l4 + 0))), some (.inl (mm_w32 (l5 + 1))), none, none] [] w
   else
    mm_at (zP Z) 333 4 [some (.inr (.inr (some o))), some (.inl l1), some (.inl l2), some (.inl l3), some (.inl (mm_w32 (l4 + 1))), some (.inl (mm_w32 (l5 + 1))), none, none] [] w :=
  (mm_V_eq (P := zP Z) (y := 333) z_cd333 [4, 14] 37 14 _ _ w).trans rfl

-- ThornSchoolModel.fits(III)I
set_option maxRecDepth 100000 in
set_option maxHeartbeats 4000000 in
theorem B_X12_fits (Z : mX) (o : Nat) (a1 : Int) (a2 : Int) (a3 : Int) (w : mW) : mm_run (zP Z) 334 [.inr (.inr (some o)), .inl a1, .inl a2, .inl a3] w =
  if mm_cls w o = 12 then
   (mm_kI (mm_run (zP Z) 332 [.inr (.inr (some o)), .inl a1, .inl a2, .inl a3] w) fun x2 w1 =>
  if 0 < x2 then
   if mm_cls w1 o = 12 then
    (mm_kI (mm_run (zP Z) 216 [.inr (.inr (some o)), .inl x2] w1) fun x8 w7 =>
   some (some (.inl x8), w7))
   else none
  else
   if mm_cls w1 o = 12 then
    (mm_kI (mm_run (zP Z) 333 [.inr (.inr (some o)), .inl a1, .inl a2, .inl a3] w1) fun x4 w3 =>
   if mm_cls w3 o = 12 then
    (mm_kI (mm_run (zP Z) 217 [.inr (.inr (some o)), .inl x4] w3) fun x6 w5 =>
   some (some (.inl x6), w5))
   else none)
   else none)
  else none :=
  (mm_run_eq (P := zP Z) (y := 334) z_cd334 rfl (l := [some (.inr (.inr (some o))), some (.inl a1), some (.inl a2), some (.inl a3), none]) rfl [] 17 w).trans rfl

-- ThornSchoolModel.fitsAt(IIII)I
set_option maxRecDepth 100000 in
set_option maxHeartbeats 4000000 in
theorem B_X12_fitsAt (Z : mX) (o : Nat) (a1 : Int) (a2 : Int) (a3 : Int) (a4 : Int) (w : mW) : mm_run (zP Z) 335 [.inr (.inr (some o)), .inl a1, .inl a2, .inl a3, .inl a4] w =
  if a4 < 0 then
   mm_at (zP Z) 335 9 [some (.inr (.inr (some o))), some (.inl a1), some (.inl a2), some (.inl a3), some (.inl a4), none, none, none] [.inl 1] w
  else
   if mm_cls w o = 12 then
    (mm_kI (mm_run (zP Z) 332 [.inr (.inr (some o)), .inl a1, .inl a2, .inl a3] w) fun x2 w1 =>
   mm_at (zP Z) 335 9 [some (.inr (.inr (some o))), some (.inl a1), some (.inl a2), some (.inl a3), some (.inl a4), none, none, none] [.inl x2] w1)
   else none :=
  (mm_run_eq (P := zP Z) (y := 335) z_cd335 rfl (l := [some (.inr (.inr (some o))), some (.inl a1), some (.inl a2), some (.inl a3), some (.inl a4), none, none, none]) rfl [9, 26] 8 w).trans rfl

set_option maxRecDepth 100000 in
set_option maxHeartbeats 4000000 in
theorem B_X12_fitsAt_9 (Z : mX) (o : Nat) (l1 : Int) (l2 : Int) (l3 : Int) (l4 : Int) (s0 : Int) (w : mW) : mm_at (zP Z) 335 9 [some (.inr (.inr (some o))), some (.inl l1), some (.inl l2), some (.inl l3), some (.inl l4), none, none, none] [.inl s0] w =
  if 0 < s0 then
   if mm_cls w o = 12 then
    (mm_kI (mm_run (zP Z) 216 [.inr (.inr (some o)), .inl s0] w) fun x4 w3 =>
   some (some (.inl x4), w3))
   else none
  else
   if mm_cls w o = 12 then
    (mm_kI (mm_run (zP Z) 333 [.inr (.inr (some o)), .inl l1, .inl l2, .inl l3] w) fun x2 w1 =>
   mm_at (zP Z) 335 26 [some (.inr (.inr (some o))), none, none, none, none, none, some (.inl l4), some (.inl 0)] [] w1)
   else none :=
  (mm_V_eq (P := zP Z) (y := 335) z_cd335 [9, 26] 14 9 _ _ w).trans rfl

set_option maxRecDepth 100000 in
set_option maxHeartbeats 4000000 in
theorem B_X12_fitsAt_26 (Z : mX) (o : Nat) (l6 : Int) (l7 : Int) (w : mW) : mm_at (zP Z) 335 26 [some (.inr (.inr (some o))), none, none, none, none, none, some (.inl l6), some (.inl l7)] [] w =
  if 9 < l7 then
   if mm_cls w o = 12 then
    (mm_kI (mm_run (zP Z) 216 [.inr (.inr (some o)), .inl 6] w) fun x2 w1 =>
   some (some (.inl x2), w1))
   else none
  else
   (mm_gR w o 12 29).bind fun r3 =>
   r3.bind fun q4 =>
   (mm_ld 2 w q4 l7).bind fun x5 =>
   if x5 = 0 then
    mm_at (zP Z) 335 26 [some (.inr (.inr (some o))), none, none, none, none, none, some (.inl l6), some (.inl (mm_w32 (l7 + 1)))] [] w
   else
    if l6 = 0 then
     if mm_cls w o = 12 then
      (mm_kI (mm_run (zP Z) 217 [.inr (.inr (some o)), .inl l7] w) fun x7 w6 =>
     some (some (.inl x7), w6))
     else none
    else
     mm_at (zP Z) 335 26 [some (.inr (.inr (some o))), none, none, none, none, none, some (.inl (mm_w32 (l6 + (-1)))), some (.inl (mm_w32 (l7 + 1)))] [] w :=
  (mm_V_eq (P := zP Z) (y := 335) z_cd335 [9, 26] 15 26 _ _ w).trans rfl

-- ThornSchoolModel.mostAlike(II)I
set_option maxRecDepth 100000 in
set_option maxHeartbeats 4000000 in
theorem B_X12_mostAlike (Z : mX) (o : Nat) (a1 : Int) (a2 : Int) (w : mW) : mm_run (zP Z) 336 [.inr (.inr (some o)), .inl a1, .inl a2] w =
  mm_at (zP Z) 336 4 [some (.inr (.inr (some o))), some (.inl a1), some (.inl a2), some (.inl 0), some (.inl 0), none, none] [] w :=
  (mm_run_eq (P := zP Z) (y := 336) z_cd336 rfl (l := [some (.inr (.inr (some o))), some (.inl a1), some (.inl a2), none, none, none, none]) rfl [4, 11] 5 w).trans rfl

set_option maxRecDepth 100000 in
set_option maxHeartbeats 4000000 in
theorem B_X12_mostAlike_4 (Z : mX) (o : Nat) (l1 : Int) (l2 : Int) (l3 : Int) (l4 : Int) (w : mW) : mm_at (zP Z) 336 4 [some (.inr (.inr (some o))), some (.inl l1), some (.inl l2), some (.inl l3), some (.inl l4), none, none] [] w =
  if 9 < l4 then
   some (some (.inl l3), w)
  else
   mm_at (zP Z) 336 11 [some (.inr (.inr (some o))), some (.inl l1), some (.inl l2), some (.inl l3), some (.inl l4), some (.inl 0), some (.inl 0)] [] w :=
  (mm_V_eq (P := zP Z) (y := 336) z_cd336 [4, 11] 8 4 _ _ w).trans rfl

set_option maxRecDepth 100000 in
set_option maxHeartbeats 4000000 in
theorem B_X12_mostAlike_11 (Z : mX) (o : Nat) (l1 : Int) (l2 : Int) (l3 : Int) (l4 : Int) (l5 : Int) (l6 : Int) (w : mW) : mm_at (zP Z) 336 11 [some (.inr (.inr (some o))), some (.inl l1), some (.inl l2), some (.inl l3), some (.inl l4), some (.inl l5), some (.inl l6)] [] w =
  if 9 < l6 then
   mm_at (zP Z) 336 4 [some (.inr (.inr (some o))), some (.inl l1), some (.inl l2), some (.inl (if l3 < l5 then l5 else l3)), some (.inl (mm_w32 (l4 + 1))), none, none] [] w
  else
   (mm_gR w o 12 29).bind fun r1 =>
   r1.bind fun q2 =>
   (mm_ld 2 w q2 l4).bind fun x3 =>
   if x3 = 0 then
    mm_at (zP Z) 336 11 [some (.inr (.inr (some o))), some (.inl l1), some (.inl l2), some (.inl l3), some (.inl l4), some (.inl (mm_w32 (l5 + 0))), some (.inl (mm_w32 (l6 + 1)))] [] w
   else
    (mm_gR w o 12 29).bind fun r4 =>
    r4.bind fun q5 =>
    (mm_ld 2 w q5 l6).bind fun x6 =>
    if x6 = 0 then
     mm_at (zP Z) 336 11 [some (.inr (.inr (some o))), some (.inl l1), some (.inl l2), some (.inl l3), some (.inl l4), some (.inl (mm_w32 (l5 + 0))), some (.inl (mm_w32 (l6 + 1)))] [] w
    else
     if mm_cls w o = 12 then
      (mm_kI (mm_run (zP Z) 276 [.inr (.inr (some o)), .inl l1, .inl l2, .inl l4] w) fun x8 w7 =>
     if mm_cls w7 o = 12 then
      (mm_kI (mm_run (zP Z) 276 [.inr (.inr (some o)), .inl l1, .inl l2, .inl l6] w7) fun x10 w9 =>
     if x8 = x10 then
      mm_at (zP Z) 336 11 [some (.inr (.inr (some o))), some (.inl l1), some (.inl l2), some (.inl l3), some (.inl l4), some (.inl (mm_w32 (l5 + 1))), some (.inl (mm_w32 (l6 + 1)))] [] w9
     else
      mm_at (zP Z) 336 11 [some (.inr (.inr (some o))), some (.inl l1), some (.inl l2), some (.inl l3), some (.inl l4), some (.inl (mm_w32 (l5 + 0))), some (.inl (mm_w32 (l6 + 1)))] [] w9)
     else none)
     else none :=
  (mm_V_eq (P := zP Z) (y := 336) z_cd336 [4, 11] 32 11 _ _ w).trans rfl

-- ThornSchoolModel.ask(III)I
set_option maxRecDepth 100000 in
set_option maxHeartbeats 4000000 in
theorem B_X12_ask (Z : mX) (o : Nat) (a1 : Int) (a2 : Int) (a3 : Int) (w : mW) : mm_run (zP Z) 337 [.inr (.inr (some o)), .inl a1, .inl a2, .inl a3] w =
  if mm_cls w o = 12 then
   (mm_kI (mm_run (zP Z) 332 [.inr (.inr (some o)), .inl a1, .inl a2, .inl a3] w) fun x2 w1 =>
  if 0 < x2 then
   if mm_cls w1 o = 12 then
    (mm_kI (mm_run (zP Z) 216 [.inr (.inr (some o)), .inl x2] w1) fun x8 w7 =>
   some (some (.inl x8), w7))
   else none
  else
   if mm_cls w1 o = 12 then
    (mm_kI (mm_run (zP Z) 333 [.inr (.inr (some o)), .inl a1, .inl a2, .inl a3] w1) fun x4 w3 =>
   if x4 < 2 then
    if mm_cls w3 o = 12 then
     (mm_kI (mm_run (zP Z) 216 [.inr (.inr (some o)), .inl 6] w3) fun x6 w5 =>
    some (some (.inl x6), w5))
    else none
   else
    mm_at (zP Z) 337 27 [some (.inr (.inr (some o))), some (.inl a1), none, none, none, some (.inl 0), some (.inl 1)] [] w3)
   else none)
  else none :=
  (mm_run_eq (P := zP Z) (y := 337) z_cd337 rfl (l := [some (.inr (.inr (some o))), some (.inl a1), some (.inl a2), some (.inl a3), none, none, none]) rfl [27] 20 w).trans rfl

set_option maxRecDepth 100000 in
set_option maxHeartbeats 4000000 in
theorem B_X12_ask_27 (Z : mX) (o : Nat) (l1 : Int) (l5 : Int) (l6 : Int) (w : mW) : mm_at (zP Z) 337 27 [some (.inr (.inr (some o))), some (.inl l1), none, none, none, some (.inl l5), some (.inl l6)] [] w =
  if mm_cls w o = 12 then
   (mm_kI (mm_run (zP Z) 248 [.inr (.inr (some o)), .inl 0] w) fun x2 w1 =>
  if l6 < x2 then
   if mm_cls w1 o = 12 then
    (mm_kI (mm_run (zP Z) 336 [.inr (.inr (some o)), .inl l1, .inl l6] w1) fun x6 w5 =>
   if mm_cls w5 o = 12 then
    (mm_kI (mm_run (zP Z) 336 [.inr (.inr (some o)), .inl l1, .inl l5] w5) fun x8 w7 =>
   if x6 < x8 then
    mm_at (zP Z) 337 27 [some (.inr (.inr (some o))), some (.inl l1), none, none, none, some (.inl l6), some (.inl (mm_w32 (l6 + 1)))] [] w7
   else
    mm_at (zP Z) 337 27 [some (.inr (.inr (some o))), some (.inl l1), none, none, none, some (.inl l5), some (.inl (mm_w32 (l6 + 1)))] [] w7)
   else none)
   else none
  else
   if mm_cls w1 o = 12 then
    (mm_kI (mm_run (zP Z) 217 [.inr (.inr (some o)), .inl l5] w1) fun x4 w3 =>
   some (some (.inl x4), w3))
   else none)
  else none :=
  (mm_V_eq (P := zP Z) (y := 337) z_cd337 [27] 19 27 _ _ w).trans rfl

-- ThornSchoolModel.whose(II)I
set_option maxRecDepth 100000 in
set_option maxHeartbeats 4000000 in
theorem B_X12_whose (Z : mX) (o : Nat) (a1 : Int) (a2 : Int) (w : mW) : mm_run (zP Z) 338 [.inr (.inr (some o)), .inl a1, .inl a2] w =
  mm_kI (mm_run (zP Z) 220 [.inl a1] w) fun x2 w1 =>
  if x2 = 0 then
   if mm_cls w1 o = 12 then
    (mm_kI (mm_run (zP Z) 216 [.inr (.inr (some o)), .inl 1] w1) fun x4 w3 =>
   some (some (.inl x4), w3))
   else none
  else
   mm_kI (mm_run (zP Z) 227 [.inr (.inl a2), .inr (.inl 0), .inr (.inl 20)] w1) fun x6 w5 =>
   if x6 = 0 then
    if mm_cls w5 o = 12 then
     (mm_kI (mm_run (zP Z) 216 [.inr (.inr (some o)), .inl 1] w5) fun x18 w17 =>
    some (some (.inl x18), w17))
    else none
   else
    (mm_gR w5 o 12 6).bind fun r7 =>
    r7.bind fun q8 =>
    (mm_ld 0 w5 q8 a1).bind fun x9 =>
    if x9 = (-1) then
     if mm_cls w5 o = 12 then
      (mm_kI (mm_run (zP Z) 216 [.inr (.inr (some o)), .inl 2] w5) fun x16 w15 =>
     some (some (.inl x16), w15))
     else none
    else
     (mm_gR w5 o 12 6).bind fun r10 =>
     r10.bind fun q11 =>
     (mm_ld 0 w5 q11 a1).bind fun x12 =>
     if x12 < a2 then
      if mm_cls w5 o = 12 then
       (mm_kI (mm_run (zP Z) 216 [.inr (.inr (some o)), .inl 3] w5) fun x14 w13 =>
      some (some (.inl x14), w13))
      else none
     else
      mm_at (zP Z) 338 35 [some (.inr (.inr (some o))), some (.inl a1), some (.inl a2), some (.inl 0), none, none, none, none] [] w5 :=
  (mm_run_eq (P := zP Z) (y := 338) z_cd338 rfl (l := [some (.inr (.inr (some o))), some (.inl a1), some (.inl a2), none, none, none, none, none]) rfl [35, 65, 79] 26 w).trans rfl

set_option maxRecDepth 100000 in
set_option maxHeartbeats 4000000 in
theorem B_X12_whose_35 (Z : mX) (o : Nat) (l1 : Int) (l2 : Int) (l3 : Int) (w : mW) : mm_at (zP Z) 338 35 [some (.inr (.inr (some o))), some (.inl l1), some (.inl l2), some (.inl l3), none, none, none, none] [] w =
  if l3 < l2 then
   (mm_gR w o 12 7).bind fun r1 =>
   r1.bind fun q2 =>
   (mm_ld 3 w q2 (mm_w32 ((mm_w32 (60 * l1)) + l3))).bind fun x3 =>
   if mm_cls w o = 12 then
    (mm_kI (mm_run (zP Z) 248 [.inr (.inr (some o)), .inl 0] w) fun x5 w4 =>
   mm_kI (mm_run (zP Z) 227 [.inr (.inl x3), .inr (.inl 0), .inr (.inl (mm_w64 (x5 - 1)))] w4) fun x7 w6 =>
   if x7 = 0 then
    if mm_cls w6 o = 12 then
     (mm_kI (mm_run (zP Z) 216 [.inr (.inr (some o)), .inl 5] w6) fun x9 w8 =>
    some (some (.inl x9), w8))
    else none
   else
    mm_at (zP Z) 338 35 [some (.inr (.inr (some o))), some (.inl l1), some (.inl l2), some (.inl (mm_w32 (l3 + 1))), none, none, none, none] [] w6)
   else none
  else
   mm_at (zP Z) 338 65 [some (.inr (.inr (some o))), some (.inl l1), some (.inl l2), some (.inl 0), some (.inl 0), none, none, none] [] w :=
  (mm_V_eq (P := zP Z) (y := 338) z_cd338 [35, 65, 79] 25 35 _ _ w).trans rfl

set_option maxRecDepth 100000 in
set_option maxHeartbeats 4000000 in
theorem B_X12_whose_65 (Z : mX) (o : Nat) (l1 : Int) (l2 : Int) (l3 : Int) (l4 : Int) (w : mW) : mm_at (zP Z) 338 65 [some (.inr (.inr (some o))), some (.inl l1), some (.inl l2), some (.inl l3), some (.inl l4), none, none, none] [] w =
  (mm_gR w o 12 0).bind fun r1 =>
  r1.bind fun q2 =>
  (mm_ld 0 w q2 3).bind fun x3 =>
  if l4 < x3 then
   if mm_cls w o = 12 then
    (mm_kI (mm_run (zP Z) 311 [.inr (.inr (some o)), .inl l4] w) fun x7 w6 =>
   mm_at (zP Z) 338 79 [some (.inr (.inr (some o))), some (.inl l1), some (.inl l2), some (.inl l3), some (.inl l4), some (.inl x7), some (.inl 1), some (.inl 0)] [] w6)
   else none
  else
   if mm_cls w o = 12 then
    (mm_kI (mm_run (zP Z) 217 [.inr (.inr (some o)), .inl l3] w) fun x5 w4 =>
   some (some (.inl x5), w4))
   else none :=
  (mm_V_eq (P := zP Z) (y := 338) z_cd338 [35, 65, 79] 15 65 _ _ w).trans rfl

set_option maxRecDepth 100000 in
set_option maxHeartbeats 4000000 in
theorem B_X12_whose_79 (Z : mX) (o : Nat) (l1 : Int) (l2 : Int) (l3 : Int) (l4 : Int) (l5 : Int) (l6 : Int) (l7 : Int) (w : mW) : mm_at (zP Z) 338 79 [some (.inr (.inr (some o))), some (.inl l1), some (.inl l2), some (.inl l3), some (.inl l4), some (.inl l5), some (.inl l6), some (.inl l7)] [] w =
  if l7 < l2 then
   if l6 = 0 then
    mm_at (zP Z) 338 79 [some (.inr (.inr (some o))), some (.inl l1), some (.inl l2), some (.inl l3), some (.inl l4), some (.inl l5), some (.inl 0), some (.inl (mm_w32 (l7 + 1)))] [] w
   else
    (mm_gR w o 12 7).bind fun r1 =>
    r1.bind fun q2 =>
    (mm_ld 3 w q2 (mm_w32 ((mm_w32 (60 * l1)) + l7))).bind fun x3 =>
    if mm_cls w o = 12 then
     (mm_kI (mm_run (zP Z) 249 [.inr (.inr (some o)), .inl l5, .inl (mm_w32 x3)] w) fun x5 w4 =>
    if x5 = 0 then
     mm_at (zP Z) 338 79 [some (.inr (.inr (some o))), some (.inl l1), some (.inl l2), some (.inl l3), some (.inl l4), some (.inl l5), some (.inl 0), some (.inl (mm_w32 (l7 + 1)))] [] w4
    else
     mm_at (zP Z) 338 79 [some (.inr (.inr (some o))), some (.inl l1), some (.inl l2), some (.inl l3), some (.inl l4), some (.inl l5), some (.inl 1), some (.inl (mm_w32 (l7 + 1)))] [] w4)
    else none
  else
   if l6 = 0 then
    mm_at (zP Z) 338 65 [some (.inr (.inr (some o))), some (.inl l1), some (.inl l2), some (.inl (mm_ior l3 0)), some (.inl (mm_w32 (l4 + 1))), none, none, none] [] w
   else
    mm_at (zP Z) 338 65 [some (.inr (.inr (some o))), some (.inl l1), some (.inl l2), some (.inl (mm_ior l3 (mm_ishl 1 l4))), some (.inl (mm_w32 (l4 + 1))), none, none, none] [] w :=
  (mm_V_eq (P := zP Z) (y := 338) z_cd338 [35, 65, 79] 24 79 _ _ w).trans rfl

-- ThornSchoolModel.mayGo(III)I
set_option maxRecDepth 100000 in
set_option maxHeartbeats 4000000 in
theorem B_X12_mayGo (Z : mX) (o : Nat) (a1 : Int) (a2 : Int) (a3 : Int) (w : mW) : mm_run (zP Z) 339 [.inr (.inr (some o)), .inl a1, .inl a2, .inl a3] w =
  if a3 = 4 then
   some (some (.inl a2), w)
  else
   if mm_cls w o = 12 then
    (mm_kI (mm_run (zP Z) 288 [.inr (.inr (some o)), .inl a2, .inl a3] w) fun x2 w1 =>
   if x2 = (-1) then
    some (some (.inl (-1)), w1)
   else
    if mm_cls w1 o = 12 then
     (mm_kI (mm_run (zP Z) 308 [.inr (.inr (some o)), .inl a1, .inl x2] w1) fun x4 w3 =>
    if x4 = 0 then
     some (some (.inl (-1)), w3)
    else
     some (some (.inl x2), w3))
    else none)
   else none :=
  (mm_run_eq (P := zP Z) (y := 339) z_cd339 rfl (l := [some (.inr (.inr (some o))), some (.inl a1), some (.inl a2), some (.inl a3), none]) rfl [] 20 w).trans rfl

-- ThornSchoolModel.isSafe(IIII)Z
set_option maxRecDepth 100000 in
set_option maxHeartbeats 4000000 in
theorem B_X12_isSafe (Z : mX) (o : Nat) (a1 : Int) (a2 : Int) (a3 : Int) (a4 : Int) (w : mW) : mm_run (zP Z) 340 [.inr (.inr (some o)), .inl a1, .inl a2, .inl a3, .inl a4] w =
  if a2 = a3 then
   some (some (.inl 0), w)
  else
   mm_at (zP Z) 340 9 [some (.inr (.inr (some o))), some (.inl a1), some (.inl a2), some (.inl a3), some (.inl a4), some (.inl 1), some (.inl 0), none] [] w :=
  (mm_run_eq (P := zP Z) (y := 340) z_cd340 rfl (l := [some (.inr (.inr (some o))), some (.inl a1), some (.inl a2), some (.inl a3), some (.inl a4), none, none, none]) rfl [9] 8 w).trans rfl

set_option maxRecDepth 100000 in
set_option maxHeartbeats 4000000 in
theorem B_X12_isSafe_9 (Z : mX) (o : Nat) (l1 : Int) (l2 : Int) (l3 : Int) (l4 : Int) (l5 : Int) (l6 : Int) (w : mW) : mm_at (zP Z) 340 9 [some (.inr (.inr (some o))), some (.inl l1), some (.inl l2), some (.inl l3), some (.inl l4), some (.inl l5), some (.inl l6), none] [] w =
  if l6 < 5 then
   if mm_cls w o = 12 then
    (mm_kI (mm_run (zP Z) 339 [.inr (.inr (some o)), .inl l1, .inl l3, .inl l6] w) fun x2 w1 =>
   if x2 = (-1) then
    mm_at (zP Z) 340 9 [some (.inr (.inr (some o))), some (.inl l1), some (.inl l2), some (.inl l3), some (.inl l4), some (.inl l5), some (.inl (mm_w32 (l6 + 1))), none] [] w1
   else
    (mm_gR w1 o 12 30).bind fun r3 =>
    r3.bind fun q4 =>
    (mm_ld 2 w1 q4 (mm_w32 ((mm_w32 ((mm_w32 (625 * l4)) + (mm_w32 (25 * l2)))) + x2))).bind fun x5 =>
    if x5 = 0 then
     mm_at (zP Z) 340 9 [some (.inr (.inr (some o))), some (.inl l1), some (.inl l2), some (.inl l3), some (.inl l4), some (.inl 0), some (.inl (mm_w32 (l6 + 1))), none] [] w1
    else
     mm_at (zP Z) 340 9 [some (.inr (.inr (some o))), some (.inl l1), some (.inl l2), some (.inl l3), some (.inl l4), some (.inl l5), some (.inl (mm_w32 (l6 + 1))), none] [] w1)
   else none
  else
   if l5 = 0 ∨ l5 = 1 then some (some (.inl l5), w) else none :=
  (mm_V_eq (P := zP Z) (y := 340) z_cd340 [9] 30 9 _ _ w).trans rfl

-- ThornSchoolModel.keepsBy(IIIII)I
set_option maxRecDepth 100000 in
set_option maxHeartbeats 4000000 in
theorem B_X12_keepsBy (Z : mX) (o : Nat) (a1 : Int) (a2 : Int) (a3 : Int) (a4 : Int) (a5 : Int) (w : mW) : mm_run (zP Z) 341 [.inr (.inr (some o)), .inl a1, .inl a2, .inl a3, .inl a4, .inl a5] w =
  mm_at (zP Z) 341 2 [some (.inr (.inr (some o))), some (.inl a1), some (.inl a2), some (.inl a3), some (.inl a4), some (.inl a5), some (.inl 0), none] [] w :=
  (mm_run_eq (P := zP Z) (y := 341) z_cd341 rfl (l := [some (.inr (.inr (some o))), some (.inl a1), some (.inl a2), some (.inl a3), some (.inl a4), some (.inl a5), none, none]) rfl [2] 3 w).trans rfl

set_option maxRecDepth 100000 in
set_option maxHeartbeats 4000000 in
theorem B_X12_keepsBy_2 (Z : mX) (o : Nat) (l1 : Int) (l2 : Int) (l3 : Int) (l4 : Int) (l5 : Int) (l6 : Int) (w : mW) : mm_at (zP Z) 341 2 [some (.inr (.inr (some o))), some (.inl l1), some (.inl l2), some (.inl l3), some (.inl l4), some (.inl l5), some (.inl l6), none] [] w =
  if l6 < 5 then
   if mm_cls w o = 12 then
    (mm_kI (mm_run (zP Z) 339 [.inr (.inr (some o)), .inl l1, .inl l3, .inl l6] w) fun x2 w1 =>
   if x2 = (-1) then
    mm_at (zP Z) 341 2 [some (.inr (.inr (some o))), some (.inl l1), some (.inl l2), some (.inl l3), some (.inl l4), some (.inl l5), some (.inl (mm_w32 (l6 + 1))), none] [] w1
   else
    if mm_cls w1 o = 12 then
     (mm_kI (mm_run (zP Z) 340 [.inr (.inr (some o)), .inl l2, .inl x2, .inl l4, .inl (mm_w32 (l5 - 1))] w1) fun x4 w3 =>
    if x4 = 0 then
     mm_at (zP Z) 341 2 [some (.inr (.inr (some o))), some (.inl l1), some (.inl l2), some (.inl l3), some (.inl l4), some (.inl l5), some (.inl (mm_w32 (l6 + 1))), none] [] w3
    else
     some (some (.inl l6), w3))
    else none)
   else none
  else
   some (some (.inl (-1)), w) :=
  (mm_V_eq (P := zP Z) (y := 341) z_cd341 [2] 24 2 _ _ w).trans rfl

-- ThornSchoolModel.laysKeeps(III)V
set_option maxRecDepth 100000 in
set_option maxHeartbeats 4000000 in
theorem B_X12_laysKeeps (Z : mX) (o : Nat) (a1 : Int) (a2 : Int) (a3 : Int) (w : mW) : mm_run (zP Z) 342 [.inr (.inr (some o)), .inl a1, .inl a2, .inl a3] w =
  if mm_cls w o = 12 then
   (mm_kI (mm_run (zP Z) 248 [.inr (.inr (some o)), .inl 0] w) fun x2 w1 =>
  mm_at (zP Z) 342 6 [some (.inr (.inr (some o))), some (.inl a1), some (.inl a2), some (.inl a3), some (.inl x2), some (.inl 0), none, none, none] [] w1)
  else none :=
  (mm_run_eq (P := zP Z) (y := 342) z_cd342 rfl (l := [some (.inr (.inr (some o))), some (.inl a1), some (.inl a2), some (.inl a3), none, none, none, none, none]) rfl [6, 11] 7 w).trans rfl

set_option maxRecDepth 100000 in
set_option maxHeartbeats 4000000 in
theorem B_X12_laysKeeps_6 (Z : mX) (o : Nat) (l1 : Int) (l2 : Int) (l3 : Int) (l4 : Int) (l5 : Int) (w : mW) : mm_at (zP Z) 342 6 [some (.inr (.inr (some o))), some (.inl l1), some (.inl l2), some (.inl l3), some (.inl l4), some (.inl l5), none, none, none] [] w =
  if l3 < l5 then
   some (none, w)
  else
   mm_at (zP Z) 342 11 [some (.inr (.inr (some o))), some (.inl l1), some (.inl l2), some (.inl l3), some (.inl l4), some (.inl l5), some (.inl 0), none, none] [] w :=
  (mm_V_eq (P := zP Z) (y := 342) z_cd342 [6, 11] 6 6 _ _ w).trans rfl

set_option maxRecDepth 100000 in
set_option maxHeartbeats 4000000 in
theorem B_X12_laysKeeps_11 (Z : mX) (o : Nat) (l1 : Int) (l2 : Int) (l3 : Int) (l4 : Int) (l5 : Int) (l6 : Int) (w : mW) : mm_at (zP Z) 342 11 [some (.inr (.inr (some o))), some (.inl l1), some (.inl l2), some (.inl l3), some (.inl l4), some (.inl l5), some (.inl l6), none, none] [] w =
  if l6 < mm_w32 (l4 * l4) then
   if l4 = 0 then none else
   if l4 = 0 then none else
   (mm_gR w o 12 30).bind fun r1 =>
   if mm_idiv l6 l4 = mm_irem l6 l4 then
    r1.bind fun q2 =>
    if 0 = 0 ∨ 0 = 1 then
     ((mm_st 2 w q2 (mm_w32 ((mm_w32 ((mm_w32 (625 * l5)) + (mm_w32 (25 * (mm_idiv l6 l4))))) + (mm_irem l6 l4))) 0).bind fun w3 =>
    mm_at (zP Z) 342 11 [some (.inr (.inr (some o))), some (.inl l1), some (.inl l2), some (.inl l3), some (.inl l4), some (.inl l5), some (.inl (mm_w32 (l6 + 1))), none, none] [] w3)
    else none
   else
    if l5 = 0 then
     r1.bind fun q4 =>
     if 1 = 0 ∨ 1 = 1 then
      ((mm_st 2 w q4 (mm_w32 ((mm_w32 ((mm_w32 (625 * l5)) + (mm_w32 (25 * (mm_idiv l6 l4))))) + (mm_irem l6 l4))) 1).bind fun w5 =>
     mm_at (zP Z) 342 11 [some (.inr (.inr (some o))), some (.inl l1), some (.inl l2), some (.inl l3), some (.inl l4), some (.inl l5), some (.inl (mm_w32 (l6 + 1))), none, none] [] w5)
     else none
    else
     if mm_cls w o = 12 then
      (mm_kI (mm_run (zP Z) 341 [.inr (.inr (some o)), .inl l1, .inl l2, .inl (mm_idiv l6 l4), .inl (mm_irem l6 l4), .inl l5] w) fun x7 w6 =>
     if x7 = (-1) then
      r1.bind fun q8 =>
      if 0 = 0 ∨ 0 = 1 then
       ((mm_st 2 w6 q8 (mm_w32 ((mm_w32 ((mm_w32 (625 * l5)) + (mm_w32 (25 * (mm_idiv l6 l4))))) + (mm_irem l6 l4))) 0).bind fun w9 =>
      mm_at (zP Z) 342 11 [some (.inr (.inr (some o))), some (.inl l1), some (.inl l2), some (.inl l3), some (.inl l4), some (.inl l5), some (.inl (mm_w32 (l6 + 1))), none, none] [] w9)
      else none
     else
      r1.bind fun q10 =>
      if 1 = 0 ∨ 1 = 1 then
       ((mm_st 2 w6 q10 (mm_w32 ((mm_w32 ((mm_w32 (625 * l5)) + (mm_w32 (25 * (mm_idiv l6 l4))))) + (mm_irem l6 l4))) 1).bind fun w11 =>
      mm_at (zP Z) 342 11 [some (.inr (.inr (some o))), some (.inl l1), some (.inl l2), some (.inl l3), some (.inl l4), some (.inl l5), some (.inl (mm_w32 (l6 + 1))), none, none] [] w11)
      else none)
     else none
  else
   mm_at (zP Z) 342 6 [some (.inr (.inr (some o))), some (.inl l1), some (.inl l2), some (.inl l3), some (.inl l4), some (.inl (mm_w32 (l5 + 1))), none, none, none] [] w :=
  (mm_V_eq (P := zP Z) (y := 342) z_cd342 [6, 11] 44 11 _ _ w).trans rfl

-- ThornSchoolModel.areTwo(II)Z
set_option maxRecDepth 100000 in
set_option maxHeartbeats 4000000 in
theorem B_X12_areTwo (Z : mX) (o : Nat) (a1 : Int) (a2 : Int) (w : mW) : mm_run (zP Z) 343 [.inr (.inr (some o)), .inl a1, .inl a2] w =
  if mm_cls w o = 12 then
   (mm_kI (mm_run (zP Z) 272 [.inr (.inr (some o)), .inl a1] w) fun x2 w1 =>
  if x2 = 0 then
   some (some (.inl 0), w1)
  else
   if mm_cls w1 o = 12 then
    (mm_kI (mm_run (zP Z) 272 [.inr (.inr (some o)), .inl a2] w1) fun x4 w3 =>
   if x4 = 0 then
    some (some (.inl 0), w3)
   else
    if a1 = a2 then
     some (some (.inl 0), w3)
    else
     some (some (.inl 1), w3))
   else none)
  else none :=
  (mm_run_eq (P := zP Z) (y := 343) z_cd343 rfl (l := [some (.inr (.inr (some o))), some (.inl a1), some (.inl a2)]) rfl [] 15 w).trans rfl

-- ThornSchoolModel.game(III)I
set_option maxRecDepth 100000 in
set_option maxHeartbeats 4000000 in
theorem B_X12_game (Z : mX) (o : Nat) (a1 : Int) (a2 : Int) (a3 : Int) (w : mW) : mm_run (zP Z) 344 [.inr (.inr (some o)), .inl a1, .inl a2, .inl a3] w =
  if mm_cls w o = 12 then
   (mm_kI (mm_run (zP Z) 343 [.inr (.inr (some o)), .inl a1, .inl a2] w) fun x2 w1 =>
  if x2 = 0 then
   if mm_cls w1 o = 12 then
    (mm_kI (mm_run (zP Z) 216 [.inr (.inr (some o)), .inl 1] w1) fun x4 w3 =>
   some (some (.inl x4), w3))
   else none
  else
   mm_kI (mm_run (zP Z) 227 [.inr (.inl a3), .inr (.inl 0), .inr (.inl 4)] w1) fun x6 w5 =>
   if x6 = 0 then
    if mm_cls w5 o = 12 then
     (mm_kI (mm_run (zP Z) 216 [.inr (.inr (some o)), .inl 1] w5) fun x20 w19 =>
    some (some (.inl x20), w19))
    else none
   else
    if mm_cls w5 o = 12 then
     (mm_kV (mm_run (zP Z) 342 [.inr (.inr (some o)), .inl a1, .inl a2, .inl a3] w5) fun w7 =>
    (mm_gR w7 o 12 30).bind fun r8 =>
    if mm_cls w7 o = 12 then
     (mm_kI (mm_run (zP Z) 274 [.inr (.inr (some o)), .inl a1, .inl 0] w7) fun x10 w9 =>
    if mm_cls w9 o = 12 then
     (mm_kI (mm_run (zP Z) 274 [.inr (.inr (some o)), .inl a2, .inl 0] w9) fun x12 w11 =>
    r8.bind fun q13 =>
    (mm_ld 2 w11 q13 (mm_w32 ((mm_w32 ((mm_w32 (625 * a3)) + (mm_w32 (25 * x10)))) + x12))).bind fun x14 =>
    if x14 = 0 then
     if mm_cls w11 o = 12 then
      (mm_kI (mm_run (zP Z) 217 [.inr (.inr (some o)), .inl 0] w11) fun x16 w15 =>
     some (some (.inl x16), w15))
     else none
    else
     if mm_cls w11 o = 12 then
      (mm_kI (mm_run (zP Z) 217 [.inr (.inr (some o)), .inl 1] w11) fun x18 w17 =>
     some (some (.inl x18), w17))
     else none)
    else none)
    else none)
    else none)
  else none :=
  (mm_run_eq (P := zP Z) (y := 344) z_cd344 rfl (l := [some (.inr (.inr (some o))), some (.inl a1), some (.inl a2), some (.inl a3)]) rfl [] 41 w).trans rfl

-- ThornSchoolModel.moveOf(III)I
set_option maxRecDepth 100000 in
set_option maxHeartbeats 4000000 in
theorem B_X12_moveOf (Z : mX) (o : Nat) (a1 : Int) (a2 : Int) (a3 : Int) (w : mW) : mm_run (zP Z) 345 [.inr (.inr (some o)), .inl a1, .inl a2, .inl a3] w =
  if mm_cls w o = 12 then
   (mm_kI (mm_run (zP Z) 343 [.inr (.inr (some o)), .inl a1, .inl a2] w) fun x2 w1 =>
  if x2 = 0 then
   if mm_cls w1 o = 12 then
    (mm_kI (mm_run (zP Z) 216 [.inr (.inr (some o)), .inl 1] w1) fun x4 w3 =>
   some (some (.inl x4), w3))
   else none
  else
   mm_kI (mm_run (zP Z) 227 [.inr (.inl a3), .inr (.inl 1), .inr (.inl 4)] w1) fun x6 w5 =>
   if x6 = 0 then
    if mm_cls w5 o = 12 then
     (mm_kI (mm_run (zP Z) 216 [.inr (.inr (some o)), .inl 1] w5) fun x26 w25 =>
    some (some (.inl x26), w25))
    else none
   else
    if mm_cls w5 o = 12 then
     (mm_kV (mm_run (zP Z) 342 [.inr (.inr (some o)), .inl a1, .inl a2, .inl a3] w5) fun w7 =>
    (mm_gR w7 o 12 30).bind fun r8 =>
    if mm_cls w7 o = 12 then
     (mm_kI (mm_run (zP Z) 274 [.inr (.inr (some o)), .inl a1, .inl 0] w7) fun x10 w9 =>
    if mm_cls w9 o = 12 then
     (mm_kI (mm_run (zP Z) 274 [.inr (.inr (some o)), .inl a2, .inl 0] w9) fun x12 w11 =>
    r8.bind fun q13 =>
    (mm_ld 2 w11 q13 (mm_w32 ((mm_w32 ((mm_w32 (625 * a3)) + (mm_w32 (25 * x10)))) + x12))).bind fun x14 =>
    if x14 = 0 then
     if mm_cls w11 o = 12 then
      (mm_kI (mm_run (zP Z) 216 [.inr (.inr (some o)), .inl 6] w11) fun x24 w23 =>
     some (some (.inl x24), w23))
     else none
    else
     if mm_cls w11 o = 12 then
      (mm_kI (mm_run (zP Z) 274 [.inr (.inr (some o)), .inl a1, .inl 0] w11) fun x16 w15 =>
     if mm_cls w15 o = 12 then
      (mm_kI (mm_run (zP Z) 274 [.inr (.inr (some o)), .inl a2, .inl 0] w15) fun x18 w17 =>
     if mm_cls w17 o = 12 then
      (mm_kI (mm_run (zP Z) 341 [.inr (.inr (some o)), .inl a1, .inl a2, .inl x16, .inl x18, .inl a3] w17) fun x20 w19 =>
     if mm_cls w19 o = 12 then
      (mm_kI (mm_run (zP Z) 217 [.inr (.inr (some o)), .inl x20] w19) fun x22 w21 =>
     some (some (.inl x22), w21))
     else none)
     else none)
     else none)
     else none)
    else none)
    else none)
    else none)
  else none :=
  (mm_run_eq (P := zP Z) (y := 345) z_cd345 rfl (l := [some (.inr (.inr (some o))), some (.inl a1), some (.inl a2), some (.inl a3)]) rfl [] 52 w).trans rfl

-- ThornSchoolModel.chance(II)Z
set_option maxRecDepth 100000 in
set_option maxHeartbeats 4000000 in
theorem B_X12_chance (Z : mX) (o : Nat) (a1 : Int) (a2 : Int) (w : mW) : mm_run (zP Z) 346 [.inr (.inr (some o)), .inl a1, .inl a2] w =
  if mm_cls w o = 12 then
   (mm_kI (mm_run (zP Z) 272 [.inr (.inr (some o)), .inl a1] w) fun x2 w1 =>
  if x2 = 0 then
   if mm_cls w1 o = 12 then
    (mm_kI (mm_run (zP Z) 215 [.inr (.inr (some o)), .inl 1] w1) fun x4 w3 =>
   if x4 = 0 ∨ x4 = 1 then some (some (.inl x4), w3) else none)
   else none
  else
   if mm_cls w1 o = 12 then
    (mm_kI (mm_run (zP Z) 270 [.inr (.inr (some o)), .inl a2] w1) fun x6 w5 =>
   if x6 = 0 then
    if mm_cls w5 o = 12 then
     (mm_kI (mm_run (zP Z) 215 [.inr (.inr (some o)), .inl 1] w5) fun x12 w11 =>
    if x12 = 0 ∨ x12 = 1 then some (some (.inl x12), w11) else none)
    else none
   else
    if mm_cls w5 o = 12 then
     (mm_kI (mm_run (zP Z) 310 [.inr (.inr (some o)), .inl a1, .inl a2] w5) fun x8 w7 =>
    if 15 < x8 then
     if mm_cls w7 o = 12 then
      (mm_kI (mm_run (zP Z) 215 [.inr (.inr (some o)), .inl 6] w7) fun x10 w9 =>
     if x10 = 0 ∨ x10 = 1 then some (some (.inl x10), w9) else none)
     else none
    else
     mm_at (zP Z) 346 30 [some (.inr (.inr (some o))), none, none, some (.inl x8), some (.inr (.inl 1)), none, some (.inr (.inl 1)), none, some (.inl 0)] [] w7)
    else none)
   else none)
  else none :=
  (mm_run_eq (P := zP Z) (y := 346) z_cd346 rfl (l := [some (.inr (.inr (some o))), some (.inl a1), some (.inl a2), none, none, none, none, none, none]) rfl [30] 23 w).trans rfl

set_option maxRecDepth 100000 in
set_option maxHeartbeats 4000000 in
theorem B_X12_chance_30 (Z : mX) (o : Nat) (l3 : Int) (l4 : Int) (l6 : Int) (l8 : Int) (w : mW) : mm_at (zP Z) 346 30 [some (.inr (.inr (some o))), none, none, some (.inl l3), some (.inr (.inl l4)), none, some (.inr (.inl l6)), none, some (.inl l8)] [] w =
  if l8 < l3 then
   (mm_gR w o 12 0).bind fun r3 =>
   r3.bind fun q4 =>
   (mm_ld 0 w q4 4).bind fun x5 =>
   mm_at (zP Z) 346 30 [some (.inr (.inr (some o))), none, none, some (.inl l3), some (.inr (.inl (mm_w64 (l4 * (mm_w32 (16 - x5)))))), none, some (.inr (.inl (mm_w64 (l6 * 16)))), none, some (.inl (mm_w32 (l8 + 1)))] [] w
  else
   if mm_cls w o = 12 then
    (mm_kI (mm_run (zP Z) 219 [.inr (.inr (some o)), .inr (.inl l4), .inr (.inl l6)] w) fun x2 w1 =>
   if x2 = 0 ∨ x2 = 1 then some (some (.inl x2), w1) else none)
   else none :=
  (mm_V_eq (P := zP Z) (y := 346) z_cd346 [30] 20 30 _ _ w).trans rfl

-- ThornSchoolModel.slips(II)Z
set_option maxRecDepth 100000 in
set_option maxHeartbeats 4000000 in
theorem B_X12_slips (Z : mX) (o : Nat) (a1 : Int) (a2 : Int) (w : mW) : mm_run (zP Z) 347 [.inr (.inr (some o)), .inl a1, .inl a2] w =
  mm_kI (mm_run (zP Z) 227 [.inr (.inl a1), .inr (.inl 0), .inr (.inl 12)] w) fun x2 w1 =>
  if x2 = 0 then
   if mm_cls w1 o = 12 then
    (mm_kI (mm_run (zP Z) 215 [.inr (.inr (some o)), .inl 1] w1) fun x4 w3 =>
   if x4 = 0 ∨ x4 = 1 then some (some (.inl x4), w3) else none)
   else none
  else
   mm_kI (mm_run (zP Z) 227 [.inr (.inl a2), .inr (.inl 0), .inr (.inl 12)] w1) fun x6 w5 =>
   if x6 = 0 then
    if mm_cls w5 o = 12 then
     (mm_kI (mm_run (zP Z) 215 [.inr (.inr (some o)), .inl 1] w5) fun x8 w7 =>
    if x8 = 0 ∨ x8 = 1 then some (some (.inl x8), w7) else none)
    else none
   else
    mm_at (zP Z) 347 20 [some (.inr (.inr (some o))), some (.inl a1), some (.inl a2), some (.inr (.inl 1)), none, some (.inl 0), none, none] [] w5 :=
  (mm_run_eq (P := zP Z) (y := 347) z_cd347 rfl (l := [some (.inr (.inr (some o))), some (.inl a1), some (.inl a2), none, none, none, none, none]) rfl [20, 36, 41, 88] 17 w).trans rfl

set_option maxRecDepth 100000 in
set_option maxHeartbeats 4000000 in
theorem B_X12_slips_20 (Z : mX) (o : Nat) (l1 : Int) (l2 : Int) (l3 : Int) (l5 : Int) (w : mW) : mm_at (zP Z) 347 20 [some (.inr (.inr (some o))), some (.inl l1), some (.inl l2), some (.inr (.inl l3)), none, some (.inl l5), none, none] [] w =
  if l5 < 13 then
   (mm_gR w o 12 31).bind fun r1 =>
   if l5 = 0 then
    r1.bind fun q4 =>
    (mm_st 3 w q4 l5 1).bind fun w5 =>
    mm_at (zP Z) 347 20 [some (.inr (.inr (some o))), some (.inl l1), some (.inl l2), some (.inr (.inl l3)), none, some (.inl (mm_w32 (l5 + 1))), none, none] [] w5
   else
    r1.bind fun q2 =>
    (mm_st 3 w q2 l5 0).bind fun w3 =>
    mm_at (zP Z) 347 20 [some (.inr (.inr (some o))), some (.inl l1), some (.inl l2), some (.inr (.inl l3)), none, some (.inl (mm_w32 (l5 + 1))), none, none] [] w3
  else
   mm_at (zP Z) 347 36 [some (.inr (.inr (some o))), some (.inl l1), some (.inl l2), some (.inr (.inl l3)), none, some (.inl 0), none, none] [] w :=
  (mm_V_eq (P := zP Z) (y := 347) z_cd347 [20, 36, 41, 88] 14 20 _ _ w).trans rfl

set_option maxRecDepth 100000 in
set_option maxHeartbeats 4000000 in
theorem B_X12_slips_36 (Z : mX) (o : Nat) (l1 : Int) (l2 : Int) (l3 : Int) (l5 : Int) (w : mW) : mm_at (zP Z) 347 36 [some (.inr (.inr (some o))), some (.inl l1), some (.inl l2), some (.inr (.inl l3)), none, some (.inl l5), none, none] [] w =
  if l5 < l1 then
   mm_at (zP Z) 347 41 [some (.inr (.inr (some o))), some (.inl l1), some (.inl l2), some (.inr (.inl l3)), none, some (.inl l5), some (.inl 12), none] [] w
  else
   mm_at (zP Z) 347 88 [some (.inr (.inr (some o))), none, none, some (.inr (.inl l3)), none, some (.inr (.inl 0)), none, some (.inl l2)] [] w :=
  (mm_V_eq (P := zP Z) (y := 347) z_cd347 [20, 36, 41, 88] 8 36 _ _ w).trans rfl

set_option maxRecDepth 100000 in
set_option maxHeartbeats 4000000 in
theorem B_X12_slips_41 (Z : mX) (o : Nat) (l1 : Int) (l2 : Int) (l3 : Int) (l5 : Int) (l6 : Int) (w : mW) : mm_at (zP Z) 347 41 [some (.inr (.inr (some o))), some (.inl l1), some (.inl l2), some (.inr (.inl l3)), none, some (.inl l5), some (.inl l6), none] [] w =
  if l6 < 0 then
   mm_at (zP Z) 347 36 [some (.inr (.inr (some o))), some (.inl l1), some (.inl l2), some (.inr (.inl (mm_w64 (l3 * 16)))), none, some (.inl (mm_w32 (l5 + 1))), none, none] [] w
  else
   (mm_gR w o 12 31).bind fun r1 =>
   (mm_gR w o 12 31).bind fun r2 =>
   r2.bind fun q3 =>
   (mm_ld 3 w q3 l6).bind fun x4 =>
   (mm_gR w o 12 0).bind fun r5 =>
   r5.bind fun q6 =>
   (mm_ld 0 w q6 4).bind fun x7 =>
   if l6 = 0 then
    r1.bind fun q16 =>
    (mm_st 3 w q16 l6 (mm_w64 ((mm_w64 (x4 * (mm_w32 (16 - x7)))) + 0))).bind fun w17 =>
    mm_at (zP Z) 347 41 [some (.inr (.inr (some o))), some (.inl l1), some (.inl l2), some (.inr (.inl l3)), none, some (.inl l5), some (.inl (mm_w32 (l6 + (-1)))), none] [] w17
   else
    (mm_gR w o 12 31).bind fun r8 =>
    r8.bind fun q9 =>
    (mm_ld 3 w q9 (mm_w32 (l6 - 1))).bind fun x10 =>
    (mm_gR w o 12 0).bind fun r11 =>
    r11.bind fun q12 =>
    (mm_ld 0 w q12 4).bind fun x13 =>
    r1.bind fun q14 =>
    (mm_st 3 w q14 l6 (mm_w64 ((mm_w64 (x4 * (mm_w32 (16 - x7)))) + (mm_w64 (x10 * x13))))).bind fun w15 =>
    mm_at (zP Z) 347 41 [some (.inr (.inr (some o))), some (.inl l1), some (.inl l2), some (.inr (.inl l3)), none, some (.inl l5), some (.inl (mm_w32 (l6 + (-1)))), none] [] w15 :=
  (mm_V_eq (P := zP Z) (y := 347) z_cd347 [20, 36, 41, 88] 36 41 _ _ w).trans rfl

set_option maxRecDepth 100000 in
set_option maxHeartbeats 4000000 in
theorem B_X12_slips_88 (Z : mX) (o : Nat) (l3 : Int) (l5 : Int) (l7 : Int) (w : mW) : mm_at (zP Z) 347 88 [some (.inr (.inr (some o))), none, none, some (.inr (.inl l3)), none, some (.inr (.inl l5)), none, some (.inl l7)] [] w =
  if l7 < 13 then
   (mm_gR w o 12 31).bind fun r3 =>
   r3.bind fun q4 =>
   (mm_ld 3 w q4 l7).bind fun x5 =>
   mm_at (zP Z) 347 88 [some (.inr (.inr (some o))), none, none, some (.inr (.inl l3)), none, some (.inr (.inl (mm_w64 (l5 + x5)))), none, some (.inl (mm_w32 (l7 + 1)))] [] w
  else
   if mm_cls w o = 12 then
    (mm_kI (mm_run (zP Z) 219 [.inr (.inr (some o)), .inr (.inl l5), .inr (.inl l3)] w) fun x2 w1 =>
   if x2 = 0 ∨ x2 = 1 then some (some (.inl x2), w1) else none)
   else none :=
  (mm_V_eq (P := zP Z) (y := 347) z_cd347 [20, 36, 41, 88] 13 88 _ _ w).trans rfl

-- ThornSchoolModel.copyThorns(I)I
set_option maxRecDepth 100000 in
set_option maxHeartbeats 4000000 in
theorem B_X12_copyThorns (Z : mX) (o : Nat) (a1 : Int) (w : mW) : mm_run (zP Z) 348 [.inr (.inr (some o)), .inl a1] w =
  mm_kI (mm_run (zP Z) 220 [.inl a1] w) fun x2 w1 =>
  if x2 = 0 then
   if mm_cls w1 o = 12 then
    (mm_kI (mm_run (zP Z) 216 [.inr (.inr (some o)), .inl 1] w1) fun x16 w15 =>
   some (some (.inl x16), w15))
   else none
  else
   (mm_gR w1 o 12 6).bind fun r3 =>
   r3.bind fun q4 =>
   (mm_ld 0 w1 q4 a1).bind fun x5 =>
   if x5 = (-1) then
    if mm_cls w1 o = 12 then
     (mm_kI (mm_run (zP Z) 216 [.inr (.inr (some o)), .inl 2] w1) fun x14 w13 =>
    some (some (.inl x14), w13))
    else none
   else
    (mm_gR w1 o 12 6).bind fun r6 =>
    r6.bind fun q7 =>
    (mm_ld 0 w1 q7 a1).bind fun x8 =>
    if mm_cls w1 o = 12 then
     (mm_kI (mm_run (zP Z) 248 [.inr (.inr (some o)), .inl 0] w1) fun x10 w9 =>
    if x8 < x10 then
     if mm_cls w9 o = 12 then
      (mm_kI (mm_run (zP Z) 216 [.inr (.inr (some o)), .inl 3] w9) fun x12 w11 =>
     some (some (.inl x12), w11))
     else none
    else
     mm_at (zP Z) 348 31 [some (.inr (.inr (some o))), some (.inl a1), some (.inl 0)] [] w9)
    else none :=
  (mm_run_eq (P := zP Z) (y := 348) z_cd348 rfl (l := [some (.inr (.inr (some o))), some (.inl a1), none]) rfl [31] 22 w).trans rfl

set_option maxRecDepth 100000 in
set_option maxHeartbeats 4000000 in
theorem B_X12_copyThorns_31 (Z : mX) (o : Nat) (l1 : Int) (l2 : Int) (w : mW) : mm_at (zP Z) 348 31 [some (.inr (.inr (some o))), some (.inl l1), some (.inl l2)] [] w =
  if mm_cls w o = 12 then
   (mm_kI (mm_run (zP Z) 248 [.inr (.inr (some o)), .inl 0] w) fun x2 w1 =>
  if l2 < x2 then
   (mm_gR w1 o 12 7).bind fun r7 =>
   (mm_gR w1 o 12 0).bind fun r8 =>
   r8.bind fun q9 =>
   (mm_ld 0 w1 q9 (mm_w32 (10 + l2))).bind fun x10 =>
   (mm_gR w1 o 12 5).bind fun r11 =>
   r11.bind fun q12 =>
   (mm_ld 0 w1 q12 l1).bind fun x13 =>
   mm_kJ (mm_run (zP Z) 221 [.inr (.inl x10), .inl x13] w1) fun x15 w14 =>
   r7.bind fun q16 =>
   (mm_st 3 w14 q16 (mm_w32 ((mm_w32 (60 * l1)) + l2)) x15).bind fun w17 =>
   mm_at (zP Z) 348 31 [some (.inr (.inr (some o))), some (.inl l1), some (.inl (mm_w32 (l2 + 1)))] [] w17
  else
   if mm_cls w1 o = 12 then
    (mm_kI (mm_run (zP Z) 248 [.inr (.inr (some o)), .inl 0] w1) fun x4 w3 =>
   if mm_cls w3 o = 12 then
    (mm_kI (mm_run (zP Z) 217 [.inr (.inr (some o)), .inl x4] w3) fun x6 w5 =>
   some (some (.inl x6), w5))
   else none)
   else none)
  else none :=
  (mm_V_eq (P := zP Z) (y := 348) z_cd348 [31] 28 31 _ _ w).trans rfl

-- ThornSchoolModel.draw(I)I
set_option maxRecDepth 100000 in
set_option maxHeartbeats 4000000 in
theorem B_X12_draw (Z : mX) (o : Nat) (a1 : Int) (w : mW) : mm_run (zP Z) 349 [.inr (.inr (some o)), .inl a1] w =
  (mm_gI w o 12 32).bind fun x1 =>
  if 65536 = 0 then none else
  (mm_p w o 12 32 (.inl (mm_irem (mm_w32 ((mm_w32 (x1 * 3251)) + 11467)) 65536))).bind fun w2 =>
  (mm_gI w2 o 12 32).bind fun x3 =>
  if 8 = 0 then none else
  if a1 = 0 then none else
  some (some (.inl (mm_irem (mm_idiv x3 8) a1)), w2) :=
  (mm_run_eq (P := zP Z) (y := 349) z_cd349 rfl (l := [some (.inr (.inr (some o))), some (.inl a1)]) rfl [] 18 w).trans rfl

-- ThornSchoolModel.goesBy(II)Z
set_option maxRecDepth 100000 in
set_option maxHeartbeats 4000000 in
theorem B_X12_goesBy (Z : mX) (o : Nat) (a1 : Int) (a2 : Int) (w : mW) : mm_run (zP Z) 350 [.inr (.inr (some o)), .inl a1, .inl a2] w =
  if mm_cls w o = 12 then
   (mm_kI (mm_run (zP Z) 290 [.inr (.inr (some o)), .inl a1, .inl a2] w) fun x2 w1 =>
  if x2 = (-1) then
   some (some (.inl 0), w1)
  else
   (mm_gR w1 o 12 35).bind fun r3 =>
   r3.bind fun q4 =>
   (mm_ld 0 w1 q4 1).bind fun x5 =>
   r3.bind fun q6 =>
   (mm_st 0 w1 q6 1 (mm_w32 (x5 + 1))).bind fun w7 =>
   (mm_gR w7 o 12 35).bind fun r8 =>
   r8.bind fun q9 =>
   (mm_ld 0 w7 q9 2).bind fun x10 =>
   r8.bind fun q11 =>
   (mm_st 0 w7 q11 2 (mm_w32 (x10 + x2))).bind fun w12 =>
   some (some (.inl 1), w12))
  else none :=
  (mm_run_eq (P := zP Z) (y := 350) z_cd350 rfl (l := [some (.inr (.inr (some o))), some (.inl a1), some (.inl a2), none]) rfl [] 27 w).trans rfl

-- ThornSchoolModel.freesBy(II)Z
set_option maxRecDepth 100000 in
set_option maxHeartbeats 4000000 in
theorem B_X12_freesBy (Z : mX) (o : Nat) (a1 : Int) (a2 : Int) (w : mW) : mm_run (zP Z) 351 [.inr (.inr (some o)), .inl a1, .inl a2] w =
  if mm_cls w o = 12 then
   (mm_kI (mm_run (zP Z) 293 [.inr (.inr (some o)), .inl a1, .inl a2] w) fun x2 w1 =>
  if x2 = 0 then
   some (some (.inl 0), w1)
  else
   if mm_cls w1 o = 12 then
    (mm_kV (mm_run (zP Z) 294 [.inr (.inr (some o)), .inl a2] w1) fun w3 =>
   some (some (.inl 1), w3))
   else none)
  else none :=
  (mm_run_eq (P := zP Z) (y := 351) z_cd351 rfl (l := [some (.inr (.inr (some o))), some (.inl a1), some (.inl a2)]) rfl [] 11 w).trans rfl

-- ThornSchoolModel.yearsBy(I)Z
set_option maxRecDepth 100000 in
set_option maxHeartbeats 4000000 in
theorem B_X12_yearsBy (Z : mX) (o : Nat) (a1 : Int) (w : mW) : mm_run (zP Z) 352 [.inr (.inr (some o)), .inl a1] w =
  (mm_gR w o 12 0).bind fun r1 =>
  r1.bind fun q2 =>
  (mm_ld 0 w q2 5).bind fun x3 =>
  if 9999 < mm_w32 (x3 + a1) then
   some (some (.inl 0), w)
  else
   if mm_cls w o = 12 then
    (mm_kV (mm_run (zP Z) 301 [.inr (.inr (some o)), .inl a1] w) fun w4 =>
   some (some (.inl 1), w4))
   else none :=
  (mm_run_eq (P := zP Z) (y := 352) z_cd352 rfl (l := [some (.inr (.inr (some o))), some (.inl a1)]) rfl [] 14 w).trans rfl

-- ThornSchoolModel.doesAny()Z
set_option maxRecDepth 100000 in
set_option maxHeartbeats 4000000 in
theorem B_X12_doesAny (Z : mX) (o : Nat) (w : mW) : mm_run (zP Z) 353 [.inr (.inr (some o))] w =
  (mm_gR w o 12 0).bind fun r1 =>
  r1.bind fun q2 =>
  (mm_ld 0 w q2 3).bind fun x3 =>
  if x3 = 0 then
   some (some (.inl 0), w)
  else
   (mm_gR w o 12 0).bind fun r4 =>
   r4.bind fun q5 =>
   (mm_ld 0 w q5 3).bind fun x6 =>
   if mm_cls w o = 12 then
    (mm_kI (mm_run (zP Z) 349 [.inr (.inr (some o)), .inl x6] w) fun x8 w7 =>
   if mm_cls w7 o = 12 then
    (mm_kI (mm_run (zP Z) 349 [.inr (.inr (some o)), .inl 4] w7) fun x10 w9 =>
   if mm_cls w9 o = 12 then
    (mm_kI (mm_run (zP Z) 278 [.inr (.inr (some o)), .inl x8] w9) fun x12 w11 =>
   if x12 = 0 then
    if mm_cls w11 o = 12 then
     (mm_kI (mm_run (zP Z) 350 [.inr (.inr (some o)), .inl x8, .inl x10] w11) fun x14 w13 =>
    if x14 = 0 ∨ x14 = 1 then some (some (.inl x14), w13) else none)
    else none
   else
    if mm_cls w11 o = 12 then
     (mm_kI (mm_run (zP Z) 296 [.inr (.inr (some o)), .inl x8] w11) fun x16 w15 =>
    if 0 < x16 then
     some (some (.inl 1), w15)
    else
     some (some (.inl 0), w15))
    else none)
   else none)
   else none)
   else none :=
  (mm_run_eq (P := zP Z) (y := 353) z_cd353 rfl (l := [some (.inr (.inr (some o))), none, none]) rfl [] 28 w).trans rfl

-- ThornSchoolModel.does(I)Z
set_option maxRecDepth 100000 in
set_option maxHeartbeats 4000000 in
theorem B_X12_does (Z : mX) (o : Nat) (a1 : Int) (w : mW) : mm_run (zP Z) 354 [.inr (.inr (some o)), .inl a1] w =
  (mm_gR w o 12 0).bind fun r1 =>
  r1.bind fun q2 =>
  (mm_ld 0 w q2 (mm_w32 (a1 + 1))).bind fun x3 =>
  (mm_gR w o 12 0).bind fun r4 =>
  r4.bind fun q5 =>
  (mm_ld 0 w q5 a1).bind fun x6 =>
  if x6 = 16 then
   (mm_gR w o 12 0).bind fun r7 =>
   r7.bind fun q8 =>
   (mm_ld 0 w q8 (mm_w32 (a1 + 2))).bind fun x9 =>
   if mm_cls w o = 12 then
    (mm_kI (mm_run (zP Z) 350 [.inr (.inr (some o)), .inl x3, .inl x9] w) fun x11 w10 =>
   if x11 = 0 ∨ x11 = 1 then some (some (.inl x11), w10) else none)
   else none
  else if x6 = 17 then
   (mm_gR w o 12 0).bind fun r12 =>
   r12.bind fun q13 =>
   (mm_ld 0 w q13 (mm_w32 (a1 + 2))).bind fun x14 =>
   if mm_cls w o = 12 then
    (mm_kI (mm_run (zP Z) 351 [.inr (.inr (some o)), .inl x3, .inl x14] w) fun x16 w15 =>
   if x16 = 0 ∨ x16 = 1 then some (some (.inl x16), w15) else none)
   else none
  else if x6 = 18 then
   if mm_cls w o = 12 then
    (mm_kI (mm_run (zP Z) 296 [.inr (.inr (some o)), .inl x3] w) fun x18 w17 =>
   if 0 < x18 then
    some (some (.inl 1), w17)
   else
    some (some (.inl 0), w17))
   else none
  else if x6 = 19 then
   if mm_cls w o = 12 then
    (mm_kI (mm_run (zP Z) 298 [.inr (.inr (some o)), .inl x3] w) fun x20 w19 =>
   if 0 < x20 then
    some (some (.inl 1), w19)
   else
    some (some (.inl 0), w19))
   else none
  else if x6 = 20 then
   if mm_cls w o = 12 then
    (mm_kI (mm_run (zP Z) 352 [.inr (.inr (some o)), .inl x3] w) fun x22 w21 =>
   if x22 = 0 ∨ x22 = 1 then some (some (.inl x22), w21) else none)
   else none
  else if x6 = 21 then
   if mm_cls w o = 12 then
    (mm_kI (mm_run (zP Z) 353 [.inr (.inr (some o))] w) fun x24 w23 =>
   if x24 = 0 ∨ x24 = 1 then some (some (.inl x24), w23) else none)
   else none
  else some (some (.inl 1), w) :=
  (mm_run_eq (P := zP Z) (y := 354) z_cd354 rfl (l := [some (.inr (.inr (some o))), some (.inl a1), none]) rfl [] 23 w).trans rfl

-- ThornSchoolModel.holds(I)Z
set_option maxRecDepth 100000 in
set_option maxHeartbeats 4000000 in
theorem B_X12_holds (Z : mX) (o : Nat) (a1 : Int) (w : mW) : mm_run (zP Z) 355 [.inr (.inr (some o)), .inl a1] w =
  (mm_gR w o 12 0).bind fun r1 =>
  r1.bind fun q2 =>
  (mm_ld 0 w q2 a1).bind fun x3 =>
  (mm_gR w o 12 0).bind fun r4 =>
  r4.bind fun q5 =>
  (mm_ld 0 w q5 (mm_w32 (a1 + 1))).bind fun x6 =>
  if mm_w32 (x3 - 2200) = 26 then
   if mm_cls w o = 12 then
    (mm_kI (mm_run (zP Z) 278 [.inr (.inr (some o)), .inl x6] w) fun x20 w19 =>
   if x20 = 0 ∨ x20 = 1 then some (some (.inl x20), w19) else none)
   else none
  else
   if mm_w32 (x3 - 2200) = 9 then
    if mm_cls w o = 12 then
     (mm_kI (mm_run (zP Z) 274 [.inr (.inr (some o)), .inl x6, .inl 0] w) fun x15 w14 =>
    (mm_gR w14 o 12 0).bind fun r16 =>
    r16.bind fun q17 =>
    (mm_ld 0 w14 q17 (mm_w32 (a1 + 2))).bind fun x18 =>
    if x15 = x18 then
     some (some (.inl 1), w14)
    else
     some (some (.inl 0), w14))
    else none
   else
    if mm_w32 (x3 - 2200) = 2 then
     (mm_gR w o 12 0).bind fun r11 =>
     r11.bind fun q12 =>
     (mm_ld 0 w q12 (mm_w32 (10 + x6))).bind fun x13 =>
     mm_at (zP Z) 355 54 [some (.inr (.inr (some o))), some (.inl a1), none, none, none] [.inl x13] w
    else
     if mm_cls w o = 12 then
      (mm_kI (mm_run (zP Z) 274 [.inr (.inr (some o)), .inl x6, .inl 2] w) fun x8 w7 =>
     mm_kI (mm_run (zP Z) 273 [.inl x8] w7) fun x10 w9 =>
     mm_at (zP Z) 355 54 [some (.inr (.inr (some o))), some (.inl a1), none, none, none] [.inl x10] w9)
     else none :=
  (mm_run_eq (P := zP Z) (y := 355) z_cd355 rfl (l := [some (.inr (.inr (some o))), some (.inl a1), none, none, none]) rfl [54] 35 w).trans rfl

set_option maxRecDepth 100000 in
set_option maxHeartbeats 4000000 in
theorem B_X12_holds_54 (Z : mX) (o : Nat) (l1 : Int) (s0 : Int) (w : mW) : mm_at (zP Z) 355 54 [some (.inr (.inr (some o))), some (.inl l1), none, none, none] [.inl s0] w =
  (mm_gR w o 12 0).bind fun r1 =>
  r1.bind fun q2 =>
  (mm_ld 0 w q2 (mm_w32 (l1 + 5))).bind fun x3 =>
  if x3 = 60 then
   (mm_gR w o 12 0).bind fun r13 =>
   r13.bind fun q14 =>
   (mm_ld 0 w q14 (mm_w32 (l1 + 2))).bind fun x15 =>
   if s0 < x15 then
    some (some (.inl 1), w)
   else
    some (some (.inl 0), w)
  else
   (mm_gR w o 12 0).bind fun r4 =>
   r4.bind fun q5 =>
   (mm_ld 0 w q5 (mm_w32 (l1 + 5))).bind fun x6 =>
   if x6 = 62 then
    (mm_gR w o 12 0).bind fun r10 =>
    r10.bind fun q11 =>
    (mm_ld 0 w q11 (mm_w32 (l1 + 2))).bind fun x12 =>
    if x12 < s0 then
     some (some (.inl 1), w)
    else
     some (some (.inl 0), w)
   else
    (mm_gR w o 12 0).bind fun r7 =>
    r7.bind fun q8 =>
    (mm_ld 0 w q8 (mm_w32 (l1 + 2))).bind fun x9 =>
    if s0 = x9 then
     some (some (.inl 1), w)
    else
     some (some (.inl 0), w) :=
  (mm_V_eq (P := zP Z) (y := 355) z_cd355 [54] 29 54 _ _ w).trans rfl

-- ThornSchoolModel.behindEnds(I)I
set_option maxRecDepth 100000 in
set_option maxHeartbeats 4000000 in
theorem B_X12_behindEnds (Z : mX) (o : Nat) (a1 : Int) (w : mW) : mm_run (zP Z) 356 [.inr (.inr (some o)), .inl a1] w =
  mm_at (zP Z) 356 2 [some (.inr (.inr (some o))), none, some (.inl a1), none, none] [] w :=
  (mm_run_eq (P := zP Z) (y := 356) z_cd356 rfl (l := [some (.inr (.inr (some o))), some (.inl a1), none, none, none]) rfl [2, 46, 47, 58] 3 w).trans rfl

set_option maxRecDepth 100000 in
set_option maxHeartbeats 4000000 in
theorem B_X12_behindEnds_2 (Z : mX) (o : Nat) (l2 : Int) (w : mW) : mm_at (zP Z) 356 2 [some (.inr (.inr (some o))), none, some (.inl l2), none, none] [] w =
  (mm_gR w o 12 0).bind fun r1 =>
  r1.bind fun q2 =>
  (mm_ld 0 w q2 7).bind fun x3 =>
  if l2 < x3 then
   (mm_gR w o 12 0).bind fun r4 =>
   r4.bind fun q5 =>
   (mm_ld 0 w q5 (mm_w32 (104 + (mm_w32 (6 * l2))))).bind fun x6 =>
   if x6 = 24 then
    (mm_gR w o 12 0).bind fun r7 =>
    r7.bind fun q8 =>
    (mm_ld 0 w q8 (mm_w32 ((mm_w32 (104 + (mm_w32 (6 * l2)))) + 4))).bind fun x9 =>
    (mm_gR w o 12 0).bind fun r10 =>
    r10.bind fun q11 =>
    (mm_ld 0 w q11 (mm_w32 (104 + (mm_w32 (6 * x9))))).bind fun x12 =>
    if x12 = 23 then
     (mm_gR w o 12 34).bind fun r13 =>
     r13.bind fun q14 =>
     (mm_ld 0 w q14 x9).bind fun x15 =>
     if 0 < x15 then
      mm_at (zP Z) 356 47 [some (.inr (.inr (some o))), none, some (.inl l2), some (.inl x9), none] [.inl 1] w
     else
      mm_at (zP Z) 356 46 [some (.inr (.inr (some o))), none, some (.inl l2), some (.inl x9), none] [] w
    else
     mm_at (zP Z) 356 46 [some (.inr (.inr (some o))), none, some (.inl l2), some (.inl x9), none] [] w
   else
    some (some (.inl l2), w)
  else
   some (some (.inl l2), w) :=
  (mm_V_eq (P := zP Z) (y := 356) z_cd356 [2, 46, 47, 58] 45 2 _ _ w).trans rfl

set_option maxRecDepth 100000 in
set_option maxHeartbeats 4000000 in
theorem B_X12_behindEnds_46 (Z : mX) (o : Nat) (l2 : Int) (l3 : Int) (w : mW) : mm_at (zP Z) 356 46 [some (.inr (.inr (some o))), none, some (.inl l2), some (.inl l3), none] [] w =
  mm_at (zP Z) 356 47 [some (.inr (.inr (some o))), none, some (.inl l2), some (.inl l3), none] [.inl 0] w :=
  (mm_V_eq (P := zP Z) (y := 356) z_cd356 [2, 46, 47, 58] 2 46 _ _ w).trans rfl

set_option maxRecDepth 100000 in
set_option maxHeartbeats 4000000 in
theorem B_X12_behindEnds_47 (Z : mX) (o : Nat) (l2 : Int) (l3 : Int) (s0 : Int) (w : mW) : mm_at (zP Z) 356 47 [some (.inr (.inr (some o))), none, some (.inl l2), some (.inl l3), none] [.inl s0] w =
  (mm_gR w o 12 34).bind fun r1 =>
  r1.bind fun q2 =>
  (mm_ld 0 w q2 l3).bind fun x3 =>
  if s0 = 0 then
   mm_at (zP Z) 356 58 [some (.inr (.inr (some o))), none, some (.inl l2), some (.inl l3), some (.inl s0)] [.inl 0, .inl x3, .inl l3, .inr (.inr r1)] w
  else
   mm_at (zP Z) 356 58 [some (.inr (.inr (some o))), none, some (.inl l2), some (.inl l3), some (.inl s0)] [.inl 1, .inl x3, .inl l3, .inr (.inr r1)] w :=
  (mm_V_eq (P := zP Z) (y := 356) z_cd356 [2, 46, 47, 58] 11 47 _ _ w).trans rfl

set_option maxRecDepth 100000 in
set_option maxHeartbeats 4000000 in
theorem B_X12_behindEnds_58 (Z : mX) (o : Nat) (l2 : Int) (l3 : Int) (l4 : Int) (s0 : Option Nat) (s1 : Int) (s2 : Int) (s3 : Int) (w : mW) : mm_at (zP Z) 356 58 [some (.inr (.inr (some o))), none, some (.inl l2), some (.inl l3), some (.inl l4)] [.inl s3, .inl s2, .inl s1, .inr (.inr s0)] w =
  s0.bind fun q1 =>
  (mm_st 0 w q1 s1 (mm_w32 (s2 - s3))).bind fun w2 =>
  if l4 = 0 then
   mm_at (zP Z) 356 2 [some (.inr (.inr (some o))), none, some (.inl (mm_w32 (l2 + 1))), none, none] [] w2
  else
   mm_at (zP Z) 356 2 [some (.inr (.inr (some o))), none, some (.inl (mm_w32 (l3 + 1))), none, none] [] w2 :=
  (mm_V_eq (P := zP Z) (y := 356) z_cd356 [2, 46, 47, 58] 11 58 _ _ w).trans rfl

-- ThornSchoolModel.lives(I)V
set_option maxRecDepth 100000 in
set_option maxHeartbeats 4000000 in
theorem B_X12_lives (Z : mX) (o : Nat) (a1 : Int) (w : mW) : mm_run (zP Z) 357 [.inr (.inr (some o)), .inl a1] w =
  (mm_p w o 12 32 (.inl a1)).bind fun w1 =>
  (mm_p w1 o 12 33 (.inl 0)).bind fun w2 =>
  (mm_p w2 o 12 24 (.inl 0)).bind fun w3 =>
  mm_at (zP Z) 357 11 [some (.inr (.inr (some o))), none, some (.inl 0), none] [] w3 :=
  (mm_run_eq (P := zP Z) (y := 357) z_cd357 rfl (l := [some (.inr (.inr (some o))), some (.inl a1), none, none]) rfl [11, 23, 75, 95, 115, 121] 12 w).trans rfl

set_option maxRecDepth 100000 in
set_option maxHeartbeats 4000000 in
theorem B_X12_lives_11 (Z : mX) (o : Nat) (l2 : Int) (w : mW) : mm_at (zP Z) 357 11 [some (.inr (.inr (some o))), none, some (.inl l2), none] [] w =
  if l2 < 5 then
   (mm_gR w o 12 35).bind fun r1 =>
   r1.bind fun q2 =>
   (mm_st 0 w q2 l2 0).bind fun w3 =>
   mm_at (zP Z) 357 11 [some (.inr (.inr (some o))), none, some (.inl (mm_w32 (l2 + 1))), none] [] w3
  else
   mm_at (zP Z) 357 23 [some (.inr (.inr (some o))), none, some (.inl 0), none] [] w :=
  (mm_V_eq (P := zP Z) (y := 357) z_cd357 [11, 23, 75, 95, 115, 121] 11 11 _ _ w).trans rfl

set_option maxRecDepth 100000 in
set_option maxHeartbeats 4000000 in
theorem B_X12_lives_23 (Z : mX) (o : Nat) (l2 : Int) (w : mW) : mm_at (zP Z) 357 23 [some (.inr (.inr (some o))), none, some (.inl l2), none] [] w =
  (mm_gR w o 12 0).bind fun r1 =>
  r1.bind fun q2 =>
  (mm_ld 0 w q2 7).bind fun x3 =>
  if l2 < x3 then
   (mm_gR w o 12 35).bind fun r4 =>
   r4.bind fun q5 =>
   (mm_ld 0 w q5 4).bind fun x6 =>
   if x6 = 0 then
    (mm_gI w o 12 33).bind fun x7 =>
    if x7 = 300 then
     (mm_gR w o 12 35).bind fun r18 =>
     r18.bind fun q19 =>
     (mm_st 0 w q19 4 1).bind fun w20 =>
     mm_at (zP Z) 357 23 [some (.inr (.inr (some o))), none, some (.inl l2), none] [] w20
    else
     (mm_gI w o 12 33).bind fun x8 =>
     (mm_p w o 12 33 (.inl (mm_w32 (x8 + 1)))).bind fun w9 =>
     (mm_gR w9 o 12 0).bind fun r10 =>
     r10.bind fun q11 =>
     (mm_ld 0 w9 q11 (mm_w32 (104 + (mm_w32 (6 * l2))))).bind fun x12 =>
     if x12 = 25 then
      mm_at (zP Z) 357 121 [some (.inr (.inr (some o))), none, none, none] [] w9
     else
      (mm_gR w9 o 12 35).bind fun r13 =>
      r13.bind fun q14 =>
      (mm_ld 0 w9 q14 0).bind fun x15 =>
      if mm_cls w9 o = 12 then
       (mm_kI (mm_run (zP Z) 354 [.inr (.inr (some o)), .inl (mm_w32 (104 + (mm_w32 (6 * l2))))] w9) fun x17 w16 =>
      if x17 = 0 then
       mm_at (zP Z) 357 75 [some (.inr (.inr (some o))), none, some (.inl l2), some (.inl (mm_w32 (104 + (mm_w32 (6 * l2)))))] [.inl 1, .inl x15, .inl 0, .inr (.inr r13)] w16
      else
       mm_at (zP Z) 357 75 [some (.inr (.inr (some o))), none, some (.inl l2), some (.inl (mm_w32 (104 + (mm_w32 (6 * l2)))))] [.inl 0, .inl x15, .inl 0, .inr (.inr r13)] w16)
      else none
   else
    mm_at (zP Z) 357 121 [some (.inr (.inr (some o))), none, none, none] [] w
  else
   mm_at (zP Z) 357 121 [some (.inr (.inr (some o))), none, none, none] [] w :=
  (mm_V_eq (P := zP Z) (y := 357) z_cd357 [11, 23, 75, 95, 115, 121] 45 23 _ _ w).trans rfl

set_option maxRecDepth 100000 in
set_option maxHeartbeats 4000000 in
theorem B_X12_lives_75 (Z : mX) (o : Nat) (l2 : Int) (l3 : Int) (s0 : Option Nat) (s1 : Int) (s2 : Int) (s3 : Int) (w : mW) : mm_at (zP Z) 357 75 [some (.inr (.inr (some o))), none, some (.inl l2), some (.inl l3)] [.inl s3, .inl s2, .inl s1, .inr (.inr s0)] w =
  s0.bind fun q1 =>
  (mm_st 0 w q1 s1 (mm_w32 (s2 + s3))).bind fun w2 =>
  (mm_gR w2 o 12 0).bind fun r3 =>
  r3.bind fun q4 =>
  (mm_ld 0 w2 q4 l3).bind fun x5 =>
  if x5 = 23 then
   (mm_gR w2 o 12 34).bind fun r6 =>
   (mm_gR w2 o 12 0).bind fun r7 =>
   r7.bind fun q8 =>
   (mm_ld 0 w2 q8 (mm_w32 (l3 + 1))).bind fun x9 =>
   r6.bind fun q10 =>
   (mm_st 0 w2 q10 l2 (mm_w32 (x9 - 1))).bind fun w11 =>
   mm_at (zP Z) 357 95 [some (.inr (.inr (some o))), none, some (.inl l2), some (.inl l3)] [] w11
  else
   mm_at (zP Z) 357 95 [some (.inr (.inr (some o))), none, some (.inl l2), some (.inl l3)] [] w2 :=
  (mm_V_eq (P := zP Z) (y := 357) z_cd357 [11, 23, 75, 95, 115, 121] 21 75 _ _ w).trans rfl

set_option maxRecDepth 100000 in
set_option maxHeartbeats 4000000 in
theorem B_X12_lives_95 (Z : mX) (o : Nat) (l2 : Int) (l3 : Int) (w : mW) : mm_at (zP Z) 357 95 [some (.inr (.inr (some o))), none, some (.inl l2), some (.inl l3)] [] w =
  (mm_gR w o 12 0).bind fun r1 =>
  r1.bind fun q2 =>
  (mm_ld 0 w q2 l3).bind fun x3 =>
  if x3 < 2200 then
   mm_at (zP Z) 357 115 [some (.inr (.inr (some o))), none, some (.inl l2), none] [.inr (.inr (some o))] w
  else
   if mm_cls w o = 12 then
    (mm_kI (mm_run (zP Z) 355 [.inr (.inr (some o)), .inl l3] w) fun x5 w4 =>
   if x5 = 0 then
    (mm_gR w4 o 12 0).bind fun r6 =>
    r6.bind fun q7 =>
    (mm_ld 0 w4 q7 (mm_w32 (l3 + 4))).bind fun x8 =>
    if mm_cls w4 o = 12 then
     (mm_kI (mm_run (zP Z) 356 [.inr (.inr (some o)), .inl (mm_w32 (x8 + 1))] w4) fun x10 w9 =>
    mm_at (zP Z) 357 23 [some (.inr (.inr (some o))), none, some (.inl x10), none] [] w9)
    else none
   else
    mm_at (zP Z) 357 115 [some (.inr (.inr (some o))), none, some (.inl l2), none] [.inr (.inr (some o))] w4)
   else none :=
  (mm_V_eq (P := zP Z) (y := 357) z_cd357 [11, 23, 75, 95, 115, 121] 24 95 _ _ w).trans rfl

set_option maxRecDepth 100000 in
set_option maxHeartbeats 4000000 in
theorem B_X12_lives_115 (Z : mX) (o : Nat) (l2 : Int) (s0 : Option Nat) (w : mW) : mm_at (zP Z) 357 115 [some (.inr (.inr (some o))), none, some (.inl l2), none] [.inr (.inr s0)] w =
  s0.bind fun q1 =>
  if mm_cls w q1 = 12 then
   (mm_kI (mm_run (zP Z) 356 [.inr (.inr (some q1)), .inl (mm_w32 (l2 + 1))] w) fun x3 w2 =>
  mm_at (zP Z) 357 23 [some (.inr (.inr (some o))), none, some (.inl x3), none] [] w2)
  else none :=
  (mm_V_eq (P := zP Z) (y := 357) z_cd357 [11, 23, 75, 95, 115, 121] 7 115 _ _ w).trans rfl

set_option maxRecDepth 100000 in
set_option maxHeartbeats 4000000 in
theorem B_X12_lives_121 (Z : mX) (o : Nat) (w : mW) : mm_at (zP Z) 357 121 [some (.inr (.inr (some o))), none, none, none] [] w =
  (mm_gR w o 12 35).bind fun r1 =>
  (mm_gI w o 12 24).bind fun x2 =>
  r1.bind fun q3 =>
  (mm_st 0 w q3 3 x2).bind fun w4 =>
  some (none, w4) :=
  (mm_V_eq (P := zP Z) (y := 357) z_cd357 [11, 23, 75, 95, 115, 121] 8 121 _ _ w).trans rfl

-- ThornSchoolModel.live(I)I
set_option maxRecDepth 100000 in
set_option maxHeartbeats 4000000 in
theorem B_X12_live (Z : mX) (o : Nat) (a1 : Int) (w : mW) : mm_run (zP Z) 358 [.inr (.inr (some o)), .inl a1] w =
  mm_kI (mm_run (zP Z) 227 [.inr (.inl a1), .inr (.inl 0), .inr (.inl 9999)] w) fun x2 w1 =>
  if x2 = 0 then
   if mm_cls w1 o = 12 then
    (mm_kI (mm_run (zP Z) 216 [.inr (.inr (some o)), .inl 1] w1) fun x10 w9 =>
   some (some (.inl x10), w9))
   else none
  else
   (mm_gR w1 o 12 0).bind fun r3 =>
   r3.bind fun q4 =>
   (mm_ld 0 w1 q4 7).bind fun x5 =>
   if x5 = (-1) then
    if mm_cls w1 o = 12 then
     (mm_kI (mm_run (zP Z) 216 [.inr (.inr (some o)), .inl 6] w1) fun x8 w7 =>
    some (some (.inl x8), w7))
    else none
   else
    if mm_cls w1 o = 12 then
     (mm_kV (mm_run (zP Z) 357 [.inr (.inr (some o)), .inl a1] w1) fun w6 =>
    mm_at (zP Z) 358 25 [some (.inr (.inr (some o))), none, some (.inl 0)] [] w6)
    else none :=
  (mm_run_eq (P := zP Z) (y := 358) z_cd358 rfl (l := [some (.inr (.inr (some o))), some (.inl a1), none]) rfl [25] 18 w).trans rfl

set_option maxRecDepth 100000 in
set_option maxHeartbeats 4000000 in
theorem B_X12_live_25 (Z : mX) (o : Nat) (l2 : Int) (w : mW) : mm_at (zP Z) 358 25 [some (.inr (.inr (some o))), none, some (.inl l2)] [] w =
  if l2 < 5 then
   (mm_gR w o 12 36).bind fun r5 =>
   (mm_gR w o 12 35).bind fun r6 =>
   r6.bind fun q7 =>
   (mm_ld 0 w q7 l2).bind fun x8 =>
   r5.bind fun q9 =>
   (mm_st 0 w q9 l2 x8).bind fun w10 =>
   mm_at (zP Z) 358 25 [some (.inr (.inr (some o))), none, some (.inl (mm_w32 (l2 + 1)))] [] w10
  else
   if 1 = 0 ∨ 1 = 1 then
    ((mm_p w o 12 37 (.inl 1)).bind fun w1 =>
   (mm_gI w1 o 12 33).bind fun x2 =>
   if mm_cls w1 o = 12 then
    (mm_kI (mm_run (zP Z) 217 [.inr (.inr (some o)), .inl x2] w1) fun x4 w3 =>
   some (some (.inl x4), w3))
   else none)
   else none :=
  (mm_V_eq (P := zP Z) (y := 358) z_cd358 [25] 14 25 _ _ w).trans rfl

-- ThornSchoolModel.lived(I)I
set_option maxRecDepth 100000 in
set_option maxHeartbeats 4000000 in
theorem B_X12_lived (Z : mX) (o : Nat) (a1 : Int) (w : mW) : mm_run (zP Z) 359 [.inr (.inr (some o)), .inl a1] w =
  if a1 < 0 then
   if mm_cls w o = 12 then
    (mm_kI (mm_run (zP Z) 216 [.inr (.inr (some o)), .inl 1] w) fun x2 w1 =>
   some (some (.inl x2), w1))
   else none
  else
   if 4 < a1 then
    if mm_cls w o = 12 then
     (mm_kI (mm_run (zP Z) 216 [.inr (.inr (some o)), .inl 1] w) fun x12 w11 =>
    some (some (.inl x12), w11))
    else none
   else
    (mm_gI w o 12 37).bind fun x3 =>
    if x3 = 0 then
     if mm_cls w o = 12 then
      (mm_kI (mm_run (zP Z) 216 [.inr (.inr (some o)), .inl 6] w) fun x5 w4 =>
     some (some (.inl x5), w4))
     else none
    else
     (mm_gR w o 12 36).bind fun r6 =>
     r6.bind fun q7 =>
     (mm_ld 0 w q7 a1).bind fun x8 =>
     if mm_cls w o = 12 then
      (mm_kI (mm_run (zP Z) 217 [.inr (.inr (some o)), .inl x8] w) fun x10 w9 =>
     some (some (.inl x10), w9))
     else none :=
  (mm_run_eq (P := zP Z) (y := 359) z_cd359 rfl (l := [some (.inr (.inr (some o))), some (.inl a1)]) rfl [] 17 w).trans rfl

-- ThornSchoolModel.mean(II)Z
set_option maxRecDepth 100000 in
set_option maxHeartbeats 4000000 in
theorem B_X12_mean (Z : mX) (o : Nat) (a1 : Int) (a2 : Int) (w : mW) : mm_run (zP Z) 360 [.inr (.inr (some o)), .inl a1, .inl a2] w =
  mm_kI (mm_run (zP Z) 227 [.inr (.inl a1), .inr (.inl 0), .inr (.inl 9999)] w) fun x2 w1 =>
  if x2 = 0 then
   if mm_cls w1 o = 12 then
    (mm_kI (mm_run (zP Z) 215 [.inr (.inr (some o)), .inl 1] w1) fun x4 w3 =>
   if x4 = 0 ∨ x4 = 1 then some (some (.inl x4), w3) else none)
   else none
  else
   mm_kI (mm_run (zP Z) 227 [.inr (.inl a2), .inr (.inl 1), .inr (.inl 20)] w1) fun x6 w5 =>
   if x6 = 0 then
    if mm_cls w5 o = 12 then
     (mm_kI (mm_run (zP Z) 215 [.inr (.inr (some o)), .inl 1] w5) fun x8 w7 =>
    if x8 = 0 ∨ x8 = 1 then some (some (.inl x8), w7) else none)
    else none
   else
    if 9999 < mm_w32 ((mm_w32 (a1 + a2)) - 1) then
     if mm_cls w5 o = 12 then
      (mm_kI (mm_run (zP Z) 215 [.inr (.inr (some o)), .inl 1] w5) fun x15 w14 =>
     if x15 = 0 ∨ x15 = 1 then some (some (.inl x15), w14) else none)
     else none
    else
     (mm_gR w5 o 12 0).bind fun r9 =>
     r9.bind fun q10 =>
     (mm_ld 0 w5 q10 7).bind fun x11 =>
     if x11 = (-1) then
      if mm_cls w5 o = 12 then
       (mm_kI (mm_run (zP Z) 215 [.inr (.inr (some o)), .inl 6] w5) fun x13 w12 =>
      if x13 = 0 ∨ x13 = 1 then some (some (.inl x13), w12) else none)
      else none
     else
      mm_at (zP Z) 360 35 [some (.inr (.inr (some o))), some (.inl a1), some (.inl a2), some (.inl 0), none, none, none] [] w5 :=
  (mm_run_eq (P := zP Z) (y := 360) z_cd360 rfl (l := [some (.inr (.inr (some o))), some (.inl a1), some (.inl a2), none, none, none, none]) rfl [35, 54, 71] 30 w).trans rfl

set_option maxRecDepth 100000 in
set_option maxHeartbeats 4000000 in
theorem B_X12_mean_35 (Z : mX) (o : Nat) (l1 : Int) (l2 : Int) (l3 : Int) (w : mW) : mm_at (zP Z) 360 35 [some (.inr (.inr (some o))), some (.inl l1), some (.inl l2), some (.inl l3), none, none, none] [] w =
  if l3 < 104 then
   (mm_gR w o 12 0).bind fun r1 =>
   (mm_gR w o 12 0).bind fun r2 =>
   r2.bind fun q3 =>
   (mm_ld 0 w q3 l3).bind fun x4 =>
   r1.bind fun q5 =>
   (mm_st 0 w q5 (mm_w32 (2360 + l3)) x4).bind fun w6 =>
   mm_at (zP Z) 360 35 [some (.inr (.inr (some o))), some (.inl l1), some (.inl l2), some (.inl (mm_w32 (l3 + 1))), none, none, none] [] w6
  else
   mm_at (zP Z) 360 54 [some (.inr (.inr (some o))), some (.inl l1), some (.inl l2), some (.inr (.inl 0)), none, some (.inl 0), none] [] w :=
  (mm_V_eq (P := zP Z) (y := 360) z_cd360 [35, 54, 71] 16 35 _ _ w).trans rfl

set_option maxRecDepth 100000 in
set_option maxHeartbeats 4000000 in
theorem B_X12_mean_54 (Z : mX) (o : Nat) (l1 : Int) (l2 : Int) (l3 : Int) (l5 : Int) (w : mW) : mm_at (zP Z) 360 54 [some (.inr (.inr (some o))), some (.inl l1), some (.inl l2), some (.inr (.inl l3)), none, some (.inl l5), none] [] w =
  if l5 < l2 then
   if mm_cls w o = 12 then
    (mm_kV (mm_run (zP Z) 357 [.inr (.inr (some o)), .inl (mm_w32 (l1 + l5))] w) fun w3 =>
   if mm_cls w3 o = 12 then
    (mm_kI (mm_run (zP Z) 280 [.inr (.inr (some o)), .inl 5] w3) fun x5 w4 =>
   mm_at (zP Z) 360 71 [some (.inr (.inr (some o))), some (.inl l1), some (.inl l2), some (.inr (.inl (mm_w64 (l3 + x5)))), none, some (.inl l5), some (.inl 0)] [] w4)
   else none)
   else none
  else
   if mm_cls w o = 12 then
    (mm_kI (mm_run (zP Z) 219 [.inr (.inr (some o)), .inr (.inl l3), .inr (.inl l2)] w) fun x2 w1 =>
   if x2 = 0 ∨ x2 = 1 then some (some (.inl x2), w1) else none)
   else none :=
  (mm_V_eq (P := zP Z) (y := 360) z_cd360 [35, 54, 71] 18 54 _ _ w).trans rfl

set_option maxRecDepth 100000 in
set_option maxHeartbeats 4000000 in
theorem B_X12_mean_71 (Z : mX) (o : Nat) (l1 : Int) (l2 : Int) (l3 : Int) (l5 : Int) (l6 : Int) (w : mW) : mm_at (zP Z) 360 71 [some (.inr (.inr (some o))), some (.inl l1), some (.inl l2), some (.inr (.inl l3)), none, some (.inl l5), some (.inl l6)] [] w =
  if l6 < 104 then
   (mm_gR w o 12 0).bind fun r1 =>
   (mm_gR w o 12 0).bind fun r2 =>
   r2.bind fun q3 =>
   (mm_ld 0 w q3 (mm_w32 (2360 + l6))).bind fun x4 =>
   r1.bind fun q5 =>
   (mm_st 0 w q5 l6 x4).bind fun w6 =>
   mm_at (zP Z) 360 71 [some (.inr (.inr (some o))), some (.inl l1), some (.inl l2), some (.inr (.inl l3)), none, some (.inl l5), some (.inl (mm_w32 (l6 + 1)))] [] w6
  else
   mm_at (zP Z) 360 54 [some (.inr (.inr (some o))), some (.inl l1), some (.inl l2), some (.inr (.inl l3)), none, some (.inl (mm_w32 (l5 + 1))), none] [] w :=
  (mm_V_eq (P := zP Z) (y := 360) z_cd360 [35, 54, 71] 16 71 _ _ w).trans rfl

-- ThornSchoolModel.copies(II)V
set_option maxRecDepth 100000 in
set_option maxHeartbeats 4000000 in
theorem B_X12_copies (Z : mX) (o : Nat) (a1 : Int) (a2 : Int) (w : mW) : mm_run (zP Z) 361 [.inr (.inr (some o)), .inl a1, .inl a2] w =
  mm_at (zP Z) 361 2 [some (.inr (.inr (some o))), some (.inl a1), some (.inl a2), some (.inl 0)] [] w :=
  (mm_run_eq (P := zP Z) (y := 361) z_cd361 rfl (l := [some (.inr (.inr (some o))), some (.inl a1), some (.inl a2), none]) rfl [2, 25] 3 w).trans rfl

set_option maxRecDepth 100000 in
set_option maxHeartbeats 4000000 in
theorem B_X12_copies_2 (Z : mX) (o : Nat) (l1 : Int) (l2 : Int) (l3 : Int) (w : mW) : mm_at (zP Z) 361 2 [some (.inr (.inr (some o))), some (.inl l1), some (.inl l2), some (.inl l3)] [] w =
  if l3 < 472 then
   (mm_gR w o 12 0).bind fun r1 =>
   (mm_gR w o 12 0).bind fun r2 =>
   r2.bind fun q3 =>
   (mm_ld 0 w q3 (mm_w32 ((mm_w32 (472 * l1)) + l3))).bind fun x4 =>
   r1.bind fun q5 =>
   (mm_st 0 w q5 (mm_w32 ((mm_w32 (472 * l2)) + l3)) x4).bind fun w6 =>
   mm_at (zP Z) 361 2 [some (.inr (.inr (some o))), some (.inl l1), some (.inl l2), some (.inl (mm_w32 (l3 + 1)))] [] w6
  else
   mm_at (zP Z) 361 25 [some (.inr (.inr (some o))), some (.inl l1), some (.inl l2), some (.inl 0)] [] w :=
  (mm_V_eq (P := zP Z) (y := 361) z_cd361 [2, 25] 22 2 _ _ w).trans rfl

set_option maxRecDepth 100000 in
set_option maxHeartbeats 4000000 in
theorem B_X12_copies_25 (Z : mX) (o : Nat) (l1 : Int) (l2 : Int) (l3 : Int) (w : mW) : mm_at (zP Z) 361 25 [some (.inr (.inr (some o))), some (.inl l1), some (.inl l2), some (.inl l3)] [] w =
  if l3 < 12 then
   (mm_gR w o 12 1).bind fun r1 =>
   (mm_gR w o 12 1).bind fun r2 =>
   r2.bind fun q3 =>
   (mm_ld 3 w q3 (mm_w32 ((mm_w32 (12 * l1)) + l3))).bind fun x4 =>
   r1.bind fun q5 =>
   (mm_st 3 w q5 (mm_w32 ((mm_w32 (12 * l2)) + l3)) x4).bind fun w6 =>
   mm_at (zP Z) 361 25 [some (.inr (.inr (some o))), some (.inl l1), some (.inl l2), some (.inl (mm_w32 (l3 + 1)))] [] w6
  else
   some (none, w) :=
  (mm_V_eq (P := zP Z) (y := 361) z_cd361 [2, 25] 22 25 _ _ w).trans rfl

-- ThornSchoolModel.mark()I
set_option maxRecDepth 100000 in
set_option maxHeartbeats 4000000 in
theorem B_X12_mark (Z : mX) (o : Nat) (w : mW) : mm_run (zP Z) 362 [.inr (.inr (some o))] w =
  (mm_gI w o 12 38).bind fun x1 =>
  if x1 = 3 then
   if mm_cls w o = 12 then
    (mm_kI (mm_run (zP Z) 216 [.inr (.inr (some o)), .inl 4] w) fun x10 w9 =>
   some (some (.inl x10), w9))
   else none
  else
   (mm_gI w o 12 38).bind fun x2 =>
   (mm_p w o 12 38 (.inl (mm_w32 (x2 + 1)))).bind fun w3 =>
   (mm_gI w3 o 12 38).bind fun x4 =>
   if mm_cls w3 o = 12 then
    (mm_kV (mm_run (zP Z) 361 [.inr (.inr (some o)), .inl 0, .inl x4] w3) fun w5 =>
   (mm_gI w5 o 12 38).bind fun x6 =>
   if mm_cls w5 o = 12 then
    (mm_kI (mm_run (zP Z) 217 [.inr (.inr (some o)), .inl x6] w5) fun x8 w7 =>
   some (some (.inl x8), w7))
   else none)
   else none :=
  (mm_run_eq (P := zP Z) (y := 362) z_cd362 rfl (l := [some (.inr (.inr (some o)))]) rfl [] 21 w).trans rfl

-- ThornSchoolModel.undo()I
set_option maxRecDepth 100000 in
set_option maxHeartbeats 4000000 in
theorem B_X12_undo (Z : mX) (o : Nat) (w : mW) : mm_run (zP Z) 363 [.inr (.inr (some o))] w =
  (mm_gI w o 12 38).bind fun x1 =>
  if x1 = 0 then
   if mm_cls w o = 12 then
    (mm_kI (mm_run (zP Z) 216 [.inr (.inr (some o)), .inl 6] w) fun x10 w9 =>
   some (some (.inl x10), w9))
   else none
  else
   (mm_gI w o 12 38).bind fun x2 =>
   if mm_cls w o = 12 then
    (mm_kV (mm_run (zP Z) 361 [.inr (.inr (some o)), .inl x2, .inl 0] w) fun w3 =>
   (mm_gI w3 o 12 38).bind fun x4 =>
   (mm_p w3 o 12 38 (.inl (mm_w32 (x4 - 1)))).bind fun w5 =>
   (mm_gI w5 o 12 38).bind fun x6 =>
   if mm_cls w5 o = 12 then
    (mm_kI (mm_run (zP Z) 217 [.inr (.inr (some o)), .inl x6] w5) fun x8 w7 =>
   some (some (.inl x8), w7))
   else none)
   else none :=
  (mm_run_eq (P := zP Z) (y := 363) z_cd363 rfl (l := [some (.inr (.inr (some o)))]) rfl [] 20 w).trans rfl

