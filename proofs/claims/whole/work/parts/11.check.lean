/-! what is checked, by program, of each instruction: its bytes, its places, the tables' words -/
def zD (b : ByteArray) (ps : List Nat) (i : Nat) (I : Instr) (n : Nat) : Bool := decide (decode b (ps.getD i 0) = .ok (I, n)) && decide (ps.getD (i + 1) 0 = ps.getD i 0 + n)
def zOff (ps : List Nat) (i a : Nat) : Int := (ps.getD a 0 : Int) - (ps.getD i 0 : Int)
def z4 (a : Nat) : Fin 4 := if a = 0 then 0 else if a = 1 then 1 else if a = 2 then 2 else 3
abbrev zR32 (v : Int) : Prop := -2147483648 ≤ v ∧ v < 2147483648
abbrev zR64 (v : Int) : Prop := -9223372036854775808 ≤ v ∧ v < 9223372036854775808
def zF1 (b : ByteArray) (ps : List Nat) (c nl i op a bb : Nat) (v : Int) : Bool := match op with
  | 1 => zD b ps i (.iload a) 2 || (zD b ps i (.iload_n (z4 a)) 1 && decide (a < 4))
  | 2 => zD b ps i (.lload a) 2 || (zD b ps i (.lload_n (z4 a)) 1 && decide (a < 4))
  | 3 => zD b ps i (.aload a) 2 || (zD b ps i (.aload_n (z4 a)) 1 && decide (a < 4))
  | 4 => (zD b ps i (.istore a) 2 || (zD b ps i (.istore_n (z4 a)) 1 && decide (a < 4))) && decide (a < nl)
  | 5 => (zD b ps i (.lstore a) 2 || (zD b ps i (.lstore_n (z4 a)) 1 && decide (a < 4))) && decide (a + 1 < nl)
  | 6 => (zD b ps i (.astore a) 2 || (zD b ps i (.astore_n (z4 a)) 1 && decide (a < 4))) && decide (a < nl)
  | 7 => zD b ps i (.iinc a v) 3 && decide (a < nl)
  | 8 => decide (-2147483648 ≤ v ∧ v < 2147483648) && (zD b ps i (.iconst v) 1 || (zD b ps i (.bipush v) 2 && decide ((Int8.ofInt v).toInt32 = Int32.ofInt v)) || (zD b ps i (.sipush v) 3 && decide ((Int16.ofInt v).toInt32 = Int32.ofInt v))
      || (zD b ps i (.ldc a) 2 && z_cons.elem (c, a, v)) || (zD b ps i (.ldc_w a) 3 && z_cons.elem (c, a, v)))
  | 9 => decide (-9223372036854775808 ≤ v ∧ v < 9223372036854775808) && ((zD b ps i (.lconst 0) 1 && decide (v = 0)) || (zD b ps i (.lconst 1) 1 && decide (v = 1)) || (zD b ps i (.ldc2_w a) 3 && z_conl.elem (c, a, v)))
  | 10 => zD b ps i .aconst_null 1
  | 11 => zD b ps i (.ldc bb) 2 && z_strc.elem (c, bb, a)
  | 12 => zD b ps i .dup 1
  | 13 => zD b ps i .dup2 1
  | 14 => zD b ps i .pop 1
  | _ => false
def zF2 (b : ByteArray) (ps : List Nat) (i op : Nat) : Bool := match op with
  | 20 => zD b ps i .iadd 1
  | 21 => zD b ps i .isub 1
  | 22 => zD b ps i .imul 1
  | 23 => zD b ps i .idiv 1
  | 24 => zD b ps i .irem 1
  | 25 => zD b ps i .iand 1
  | 26 => zD b ps i .ior 1
  | 27 => zD b ps i .ixor 1
  | 28 => zD b ps i .ishl 1
  | 29 => zD b ps i .ishr 1
  | 30 => zD b ps i .iushr 1
  | _ => false
def zF3 (b : ByteArray) (ps : List Nat) (i op : Nat) : Bool := match op with
  | 40 => zD b ps i .ladd 1
  | 41 => zD b ps i .lsub 1
  | 42 => zD b ps i .lmul 1
  | 43 => zD b ps i .ldiv 1
  | 44 => zD b ps i .lrem 1
  | 45 => zD b ps i .land 1
  | 46 => zD b ps i .lor 1
  | 47 => zD b ps i .lshl 1
  | 48 => zD b ps i .lcmp 1
  | 49 => zD b ps i .i2l 1
  | 50 => zD b ps i .l2i 1
  | 51 => zD b ps i .i2b 1
  | 52 => zD b ps i .i2s 1
  | _ => false
def zSw (b : ByteArray) (ps : List Nat) (i a : Nat) (cs : List (Int × Nat)) : Bool := match decode b (ps.getD i 0) with
  | .ok (.tableswitch d lo hi offs, _) => decide (d = zOff ps i a) && decide (offs.toList = cs.map (fun e => zOff ps i e.2)) && decide (cs.map (fun e => e.1) = (List.range cs.length).map (fun (j : Nat) => lo + (j : Int))) && decide (hi = lo + cs.length - 1)
  | .ok (.lookupswitch d prs, _) => decide (d = zOff ps i a) && decide (prs.toList = cs.map (fun e => (e.1, zOff ps i e.2))) && (prs.toList.zip (prs.toList.drop 1)).all (fun (x, next) => x.1 < next.1)
  | _ => false
def zF4 (b : ByteArray) (ps : List Nat) (i op a : Nat) (cs : List (Int × Nat)) : Bool := match op with
  | 60 => zD b ps i (.ifCond .eq (zOff ps i a)) 3
  | 61 => zD b ps i (.ifCond .ne (zOff ps i a)) 3
  | 62 => zD b ps i (.ifCond .lt (zOff ps i a)) 3
  | 63 => zD b ps i (.ifCond .ge (zOff ps i a)) 3
  | 64 => zD b ps i (.ifCond .gt (zOff ps i a)) 3
  | 65 => zD b ps i (.ifCond .le (zOff ps i a)) 3
  | 66 => zD b ps i (.if_icmp .eq (zOff ps i a)) 3
  | 67 => zD b ps i (.if_icmp .ne (zOff ps i a)) 3
  | 68 => zD b ps i (.if_icmp .lt (zOff ps i a)) 3
  | 69 => zD b ps i (.if_icmp .ge (zOff ps i a)) 3
  | 70 => zD b ps i (.if_icmp .gt (zOff ps i a)) 3
  | 71 => zD b ps i (.if_icmp .le (zOff ps i a)) 3
  | 72 => zD b ps i (.ifnull (zOff ps i a)) 3
  | 73 => zD b ps i (.ifnonnull (zOff ps i a)) 3
  | 74 => zD b ps i (.goto (zOff ps i a)) 3
  | 75 => zSw b ps i a cs
  | _ => false
def zAok (a : Nat) : Bool := decide (a = 10 ∨ a = 15 ∨ a = 18)
def zF5 (b : ByteArray) (ps : List Nat) (c i op a bb : Nat) : Bool := match op with
  | 80 => zD b ps i .iaload 1
  | 81 => zD b ps i .baload 1
  | 82 => zD b ps i .baload 1
  | 83 => zD b ps i .laload 1
  | 84 => zD b ps i .aaload 1 && zAok a
  | 85 => zD b ps i .iastore 1
  | 86 => zD b ps i .bastore 1
  | 87 => zD b ps i .bastore 1
  | 88 => zD b ps i .lastore 1
  | 89 => zD b ps i .aastore 1 && zAok a
  | 90 => zD b ps i .arraylength 1
  | 91 => (zD b ps i (.newarray .int) 2 && decide (a = 0)) || (zD b ps i (.newarray .byte) 2 && decide (a = 1)) || (zD b ps i (.newarray .boolean) 2 && decide (a = 2)) || (zD b ps i (.newarray .long) 2 && decide (a = 3))
  | 92 => zD b ps i (.anewarray bb) 3 && zAok a && z_anews.elem (c, bb, a)
  | _ => false
def zIn (y : Nat) : Bool := decide ((z_nm y).name = "<init>")
def zFin (y c ci k : Nat) : Bool := !(zT ci k).2.2.2 || (zIn y && decide (c = ci) && decide ((zT ci k).1 = z_cn c))
def zFd (c a ci k : Nat) : Bool := z_flds.elem (c, a, ci, k) && decide (k < z_N ci) && decide (ci < 13)
def zRef (t : Option FieldType) : Bool := match t with
  | some (.object _) => true
  | some (.array _) => true
  | _ => false
def zF6 (b : ByteArray) (ps : List Nat) (y c i op a bb k : Nat) : Bool := match op with
  | 100 => zD b ps i (.getfield a) 3 && zFd c a bb k
  | 101 => zD b ps i (.getfield a) 3 && zFd c a bb k
  | 102 => zD b ps i (.getfield a) 3 && zFd c a bb k
  | 103 => zD b ps i (.putfield a) 3 && zFd c a bb k && zFin y c bb k && decide (parseFieldDescriptor (zT bb k).2.2.1 = some .int)
  | 104 => zD b ps i (.putfield a) 3 && zFd c a bb k && zFin y c bb k && decide (parseFieldDescriptor (zT bb k).2.2.1 = some .long)
  | 105 => zD b ps i (.putfield a) 3 && zFd c a bb k && zFin y c bb k && zRef (parseFieldDescriptor (zT bb k).2.2.1)
  | 106 => zD b ps i (.putfield a) 3 && zFd c a bb k && zFin y c bb k && decide (parseFieldDescriptor (zT bb k).2.2.1 = some .boolean)
  | 107 => zD b ps i (.invokespecial a) 3 && z_oin.elem (c, a) && decide (1 ≤ z_fr y ∧ 21 ≤ z_lo y)
  | 108 => zD b ps i (.new a) 3 && z_news.elem (c, a, bb) && decide (k = z_N bb) && decide (bb < 13)
  | 109 => zD b ps i (.invokestatic a) 3 && z_math.elem (c, a, 0) && decide (1 ≤ z_fr y ∧ 21 ≤ z_lo y)
  | _ => false
def zF7 (b : ByteArray) (ps : List Nat) (y c i op a : Nat) : Bool := match op with
  | 120 => zD b ps i (.invokestatic a) 3 && z_math.elem (c, a, 1) && decide (1 ≤ z_fr y ∧ 21 ≤ z_lo y)
  | 121 => zD b ps i (.invokestatic a) 3 && z_math.elem (c, a, 2) && decide (1 ≤ z_fr y ∧ 21 ≤ z_lo y)
  | 122 => zD b ps i (.invokevirtual a) 3 && z_strm.elem (c, a, 0) && decide (2 ≤ z_fr y ∧ 40 ≤ z_lo y)
  | 123 => zD b ps i (.invokevirtual a) 3 && z_strm.elem (c, a, 1) && decide (4 ≤ z_fr y ∧ 85 ≤ z_lo y)
  | 124 => zD b ps i .iaload 1 && decide (c = 14)
  | 125 => zD b ps i .arraylength 1 && decide (c = 14)
  | 130 => zD b ps i .ireturn 1 && decide (z_rt y = some .int)
  | 131 => zD b ps i .ireturn 1 && decide (z_rt y = some .boolean)
  | 132 => zD b ps i .lreturn 1 && decide (z_rt y = some .long)
  | 133 => zD b ps i .areturn 1 && zRef (z_rt y)
  | 134 => zD b ps i .return_ 1 && decide (z_rt y = none)
  | _ => false
/-- the kind of an answer -/
def zKd (t : Option FieldType) : Nat := match t with
  | none => 0
  | some .long => 2
  | some (.object _) => 3
  | some (.array _) => 3
  | _ => 1
def zF8 (b : ByteArray) (ps : List Nat) (y c i op a bb n : Nat) (v : Int) : Bool :=
  decide (bb < 365) && decide (n = z_na bb) && decide (zKd (z_rt bb) = (op - 150) % 4) && decide (z_fr bb + 1 ≤ z_fr y) && decide (8 + (z_ml bb + 11) + z_lo bb ≤ z_lo y) &&
  (if op < 154 then zD b ps i (.invokestatic a) 3 && z_st bb && (z_calls.elem (c, a, bb, 0) || z_calls.elem (c, a, bb, 1))
   else decide (op < 158) && !(z_st bb) && decide (v = (z_oc bb : Int)) && decide (1 ≤ n) &&
    (if zIn bb then zD b ps i (.invokespecial a) 3 && (z_calls.elem (c, a, bb, 3) || z_calls.elem (c, a, bb, 4)) && decide (z_rt bb = none) else zD b ps i (.invokevirtual a) 3 && z_calls.elem (c, a, bb, 2)))
def zF (b : ByteArray) (ps : List Nat) (y c i : Nat) (I : mI) : Bool :=
  if I.1 < 20 then zF1 b ps c (z_ml y) i I.1 I.2.1 I.2.2.1 I.2.2.2.2.1
  else if I.1 < 40 then zF2 b ps i I.1
  else if I.1 < 60 then zF3 b ps i I.1
  else if I.1 < 80 then zF4 b ps i I.1 I.2.1 I.2.2.2.2.2.1
  else if I.1 < 100 then zF5 b ps c i I.1 I.2.1 I.2.2.1
  else if I.1 < 120 then zF6 b ps y c i I.1 I.2.1 I.2.2.1 I.2.2.2.1
  else if I.1 < 150 then zF7 b ps y c i I.1 I.2.1
  else zF8 b ps y c i I.1 I.2.1 I.2.2.1 I.2.2.2.1 I.2.2.2.2.1
/-- all rows of a method, from a place on -/
def zAll (b : ByteArray) (ps : List Nat) (y c : Nat) : Nat → List mI → Bool
  | _, [] => true
  | i, I :: r => zF b ps y c i I && zAll b ps y c (i + 1) r
def zMeth (y : Nat) : Bool := zAll (z_by y) (z_pl y) y (z_oc y) 0 (z_code y) && decide (((z_pl y).getD 0 0) = 0)
/-- what a method's own name and shape say -/
def zSig (y : Nat) : Bool := plainName (z_nm y).cls && decide ((z_nm y).cls = z_cn (z_oc y)) && decide ((z_nm y).cls ≠ "java/lang/invoke/MethodHandle" ∧ (z_nm y).cls ≠ "java/lang/invoke/VarHandle") && decide ((parseMethodDescriptor (z_nm y).desc).map (fun d => d.parameters.length) = some (if z_st y then z_na y else z_na y - 1)) && decide (z_oc y < 14)
