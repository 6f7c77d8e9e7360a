/-! the mini machine's instructions -/
abbrev mI_ (x : Int) : mV := .inl x
abbrev mJ_ (x : Int) : mV := .inr (.inl x)
abbrev mR_ (x : Option Nat) : mV := .inr (.inr x)
def mm_w32 (x : Int) : Int := Int.bmod x 4294967296
def mm_w64 (x : Int) : Int := Int.bmod x 18446744073709551616
def mm_iand (a b : Int) : Int := (Int32.ofInt a &&& Int32.ofInt b).toInt
def mm_ior (a b : Int) : Int := (Int32.ofInt a ||| Int32.ofInt b).toInt
def mm_ixor (a b : Int) : Int := (Int32.ofInt a ^^^ Int32.ofInt b).toInt
def mm_ishl (a b : Int) : Int := (Int32.ofInt a <<< (Int32.ofInt b &&& 31)).toInt
def mm_ishr (a b : Int) : Int := (Int32.ofInt a >>> (Int32.ofInt b &&& 31)).toInt
def mm_iushr (a b : Int) : Int := ((Int32.ofInt a).toUInt32 >>> ((Int32.ofInt b).toUInt32 &&& Int32.toUInt32 31)).toInt32.toInt
def mm_land (a b : Int) : Int := (Int64.ofInt a &&& Int64.ofInt b).toInt
def mm_lor (a b : Int) : Int := (Int64.ofInt a ||| Int64.ofInt b).toInt
def mm_lshl (a b : Int) : Int := (Int64.ofInt a <<< ((Int32.ofInt b).toInt64 &&& 63)).toInt
def mm_idiv (a b : Int) : Int := mm_w32 (a.tdiv b)
def mm_irem (a b : Int) : Int := mm_w32 (a.tmod b)
def mm_ldiv (a b : Int) : Int := mm_w64 (a.tdiv b)
def mm_lrem (a b : Int) : Int := mm_w64 (a.tmod b)
def mm_i2b (a : Int) : Int := Int.bmod a 256
def mm_i2s (a : Int) : Int := Int.bmod a 65536
def mm_lcmp (a b : Int) : Int := if a < b then -1 else if a = b then 0 else 1
def mm_upd (f : Int → Int) (i v : Int) : Int → Int := fun j => if j = i then v else f j
def mm_set (w : mW) (r : Nat) (c : mC) : mW := (fun q => if q = r then c else w.1 q, w.2)
def mm_cls (w : mW) (r : Nat) : Nat := match w.1 r with
  | .inl o => o.1
  | .inr _ => 99
def mm_gI (w : mW) (r ci k : Nat) : Option Int := match w.1 r with
  | .inl o => if o.1 = ci then (match o.2[k]? with | some (.inl x) => some x | _ => none) else none
  | .inr _ => none
def mm_gJ (w : mW) (r ci k : Nat) : Option Int := match w.1 r with
  | .inl o => if o.1 = ci then (match o.2[k]? with | some (.inr (.inl x)) => some x | _ => none) else none
  | .inr _ => none
def mm_gR (w : mW) (r ci k : Nat) : Option (Option Nat) := match w.1 r with
  | .inl o => if o.1 = ci then (match o.2[k]? with | some (.inr (.inr x)) => some x | _ => none) else none
  | .inr _ => none
def mm_p (w : mW) (r ci k : Nat) (v : mV) : Option mW := match w.1 r with
  | .inl o => if o.1 = ci ∧ k < o.2.length then some (mm_set w r (.inl (ci, o.2.set k v))) else none
  | .inr _ => none
def mm_ld (kd : Nat) (w : mW) (r : Nat) (i : Int) : Option Int := match w.1 r with
  | .inl _ => none
  | .inr a => if a.1 = kd ∧ 0 ≤ i ∧ i < a.2.1 then some (a.2.2 i) else none
def mm_st (kd : Nat) (w : mW) (r : Nat) (i v : Int) : Option mW := match w.1 r with
  | .inl _ => none
  | .inr a => if a.1 = kd ∧ 0 ≤ i ∧ i < a.2.1 then some (mm_set w r (.inr (kd, a.2.1, mm_upd a.2.2 i v))) else none
def mm_ln (w : mW) (r : Nat) : Option Int := match w.1 r with
  | .inl _ => none
  | .inr a => if a.1 < 90 then some (a.2.1 : Int) else none
/-- the place ahead holds a long -/
def mm_isJ (l : mL) (a : Nat) : Bool := match a with
  | 0 => false
  | b + 1 => match l[b]? with
    | some (some (.inr (.inl _))) => true
    | _ => false
def mm_kill : List Nat → mL → mL
  | [], l => l
  | k :: ks, l => mm_kill ks (l.set k none)
/-- the words of a stack -/
def mm_wt : List mV → Nat
  | [] => 0
  | .inl _ :: r => mm_wt r + 1
  | .inr (.inl _) :: r => mm_wt r + 2
  | .inr (.inr _) :: r => mm_wt r + 1
def mm_slots : List mV → mL
  | [] => []
  | .inl x :: r => some (.inl x) :: mm_slots r
  | .inr (.inl x) :: r => some (.inr (.inl x)) :: none :: mm_slots r
  | .inr (.inr x) :: r => some (.inr (.inr x)) :: mm_slots r
def mm_pad : Nat → mL → mL
  | 0, _ => []
  | n + 1, [] => none :: mm_pad n []
  | n + 1, x :: r => x :: mm_pad n r
def mm_sw (k : Nat → mO) (x : Int) (d : Nat) : List (Int × Nat) → mO
  | [] => k d
  | (v, t) :: r => if x = v then k t else mm_sw k x d r
def mm_alloc (w : mW) (c : mC) (n : Nat) : mW := (fun q => if q = w.2.1 then c else w.1 q, w.2.1 + 1, w.2.2 + n)
/-- an int of the script, its length; a text's length and signs -/
abbrev mE : Type := (Int → Int) × Int × (Nat → List Int) × (Nat → List mV)
abbrev mK : Type := Nat → mL → List mV → mW → mO
abbrev mCall : Type := Nat → List mV → mW → mO
def mm_s1 (E : mE) (k : mK) (pc : Nat) (op a : Nat) (v : Int) (l : mL) (st : List mV) (w : mW) : mO := match op with
  | 1 => match l[a]? with | some (some (.inl x)) => k (pc + 1) l (.inl x :: st) w | _ => none
  | 2 => match l[a]? with | some (some (.inr (.inl x))) => k (pc + 1) l (.inr (.inl x) :: st) w | _ => none
  | 3 => match l[a]? with | some (some (.inr (.inr x))) => k (pc + 1) l (.inr (.inr x) :: st) w | _ => none
  | 4 => match st with | .inl x :: r => cond (mm_isJ l a) none (k (pc + 1) (l.set a (some (.inl x))) r w) | _ => none
  | 5 => match st with | .inr (.inl x) :: r => cond (mm_isJ l a) none (k (pc + 1) ((l.set a (some (.inr (.inl x)))).set (a + 1) none) r w) | _ => none
  | 6 => match st with | .inr (.inr x) :: r => cond (mm_isJ l a) none (k (pc + 1) (l.set a (some (.inr (.inr x)))) r w) | _ => none
  | 7 => match l[a]? with | some (some (.inl x)) => cond (mm_isJ l a) none (k (pc + 1) (l.set a (some (.inl (mm_w32 (x + v))))) st w) | _ => none
  | 8 => k (pc + 1) l (.inl v :: st) w
  | 9 => k (pc + 1) l (.inr (.inl v) :: st) w
  | 10 => k (pc + 1) l (.inr (.inr none) :: st) w
  | 11 => k (pc + 1) l (.inr (.inr (some a)) :: st) w
  | 12 => match st with
    | .inl x :: r => k (pc + 1) l (.inl x :: .inl x :: r) w
    | .inr (.inr x) :: r => k (pc + 1) l (.inr (.inr x) :: .inr (.inr x) :: r) w
    | _ => none
  | 13 => match st with
    | .inl x :: .inr (.inr y) :: r => k (pc + 1) l (.inl x :: .inr (.inr y) :: .inl x :: .inr (.inr y) :: r) w
    | _ => none
  | 14 => match st with | .inl _ :: r => k (pc + 1) l r w | _ => none
  | _ => none
def mm_s2 (k : mK) (pc : Nat) (op : Nat) (l : mL) (st : List mV) (w : mW) : mO := match op with
  | 20 => match st with | .inl y :: .inl x :: r => k (pc + 1) l (.inl (mm_w32 (x + y)) :: r) w | _ => none
  | 21 => match st with | .inl y :: .inl x :: r => k (pc + 1) l (.inl (mm_w32 (x - y)) :: r) w | _ => none
  | 22 => match st with | .inl y :: .inl x :: r => k (pc + 1) l (.inl (mm_w32 (x * y)) :: r) w | _ => none
  | 23 => match st with | .inl y :: .inl x :: r => if y = 0 then none else k (pc + 1) l (.inl (mm_idiv x y) :: r) w | _ => none
  | 24 => match st with | .inl y :: .inl x :: r => if y = 0 then none else k (pc + 1) l (.inl (mm_irem x y) :: r) w | _ => none
  | 25 => match st with | .inl y :: .inl x :: r => k (pc + 1) l (.inl (mm_iand x y) :: r) w | _ => none
  | 26 => match st with | .inl y :: .inl x :: r => k (pc + 1) l (.inl (mm_ior x y) :: r) w | _ => none
  | 27 => match st with | .inl y :: .inl x :: r => k (pc + 1) l (.inl (mm_ixor x y) :: r) w | _ => none
  | 28 => match st with | .inl y :: .inl x :: r => k (pc + 1) l (.inl (mm_ishl x y) :: r) w | _ => none
  | 29 => match st with | .inl y :: .inl x :: r => k (pc + 1) l (.inl (mm_ishr x y) :: r) w | _ => none
  | 30 => match st with | .inl y :: .inl x :: r => k (pc + 1) l (.inl (mm_iushr x y) :: r) w | _ => none
  | _ => none
def mm_s3 (k : mK) (pc : Nat) (op : Nat) (l : mL) (st : List mV) (w : mW) : mO := match op with
  | 40 => match st with | .inr (.inl y) :: .inr (.inl x) :: r => k (pc + 1) l (.inr (.inl (mm_w64 (x + y))) :: r) w | _ => none
  | 41 => match st with | .inr (.inl y) :: .inr (.inl x) :: r => k (pc + 1) l (.inr (.inl (mm_w64 (x - y))) :: r) w | _ => none
  | 42 => match st with | .inr (.inl y) :: .inr (.inl x) :: r => k (pc + 1) l (.inr (.inl (mm_w64 (x * y))) :: r) w | _ => none
  | 43 => match st with | .inr (.inl y) :: .inr (.inl x) :: r => if y = 0 then none else k (pc + 1) l (.inr (.inl (mm_ldiv x y)) :: r) w | _ => none
  | 44 => match st with | .inr (.inl y) :: .inr (.inl x) :: r => if y = 0 then none else k (pc + 1) l (.inr (.inl (mm_lrem x y)) :: r) w | _ => none
  | 45 => match st with | .inr (.inl y) :: .inr (.inl x) :: r => k (pc + 1) l (.inr (.inl (mm_land x y)) :: r) w | _ => none
  | 46 => match st with | .inr (.inl y) :: .inr (.inl x) :: r => k (pc + 1) l (.inr (.inl (mm_lor x y)) :: r) w | _ => none
  | 47 => match st with | .inl y :: .inr (.inl x) :: r => k (pc + 1) l (.inr (.inl (mm_lshl x y)) :: r) w | _ => none
  | 48 => match st with | .inr (.inl y) :: .inr (.inl x) :: r => k (pc + 1) l (.inl (mm_lcmp x y) :: r) w | _ => none
  | 49 => match st with | .inl x :: r => k (pc + 1) l (.inr (.inl x) :: r) w | _ => none
  | 50 => match st with | .inr (.inl x) :: r => k (pc + 1) l (.inl (mm_w32 x) :: r) w | _ => none
  | 51 => match st with | .inl x :: r => k (pc + 1) l (.inl (mm_i2b x) :: r) w | _ => none
  | 52 => match st with | .inl x :: r => k (pc + 1) l (.inl (mm_i2s x) :: r) w | _ => none
  | _ => none
def mm_s4 (k : mK) (pc : Nat) (op a : Nat) (cs : List (Int × Nat)) (l : mL) (st : List mV) (w : mW) : mO := match op with
  | 60 => match st with | .inl x :: r => if x = 0 then k a l r w else k (pc + 1) l r w | _ => none
  | 61 => match st with | .inl x :: r => if x = 0 then k (pc + 1) l r w else k a l r w | _ => none
  | 62 => match st with | .inl x :: r => if x < 0 then k a l r w else k (pc + 1) l r w | _ => none
  | 63 => match st with | .inl x :: r => if x < 0 then k (pc + 1) l r w else k a l r w | _ => none
  | 64 => match st with | .inl x :: r => if 0 < x then k a l r w else k (pc + 1) l r w | _ => none
  | 65 => match st with | .inl x :: r => if 0 < x then k (pc + 1) l r w else k a l r w | _ => none
  | 66 => match st with | .inl y :: .inl x :: r => if x = y then k a l r w else k (pc + 1) l r w | _ => none
  | 67 => match st with | .inl y :: .inl x :: r => if x = y then k (pc + 1) l r w else k a l r w | _ => none
  | 68 => match st with | .inl y :: .inl x :: r => if x < y then k a l r w else k (pc + 1) l r w | _ => none
  | 69 => match st with | .inl y :: .inl x :: r => if x < y then k (pc + 1) l r w else k a l r w | _ => none
  | 70 => match st with | .inl y :: .inl x :: r => if y < x then k a l r w else k (pc + 1) l r w | _ => none
  | 71 => match st with | .inl y :: .inl x :: r => if y < x then k (pc + 1) l r w else k a l r w | _ => none
  | 72 => match st with | .inr (.inr x) :: r => if x = none then k a l r w else k (pc + 1) l r w | _ => none
  | 73 => match st with | .inr (.inr x) :: r => if x = none then k (pc + 1) l r w else k a l r w | _ => none
  | 74 => k a l st w
  | 75 => match st with | .inl x :: r => mm_sw (fun t => k t l r w) x a cs | _ => none
  | _ => none
def mm_s5 (k : mK) (pc : Nat) (op a : Nat) (l : mL) (st : List mV) (w : mW) : mO := match op with
  | 80 => match st with | .inl i :: .inr (.inr r) :: s => r.bind fun q => (mm_ld 0 w q i).bind fun x => k (pc + 1) l (.inl x :: s) w | _ => none
  | 81 => match st with | .inl i :: .inr (.inr r) :: s => r.bind fun q => (mm_ld 1 w q i).bind fun x => k (pc + 1) l (.inl x :: s) w | _ => none
  | 82 => match st with | .inl i :: .inr (.inr r) :: s => r.bind fun q => (mm_ld 2 w q i).bind fun x => k (pc + 1) l (.inl x :: s) w | _ => none
  | 83 => match st with | .inl i :: .inr (.inr r) :: s => r.bind fun q => (mm_ld 3 w q i).bind fun x => k (pc + 1) l (.inr (.inl x) :: s) w | _ => none
  | 84 => match st with | .inl i :: .inr (.inr r) :: s => r.bind fun q => (mm_ld a w q i).bind fun x => k (pc + 1) l (.inr (.inr (if x < 0 then none else some x.toNat)) :: s) w | _ => none
  | 85 => match st with | .inl x :: .inl i :: .inr (.inr r) :: s => r.bind fun q => (mm_st 0 w q i x).bind fun w1 => k (pc + 1) l s w1 | _ => none
  | 86 => match st with | .inl x :: .inl i :: .inr (.inr r) :: s => r.bind fun q => (mm_st 1 w q i (mm_i2b x)).bind fun w1 => k (pc + 1) l s w1 | _ => none
  | 87 => match st with | .inl x :: .inl i :: .inr (.inr r) :: s => r.bind fun q => if x = 0 ∨ x = 1 then (mm_st 2 w q i x).bind fun w1 => k (pc + 1) l s w1 else none | _ => none
  | 88 => match st with | .inr (.inl x) :: .inl i :: .inr (.inr r) :: s => r.bind fun q => (mm_st 3 w q i x).bind fun w1 => k (pc + 1) l s w1 | _ => none
  | 89 => match st with | .inr (.inr x) :: .inl i :: .inr (.inr r) :: s => r.bind fun q => x.bind fun y => if mm_cls w y + 10 = a then (mm_st a w q i (y : Int)).bind fun w1 => k (pc + 1) l s w1 else none | _ => none
  | 90 => match st with | .inr (.inr r) :: s => r.bind fun q => (mm_ln w q).bind fun x => k (pc + 1) l (.inl x :: s) w | _ => none
  | 91 => match st with | .inl n :: s => if n < 0 ∨ 100000 < n then none else k (pc + 1) l (.inr (.inr (some w.2.1)) :: s) (mm_alloc w (.inr (a, n.toNat, fun _ => 0)) n.toNat) | _ => none
  | 92 => match st with | .inl n :: s => if n < 0 ∨ 100000 < n then none else k (pc + 1) l (.inr (.inr (some w.2.1)) :: s) (mm_alloc w (.inr (a, n.toNat, fun _ => -1)) n.toNat) | _ => none
  | _ => none
def mm_s6 (E : mE) (k : mK) (pc : Nat) (op b c : Nat) (l : mL) (st : List mV) (w : mW) : mO := match op with
  | 100 => match st with | .inr (.inr r) :: s => r.bind fun q => (mm_gI w q b c).bind fun x => k (pc + 1) l (.inl x :: s) w | _ => none
  | 101 => match st with | .inr (.inr r) :: s => r.bind fun q => (mm_gJ w q b c).bind fun x => k (pc + 1) l (.inr (.inl x) :: s) w | _ => none
  | 102 => match st with | .inr (.inr r) :: s => r.bind fun q => (mm_gR w q b c).bind fun x => k (pc + 1) l (.inr (.inr x) :: s) w | _ => none
  | 103 => match st with | .inl x :: .inr (.inr r) :: s => r.bind fun q => (mm_p w q b c (.inl x)).bind fun w1 => k (pc + 1) l s w1 | _ => none
  | 104 => match st with | .inr (.inl x) :: .inr (.inr r) :: s => r.bind fun q => (mm_p w q b c (.inr (.inl x))).bind fun w1 => k (pc + 1) l s w1 | _ => none
  | 105 => match st with | .inr (.inr x) :: .inr (.inr r) :: s => r.bind fun q => (mm_p w q b c (.inr (.inr x))).bind fun w1 => k (pc + 1) l s w1 | _ => none
  | 106 => match st with | .inl x :: .inr (.inr r) :: s => r.bind fun q => if x = 0 ∨ x = 1 then (mm_p w q b c (.inl x)).bind fun w1 => k (pc + 1) l s w1 else none | _ => none
  | 107 => match st with | .inr (.inr r) :: s => r.bind fun _ => cond (Nat.ble (mm_wt s) 8) (k (pc + 1) l s w) none | _ => none
  | 108 => k (pc + 1) l (.inr (.inr (some w.2.1)) :: st) (mm_alloc w (.inl (b, E.2.2.2 b)) c)
  | 109 => match st with | .inl y :: .inl x :: r => cond (Nat.ble (mm_wt r) 8) (k (pc + 1) l (.inl (if x < y then y else x) :: r) w) none | _ => none
  | _ => none
def mm_s7 (E : mE) (k : mK) (pc : Nat) (op : Nat) (l : mL) (st : List mV) (w : mW) : mO := match op with
  | 120 => match st with | .inl y :: .inl x :: r => cond (Nat.ble (mm_wt r) 8) (k (pc + 1) l (.inl (if y < x then y else x) :: r) w) none | _ => none
  | 121 => match st with | .inl x :: r => cond (Nat.ble (mm_wt r) 8) (k (pc + 1) l (.inl (if 0 ≤ x then x else mm_w32 (0 - x)) :: r) w) none | _ => none
  | 122 => match st with | .inr (.inr r) :: s => r.bind fun q => if q < 2 then cond (Nat.ble (mm_wt s) 8) (k (pc + 1) l (.inl ((E.2.2.1 q).length : Int) :: s) w) none else none | _ => none
  | 123 => match st with | .inl i :: .inr (.inr r) :: s => r.bind fun q => if q < 2 ∧ 0 ≤ i ∧ i < (E.2.2.1 q).length then cond (Nat.ble (mm_wt s) 8) (k (pc + 1) l (.inl ((E.2.2.1 q).getD i.toNat 0) :: s) w) none else none | _ => none
  | 124 => match st with | .inl i :: .inr (.inr r) :: s => r.bind fun q => if q = 2 ∧ 0 ≤ i ∧ i < E.2.1 then k (pc + 1) l (.inl (E.1 i) :: s) w else none | _ => none
  | 125 => match st with | .inr (.inr r) :: s => r.bind fun q => if q = 2 then k (pc + 1) l (.inl E.2.1 :: s) w else none | _ => none
  | 130 => match st with | [.inl x] => some (some (.inl x), w) | _ => none
  | 131 => match st with | [.inl x] => if x = 0 ∨ x = 1 then some (some (.inl x), w) else none | _ => none
  | 132 => match st with | [.inr (.inl x)] => some (some (.inr (.inl x)), w) | _ => none
  | 133 => match st with | [.inr (.inr x)] => some (some (.inr (.inr x)), w) | _ => none
  | 134 => match st with | [] => some (none, w) | _ => none
  | _ => none
def mm_kV (o : mO) (k : mW → mO) : mO := o.bind fun r => match r.1 with
  | none => k r.2
  | _ => none
def mm_kI (o : mO) (k : Int → mW → mO) : mO := o.bind fun r => match r.1 with
  | some (.inl x) => k x r.2
  | _ => none
def mm_kJ (o : mO) (k : Int → mW → mO) : mO := o.bind fun r => match r.1 with
  | some (.inr (.inl x)) => k x r.2
  | _ => none
def mm_kR (o : mO) (k : Option Nat → mW → mO) : mO := o.bind fun r => match r.1 with
  | some (.inr (.inr x)) => k x r.2
  | _ => none
/-- a call: the kind of its answer t (0 none, 1 int, 2 long, 3 reference) -/
def mm_s8 (call : mCall) (k : mK) (pc : Nat) (t b : Nat) (as : List mV) (l : mL) (s : List mV) (w : mW) : mO := match t with
  | 0 => mm_kV (call b as w) fun w1 => k (pc + 1) l s w1
  | 1 => mm_kI (call b as w) fun x w1 => k (pc + 1) l (.inl x :: s) w1
  | 2 => mm_kJ (call b as w) fun x w1 => k (pc + 1) l (.inr (.inl x) :: s) w1
  | 3 => mm_kR (call b as w) fun x w1 => k (pc + 1) l (.inr (.inr x) :: s) w1
  | _ => none
def mm_s9 (call : mCall) (k : mK) (pc : Nat) (op b c : Nat) (v : Int) (l : mL) (st : List mV) (w : mW) : mO :=
  if st.length < c then none else
  cond (Nat.ble (mm_wt (st.drop c)) 8) (
  if op < 154 then mm_s8 call k pc (op - 150) b (st.take c).reverse l (st.drop c) w
  else match (st.take c).reverse with
    | .inr (.inr r) :: as => r.bind fun q => if mm_cls w q = v.toNat then mm_s8 call k pc (op - 154) b (.inr (.inr (some q)) :: as) l (st.drop c) w else none
    | _ => none) none
/-- one instruction: pc counts instructions, not bytes -/
def mm_step (E : mE) (call : mCall) (k : mK) (pc : Nat) (i : mI) (l : mL) (st : List mV) (w : mW) : mO :=
  if i.1 < 20 then mm_s1 E k pc i.1 i.2.1 i.2.2.2.2.1 l st w
  else if i.1 < 40 then mm_s2 k pc i.1 l st w
  else if i.1 < 60 then mm_s3 k pc i.1 l st w
  else if i.1 < 80 then mm_s4 k pc i.1 i.2.1 i.2.2.2.2.2.1 l st w
  else if i.1 < 100 then mm_s5 k pc i.1 i.2.1 l st w
  else if i.1 < 120 then mm_s6 E k pc i.1 i.2.2.1 i.2.2.2.1 l st w
  else if i.1 < 150 then mm_s7 E k pc i.1 l st w
  else mm_s9 call k pc i.1 i.2.2.1 i.2.2.2.1 i.2.2.2.2.1 l st w
