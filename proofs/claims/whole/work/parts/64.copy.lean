/-! schools and autumns copied -/
def isC (q : Nat) : Prop := q = 7 ∨ q = 20 ∨ q = 40 ∨ q = 84 ∨ q = 97 ∨ q = 110
def isU (q : Nat) : Prop := q = 33 ∨ q = 54 ∨ q = 123 ∨ q = 129 ∨ q = 135
theorem sc_c {q : Nat} (h : isC q) (s : mS) : mm_cls (mk s) q = 5 := by rcases h with rfl | rfl | rfl | rfl | rfl | rfl <;> exact mk_cls s (k := 0) (t := 0) rfl
theorem su_c {q : Nat} (h : isU q) (s : mS) : mm_cls (mk s) q = 0 := by rcases h with rfl | rfl | rfl | rfl | rfl <;> exact mk_cls s (k := 0) (t := 0) rfl
theorem sc_g0 {q : Nat} (h : isC q) (s : mS) (f : Int → mO) : (mm_gI (mk s) q 5 0).bind f = f (s.1 q 0) := by
  have e : kdOf q 5 0 = some 0 := by rcases h with rfl | rfl | rfl | rfl | rfl | rfl <;> rfl
  rw [mk_gI s e]; rfl
theorem sc_p0 {q : Nat} (h : isC q) (s : mS) (v : Int) (f : mW → mO) : (mm_p (mk s) q 5 0 (.inl v)).bind f = f (mk (uF s q 0 v)) := by
  have e : kdOf q 5 0 = some 0 := by rcases h with rfl | rfl | rfl | rfl | rfl | rfl <;> rfl
  rw [mk_pI s e]; rfl
theorem sc_g1 {q : Nat} (h : isC q) (s : mS) (f : Int → mO) : (mm_gI (mk s) q 5 1).bind f = f (s.1 q 1) := by
  have e : kdOf q 5 1 = some 0 := by rcases h with rfl | rfl | rfl | rfl | rfl | rfl <;> rfl
  rw [mk_gI s e]; rfl
theorem sc_p1 {q : Nat} (h : isC q) (s : mS) (v : Int) (f : mW → mO) : (mm_p (mk s) q 5 1 (.inl v)).bind f = f (mk (uF s q 1 v)) := by
  have e : kdOf q 5 1 = some 0 := by rcases h with rfl | rfl | rfl | rfl | rfl | rfl <;> rfl
  rw [mk_pI s e]; rfl
theorem sc_g2 {q : Nat} (h : isC q) (s : mS) (f : Int → mO) : (mm_gI (mk s) q 5 2).bind f = f (s.1 q 2) := by
  have e : kdOf q 5 2 = some 0 := by rcases h with rfl | rfl | rfl | rfl | rfl | rfl <;> rfl
  rw [mk_gI s e]; rfl
theorem sc_p2 {q : Nat} (h : isC q) (s : mS) (v : Int) (f : mW → mO) : (mm_p (mk s) q 5 2 (.inl v)).bind f = f (mk (uF s q 2 v)) := by
  have e : kdOf q 5 2 = some 0 := by rcases h with rfl | rfl | rfl | rfl | rfl | rfl <;> rfl
  rw [mk_pI s e]; rfl
theorem sc_g3 {q : Nat} (h : isC q) (s : mS) (f : Int → mO) : (mm_gI (mk s) q 5 3).bind f = f (s.1 q 3) := by
  have e : kdOf q 5 3 = some 0 := by rcases h with rfl | rfl | rfl | rfl | rfl | rfl <;> rfl
  rw [mk_gI s e]; rfl
theorem sc_p3 {q : Nat} (h : isC q) (s : mS) (v : Int) (f : mW → mO) : (mm_p (mk s) q 5 3 (.inl v)).bind f = f (mk (uF s q 3 v)) := by
  have e : kdOf q 5 3 = some 0 := by rcases h with rfl | rfl | rfl | rfl | rfl | rfl <;> rfl
  rw [mk_pI s e]; rfl
theorem sc_g6 {q : Nat} (h : isC q) (s : mS) (f : Int → mO) : (mm_gI (mk s) q 5 6).bind f = f (s.1 q 6) := by
  have e : kdOf q 5 6 = some 0 := by rcases h with rfl | rfl | rfl | rfl | rfl | rfl <;> rfl
  rw [mk_gI s e]; rfl
theorem sc_p6 {q : Nat} (h : isC q) (s : mS) (v : Int) (f : mW → mO) : (mm_p (mk s) q 5 6 (.inl v)).bind f = f (mk (uF s q 6 v)) := by
  have e : kdOf q 5 6 = some 0 := by rcases h with rfl | rfl | rfl | rfl | rfl | rfl <;> rfl
  rw [mk_pI s e]; rfl
theorem sc_g10 {q : Nat} (h : isC q) (s : mS) (f : Int → mO) : (mm_gI (mk s) q 5 10).bind f = f (s.1 q 10) := by
  have e : kdOf q 5 10 = some 0 := by rcases h with rfl | rfl | rfl | rfl | rfl | rfl <;> rfl
  rw [mk_gI s e]; rfl
theorem sc_p10 {q : Nat} (h : isC q) (s : mS) (v : Int) (f : mW → mO) : (mm_p (mk s) q 5 10 (.inl v)).bind f = f (mk (uF s q 10 v)) := by
  have e : kdOf q 5 10 = some 0 := by rcases h with rfl | rfl | rfl | rfl | rfl | rfl <;> rfl
  rw [mk_pI s e]; rfl
theorem sc_r4 {q : Nat} (h : isC q) (s : mS) (f : Option Nat → mO) : (mm_gR (mk s) q 5 4).bind f = f (some (q + 1)) := by
  have e : kdOf q 5 4 = some ((q + 1) + 2) := by rcases h with rfl | rfl | rfl | rfl | rfl | rfl <;> rfl
  rw [mk_gR s e]; rfl
theorem sc_r5 {q : Nat} (h : isC q) (s : mS) (f : Option Nat → mO) : (mm_gR (mk s) q 5 5).bind f = f (some (q + 2)) := by
  have e : kdOf q 5 5 = some ((q + 2) + 2) := by rcases h with rfl | rfl | rfl | rfl | rfl | rfl <;> rfl
  rw [mk_gR s e]; rfl
theorem sc_r7 {q : Nat} (h : isC q) (s : mS) (f : Option Nat → mO) : (mm_gR (mk s) q 5 7).bind f = f (some (q + 3)) := by
  have e : kdOf q 5 7 = some ((q + 3) + 2) := by rcases h with rfl | rfl | rfl | rfl | rfl | rfl <;> rfl
  rw [mk_gR s e]; rfl
theorem sc_r8 {q : Nat} (h : isC q) (s : mS) (f : Option Nat → mO) : (mm_gR (mk s) q 5 8).bind f = f (some (q + 4)) := by
  have e : kdOf q 5 8 = some ((q + 4) + 2) := by rcases h with rfl | rfl | rfl | rfl | rfl | rfl <;> rfl
  rw [mk_gR s e]; rfl
theorem sc_r9 {q : Nat} (h : isC q) (s : mS) (f : Option Nat → mO) : (mm_gR (mk s) q 5 9).bind f = f (some (q + 5)) := by
  have e : kdOf q 5 9 = some ((q + 5) + 2) := by rcases h with rfl | rfl | rfl | rfl | rfl | rfl <;> rfl
  rw [mk_gR s e]; rfl
theorem sc_r11 {q : Nat} (h : isC q) (s : mS) (f : Option Nat → mO) : (mm_gR (mk s) q 5 11).bind f = f (some (q + 6)) := by
  have e : kdOf q 5 11 = some ((q + 6) + 2) := by rcases h with rfl | rfl | rfl | rfl | rfl | rfl <;> rfl
  rw [mk_gR s e]; rfl
theorem sc_r12 {q : Nat} (h : isC q) (s : mS) (f : Option Nat → mO) : (mm_gR (mk s) q 5 12).bind f = f (some (q + 7)) := by
  have e : kdOf q 5 12 = some ((q + 7) + 2) := by rcases h with rfl | rfl | rfl | rfl | rfl | rfl <;> rfl
  rw [mk_gR s e]; rfl
theorem sc_r13 {q : Nat} (h : isC q) (s : mS) (f : Option Nat → mO) : (mm_gR (mk s) q 5 13).bind f = f (some (q + 8)) := by
  have e : kdOf q 5 13 = some ((q + 8) + 2) := by rcases h with rfl | rfl | rfl | rfl | rfl | rfl <;> rfl
  rw [mk_gR s e]; rfl
theorem sc_r14 {q : Nat} (h : isC q) (s : mS) (f : Option Nat → mO) : (mm_gR (mk s) q 5 14).bind f = f (some (q + 9)) := by
  have e : kdOf q 5 14 = some ((q + 9) + 2) := by rcases h with rfl | rfl | rfl | rfl | rfl | rfl <;> rfl
  rw [mk_gR s e]; rfl
theorem sc_r15 {q : Nat} (h : isC q) (s : mS) (f : Option Nat → mO) : (mm_gR (mk s) q 5 15).bind f = f (some (q + 10)) := by
  have e : kdOf q 5 15 = some ((q + 10) + 2) := by rcases h with rfl | rfl | rfl | rfl | rfl | rfl <;> rfl
  rw [mk_gR s e]; rfl
theorem sc_r16 {q : Nat} (h : isC q) (s : mS) (f : Option Nat → mO) : (mm_gR (mk s) q 5 16).bind f = f (some (q + 11)) := by
  have e : kdOf q 5 16 = some ((q + 11) + 2) := by rcases h with rfl | rfl | rfl | rfl | rfl | rfl <;> rfl
  rw [mk_gR s e]; rfl
theorem sc_r17 {q : Nat} (h : isC q) (s : mS) (f : Option Nat → mO) : (mm_gR (mk s) q 5 17).bind f = f (some (q + 12)) := by
  have e : kdOf q 5 17 = some ((q + 12) + 2) := by rcases h with rfl | rfl | rfl | rfl | rfl | rfl <;> rfl
  rw [mk_gR s e]; rfl
theorem sc_a1 {q : Nat} (h : isC q) : arOf (q + 1) = some (0, 25) := by rcases h with rfl | rfl | rfl | rfl | rfl | rfl <;> rfl
theorem sc_y1 {q o : Nat} (hq : isC q) (ho : isC o) (Z : mX) (s : mS) (f : mW → mO) : mm_kV (mm_run (zP Z) 203 [.inr (.inr (some ((q + 1)))), .inr (.inr (some ((o + 1))))] (mk s)) f = f (mk (cA s (q + 1) (o + 1) 25)) := k_copy Z s (sc_a1 hq) (sc_a1 ho) (by decide) f
theorem sc_a2 {q : Nat} (h : isC q) : arOf (q + 2) = some (0, 25) := by rcases h with rfl | rfl | rfl | rfl | rfl | rfl <;> rfl
theorem sc_y2 {q o : Nat} (hq : isC q) (ho : isC o) (Z : mX) (s : mS) (f : mW → mO) : mm_kV (mm_run (zP Z) 203 [.inr (.inr (some ((q + 2)))), .inr (.inr (some ((o + 2))))] (mk s)) f = f (mk (cA s (q + 2) (o + 2) 25)) := k_copy Z s (sc_a2 hq) (sc_a2 ho) (by decide) f
theorem sc_a3 {q : Nat} (h : isC q) : arOf (q + 3) = some (0, 7) := by rcases h with rfl | rfl | rfl | rfl | rfl | rfl <;> rfl
theorem sc_y3 {q o : Nat} (hq : isC q) (ho : isC o) (Z : mX) (s : mS) (f : mW → mO) : mm_kV (mm_run (zP Z) 203 [.inr (.inr (some ((q + 3)))), .inr (.inr (some ((o + 3))))] (mk s)) f = f (mk (cA s (q + 3) (o + 3) 7)) := k_copy Z s (sc_a3 hq) (sc_a3 ho) (by decide) f
theorem sc_a4 {q : Nat} (h : isC q) : arOf (q + 4) = some (0, 7) := by rcases h with rfl | rfl | rfl | rfl | rfl | rfl <;> rfl
theorem sc_y4 {q o : Nat} (hq : isC q) (ho : isC o) (Z : mX) (s : mS) (f : mW → mO) : mm_kV (mm_run (zP Z) 203 [.inr (.inr (some ((q + 4)))), .inr (.inr (some ((o + 4))))] (mk s)) f = f (mk (cA s (q + 4) (o + 4) 7)) := k_copy Z s (sc_a4 hq) (sc_a4 ho) (by decide) f
theorem sc_a5 {q : Nat} (h : isC q) : arOf (q + 5) = some (3, 7) := by rcases h with rfl | rfl | rfl | rfl | rfl | rfl <;> rfl
theorem sc_y5 {q o : Nat} (hq : isC q) (ho : isC o) (Z : mX) (s : mS) (f : mW → mO) : mm_kV (mm_run (zP Z) 204 [.inr (.inr (some ((q + 5)))), .inr (.inr (some ((o + 5))))] (mk s)) f = f (mk (cA s (q + 5) (o + 5) 7)) := k_copyJ Z s (sc_a5 hq) (sc_a5 ho) (by decide) f
theorem sc_a6 {q : Nat} (h : isC q) : arOf (q + 6) = some (0, 5) := by rcases h with rfl | rfl | rfl | rfl | rfl | rfl <;> rfl
theorem sc_y6 {q o : Nat} (hq : isC q) (ho : isC o) (Z : mX) (s : mS) (f : mW → mO) : mm_kV (mm_run (zP Z) 203 [.inr (.inr (some ((q + 6)))), .inr (.inr (some ((o + 6))))] (mk s)) f = f (mk (cA s (q + 6) (o + 6) 5)) := k_copy Z s (sc_a6 hq) (sc_a6 ho) (by decide) f
theorem sc_a7 {q : Nat} (h : isC q) : arOf (q + 7) = some (0, 5) := by rcases h with rfl | rfl | rfl | rfl | rfl | rfl <;> rfl
theorem sc_y7 {q o : Nat} (hq : isC q) (ho : isC o) (Z : mX) (s : mS) (f : mW → mO) : mm_kV (mm_run (zP Z) 203 [.inr (.inr (some ((q + 7)))), .inr (.inr (some ((o + 7))))] (mk s)) f = f (mk (cA s (q + 7) (o + 7) 5)) := k_copy Z s (sc_a7 hq) (sc_a7 ho) (by decide) f
theorem sc_a8 {q : Nat} (h : isC q) : arOf (q + 8) = some (0, 5) := by rcases h with rfl | rfl | rfl | rfl | rfl | rfl <;> rfl
theorem sc_y8 {q o : Nat} (hq : isC q) (ho : isC o) (Z : mX) (s : mS) (f : mW → mO) : mm_kV (mm_run (zP Z) 203 [.inr (.inr (some ((q + 8)))), .inr (.inr (some ((o + 8))))] (mk s)) f = f (mk (cA s (q + 8) (o + 8) 5)) := k_copy Z s (sc_a8 hq) (sc_a8 ho) (by decide) f
theorem sc_a9 {q : Nat} (h : isC q) : arOf (q + 9) = some (0, 5) := by rcases h with rfl | rfl | rfl | rfl | rfl | rfl <;> rfl
theorem sc_y9 {q o : Nat} (hq : isC q) (ho : isC o) (Z : mX) (s : mS) (f : mW → mO) : mm_kV (mm_run (zP Z) 203 [.inr (.inr (some ((q + 9)))), .inr (.inr (some ((o + 9))))] (mk s)) f = f (mk (cA s (q + 9) (o + 9) 5)) := k_copy Z s (sc_a9 hq) (sc_a9 ho) (by decide) f
theorem sc_a10 {q : Nat} (h : isC q) : arOf (q + 10) = some (0, 5) := by rcases h with rfl | rfl | rfl | rfl | rfl | rfl <;> rfl
theorem sc_y10 {q o : Nat} (hq : isC q) (ho : isC o) (Z : mX) (s : mS) (f : mW → mO) : mm_kV (mm_run (zP Z) 203 [.inr (.inr (some ((q + 10)))), .inr (.inr (some ((o + 10))))] (mk s)) f = f (mk (cA s (q + 10) (o + 10) 5)) := k_copy Z s (sc_a10 hq) (sc_a10 ho) (by decide) f
theorem sc_a11 {q : Nat} (h : isC q) : arOf (q + 11) = some (0, 5) := by rcases h with rfl | rfl | rfl | rfl | rfl | rfl <;> rfl
theorem sc_y11 {q o : Nat} (hq : isC q) (ho : isC o) (Z : mX) (s : mS) (f : mW → mO) : mm_kV (mm_run (zP Z) 203 [.inr (.inr (some ((q + 11)))), .inr (.inr (some ((o + 11))))] (mk s)) f = f (mk (cA s (q + 11) (o + 11) 5)) := k_copy Z s (sc_a11 hq) (sc_a11 ho) (by decide) f
theorem sc_a12 {q : Nat} (h : isC q) : arOf (q + 12) = some (3, 5) := by rcases h with rfl | rfl | rfl | rfl | rfl | rfl <;> rfl
theorem sc_y12 {q o : Nat} (hq : isC q) (ho : isC o) (Z : mX) (s : mS) (f : mW → mO) : mm_kV (mm_run (zP Z) 204 [.inr (.inr (some ((q + 12)))), .inr (.inr (some ((o + 12))))] (mk s)) f = f (mk (cA s (q + 12) (o + 12) 5)) := k_copyJ Z s (sc_a12 hq) (sc_a12 ho) (by decide) f
theorem su_g0 {q : Nat} (h : isU q) (s : mS) (f : Int → mO) : (mm_gI (mk s) q 0 0).bind f = f (s.1 q 0) := by
  have e : kdOf q 0 0 = some 0 := by rcases h with rfl | rfl | rfl | rfl | rfl <;> rfl
  rw [mk_gI s e]; rfl
theorem su_p0 {q : Nat} (h : isU q) (s : mS) (v : Int) (f : mW → mO) : (mm_p (mk s) q 0 0 (.inl v)).bind f = f (mk (uF s q 0 v)) := by
  have e : kdOf q 0 0 = some 0 := by rcases h with rfl | rfl | rfl | rfl | rfl <;> rfl
  rw [mk_pI s e]; rfl
theorem su_g1 {q : Nat} (h : isU q) (s : mS) (f : Int → mO) : (mm_gI (mk s) q 0 1).bind f = f (s.1 q 1) := by
  have e : kdOf q 0 1 = some 0 := by rcases h with rfl | rfl | rfl | rfl | rfl <;> rfl
  rw [mk_gI s e]; rfl
theorem su_p1 {q : Nat} (h : isU q) (s : mS) (v : Int) (f : mW → mO) : (mm_p (mk s) q 0 1 (.inl v)).bind f = f (mk (uF s q 1 v)) := by
  have e : kdOf q 0 1 = some 0 := by rcases h with rfl | rfl | rfl | rfl | rfl <;> rfl
  rw [mk_pI s e]; rfl
theorem su_g2 {q : Nat} (h : isU q) (s : mS) (f : Int → mO) : (mm_gI (mk s) q 0 2).bind f = f (s.1 q 2) := by
  have e : kdOf q 0 2 = some 0 := by rcases h with rfl | rfl | rfl | rfl | rfl <;> rfl
  rw [mk_gI s e]; rfl
theorem su_p2 {q : Nat} (h : isU q) (s : mS) (v : Int) (f : mW → mO) : (mm_p (mk s) q 0 2 (.inl v)).bind f = f (mk (uF s q 2 v)) := by
  have e : kdOf q 0 2 = some 0 := by rcases h with rfl | rfl | rfl | rfl | rfl <;> rfl
  rw [mk_pI s e]; rfl
theorem su_r3 {q : Nat} (h : isU q) (s : mS) (f : Option Nat → mO) : (mm_gR (mk s) q 0 3).bind f = f (some (q + 1)) := by
  have e : kdOf q 0 3 = some ((q + 1) + 2) := by rcases h with rfl | rfl | rfl | rfl | rfl <;> rfl
  rw [mk_gR s e]; rfl
theorem su_a1 {q : Nat} (h : isU q) : arOf (q + 1) = some (0, 60) := by rcases h with rfl | rfl | rfl | rfl | rfl <;> rfl
theorem su_y1 {q o : Nat} (hq : isU q) (ho : isU o) (Z : mX) (s : mS) (f : mW → mO) : mm_kV (mm_run (zP Z) 203 [.inr (.inr (some ((q + 1)))), .inr (.inr (some ((o + 1))))] (mk s)) f = f (mk (cA s (q + 1) (o + 1) 60)) := k_copy Z s (su_a1 hq) (su_a1 ho) (by decide) f
theorem su_r4 {q : Nat} (h : isU q) (s : mS) (f : Option Nat → mO) : (mm_gR (mk s) q 0 4).bind f = f (some (q + 2)) := by
  have e : kdOf q 0 4 = some ((q + 2) + 2) := by rcases h with rfl | rfl | rfl | rfl | rfl <;> rfl
  rw [mk_gR s e]; rfl
theorem su_a2 {q : Nat} (h : isU q) : arOf (q + 2) = some (0, 60) := by rcases h with rfl | rfl | rfl | rfl | rfl <;> rfl
theorem su_y2 {q o : Nat} (hq : isU q) (ho : isU o) (Z : mX) (s : mS) (f : mW → mO) : mm_kV (mm_run (zP Z) 203 [.inr (.inr (some ((q + 2)))), .inr (.inr (some ((o + 2))))] (mk s)) f = f (mk (cA s (q + 2) (o + 2) 60)) := k_copy Z s (su_a2 hq) (su_a2 ho) (by decide) f
theorem su_r5 {q : Nat} (h : isU q) (s : mS) (f : Option Nat → mO) : (mm_gR (mk s) q 0 5).bind f = f (some (q + 3)) := by
  have e : kdOf q 0 5 = some ((q + 3) + 2) := by rcases h with rfl | rfl | rfl | rfl | rfl <;> rfl
  rw [mk_gR s e]; rfl
theorem su_a3 {q : Nat} (h : isU q) : arOf (q + 3) = some (0, 60) := by rcases h with rfl | rfl | rfl | rfl | rfl <;> rfl
theorem su_y3 {q o : Nat} (hq : isU q) (ho : isU o) (Z : mX) (s : mS) (f : mW → mO) : mm_kV (mm_run (zP Z) 203 [.inr (.inr (some ((q + 3)))), .inr (.inr (some ((o + 3))))] (mk s)) f = f (mk (cA s (q + 3) (o + 3) 60)) := k_copy Z s (su_a3 hq) (su_a3 ho) (by decide) f
theorem su_r6 {q : Nat} (h : isU q) (s : mS) (f : Option Nat → mO) : (mm_gR (mk s) q 0 6).bind f = f (some (q + 4)) := by
  have e : kdOf q 0 6 = some ((q + 4) + 2) := by rcases h with rfl | rfl | rfl | rfl | rfl <;> rfl
  rw [mk_gR s e]; rfl
theorem su_a4 {q : Nat} (h : isU q) : arOf (q + 4) = some (0, 60) := by rcases h with rfl | rfl | rfl | rfl | rfl <;> rfl
theorem su_y4 {q o : Nat} (hq : isU q) (ho : isU o) (Z : mX) (s : mS) (f : mW → mO) : mm_kV (mm_run (zP Z) 203 [.inr (.inr (some ((q + 4)))), .inr (.inr (some ((o + 4))))] (mk s)) f = f (mk (cA s (q + 4) (o + 4) 60)) := k_copy Z s (su_a4 hq) (su_a4 ho) (by decide) f
theorem su_r7 {q : Nat} (h : isU q) (s : mS) (f : Option Nat → mO) : (mm_gR (mk s) q 0 7).bind f = f (some (q + 5)) := by
  have e : kdOf q 0 7 = some ((q + 5) + 2) := by rcases h with rfl | rfl | rfl | rfl | rfl <;> rfl
  rw [mk_gR s e]; rfl
theorem su_a5 {q : Nat} (h : isU q) : arOf (q + 5) = some (0, 60) := by rcases h with rfl | rfl | rfl | rfl | rfl <;> rfl
theorem su_y5 {q o : Nat} (hq : isU q) (ho : isU o) (Z : mX) (s : mS) (f : mW → mO) : mm_kV (mm_run (zP Z) 203 [.inr (.inr (some ((q + 5)))), .inr (.inr (some ((o + 5))))] (mk s)) f = f (mk (cA s (q + 5) (o + 5) 60)) := k_copy Z s (su_a5 hq) (su_a5 ho) (by decide) f
def cpS (s : mS) (o q : Nat) : mS := cA (cA (cA (cA (cA (cA (cA (cA (cA (cA (cA (cA (uF (uF (uF (uF (uF (uF (s) o 0 (s.1 q 0)) o 1 (s.1 q 1)) o 2 (s.1 q 2)) o 3 (s.1 q 3)) o 6 (s.1 q 6)) o 10 (s.1 q 10)) (q + 1) (o + 1) 25) (q + 2) (o + 2) 25) (q + 3) (o + 3) 7) (q + 4) (o + 4) 7) (q + 5) (o + 5) 7) (q + 6) (o + 6) 5) (q + 7) (o + 7) 5) (q + 8) (o + 8) 5) (q + 9) (o + 9) 5) (q + 10) (o + 10) 5) (q + 11) (o + 11) 5) (q + 12) (o + 12) 5
def cpU (s : mS) (o q : Nat) : mS := cA (cA (cA (cA (cA (uF (uF (uF (s) o 0 (s.1 q 0)) o 1 (s.1 q 1)) o 2 (s.1 q 2)) (q + 1) (o + 1) 60) (q + 2) (o + 2) 60) (q + 3) (o + 3) 60) (q + 4) (o + 4) 60) (q + 5) (o + 5) 60
theorem c_copyS (Z : mX) (s : mS) {o q : Nat} (ho : isC o) (hq : isC q) (hn : q ≠ o) (f : mW → mO) : mm_kV (mm_run (zP Z) 47 [.inr (.inr (some o)), .inr (.inr (some q))] (mk s)) f = f (mk (cpS s o q)) := by
  rw [B_X5_copyFrom]
  unfold cpS
  simp (disch := first | assumption | omega) only [↓sm, ↓reduceIte, ↓if_pos, ↓if_neg, kI, kJ, kR, kV, w32_eq, w64_eq, reduceCtorEq, Int.reduceAdd, Int.reduceMul, Int.reduceSub, reduceCtorEq, ↓sc_g0 hq, ↓sc_g0 ho, ↓sc_p0 ho, ↓sc_g1 hq, ↓sc_g1 ho, ↓sc_p1 ho, ↓sc_g2 hq, ↓sc_g2 ho, ↓sc_p2 ho, ↓sc_g3 hq, ↓sc_g3 ho, ↓sc_p3 ho, ↓sc_g6 hq, ↓sc_g6 ho, ↓sc_p6 ho, ↓sc_g10 hq, ↓sc_g10 ho, ↓sc_p10 ho, ↓sc_r4 hq, ↓sc_r4 ho, ↓sc_r5 hq, ↓sc_r5 ho, ↓sc_r7 hq, ↓sc_r7 ho, ↓sc_r8 hq, ↓sc_r8 ho, ↓sc_r9 hq, ↓sc_r9 ho, ↓sc_r11 hq, ↓sc_r11 ho, ↓sc_r12 hq, ↓sc_r12 ho, ↓sc_r13 hq, ↓sc_r13 ho, ↓sc_r14 hq, ↓sc_r14 ho, ↓sc_r15 hq, ↓sc_r15 ho, ↓sc_r16 hq, ↓sc_r16 ho, ↓sc_r17 hq, ↓sc_r17 ho, ↓sc_y1 hq ho Z, ↓sc_y2 hq ho Z, ↓sc_y3 hq ho Z, ↓sc_y4 hq ho Z, ↓sc_y5 hq ho Z, ↓sc_y6 hq ho Z, ↓sc_y7 hq ho Z, ↓sc_y8 hq ho Z, ↓sc_y9 hq ho Z, ↓sc_y10 hq ho Z, ↓sc_y11 hq ho Z, ↓sc_y12 hq ho Z]
  simp [uF_1, hn]
theorem c_copyU (Z : mX) (s : mS) {o q : Nat} (ho : isU o) (hq : isU q) (hn : q ≠ o) (hb : s.1 q 0 = 0 ∨ s.1 q 0 = 1) (f : mW → mO) : mm_kV (mm_run (zP Z) 2 [.inr (.inr (some o)), .inr (.inr (some q))] (mk s)) f = f (mk (cpU s o q)) := by
  rw [B_X0_copyFrom]
  unfold cpU
  simp (disch := first | assumption | omega) only [↓sm, ↓reduceIte, ↓if_pos, ↓if_neg, kI, kJ, kR, kV, w32_eq, w64_eq, reduceCtorEq, Int.reduceAdd, Int.reduceMul, Int.reduceSub, reduceCtorEq, hb, ↓su_g0 hq, ↓su_g0 ho, ↓su_p0 ho, ↓su_g1 hq, ↓su_g1 ho, ↓su_p1 ho, ↓su_g2 hq, ↓su_g2 ho, ↓su_p2 ho, ↓su_r3 hq, ↓su_r3 ho, ↓su_r4 hq, ↓su_r4 ho, ↓su_r5 hq, ↓su_r5 ho, ↓su_r6 hq, ↓su_r6 ho, ↓su_r7 hq, ↓su_r7 ho, ↓su_y1 hq ho Z, ↓su_y2 hq ho Z, ↓su_y3 hq ho Z, ↓su_y4 hq ho Z, ↓su_y5 hq ho Z]
  simp [uF_1, hn]
theorem cA_1 (s : mS) (a b : Nat) (n : Int) : (cA s a b n).1 = s.1 := rfl
theorem cA_hit (s : mS) (a b : Nat) (n i : Int) (h0 : 0 ≤ i) (h1 : i < n) : (cA s a b n).2 b i = s.2 a i := by
  show (if b = b ∧ 0 ≤ i ∧ i < n then s.2 a i else s.2 b i) = _
  rw [if_pos ⟨rfl, h0, h1⟩]
theorem cA_miss (s : mS) (a b r : Nat) (n : Int) (h : r ≠ b) : (cA s a b n).2 r = s.2 r := by
  funext j
  show (if r = b ∧ 0 ≤ j ∧ j < n then s.2 a j else s.2 r j) = _
  rw [if_neg (fun x => h x.1)]
theorem cpS_f (s : mS) (o q : Nat) (hn : q ≠ o) : (cpS s o q).1 o 0 = s.1 q 0 ∧ (cpS s o q).1 o 1 = s.1 q 1 ∧ (cpS s o q).1 o 2 = s.1 q 2 ∧ (cpS s o q).1 o 3 = s.1 q 3 ∧ (cpS s o q).1 o 6 = s.1 q 6 ∧ (cpS s o q).1 o 10 = s.1 q 10 := by
  unfold cpS
  simp [cA_1, uF_1]
theorem cpU_f (s : mS) (o q : Nat) (hn : q ≠ o) : (cpU s o q).1 o 0 = s.1 q 0 ∧ (cpU s o q).1 o 1 = s.1 q 1 ∧ (cpU s o q).1 o 2 = s.1 q 2 := by
  unfold cpU
  simp [cA_1, uF_1]
theorem isC_far {q o : Nat} (h1 : isC q) (h2 : isC o) (hn : q ≠ o) : q + 12 < o ∨ o + 12 < q := by
  unfold isC at *
  omega
theorem isU_far {q o : Nat} (h1 : isU q) (h2 : isU o) (hn : q ≠ o) : q + 5 < o ∨ o + 5 < q := by
  unfold isU at *
  omega
theorem cpS_1 (s : mS) (o q : Nat) (h : q + 12 < o ∨ o + 12 < q) (i : Int) (h0 : 0 ≤ i) (h1 : i < 25) : (cpS s o q).2 (o + 1) i = s.2 (q + 1) i := by
  unfold cpS
  rw [cA_miss _ _ (o + 12) _ _ (by omega), cA_miss _ _ (o + 11) _ _ (by omega), cA_miss _ _ (o + 10) _ _ (by omega), cA_miss _ _ (o + 9) _ _ (by omega), cA_miss _ _ (o + 8) _ _ (by omega), cA_miss _ _ (o + 7) _ _ (by omega), cA_miss _ _ (o + 6) _ _ (by omega), cA_miss _ _ (o + 5) _ _ (by omega), cA_miss _ _ (o + 4) _ _ (by omega), cA_miss _ _ (o + 3) _ _ (by omega), cA_miss _ _ (o + 2) _ _ (by omega), cA_hit _ _ _ _ _ h0 h1]
  rfl
theorem cpS_2 (s : mS) (o q : Nat) (h : q + 12 < o ∨ o + 12 < q) (i : Int) (h0 : 0 ≤ i) (h1 : i < 25) : (cpS s o q).2 (o + 2) i = s.2 (q + 2) i := by
  unfold cpS
  rw [cA_miss _ _ (o + 12) _ _ (by omega), cA_miss _ _ (o + 11) _ _ (by omega), cA_miss _ _ (o + 10) _ _ (by omega), cA_miss _ _ (o + 9) _ _ (by omega), cA_miss _ _ (o + 8) _ _ (by omega), cA_miss _ _ (o + 7) _ _ (by omega), cA_miss _ _ (o + 6) _ _ (by omega), cA_miss _ _ (o + 5) _ _ (by omega), cA_miss _ _ (o + 4) _ _ (by omega), cA_miss _ _ (o + 3) _ _ (by omega), cA_hit _ _ _ _ _ h0 h1, cA_miss _ _ (o + 1) _ _ (by omega)]
  rfl
theorem cpS_3 (s : mS) (o q : Nat) (h : q + 12 < o ∨ o + 12 < q) (i : Int) (h0 : 0 ≤ i) (h1 : i < 7) : (cpS s o q).2 (o + 3) i = s.2 (q + 3) i := by
  unfold cpS
  rw [cA_miss _ _ (o + 12) _ _ (by omega), cA_miss _ _ (o + 11) _ _ (by omega), cA_miss _ _ (o + 10) _ _ (by omega), cA_miss _ _ (o + 9) _ _ (by omega), cA_miss _ _ (o + 8) _ _ (by omega), cA_miss _ _ (o + 7) _ _ (by omega), cA_miss _ _ (o + 6) _ _ (by omega), cA_miss _ _ (o + 5) _ _ (by omega), cA_miss _ _ (o + 4) _ _ (by omega), cA_hit _ _ _ _ _ h0 h1, cA_miss _ _ (o + 2) _ _ (by omega), cA_miss _ _ (o + 1) _ _ (by omega)]
  rfl
theorem cpS_4 (s : mS) (o q : Nat) (h : q + 12 < o ∨ o + 12 < q) (i : Int) (h0 : 0 ≤ i) (h1 : i < 7) : (cpS s o q).2 (o + 4) i = s.2 (q + 4) i := by
  unfold cpS
  rw [cA_miss _ _ (o + 12) _ _ (by omega), cA_miss _ _ (o + 11) _ _ (by omega), cA_miss _ _ (o + 10) _ _ (by omega), cA_miss _ _ (o + 9) _ _ (by omega), cA_miss _ _ (o + 8) _ _ (by omega), cA_miss _ _ (o + 7) _ _ (by omega), cA_miss _ _ (o + 6) _ _ (by omega), cA_miss _ _ (o + 5) _ _ (by omega), cA_hit _ _ _ _ _ h0 h1, cA_miss _ _ (o + 3) _ _ (by omega), cA_miss _ _ (o + 2) _ _ (by omega), cA_miss _ _ (o + 1) _ _ (by omega)]
  rfl
theorem cpS_5 (s : mS) (o q : Nat) (h : q + 12 < o ∨ o + 12 < q) (i : Int) (h0 : 0 ≤ i) (h1 : i < 7) : (cpS s o q).2 (o + 5) i = s.2 (q + 5) i := by
  unfold cpS
  rw [cA_miss _ _ (o + 12) _ _ (by omega), cA_miss _ _ (o + 11) _ _ (by omega), cA_miss _ _ (o + 10) _ _ (by omega), cA_miss _ _ (o + 9) _ _ (by omega), cA_miss _ _ (o + 8) _ _ (by omega), cA_miss _ _ (o + 7) _ _ (by omega), cA_miss _ _ (o + 6) _ _ (by omega), cA_hit _ _ _ _ _ h0 h1, cA_miss _ _ (o + 4) _ _ (by omega), cA_miss _ _ (o + 3) _ _ (by omega), cA_miss _ _ (o + 2) _ _ (by omega), cA_miss _ _ (o + 1) _ _ (by omega)]
  rfl
theorem cpS_6 (s : mS) (o q : Nat) (h : q + 12 < o ∨ o + 12 < q) (i : Int) (h0 : 0 ≤ i) (h1 : i < 5) : (cpS s o q).2 (o + 6) i = s.2 (q + 6) i := by
  unfold cpS
  rw [cA_miss _ _ (o + 12) _ _ (by omega), cA_miss _ _ (o + 11) _ _ (by omega), cA_miss _ _ (o + 10) _ _ (by omega), cA_miss _ _ (o + 9) _ _ (by omega), cA_miss _ _ (o + 8) _ _ (by omega), cA_miss _ _ (o + 7) _ _ (by omega), cA_hit _ _ _ _ _ h0 h1, cA_miss _ _ (o + 5) _ _ (by omega), cA_miss _ _ (o + 4) _ _ (by omega), cA_miss _ _ (o + 3) _ _ (by omega), cA_miss _ _ (o + 2) _ _ (by omega), cA_miss _ _ (o + 1) _ _ (by omega)]
  rfl
theorem cpS_7 (s : mS) (o q : Nat) (h : q + 12 < o ∨ o + 12 < q) (i : Int) (h0 : 0 ≤ i) (h1 : i < 5) : (cpS s o q).2 (o + 7) i = s.2 (q + 7) i := by
  unfold cpS
  rw [cA_miss _ _ (o + 12) _ _ (by omega), cA_miss _ _ (o + 11) _ _ (by omega), cA_miss _ _ (o + 10) _ _ (by omega), cA_miss _ _ (o + 9) _ _ (by omega), cA_miss _ _ (o + 8) _ _ (by omega), cA_hit _ _ _ _ _ h0 h1, cA_miss _ _ (o + 6) _ _ (by omega), cA_miss _ _ (o + 5) _ _ (by omega), cA_miss _ _ (o + 4) _ _ (by omega), cA_miss _ _ (o + 3) _ _ (by omega), cA_miss _ _ (o + 2) _ _ (by omega), cA_miss _ _ (o + 1) _ _ (by omega)]
  rfl
theorem cpS_8 (s : mS) (o q : Nat) (h : q + 12 < o ∨ o + 12 < q) (i : Int) (h0 : 0 ≤ i) (h1 : i < 5) : (cpS s o q).2 (o + 8) i = s.2 (q + 8) i := by
  unfold cpS
  rw [cA_miss _ _ (o + 12) _ _ (by omega), cA_miss _ _ (o + 11) _ _ (by omega), cA_miss _ _ (o + 10) _ _ (by omega), cA_miss _ _ (o + 9) _ _ (by omega), cA_hit _ _ _ _ _ h0 h1, cA_miss _ _ (o + 7) _ _ (by omega), cA_miss _ _ (o + 6) _ _ (by omega), cA_miss _ _ (o + 5) _ _ (by omega), cA_miss _ _ (o + 4) _ _ (by omega), cA_miss _ _ (o + 3) _ _ (by omega), cA_miss _ _ (o + 2) _ _ (by omega), cA_miss _ _ (o + 1) _ _ (by omega)]
  rfl
theorem cpS_9 (s : mS) (o q : Nat) (h : q + 12 < o ∨ o + 12 < q) (i : Int) (h0 : 0 ≤ i) (h1 : i < 5) : (cpS s o q).2 (o + 9) i = s.2 (q + 9) i := by
  unfold cpS
  rw [cA_miss _ _ (o + 12) _ _ (by omega), cA_miss _ _ (o + 11) _ _ (by omega), cA_miss _ _ (o + 10) _ _ (by omega), cA_hit _ _ _ _ _ h0 h1, cA_miss _ _ (o + 8) _ _ (by omega), cA_miss _ _ (o + 7) _ _ (by omega), cA_miss _ _ (o + 6) _ _ (by omega), cA_miss _ _ (o + 5) _ _ (by omega), cA_miss _ _ (o + 4) _ _ (by omega), cA_miss _ _ (o + 3) _ _ (by omega), cA_miss _ _ (o + 2) _ _ (by omega), cA_miss _ _ (o + 1) _ _ (by omega)]
  rfl
theorem cpS_10 (s : mS) (o q : Nat) (h : q + 12 < o ∨ o + 12 < q) (i : Int) (h0 : 0 ≤ i) (h1 : i < 5) : (cpS s o q).2 (o + 10) i = s.2 (q + 10) i := by
  unfold cpS
  rw [cA_miss _ _ (o + 12) _ _ (by omega), cA_miss _ _ (o + 11) _ _ (by omega), cA_hit _ _ _ _ _ h0 h1, cA_miss _ _ (o + 9) _ _ (by omega), cA_miss _ _ (o + 8) _ _ (by omega), cA_miss _ _ (o + 7) _ _ (by omega), cA_miss _ _ (o + 6) _ _ (by omega), cA_miss _ _ (o + 5) _ _ (by omega), cA_miss _ _ (o + 4) _ _ (by omega), cA_miss _ _ (o + 3) _ _ (by omega), cA_miss _ _ (o + 2) _ _ (by omega), cA_miss _ _ (o + 1) _ _ (by omega)]
  rfl
theorem cpS_11 (s : mS) (o q : Nat) (h : q + 12 < o ∨ o + 12 < q) (i : Int) (h0 : 0 ≤ i) (h1 : i < 5) : (cpS s o q).2 (o + 11) i = s.2 (q + 11) i := by
  unfold cpS
  rw [cA_miss _ _ (o + 12) _ _ (by omega), cA_hit _ _ _ _ _ h0 h1, cA_miss _ _ (o + 10) _ _ (by omega), cA_miss _ _ (o + 9) _ _ (by omega), cA_miss _ _ (o + 8) _ _ (by omega), cA_miss _ _ (o + 7) _ _ (by omega), cA_miss _ _ (o + 6) _ _ (by omega), cA_miss _ _ (o + 5) _ _ (by omega), cA_miss _ _ (o + 4) _ _ (by omega), cA_miss _ _ (o + 3) _ _ (by omega), cA_miss _ _ (o + 2) _ _ (by omega), cA_miss _ _ (o + 1) _ _ (by omega)]
  rfl
theorem cpS_12 (s : mS) (o q : Nat) (h : q + 12 < o ∨ o + 12 < q) (i : Int) (h0 : 0 ≤ i) (h1 : i < 5) : (cpS s o q).2 (o + 12) i = s.2 (q + 12) i := by
  unfold cpS
  rw [cA_hit _ _ _ _ _ h0 h1, cA_miss _ _ (o + 11) _ _ (by omega), cA_miss _ _ (o + 10) _ _ (by omega), cA_miss _ _ (o + 9) _ _ (by omega), cA_miss _ _ (o + 8) _ _ (by omega), cA_miss _ _ (o + 7) _ _ (by omega), cA_miss _ _ (o + 6) _ _ (by omega), cA_miss _ _ (o + 5) _ _ (by omega), cA_miss _ _ (o + 4) _ _ (by omega), cA_miss _ _ (o + 3) _ _ (by omega), cA_miss _ _ (o + 2) _ _ (by omega), cA_miss _ _ (o + 1) _ _ (by omega)]
  rfl
theorem cpU_1 (s : mS) (o q : Nat) (h : q + 5 < o ∨ o + 5 < q) (i : Int) (h0 : 0 ≤ i) (h1 : i < 60) : (cpU s o q).2 (o + 1) i = s.2 (q + 1) i := by
  unfold cpU
  rw [cA_miss _ _ (o + 5) _ _ (by omega), cA_miss _ _ (o + 4) _ _ (by omega), cA_miss _ _ (o + 3) _ _ (by omega), cA_miss _ _ (o + 2) _ _ (by omega), cA_hit _ _ _ _ _ h0 h1]
  rfl
theorem cpU_2 (s : mS) (o q : Nat) (h : q + 5 < o ∨ o + 5 < q) (i : Int) (h0 : 0 ≤ i) (h1 : i < 60) : (cpU s o q).2 (o + 2) i = s.2 (q + 2) i := by
  unfold cpU
  rw [cA_miss _ _ (o + 5) _ _ (by omega), cA_miss _ _ (o + 4) _ _ (by omega), cA_miss _ _ (o + 3) _ _ (by omega), cA_hit _ _ _ _ _ h0 h1, cA_miss _ _ (o + 1) _ _ (by omega)]
  rfl
theorem cpU_3 (s : mS) (o q : Nat) (h : q + 5 < o ∨ o + 5 < q) (i : Int) (h0 : 0 ≤ i) (h1 : i < 60) : (cpU s o q).2 (o + 3) i = s.2 (q + 3) i := by
  unfold cpU
  rw [cA_miss _ _ (o + 5) _ _ (by omega), cA_miss _ _ (o + 4) _ _ (by omega), cA_hit _ _ _ _ _ h0 h1, cA_miss _ _ (o + 2) _ _ (by omega), cA_miss _ _ (o + 1) _ _ (by omega)]
  rfl
theorem cpU_4 (s : mS) (o q : Nat) (h : q + 5 < o ∨ o + 5 < q) (i : Int) (h0 : 0 ≤ i) (h1 : i < 60) : (cpU s o q).2 (o + 4) i = s.2 (q + 4) i := by
  unfold cpU
  rw [cA_miss _ _ (o + 5) _ _ (by omega), cA_hit _ _ _ _ _ h0 h1, cA_miss _ _ (o + 3) _ _ (by omega), cA_miss _ _ (o + 2) _ _ (by omega), cA_miss _ _ (o + 1) _ _ (by omega)]
  rfl
theorem cpU_5 (s : mS) (o q : Nat) (h : q + 5 < o ∨ o + 5 < q) (i : Int) (h0 : 0 ≤ i) (h1 : i < 60) : (cpU s o q).2 (o + 5) i = s.2 (q + 5) i := by
  unfold cpU
  rw [cA_hit _ _ _ _ _ h0 h1, cA_miss _ _ (o + 4) _ _ (by omega), cA_miss _ _ (o + 3) _ _ (by omega), cA_miss _ _ (o + 2) _ _ (by omega), cA_miss _ _ (o + 1) _ _ (by omega)]
  rfl
theorem cpS_Ag {A : Nat → Prop} {F : Nat → Nat → Prop} {u s : mS} (h : Ag A F u s) (o q : Nat) (hA : ∀ r, o < r → r ≤ o + 12 → A r) (hF : ∀ r k, r = o → F r k) : Ag A F u (cpS s o q) :=
  Ag_cA (Ag_cA (Ag_cA (Ag_cA (Ag_cA (Ag_cA (Ag_cA (Ag_cA (Ag_cA (Ag_cA (Ag_cA (Ag_cA (Ag_uF (Ag_uF (Ag_uF (Ag_uF (Ag_uF (Ag_uF (h) (hF _ _ rfl) _) (hF _ _ rfl) _) (hF _ _ rfl) _) (hF _ _ rfl) _) (hF _ _ rfl) _) (hF _ _ rfl) _) (hA _ (by omega) (by omega)) _ _) (hA _ (by omega) (by omega)) _ _) (hA _ (by omega) (by omega)) _ _) (hA _ (by omega) (by omega)) _ _) (hA _ (by omega) (by omega)) _ _) (hA _ (by omega) (by omega)) _ _) (hA _ (by omega) (by omega)) _ _) (hA _ (by omega) (by omega)) _ _) (hA _ (by omega) (by omega)) _ _) (hA _ (by omega) (by omega)) _ _) (hA _ (by omega) (by omega)) _ _) (hA _ (by omega) (by omega)) _ _
theorem cpU_Ag {A : Nat → Prop} {F : Nat → Nat → Prop} {u s : mS} (h : Ag A F u s) (o q : Nat) (hA : ∀ r, o < r → r ≤ o + 5 → A r) (hF : ∀ r k, r = o → F r k) : Ag A F u (cpU s o q) :=
  Ag_cA (Ag_cA (Ag_cA (Ag_cA (Ag_cA (Ag_uF (Ag_uF (Ag_uF (h) (hF _ _ rfl) _) (hF _ _ rfl) _) (hF _ _ rfl) _) (hA _ (by omega) (by omega)) _ _) (hA _ (by omega) (by omega)) _ _) (hA _ (by omega) (by omega)) _ _) (hA _ (by omega) (by omega)) _ _) (hA _ (by omega) (by omega)) _ _
theorem WF_ext {S S' : Int → Int} (h : WF S) (e : ∀ j, 0 ≤ j → j < 104 → S' j = S j) : WF S' := by
  have en : ncl S' = ncl S := by unfold ncl; rw [e 0 (by omega) (by omega), e 1 (by omega) (by omega)]
  have w := wf0 h
  unfold WF at *
  rw [en, e 0 (by omega) (by omega), e 1 (by omega) (by omega), e 2 (by omega) (by omega), e 3 (by omega) (by omega), e 4 (by omega) (by omega), e 5 (by omega) (by omega)]
  refine ⟨h.1, fun c c0 c1 => ?_, fun k k0 k1 => ?_, fun p p0 p1 => ?_⟩
  · rw [e _ (by omega) (by omega), e _ (by omega) (by omega)]
    exact h.2.1 c c0 c1
  · rw [e _ (by omega) (by omega), e _ (by omega) (by omega)]
    exact h.2.2.1 k k0 k1
  · rw [e _ (by omega) (by omega), e _ (by omega) (by omega), e _ (by omega) (by omega), e _ (by omega) (by omega), e _ (by omega) (by omega), e _ (by omega) (by omega)]
    exact h.2.2.2 p p0 p1
theorem CS_ext {s : mS} {o : Nat} {S S' N N' : Int → Int} (hw : WF S) (h : CS s o S N) (e : ∀ j, 0 ≤ j → j < 104 → S' j = S j) (eN : ∀ j, 0 ≤ j → j < 12 → N' j = N j) : CS s o S' N' := by
  have w := wf0 hw
  unfold CS at *
  rw [e 0 (by omega) (by omega), e 1 (by omega) (by omega), e 2 (by omega) (by omega), e 3 (by omega) (by omega), e 4 (by omega) (by omega), e 5 (by omega) (by omega)]
  refine ⟨h.1, fun c c0 c1 => ?_, fun k k0 k1 => ?_, fun p p0 p1 => ?_, h.2.2.2.2⟩
  · rw [e _ (by omega) (by omega), e _ (by omega) (by omega)]
    exact h.2.1 c c0 c1
  · rw [e _ (by omega) (by omega), e _ (by omega) (by omega), eN _ (by omega) (by omega)]
    exact h.2.2.1 k k0 k1
  · rw [e _ (by omega) (by omega), e _ (by omega) (by omega), e _ (by omega) (by omega), e _ (by omega) (by omega), e _ (by omega) (by omega), e _ (by omega) (by omega), eN _ (by omega) (by omega)]
    exact h.2.2.2.1 p p0 p1
theorem ncl_ext {S S' : Int → Int} (e : ∀ j, 0 ≤ j → j < 104 → S' j = S j) : ncl S' = ncl S := by unfold ncl; rw [e 0 (by omega) (by omega), e 1 (by omega) (by omega)]
theorem AU_ext {s : mS} {o : Nat} {S S' : Int → Int} (h : AU s o S) (e : ∀ j, 0 ≤ j → j < 472 → S' j = S j) : AU s o S' :=
  AU_S h (fun j j0 j1 => e j (by omega) j1) (e 7 (by omega) (by omega)) (ncl_ext (fun j j0 j1 => e j j0 (by omega))) (by rw [e 3 (by omega) (by omega)]; omega)
theorem CS_cp {s : mS} {o q : Nat} {S N : Int → Int} (hw : WF S) (h : CS s q S N) (ho : isC o) (hq : isC q) (hn : q ≠ o) : CS (cpS s o q) o S N := by
  have hf := isC_far hq ho hn
  have w := wf0 hw
  obtain ⟨f0, f1, f2, f3, f4, f5⟩ := cpS_f s o q hn
  obtain ⟨c1, c2, c3, c4, c5⟩ := h
  refine ⟨?_, fun c c0 c1' => ?_, fun k k0 k1 => ?_, fun p p0 p1 => ?_, fun p p0 p1 => ?_⟩
  · rw [f0, f1, f2, f3, f4, f5]; exact c1
  · rw [cpS_1 s o q hf c c0 c1', cpS_2 s o q hf c c0 c1']; exact c2 c c0 c1'
  · rw [cpS_3 s o q hf k k0 (by omega), cpS_4 s o q hf k k0 (by omega), cpS_5 s o q hf k k0 (by omega)]; exact c3 k k0 k1
  · rw [cpS_6 s o q hf p p0 (by omega), cpS_7 s o q hf p p0 (by omega), cpS_8 s o q hf p p0 (by omega), cpS_9 s o q hf p p0 (by omega), cpS_10 s o q hf p p0 (by omega), cpS_11 s o q hf p p0 (by omega), cpS_12 s o q hf p p0 (by omega)]; exact c4 p p0 p1
  · rw [cpS_10 s o q hf p (by omega) p1, cpS_11 s o q hf p (by omega) p1]; exact c5 p p0 p1
theorem AU_cp {s : mS} {o q : Nat} {S : Int → Int} (h : AU s q S) (ho : isU o) (hq : isU q) (hn : q ≠ o) : AU (cpU s o q) o S := by
  have hf := isU_far hq ho hn
  obtain ⟨f0, f1, f2⟩ := cpU_f s o q hn
  obtain ⟨a1, a2, a3, a4⟩ := h
  refine ⟨by rw [f0, f2]; exact a1, a2, a3, fun i i0 i1 => ?_⟩
  rw [cpU_1 s o q hf i i0 (by omega), cpU_2 s o q hf i i0 (by omega), cpU_3 s o q hf i i0 (by omega), cpU_4 s o q hf i i0 (by omega), cpU_5 s o q hf i i0 (by omega)]
  exact a4 i i0 i1
/-- the reference's slots copied: i numbers and k names so far -/
def cpT (s : mS) (a b i k : Int) : mS := (s.1, fun q j => if q = 142 ∧ 472 * b ≤ j ∧ j < 472 * b + i then s.2 142 (j - 472 * b + 472 * a) else if q = 143 ∧ 12 * b ≤ j ∧ j < 12 * b + k then s.2 143 (j - 12 * b + 12 * a) else s.2 q j)
theorem cpT_0 (s : mS) (a b : Int) : cpT s a b 0 0 = s := by
  apply Prod.ext
  · rfl
  · funext q j
    show (if q = 142 ∧ 472 * b ≤ j ∧ j < 472 * b + 0 then _ else if q = 143 ∧ 12 * b ≤ j ∧ j < 12 * b + 0 then _ else s.2 q j) = s.2 q j
    rw [if_neg (by omega), if_neg (by omega)]
theorem cpT_142 (s : mS) (a b i k j : Int) : (cpT s a b i k).2 142 j = if 472 * b ≤ j ∧ j < 472 * b + i then s.2 142 (j - 472 * b + 472 * a) else s.2 142 j := by
  show (if 142 = 142 ∧ 472 * b ≤ j ∧ j < 472 * b + i then _ else if 142 = 143 ∧ 12 * b ≤ j ∧ j < 12 * b + k then _ else s.2 142 j) = _
  by_cases h : 472 * b ≤ j ∧ j < 472 * b + i
  · rw [if_pos ⟨rfl, h⟩, if_pos h]
  · rw [if_neg (by omega), if_neg h, if_neg (by omega)]
theorem cpT_143 (s : mS) (a b i k j : Int) : (cpT s a b i k).2 143 j = if 12 * b ≤ j ∧ j < 12 * b + k then s.2 143 (j - 12 * b + 12 * a) else s.2 143 j := by
  show (if 143 = 142 ∧ 472 * b ≤ j ∧ j < 472 * b + i then s.2 142 (j - 472 * b + 472 * a) else if 143 = 143 ∧ 12 * b ≤ j ∧ j < 12 * b + k then s.2 143 (j - 12 * b + 12 * a) else s.2 143 j) = _
  rw [if_neg (by omega)]
  by_cases h : 12 * b ≤ j ∧ j < 12 * b + k
  · rw [if_pos ⟨rfl, h⟩, if_pos h]
  · rw [if_neg (by omega), if_neg h]
theorem cpT_n (s : mS) (a b i k : Int) (q : Nat) (h1 : q ≠ 142) (h2 : q ≠ 143) : (cpT s a b i k).2 q = s.2 q := by
  funext j
  show (if q = 142 ∧ 472 * b ≤ j ∧ j < 472 * b + i then _ else if q = 143 ∧ 12 * b ≤ j ∧ j < 12 * b + k then _ else s.2 q j) = _
  rw [if_neg (by omega), if_neg (by omega)]
theorem cpT_s (s : mS) (a b i : Int) (hab : a ≠ b) (i0 : 0 ≤ i) (i1 : i < 472) : uA (cpT s a b i 0) 142 (472 * b + i) ((cpT s a b i 0).2 142 (472 * a + i)) = cpT s a b (i + 1) 0 := by
  apply Prod.ext
  · rfl
  · funext q j
    have eA : (cpT s a b i 0).2 142 (472 * a + i) = s.2 142 (472 * a + i) := by rw [cpT_142, if_neg (by omega)]
    rw [uA_2, eA]
    by_cases hq : q = 142
    · subst hq
      rw [cpT_142, cpT_142]
      by_cases hj : j = 472 * b + i
      · rw [if_pos ⟨rfl, hj⟩, if_pos (by omega)]
        rw [show j - 472 * b + 472 * a = 472 * a + i by omega]
      · rw [if_neg (by omega)]
        by_cases h : 472 * b ≤ j ∧ j < 472 * b + i
        · rw [if_pos h, if_pos (by omega)]
        · rw [if_neg h, if_neg (by omega)]
    · rw [if_neg (by omega)]
      by_cases hq2 : q = 143
      · subst hq2
        rw [cpT_143, cpT_143]
      · rw [cpT_n _ _ _ _ _ _ hq hq2, cpT_n _ _ _ _ _ _ hq hq2]
theorem cpT_s2 (s : mS) (a b k : Int) (hab : a ≠ b) (k0 : 0 ≤ k) (k1 : k < 12) : uA (cpT s a b 472 k) 143 (12 * b + k) ((cpT s a b 472 k).2 143 (12 * a + k)) = cpT s a b 472 (k + 1) := by
  apply Prod.ext
  · rfl
  · funext q j
    have eA : (cpT s a b 472 k).2 143 (12 * a + k) = s.2 143 (12 * a + k) := by rw [cpT_143, if_neg (by omega)]
    rw [uA_2, eA]
    by_cases hq : q = 143
    · subst hq
      rw [cpT_143, cpT_143]
      by_cases hj : j = 12 * b + k
      · rw [if_pos ⟨rfl, hj⟩, if_pos (by omega)]
        rw [show j - 12 * b + 12 * a = 12 * a + k by omega]
      · rw [if_neg (by omega)]
        by_cases h : 12 * b ≤ j ∧ j < 12 * b + k
        · rw [if_pos h, if_pos (by omega)]
        · rw [if_neg h, if_neg (by omega)]
    · rw [if_neg (by omega)]
      by_cases hq2 : q = 142
      · subst hq2
        rw [cpT_142, cpT_142]
      · rw [cpT_n _ _ _ _ _ _ hq2 hq, cpT_n _ _ _ _ _ _ hq2 hq]
theorem lp_copies (Z : mX) (s : mS) (a b : Int) (hab : a ≠ b) (a0 : 0 ≤ a) (a1 : a < 5) (b0 : 0 ≤ b) (b1 : b < 5) : ∀ i : Int, i ≤ 472 → 0 ≤ i → mm_at (zP Z) 361 2 [some (.inr (.inr (some 141))), some (.inl a), some (.inl b), some (.inl i)] [] (mk (cpT s a b i 0)) = mm_at (zP Z) 361 25 [some (.inr (.inr (some 141))), some (.inl a), some (.inl b), some (.inl 0)] [] (mk (cpT s a b 472 0)) := by
  refine up ?_ ?_
  · intro i0
    conv => lhs; rw [B_X12_copies_2]
    simp (disch := first | assumption | omega) only [↓sm, ↓reduceIte, ↓if_pos, ↓if_neg, kI, kJ, kR, kV, w32_eq, w64_eq, reduceCtorEq, Int.reduceAdd, Int.reduceMul, Int.reduceSub]
  · intro i hi ih i0
    rw [← ih (by omega), ← cpT_s s a b i hab i0 hi]
    conv => lhs; rw [B_X12_copies_2]
    simp (disch := first | assumption | omega) only [↓sm, ↓reduceIte, ↓if_pos, ↓if_neg, kI, kJ, kR, kV, w32_eq, w64_eq, reduceCtorEq, Int.reduceAdd, Int.reduceMul, Int.reduceSub, o_c141, ↓o_g141_0, ↓o_g141_1, ↓o_g141_5, ↓o_g141_6, ↓o_g141_7, ↓o_g141_8, ↓o_g141_9, ↓o_g141_21, ↓o_g141_25, ↓o_g141_26, ↓o_g141_27, ↓o_g141_28, ↓o_g141_29, ↓o_g141_30, ↓o_g141_31, ↓o_g141_34, ↓o_g141_35, ↓o_g141_36, ↓a_ld142, a_ld142, ↓a_st142, a_st142]
theorem lp_copies2 (Z : mX) (s : mS) (a b : Int) (hab : a ≠ b) (a0 : 0 ≤ a) (a1 : a < 5) (b0 : 0 ≤ b) (b1 : b < 5) : ∀ k : Int, k ≤ 12 → 0 ≤ k → mm_at (zP Z) 361 25 [some (.inr (.inr (some 141))), some (.inl a), some (.inl b), some (.inl k)] [] (mk (cpT s a b 472 k)) = some (none, mk (cpT s a b 472 12)) := by
  refine up ?_ ?_
  · intro i0
    rw [B_X12_copies_25]
    simp (disch := first | assumption | omega) only [↓sm, ↓reduceIte, ↓if_pos, ↓if_neg, kI, kJ, kR, kV, w32_eq, w64_eq, reduceCtorEq, Int.reduceAdd, Int.reduceMul, Int.reduceSub]
  · intro i hi ih i0
    rw [← ih (by omega), ← cpT_s2 s a b i hab i0 hi]
    conv => lhs; rw [B_X12_copies_25]
    simp (disch := first | assumption | omega) only [↓sm, ↓reduceIte, ↓if_pos, ↓if_neg, kI, kJ, kR, kV, w32_eq, w64_eq, reduceCtorEq, Int.reduceAdd, Int.reduceMul, Int.reduceSub, o_c141, ↓o_g141_0, ↓o_g141_1, ↓o_g141_5, ↓o_g141_6, ↓o_g141_7, ↓o_g141_8, ↓o_g141_9, ↓o_g141_21, ↓o_g141_25, ↓o_g141_26, ↓o_g141_27, ↓o_g141_28, ↓o_g141_29, ↓o_g141_30, ↓o_g141_31, ↓o_g141_34, ↓o_g141_35, ↓o_g141_36, ↓a_ld143, a_ld143, ↓a_st143, a_st143]
theorem r_copies (Z : mX) (s : mS) (a b : Int) (hab : a ≠ b) (a0 : 0 ≤ a) (a1 : a < 5) (b0 : 0 ≤ b) (b1 : b < 5) (f : mW → mO) : mm_kV (mm_run (zP Z) 361 [.inr (.inr (some 141)), .inl a, .inl b] (mk s)) f = f (mk (cpT s a b 472 12)) := by
  have g := lp_copies Z s a b hab a0 a1 b0 b1 0 (by omega) (by omega)
  rw [cpT_0] at g
  rw [B_X12_copies, g, lp_copies2 Z s a b hab a0 a1 b0 b1 0 (by omega) (by omega), kV]
