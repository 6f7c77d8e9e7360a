def z_w0 : mW := (fun _ => .inr (99, 0, fun _ => 0), 3, 0)
/-- what is left to be shown, in the mini machine alone -/
def zLaw : Prop := ∀ (Z : mX), (∃ L : Nat, Z.2 = (L : Int) ∧ L ≤ 3072) → (∀ i : Int, zR32 (Z.1 i)) → ∃ w' : mW, mm_run (zP Z) 365 [.inr (.inr (some 2))] z_w0 = some (some (.inl 1), w') ∧ w'.2.1 ≤ 600000 ∧ w'.2.2 ≤ 7302250
