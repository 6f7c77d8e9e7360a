theorem zm_all {y : Nat} (h : y < 365) : zMeth y = true := sorry
theorem zm_sigs {y : Nat} (h : y < 365) : zSig y = true := sorry
theorem zm_law {pc : Nat} (h : pc < 1369) : zF (z_by 365) (z_pl 365) 365 (z_oc 365) pc (mm_nth (z_code 365) pc) = true := sorry
