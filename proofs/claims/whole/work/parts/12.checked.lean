set_option maxRecDepth 100000 in
theorem zm_0 : ((List.range 20).all fun r => zMeth (0 + r)) = true := by decide +kernel
set_option maxRecDepth 100000 in
theorem zm_1 : ((List.range 20).all fun r => zMeth (20 + r)) = true := by decide +kernel
set_option maxRecDepth 100000 in
theorem zm_2 : ((List.range 20).all fun r => zMeth (40 + r)) = true := by decide +kernel
set_option maxRecDepth 100000 in
theorem zm_3 : ((List.range 20).all fun r => zMeth (60 + r)) = true := by decide +kernel
set_option maxRecDepth 100000 in
theorem zm_4 : ((List.range 20).all fun r => zMeth (80 + r)) = true := by decide +kernel
set_option maxRecDepth 100000 in
theorem zm_5 : ((List.range 20).all fun r => zMeth (100 + r)) = true := by decide +kernel
set_option maxRecDepth 100000 in
theorem zm_6 : ((List.range 20).all fun r => zMeth (120 + r)) = true := by decide +kernel
set_option maxRecDepth 100000 in
theorem zm_7 : ((List.range 20).all fun r => zMeth (140 + r)) = true := by decide +kernel
set_option maxRecDepth 100000 in
theorem zm_8 : ((List.range 20).all fun r => zMeth (160 + r)) = true := by decide +kernel
set_option maxRecDepth 100000 in
theorem zm_9 : ((List.range 20).all fun r => zMeth (180 + r)) = true := by decide +kernel
set_option maxRecDepth 100000 in
theorem zm_10 : ((List.range 20).all fun r => zMeth (200 + r)) = true := by decide +kernel
set_option maxRecDepth 100000 in
theorem zm_11 : ((List.range 20).all fun r => zMeth (220 + r)) = true := by decide +kernel
set_option maxRecDepth 100000 in
theorem zm_12 : ((List.range 20).all fun r => zMeth (240 + r)) = true := by decide +kernel
set_option maxRecDepth 100000 in
theorem zm_13 : ((List.range 20).all fun r => zMeth (260 + r)) = true := by decide +kernel
set_option maxRecDepth 100000 in
theorem zm_14 : ((List.range 20).all fun r => zMeth (280 + r)) = true := by decide +kernel
set_option maxRecDepth 100000 in
theorem zm_15 : ((List.range 20).all fun r => zMeth (300 + r)) = true := by decide +kernel
set_option maxRecDepth 100000 in
theorem zm_16 : ((List.range 20).all fun r => zMeth (320 + r)) = true := by decide +kernel
set_option maxRecDepth 100000 in
theorem zm_17 : ((List.range 20).all fun r => zMeth (340 + r)) = true := by decide +kernel
set_option maxRecDepth 100000 in
theorem zm_18 : ((List.range 5).all fun r => zMeth (360 + r)) = true := by decide +kernel
set_option maxRecDepth 100000 in
theorem zm_sig : ((List.range 365).all fun r => zSig r) = true := by decide +kernel
theorem zm_all {y : Nat} (h : y < 365) : zMeth y = true := by
  have key : ∀ (g n lo : Nat), ((List.range n).all fun r => zMeth (lo + r)) = true → lo ≤ y → y < lo + n → zMeth y = true := by
    intro _ n lo hh h1 h2
    have := List.all_eq_true.mp hh (y - lo) (List.mem_range.mpr (by omega))
    rwa [show lo + (y - lo) = y by omega] at this
  by_cases h0 : y < 20
  · exact key 0 20 0 zm_0 (by omega) (by omega)
  by_cases h1 : y < 40
  · exact key 1 20 20 zm_1 (by omega) (by omega)
  by_cases h2 : y < 60
  · exact key 2 20 40 zm_2 (by omega) (by omega)
  by_cases h3 : y < 80
  · exact key 3 20 60 zm_3 (by omega) (by omega)
  by_cases h4 : y < 100
  · exact key 4 20 80 zm_4 (by omega) (by omega)
  by_cases h5 : y < 120
  · exact key 5 20 100 zm_5 (by omega) (by omega)
  by_cases h6 : y < 140
  · exact key 6 20 120 zm_6 (by omega) (by omega)
  by_cases h7 : y < 160
  · exact key 7 20 140 zm_7 (by omega) (by omega)
  by_cases h8 : y < 180
  · exact key 8 20 160 zm_8 (by omega) (by omega)
  by_cases h9 : y < 200
  · exact key 9 20 180 zm_9 (by omega) (by omega)
  by_cases h10 : y < 220
  · exact key 10 20 200 zm_10 (by omega) (by omega)
  by_cases h11 : y < 240
  · exact key 11 20 220 zm_11 (by omega) (by omega)
  by_cases h12 : y < 260
  · exact key 12 20 240 zm_12 (by omega) (by omega)
  by_cases h13 : y < 280
  · exact key 13 20 260 zm_13 (by omega) (by omega)
  by_cases h14 : y < 300
  · exact key 14 20 280 zm_14 (by omega) (by omega)
  by_cases h15 : y < 320
  · exact key 15 20 300 zm_15 (by omega) (by omega)
  by_cases h16 : y < 340
  · exact key 16 20 320 zm_16 (by omega) (by omega)
  by_cases h17 : y < 360
  · exact key 17 20 340 zm_17 (by omega) (by omega)
  by_cases h18 : y < 365
  · exact key 18 5 360 zm_18 (by omega) (by omega)
  omega
theorem zm_sigs {y : Nat} (h : y < 365) : zSig y = true := List.all_eq_true.mp zm_sig y (List.mem_range.mpr h)
