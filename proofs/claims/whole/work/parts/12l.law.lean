/-! the law's own rows, checked fifty at a time -/
set_option maxRecDepth 100000 in
theorem zml_0 : ((List.range 25).all fun j => zF code z_p365 365 14 (0 + j) (mm_nth z_c365 (0 + j))) = true := by decide +kernel
set_option maxRecDepth 100000 in
theorem zml_1 : ((List.range 25).all fun j => zF code z_p365 365 14 (25 + j) (mm_nth z_c365 (25 + j))) = true := by decide +kernel
set_option maxRecDepth 100000 in
theorem zml_2 : ((List.range 25).all fun j => zF code z_p365 365 14 (50 + j) (mm_nth z_c365 (50 + j))) = true := by decide +kernel
set_option maxRecDepth 100000 in
theorem zml_3 : ((List.range 25).all fun j => zF code z_p365 365 14 (75 + j) (mm_nth z_c365 (75 + j))) = true := by decide +kernel
set_option maxRecDepth 100000 in
theorem zml_4 : ((List.range 25).all fun j => zF code z_p365 365 14 (100 + j) (mm_nth z_c365 (100 + j))) = true := by decide +kernel
set_option maxRecDepth 100000 in
theorem zml_5 : ((List.range 25).all fun j => zF code z_p365 365 14 (125 + j) (mm_nth z_c365 (125 + j))) = true := by decide +kernel
set_option maxRecDepth 100000 in
theorem zml_6 : ((List.range 25).all fun j => zF code z_p365 365 14 (150 + j) (mm_nth z_c365 (150 + j))) = true := by decide +kernel
set_option maxRecDepth 100000 in
theorem zml_7 : ((List.range 25).all fun j => zF code z_p365 365 14 (175 + j) (mm_nth z_c365 (175 + j))) = true := by decide +kernel
set_option maxRecDepth 100000 in
theorem zml_8 : ((List.range 25).all fun j => zF code z_p365 365 14 (200 + j) (mm_nth z_c365 (200 + j))) = true := by decide +kernel
set_option maxRecDepth 100000 in
theorem zml_9 : ((List.range 25).all fun j => zF code z_p365 365 14 (225 + j) (mm_nth z_c365 (225 + j))) = true := by decide +kernel
set_option maxRecDepth 100000 in
theorem zml_10 : ((List.range 25).all fun j => zF code z_p365 365 14 (250 + j) (mm_nth z_c365 (250 + j))) = true := by decide +kernel
set_option maxRecDepth 100000 in
theorem zml_11 : ((List.range 25).all fun j => zF code z_p365 365 14 (275 + j) (mm_nth z_c365 (275 + j))) = true := by decide +kernel
set_option maxRecDepth 100000 in
theorem zml_12 : ((List.range 25).all fun j => zF code z_p365 365 14 (300 + j) (mm_nth z_c365 (300 + j))) = true := by decide +kernel
set_option maxRecDepth 100000 in
theorem zml_13 : ((List.range 25).all fun j => zF code z_p365 365 14 (325 + j) (mm_nth z_c365 (325 + j))) = true := by decide +kernel
set_option maxRecDepth 100000 in
theorem zml_14 : ((List.range 25).all fun j => zF code z_p365 365 14 (350 + j) (mm_nth z_c365 (350 + j))) = true := by decide +kernel
set_option maxRecDepth 100000 in
theorem zml_15 : ((List.range 25).all fun j => zF code z_p365 365 14 (375 + j) (mm_nth z_c365 (375 + j))) = true := by decide +kernel
set_option maxRecDepth 100000 in
theorem zml_16 : ((List.range 25).all fun j => zF code z_p365 365 14 (400 + j) (mm_nth z_c365 (400 + j))) = true := by decide +kernel
set_option maxRecDepth 100000 in
theorem zml_17 : ((List.range 25).all fun j => zF code z_p365 365 14 (425 + j) (mm_nth z_c365 (425 + j))) = true := by decide +kernel
set_option maxRecDepth 100000 in
theorem zml_18 : ((List.range 25).all fun j => zF code z_p365 365 14 (450 + j) (mm_nth z_c365 (450 + j))) = true := by decide +kernel
set_option maxRecDepth 100000 in
theorem zml_19 : ((List.range 25).all fun j => zF code z_p365 365 14 (475 + j) (mm_nth z_c365 (475 + j))) = true := by decide +kernel
set_option maxRecDepth 100000 in
theorem zml_20 : ((List.range 25).all fun j => zF code z_p365 365 14 (500 + j) (mm_nth z_c365 (500 + j))) = true := by decide +kernel
set_option maxRecDepth 100000 in
theorem zml_21 : ((List.range 25).all fun j => zF code z_p365 365 14 (525 + j) (mm_nth z_c365 (525 + j))) = true := by decide +kernel
set_option maxRecDepth 100000 in
theorem zml_22 : ((List.range 25).all fun j => zF code z_p365 365 14 (550 + j) (mm_nth z_c365 (550 + j))) = true := by decide +kernel
set_option maxRecDepth 100000 in
theorem zml_23 : ((List.range 25).all fun j => zF code z_p365 365 14 (575 + j) (mm_nth z_c365 (575 + j))) = true := by decide +kernel
set_option maxRecDepth 100000 in
theorem zml_24 : ((List.range 25).all fun j => zF code z_p365 365 14 (600 + j) (mm_nth z_c365 (600 + j))) = true := by decide +kernel
set_option maxRecDepth 100000 in
theorem zml_25 : ((List.range 25).all fun j => zF code z_p365 365 14 (625 + j) (mm_nth z_c365 (625 + j))) = true := by decide +kernel
set_option maxRecDepth 100000 in
theorem zml_26 : ((List.range 25).all fun j => zF code z_p365 365 14 (650 + j) (mm_nth z_c365 (650 + j))) = true := by decide +kernel
set_option maxRecDepth 100000 in
theorem zml_27 : ((List.range 25).all fun j => zF code z_p365 365 14 (675 + j) (mm_nth z_c365 (675 + j))) = true := by decide +kernel
set_option maxRecDepth 100000 in
theorem zml_28 : ((List.range 25).all fun j => zF code z_p365 365 14 (700 + j) (mm_nth z_c365 (700 + j))) = true := by decide +kernel
set_option maxRecDepth 100000 in
theorem zml_29 : ((List.range 25).all fun j => zF code z_p365 365 14 (725 + j) (mm_nth z_c365 (725 + j))) = true := by decide +kernel
set_option maxRecDepth 100000 in
theorem zml_30 : ((List.range 25).all fun j => zF code z_p365 365 14 (750 + j) (mm_nth z_c365 (750 + j))) = true := by decide +kernel
set_option maxRecDepth 100000 in
theorem zml_31 : ((List.range 25).all fun j => zF code z_p365 365 14 (775 + j) (mm_nth z_c365 (775 + j))) = true := by decide +kernel
set_option maxRecDepth 100000 in
theorem zml_32 : ((List.range 25).all fun j => zF code z_p365 365 14 (800 + j) (mm_nth z_c365 (800 + j))) = true := by decide +kernel
set_option maxRecDepth 100000 in
theorem zml_33 : ((List.range 25).all fun j => zF code z_p365 365 14 (825 + j) (mm_nth z_c365 (825 + j))) = true := by decide +kernel
set_option maxRecDepth 100000 in
theorem zml_34 : ((List.range 25).all fun j => zF code z_p365 365 14 (850 + j) (mm_nth z_c365 (850 + j))) = true := by decide +kernel
set_option maxRecDepth 100000 in
theorem zml_35 : ((List.range 25).all fun j => zF code z_p365 365 14 (875 + j) (mm_nth z_c365 (875 + j))) = true := by decide +kernel
set_option maxRecDepth 100000 in
theorem zml_36 : ((List.range 25).all fun j => zF code z_p365 365 14 (900 + j) (mm_nth z_c365 (900 + j))) = true := by decide +kernel
set_option maxRecDepth 100000 in
theorem zml_37 : ((List.range 25).all fun j => zF code z_p365 365 14 (925 + j) (mm_nth z_c365 (925 + j))) = true := by decide +kernel
set_option maxRecDepth 100000 in
theorem zml_38 : ((List.range 25).all fun j => zF code z_p365 365 14 (950 + j) (mm_nth z_c365 (950 + j))) = true := by decide +kernel
set_option maxRecDepth 100000 in
theorem zml_39 : ((List.range 25).all fun j => zF code z_p365 365 14 (975 + j) (mm_nth z_c365 (975 + j))) = true := by decide +kernel
set_option maxRecDepth 100000 in
theorem zml_40 : ((List.range 25).all fun j => zF code z_p365 365 14 (1000 + j) (mm_nth z_c365 (1000 + j))) = true := by decide +kernel
set_option maxRecDepth 100000 in
theorem zml_41 : ((List.range 25).all fun j => zF code z_p365 365 14 (1025 + j) (mm_nth z_c365 (1025 + j))) = true := by decide +kernel
set_option maxRecDepth 100000 in
theorem zml_42 : ((List.range 25).all fun j => zF code z_p365 365 14 (1050 + j) (mm_nth z_c365 (1050 + j))) = true := by decide +kernel
set_option maxRecDepth 100000 in
theorem zml_43 : ((List.range 25).all fun j => zF code z_p365 365 14 (1075 + j) (mm_nth z_c365 (1075 + j))) = true := by decide +kernel
set_option maxRecDepth 100000 in
theorem zml_44 : ((List.range 25).all fun j => zF code z_p365 365 14 (1100 + j) (mm_nth z_c365 (1100 + j))) = true := by decide +kernel
set_option maxRecDepth 100000 in
theorem zml_45 : ((List.range 25).all fun j => zF code z_p365 365 14 (1125 + j) (mm_nth z_c365 (1125 + j))) = true := by decide +kernel
set_option maxRecDepth 100000 in
theorem zml_46 : ((List.range 25).all fun j => zF code z_p365 365 14 (1150 + j) (mm_nth z_c365 (1150 + j))) = true := by decide +kernel
set_option maxRecDepth 100000 in
theorem zml_47 : ((List.range 25).all fun j => zF code z_p365 365 14 (1175 + j) (mm_nth z_c365 (1175 + j))) = true := by decide +kernel
set_option maxRecDepth 100000 in
theorem zml_48 : ((List.range 25).all fun j => zF code z_p365 365 14 (1200 + j) (mm_nth z_c365 (1200 + j))) = true := by decide +kernel
set_option maxRecDepth 100000 in
theorem zml_49 : ((List.range 25).all fun j => zF code z_p365 365 14 (1225 + j) (mm_nth z_c365 (1225 + j))) = true := by decide +kernel
set_option maxRecDepth 100000 in
theorem zml_50 : ((List.range 25).all fun j => zF code z_p365 365 14 (1250 + j) (mm_nth z_c365 (1250 + j))) = true := by decide +kernel
set_option maxRecDepth 100000 in
theorem zml_51 : ((List.range 25).all fun j => zF code z_p365 365 14 (1275 + j) (mm_nth z_c365 (1275 + j))) = true := by decide +kernel
set_option maxRecDepth 100000 in
theorem zml_52 : ((List.range 25).all fun j => zF code z_p365 365 14 (1300 + j) (mm_nth z_c365 (1300 + j))) = true := by decide +kernel
set_option maxRecDepth 100000 in
theorem zml_53 : ((List.range 25).all fun j => zF code z_p365 365 14 (1325 + j) (mm_nth z_c365 (1325 + j))) = true := by decide +kernel
set_option maxRecDepth 100000 in
theorem zml_54 : ((List.range 19).all fun j => zF code z_p365 365 14 (1350 + j) (mm_nth z_c365 (1350 + j))) = true := by decide +kernel
theorem zm_law {pc : Nat} (h : pc < 1369) : zF (z_by 365) (z_pl 365) 365 (z_oc 365) pc (mm_nth (z_code 365) pc) = true := by
  have key : ∀ (n lo : Nat), ((List.range n).all fun j => zF code z_p365 365 14 (lo + j) (mm_nth z_c365 (lo + j))) = true → lo ≤ pc → pc < lo + n → zF (z_by 365) (z_pl 365) 365 (z_oc 365) pc (mm_nth (z_code 365) pc) = true := by
    intro n lo hh h1 h2
    have := List.all_eq_true.mp hh (pc - lo) (List.mem_range.mpr (by omega))
    rw [show lo + (pc - lo) = pc by omega] at this
    exact this
  by_cases h0 : pc < 25
  · exact key 25 0 zml_0 (by omega) (by omega)
  by_cases h1 : pc < 50
  · exact key 25 25 zml_1 (by omega) (by omega)
  by_cases h2 : pc < 75
  · exact key 25 50 zml_2 (by omega) (by omega)
  by_cases h3 : pc < 100
  · exact key 25 75 zml_3 (by omega) (by omega)
  by_cases h4 : pc < 125
  · exact key 25 100 zml_4 (by omega) (by omega)
  by_cases h5 : pc < 150
  · exact key 25 125 zml_5 (by omega) (by omega)
  by_cases h6 : pc < 175
  · exact key 25 150 zml_6 (by omega) (by omega)
  by_cases h7 : pc < 200
  · exact key 25 175 zml_7 (by omega) (by omega)
  by_cases h8 : pc < 225
  · exact key 25 200 zml_8 (by omega) (by omega)
  by_cases h9 : pc < 250
  · exact key 25 225 zml_9 (by omega) (by omega)
  by_cases h10 : pc < 275
  · exact key 25 250 zml_10 (by omega) (by omega)
  by_cases h11 : pc < 300
  · exact key 25 275 zml_11 (by omega) (by omega)
  by_cases h12 : pc < 325
  · exact key 25 300 zml_12 (by omega) (by omega)
  by_cases h13 : pc < 350
  · exact key 25 325 zml_13 (by omega) (by omega)
  by_cases h14 : pc < 375
  · exact key 25 350 zml_14 (by omega) (by omega)
  by_cases h15 : pc < 400
  · exact key 25 375 zml_15 (by omega) (by omega)
  by_cases h16 : pc < 425
  · exact key 25 400 zml_16 (by omega) (by omega)
  by_cases h17 : pc < 450
  · exact key 25 425 zml_17 (by omega) (by omega)
  by_cases h18 : pc < 475
  · exact key 25 450 zml_18 (by omega) (by omega)
  by_cases h19 : pc < 500
  · exact key 25 475 zml_19 (by omega) (by omega)
  by_cases h20 : pc < 525
  · exact key 25 500 zml_20 (by omega) (by omega)
  by_cases h21 : pc < 550
  · exact key 25 525 zml_21 (by omega) (by omega)
  by_cases h22 : pc < 575
  · exact key 25 550 zml_22 (by omega) (by omega)
  by_cases h23 : pc < 600
  · exact key 25 575 zml_23 (by omega) (by omega)
  by_cases h24 : pc < 625
  · exact key 25 600 zml_24 (by omega) (by omega)
  by_cases h25 : pc < 650
  · exact key 25 625 zml_25 (by omega) (by omega)
  by_cases h26 : pc < 675
  · exact key 25 650 zml_26 (by omega) (by omega)
  by_cases h27 : pc < 700
  · exact key 25 675 zml_27 (by omega) (by omega)
  by_cases h28 : pc < 725
  · exact key 25 700 zml_28 (by omega) (by omega)
  by_cases h29 : pc < 750
  · exact key 25 725 zml_29 (by omega) (by omega)
  by_cases h30 : pc < 775
  · exact key 25 750 zml_30 (by omega) (by omega)
  by_cases h31 : pc < 800
  · exact key 25 775 zml_31 (by omega) (by omega)
  by_cases h32 : pc < 825
  · exact key 25 800 zml_32 (by omega) (by omega)
  by_cases h33 : pc < 850
  · exact key 25 825 zml_33 (by omega) (by omega)
  by_cases h34 : pc < 875
  · exact key 25 850 zml_34 (by omega) (by omega)
  by_cases h35 : pc < 900
  · exact key 25 875 zml_35 (by omega) (by omega)
  by_cases h36 : pc < 925
  · exact key 25 900 zml_36 (by omega) (by omega)
  by_cases h37 : pc < 950
  · exact key 25 925 zml_37 (by omega) (by omega)
  by_cases h38 : pc < 975
  · exact key 25 950 zml_38 (by omega) (by omega)
  by_cases h39 : pc < 1000
  · exact key 25 975 zml_39 (by omega) (by omega)
  by_cases h40 : pc < 1025
  · exact key 25 1000 zml_40 (by omega) (by omega)
  by_cases h41 : pc < 1050
  · exact key 25 1025 zml_41 (by omega) (by omega)
  by_cases h42 : pc < 1075
  · exact key 25 1050 zml_42 (by omega) (by omega)
  by_cases h43 : pc < 1100
  · exact key 25 1075 zml_43 (by omega) (by omega)
  by_cases h44 : pc < 1125
  · exact key 25 1100 zml_44 (by omega) (by omega)
  by_cases h45 : pc < 1150
  · exact key 25 1125 zml_45 (by omega) (by omega)
  by_cases h46 : pc < 1175
  · exact key 25 1150 zml_46 (by omega) (by omega)
  by_cases h47 : pc < 1200
  · exact key 25 1175 zml_47 (by omega) (by omega)
  by_cases h48 : pc < 1225
  · exact key 25 1200 zml_48 (by omega) (by omega)
  by_cases h49 : pc < 1250
  · exact key 25 1225 zml_49 (by omega) (by omega)
  by_cases h50 : pc < 1275
  · exact key 25 1250 zml_50 (by omega) (by omega)
  by_cases h51 : pc < 1300
  · exact key 25 1275 zml_51 (by omega) (by omega)
  by_cases h52 : pc < 1325
  · exact key 25 1300 zml_52 (by omega) (by omega)
  by_cases h53 : pc < 1350
  · exact key 25 1325 zml_53 (by omega) (by omega)
  by_cases h54 : pc < 1369
  · exact key 19 1350 zml_54 (by omega) (by omega)
  omega
