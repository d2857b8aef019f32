set_option maxRecDepth 100000 in
theorem mf_X0_0 : u_lay RX0 TX0 0 ∈ lw_tbl := List.mem_append_right _ (List.mem_append_left _ (List.mem_of_getElem? (i := 85) rfl))
set_option maxRecDepth 100000 in
theorem mf_X0_1 : u_lay RX0 TX0 1 ∈ lw_tbl := List.mem_append_right _ (List.mem_append_left _ (List.mem_of_getElem? (i := 87) rfl))
set_option maxRecDepth 100000 in
theorem mf_X0_2 : u_lay RX0 TX0 2 ∈ lw_tbl := List.mem_append_right _ (List.mem_append_left _ (List.mem_of_getElem? (i := 89) rfl))
set_option maxRecDepth 100000 in
theorem mf_X0_3 : u_lay RX0 TX0 3 ∈ lw_tbl := List.mem_append_right _ (List.mem_append_left _ (List.mem_of_getElem? (i := 91) rfl))
set_option maxRecDepth 100000 in
theorem mf_X0_4 : u_lay RX0 TX0 4 ∈ lw_tbl := List.mem_append_right _ (List.mem_append_left _ (List.mem_of_getElem? (i := 93) rfl))
set_option maxRecDepth 100000 in
theorem mf_X0_5 : u_lay RX0 TX0 5 ∈ lw_tbl := List.mem_append_right _ (List.mem_append_left _ (List.mem_of_getElem? (i := 95) rfl))
set_option maxRecDepth 100000 in
theorem mf_X0_6 : u_lay RX0 TX0 6 ∈ lw_tbl := List.mem_append_right _ (List.mem_append_left _ (List.mem_of_getElem? (i := 97) rfl))
set_option maxRecDepth 100000 in
theorem mf_X0_7 : u_lay RX0 TX0 7 ∈ lw_tbl := List.mem_append_right _ (List.mem_append_left _ (List.mem_of_getElem? (i := 99) rfl))
set_option maxRecDepth 100000 in
theorem mf_X0_8 : u_lay RX0 TX0 8 ∈ lw_tbl := List.mem_append_right _ (List.mem_append_left _ (List.mem_of_getElem? (i := 101) rfl))
set_option maxRecDepth 100000 in
theorem mf_X0_9 : u_lay RX0 TX0 9 ∈ lw_tbl := List.mem_append_right _ (List.mem_append_left _ (List.mem_of_getElem? (i := 103) rfl))
set_option maxRecDepth 100000 in
theorem mf_X0_10 : u_lay RX0 TX0 10 ∈ lw_tbl := List.mem_append_right _ (List.mem_append_left _ (List.mem_of_getElem? (i := 105) rfl))
set_option maxRecDepth 100000 in
theorem mf_X0_11 : u_lay RX0 TX0 11 ∈ lw_tbl := List.mem_append_right _ (List.mem_append_left _ (List.mem_of_getElem? (i := 107) rfl))
set_option maxRecDepth 100000 in
theorem mf_X0_12 : u_lay RX0 TX0 12 ∈ lw_tbl := List.mem_append_right _ (List.mem_append_left _ (List.mem_of_getElem? (i := 109) rfl))
set_option maxRecDepth 100000 in
theorem inX0 : ∀ w ∈ wsX00, w ∈ lw_tbl := by
  intro w hw
  obtain ⟨k, hk, rfl⟩ := List.mem_map.mp hw
  have hk := List.mem_range.mp hk
  rcases (show k = 0 ∨ k = 1 ∨ k = 2 ∨ k = 3 ∨ k = 4 ∨ k = 5 ∨ k = 6 ∨ k = 7 ∨ k = 8 ∨ k = 9 ∨ k = 10 ∨ k = 11 ∨ k = 12 by omega) with rfl | rfl | rfl | rfl | rfl | rfl | rfl | rfl | rfl | rfl | rfl | rfl | rfl
  · exact mf_X0_0
  · exact mf_X0_1
  · exact mf_X0_2
  · exact mf_X0_3
  · exact mf_X0_4
  · exact mf_X0_5
  · exact mf_X0_6
  · exact mf_X0_7
  · exact mf_X0_8
  · exact mf_X0_9
  · exact mf_X0_10
  · exact mf_X0_11
  · exact mf_X0_12
set_option maxRecDepth 100000 in
theorem mf_X1_0 : u_lay RX1 TX1 0 ∈ lw_tbl := List.mem_append_right _ (List.mem_append_left _ (List.mem_of_getElem? (i := 142) rfl))
set_option maxRecDepth 100000 in
theorem mf_X1_1 : u_lay RX1 TX1 1 ∈ lw_tbl := List.mem_append_right _ (List.mem_append_left _ (List.mem_of_getElem? (i := 144) rfl))
set_option maxRecDepth 100000 in
theorem mf_X1_2 : u_lay RX1 TX1 2 ∈ lw_tbl := List.mem_append_right _ (List.mem_append_left _ (List.mem_of_getElem? (i := 146) rfl))
set_option maxRecDepth 100000 in
theorem inX1 : ∀ w ∈ wsX10, w ∈ lw_tbl := by
  intro w hw
  obtain ⟨k, hk, rfl⟩ := List.mem_map.mp hw
  have hk := List.mem_range.mp hk
  rcases (show k = 0 ∨ k = 1 ∨ k = 2 by omega) with rfl | rfl | rfl
  · exact mf_X1_0
  · exact mf_X1_1
  · exact mf_X1_2
set_option maxRecDepth 100000 in
theorem mf_X2_0 : u_lay RX2 TX2 0 ∈ lw_tbl := List.mem_append_right _ (List.mem_append_left _ (List.mem_of_getElem? (i := 205) rfl))
set_option maxRecDepth 100000 in
theorem mf_X2_1 : u_lay RX2 TX2 1 ∈ lw_tbl := List.mem_append_right _ (List.mem_append_left _ (List.mem_of_getElem? (i := 207) rfl))
set_option maxRecDepth 100000 in
theorem mf_X2_2 : u_lay RX2 TX2 2 ∈ lw_tbl := List.mem_append_right _ (List.mem_append_left _ (List.mem_of_getElem? (i := 209) rfl))
set_option maxRecDepth 100000 in
theorem mf_X2_3 : u_lay RX2 TX2 3 ∈ lw_tbl := List.mem_append_right _ (List.mem_append_left _ (List.mem_of_getElem? (i := 211) rfl))
set_option maxRecDepth 100000 in
theorem mf_X2_4 : u_lay RX2 TX2 4 ∈ lw_tbl := List.mem_append_right _ (List.mem_append_left _ (List.mem_of_getElem? (i := 213) rfl))
set_option maxRecDepth 100000 in
theorem mf_X2_5 : u_lay RX2 TX2 5 ∈ lw_tbl := List.mem_append_right _ (List.mem_append_left _ (List.mem_of_getElem? (i := 215) rfl))
set_option maxRecDepth 100000 in
theorem mf_X2_6 : u_lay RX2 TX2 6 ∈ lw_tbl := List.mem_append_right _ (List.mem_append_left _ (List.mem_of_getElem? (i := 217) rfl))
set_option maxRecDepth 100000 in
theorem inX2 : ∀ w ∈ wsX20, w ∈ lw_tbl := by
  intro w hw
  obtain ⟨k, hk, rfl⟩ := List.mem_map.mp hw
  have hk := List.mem_range.mp hk
  rcases (show k = 0 ∨ k = 1 ∨ k = 2 ∨ k = 3 ∨ k = 4 ∨ k = 5 ∨ k = 6 by omega) with rfl | rfl | rfl | rfl | rfl | rfl | rfl
  · exact mf_X2_0
  · exact mf_X2_1
  · exact mf_X2_2
  · exact mf_X2_3
  · exact mf_X2_4
  · exact mf_X2_5
  · exact mf_X2_6
set_option maxRecDepth 100000 in
theorem mf_X3_0 : u_lay RX3 TX3 0 ∈ lw_tbl := List.mem_append_right _ (List.mem_append_left _ (List.mem_of_getElem? (i := 167) rfl))
set_option maxRecDepth 100000 in
theorem mf_X3_1 : u_lay RX3 TX3 1 ∈ lw_tbl := List.mem_append_right _ (List.mem_append_left _ (List.mem_of_getElem? (i := 169) rfl))
set_option maxRecDepth 100000 in
theorem mf_X3_2 : u_lay RX3 TX3 2 ∈ lw_tbl := List.mem_append_right _ (List.mem_append_left _ (List.mem_of_getElem? (i := 171) rfl))
set_option maxRecDepth 100000 in
theorem mf_X3_3 : u_lay RX3 TX3 3 ∈ lw_tbl := List.mem_append_right _ (List.mem_append_left _ (List.mem_of_getElem? (i := 173) rfl))
set_option maxRecDepth 100000 in
theorem mf_X3_4 : u_lay RX3 TX3 4 ∈ lw_tbl := List.mem_append_right _ (List.mem_append_left _ (List.mem_of_getElem? (i := 175) rfl))
set_option maxRecDepth 100000 in
theorem mf_X3_5 : u_lay RX3 TX3 5 ∈ lw_tbl := List.mem_append_right _ (List.mem_append_left _ (List.mem_of_getElem? (i := 177) rfl))
set_option maxRecDepth 100000 in
theorem mf_X3_6 : u_lay RX3 TX3 6 ∈ lw_tbl := List.mem_append_right _ (List.mem_append_left _ (List.mem_of_getElem? (i := 179) rfl))
set_option maxRecDepth 100000 in
theorem mf_X3_7 : u_lay RX3 TX3 7 ∈ lw_tbl := List.mem_append_right _ (List.mem_append_left _ (List.mem_of_getElem? (i := 181) rfl))
set_option maxRecDepth 100000 in
theorem mf_X3_8 : u_lay RX3 TX3 8 ∈ lw_tbl := List.mem_append_right _ (List.mem_append_left _ (List.mem_of_getElem? (i := 183) rfl))
set_option maxRecDepth 100000 in
theorem mf_X3_9 : u_lay RX3 TX3 9 ∈ lw_tbl := List.mem_append_right _ (List.mem_append_left _ (List.mem_of_getElem? (i := 185) rfl))
set_option maxRecDepth 100000 in
theorem mf_X3_10 : u_lay RX3 TX3 10 ∈ lw_tbl := List.mem_append_right _ (List.mem_append_left _ (List.mem_of_getElem? (i := 187) rfl))
set_option maxRecDepth 100000 in
theorem inX3 : ∀ w ∈ wsX30, w ∈ lw_tbl := by
  intro w hw
  obtain ⟨k, hk, rfl⟩ := List.mem_map.mp hw
  have hk := List.mem_range.mp hk
  rcases (show k = 0 ∨ k = 1 ∨ k = 2 ∨ k = 3 ∨ k = 4 ∨ k = 5 ∨ k = 6 ∨ k = 7 ∨ k = 8 ∨ k = 9 ∨ k = 10 by omega) with rfl | rfl | rfl | rfl | rfl | rfl | rfl | rfl | rfl | rfl | rfl
  · exact mf_X3_0
  · exact mf_X3_1
  · exact mf_X3_2
  · exact mf_X3_3
  · exact mf_X3_4
  · exact mf_X3_5
  · exact mf_X3_6
  · exact mf_X3_7
  · exact mf_X3_8
  · exact mf_X3_9
  · exact mf_X3_10
set_option maxRecDepth 100000 in
theorem mf_X4_0 : u_lay RX4 TX4 0 ∈ lw_tbl := List.mem_append_right _ (List.mem_append_left _ (List.mem_of_getElem? (i := 42) rfl))
set_option maxRecDepth 100000 in
theorem mf_X4_1 : u_lay RX4 TX4 1 ∈ lw_tbl := List.mem_append_right _ (List.mem_append_left _ (List.mem_of_getElem? (i := 44) rfl))
set_option maxRecDepth 100000 in
theorem mf_X4_2 : u_lay RX4 TX4 2 ∈ lw_tbl := List.mem_append_right _ (List.mem_append_left _ (List.mem_of_getElem? (i := 46) rfl))
set_option maxRecDepth 100000 in
theorem mf_X4_3 : u_lay RX4 TX4 3 ∈ lw_tbl := List.mem_append_right _ (List.mem_append_left _ (List.mem_of_getElem? (i := 48) rfl))
set_option maxRecDepth 100000 in
theorem inX4 : ∀ w ∈ wsX40, w ∈ lw_tbl := by
  intro w hw
  obtain ⟨k, hk, rfl⟩ := List.mem_map.mp hw
  have hk := List.mem_range.mp hk
  rcases (show k = 0 ∨ k = 1 ∨ k = 2 ∨ k = 3 by omega) with rfl | rfl | rfl | rfl
  · exact mf_X4_0
  · exact mf_X4_1
  · exact mf_X4_2
  · exact mf_X4_3
set_option maxRecDepth 100000 in
theorem mf_X5_0 : u_lay RX5 TX5 0 ∈ lw_tbl := List.mem_append_right _ (List.mem_append_left _ (List.mem_of_getElem? (i := 122) rfl))
set_option maxRecDepth 100000 in
theorem mf_X5_1 : u_lay RX5 TX5 1 ∈ lw_tbl := List.mem_append_right _ (List.mem_append_left _ (List.mem_of_getElem? (i := 124) rfl))
set_option maxRecDepth 100000 in
theorem mf_X5_2 : u_lay RX5 TX5 2 ∈ lw_tbl := List.mem_append_right _ (List.mem_append_left _ (List.mem_of_getElem? (i := 126) rfl))
set_option maxRecDepth 100000 in
theorem mf_X5_3 : u_lay RX5 TX5 3 ∈ lw_tbl := List.mem_append_right _ (List.mem_append_left _ (List.mem_of_getElem? (i := 128) rfl))
set_option maxRecDepth 100000 in
theorem inX5 : ∀ w ∈ wsX50, w ∈ lw_tbl := by
  intro w hw
  obtain ⟨k, hk, rfl⟩ := List.mem_map.mp hw
  have hk := List.mem_range.mp hk
  rcases (show k = 0 ∨ k = 1 ∨ k = 2 ∨ k = 3 by omega) with rfl | rfl | rfl | rfl
  · exact mf_X5_0
  · exact mf_X5_1
  · exact mf_X5_2
  · exact mf_X5_3
set_option maxRecDepth 100000 in
theorem mf_X6_0 : u_lay RX6 TX6 0 ∈ lw_tbl := List.mem_append_right _ (List.mem_append_left _ (List.mem_of_getElem? (i := 228) rfl))
set_option maxRecDepth 100000 in
theorem mf_X6_1 : u_lay RX6 TX6 1 ∈ lw_tbl := List.mem_append_right _ (List.mem_append_left _ (List.mem_of_getElem? (i := 230) rfl))
set_option maxRecDepth 100000 in
theorem mf_X6_2 : u_lay RX6 TX6 2 ∈ lw_tbl := List.mem_append_right _ (List.mem_append_left _ (List.mem_of_getElem? (i := 232) rfl))
set_option maxRecDepth 100000 in
theorem mf_X6_3 : u_lay RX6 TX6 3 ∈ lw_tbl := List.mem_append_right _ (List.mem_append_left _ (List.mem_of_getElem? (i := 234) rfl))
set_option maxRecDepth 100000 in
theorem mf_X6_4 : u_lay RX6 TX6 4 ∈ lw_tbl := List.mem_append_right _ (List.mem_append_left _ (List.mem_of_getElem? (i := 236) rfl))
set_option maxRecDepth 100000 in
theorem mf_X6_5 : u_lay RX6 TX6 5 ∈ lw_tbl := List.mem_append_right _ (List.mem_append_left _ (List.mem_of_getElem? (i := 238) rfl))
set_option maxRecDepth 100000 in
theorem mf_X6_6 : u_lay RX6 TX6 6 ∈ lw_tbl := List.mem_append_right _ (List.mem_append_right _ (List.mem_append_left _ (List.mem_of_getElem? (i := 0) rfl)))
set_option maxRecDepth 100000 in
theorem mf_X6_7 : u_lay RX6 TX6 7 ∈ lw_tbl := List.mem_append_right _ (List.mem_append_right _ (List.mem_append_left _ (List.mem_of_getElem? (i := 2) rfl)))
set_option maxRecDepth 100000 in
theorem inX6 : ∀ w ∈ wsX60, w ∈ lw_tbl := by
  intro w hw
  obtain ⟨k, hk, rfl⟩ := List.mem_map.mp hw
  have hk := List.mem_range.mp hk
  rcases (show k = 0 ∨ k = 1 ∨ k = 2 ∨ k = 3 ∨ k = 4 ∨ k = 5 ∨ k = 6 ∨ k = 7 by omega) with rfl | rfl | rfl | rfl | rfl | rfl | rfl | rfl
  · exact mf_X6_0
  · exact mf_X6_1
  · exact mf_X6_2
  · exact mf_X6_3
  · exact mf_X6_4
  · exact mf_X6_5
  · exact mf_X6_6
  · exact mf_X6_7
set_option maxRecDepth 100000 in
theorem mf_X7_0 : u_lay RX7 TX7 0 ∈ lw_tbl := List.mem_append_right _ (List.mem_append_right _ (List.mem_append_right _ (List.mem_append_right _ (List.mem_append_left _ (List.mem_of_getElem? (i := 106) rfl)))))
set_option maxRecDepth 100000 in
theorem mf_X7_1 : u_lay RX7 TX7 1 ∈ lw_tbl := List.mem_append_right _ (List.mem_append_right _ (List.mem_append_right _ (List.mem_append_right _ (List.mem_append_left _ (List.mem_of_getElem? (i := 108) rfl)))))
set_option maxRecDepth 100000 in
theorem mf_X7_2 : u_lay RX7 TX7 2 ∈ lw_tbl := List.mem_append_right _ (List.mem_append_right _ (List.mem_append_right _ (List.mem_append_right _ (List.mem_append_left _ (List.mem_of_getElem? (i := 110) rfl)))))
set_option maxRecDepth 100000 in
theorem mf_X7_3 : u_lay RX7 TX7 3 ∈ lw_tbl := List.mem_append_right _ (List.mem_append_right _ (List.mem_append_right _ (List.mem_append_right _ (List.mem_append_left _ (List.mem_of_getElem? (i := 112) rfl)))))
set_option maxRecDepth 100000 in
theorem mf_X7_4 : u_lay RX7 TX7 4 ∈ lw_tbl := List.mem_append_right _ (List.mem_append_right _ (List.mem_append_right _ (List.mem_append_right _ (List.mem_append_left _ (List.mem_of_getElem? (i := 114) rfl)))))
set_option maxRecDepth 100000 in
theorem mf_X7_5 : u_lay RX7 TX7 5 ∈ lw_tbl := List.mem_append_right _ (List.mem_append_right _ (List.mem_append_right _ (List.mem_append_right _ (List.mem_append_left _ (List.mem_of_getElem? (i := 116) rfl)))))
set_option maxRecDepth 100000 in
theorem mf_X7_6 : u_lay RX7 TX7 6 ∈ lw_tbl := List.mem_append_right _ (List.mem_append_right _ (List.mem_append_right _ (List.mem_append_right _ (List.mem_append_left _ (List.mem_of_getElem? (i := 118) rfl)))))
set_option maxRecDepth 100000 in
theorem mf_X7_7 : u_lay RX7 TX7 7 ∈ lw_tbl := List.mem_append_right _ (List.mem_append_right _ (List.mem_append_right _ (List.mem_append_right _ (List.mem_append_left _ (List.mem_of_getElem? (i := 120) rfl)))))
set_option maxRecDepth 100000 in
theorem mf_X7_8 : u_lay RX7 TX7 8 ∈ lw_tbl := List.mem_append_right _ (List.mem_append_right _ (List.mem_append_right _ (List.mem_append_right _ (List.mem_append_left _ (List.mem_of_getElem? (i := 122) rfl)))))
set_option maxRecDepth 100000 in
theorem mf_X7_9 : u_lay RX7 TX7 9 ∈ lw_tbl := List.mem_append_right _ (List.mem_append_right _ (List.mem_append_right _ (List.mem_append_right _ (List.mem_append_left _ (List.mem_of_getElem? (i := 124) rfl)))))
set_option maxRecDepth 100000 in
theorem mf_X7_10 : u_lay RX7 TX7 10 ∈ lw_tbl := List.mem_append_right _ (List.mem_append_right _ (List.mem_append_right _ (List.mem_append_right _ (List.mem_append_left _ (List.mem_of_getElem? (i := 126) rfl)))))
set_option maxRecDepth 100000 in
theorem mf_X7_11 : u_lay RX7 TX7 11 ∈ lw_tbl := List.mem_append_right _ (List.mem_append_right _ (List.mem_append_right _ (List.mem_append_right _ (List.mem_append_left _ (List.mem_of_getElem? (i := 128) rfl)))))
set_option maxRecDepth 100000 in
theorem mf_X7_12 : u_lay RX7 TX7 12 ∈ lw_tbl := List.mem_append_right _ (List.mem_append_right _ (List.mem_append_right _ (List.mem_append_right _ (List.mem_append_left _ (List.mem_of_getElem? (i := 130) rfl)))))
set_option maxRecDepth 100000 in
theorem mf_X7_13 : u_lay RX7 TX7 13 ∈ lw_tbl := List.mem_append_right _ (List.mem_append_right _ (List.mem_append_right _ (List.mem_append_right _ (List.mem_append_left _ (List.mem_of_getElem? (i := 132) rfl)))))
set_option maxRecDepth 100000 in
theorem mf_X7_14 : u_lay RX7 TX7 14 ∈ lw_tbl := List.mem_append_right _ (List.mem_append_right _ (List.mem_append_right _ (List.mem_append_right _ (List.mem_append_left _ (List.mem_of_getElem? (i := 134) rfl)))))
set_option maxRecDepth 100000 in
theorem mf_X7_15 : u_lay RX7 TX7 15 ∈ lw_tbl := List.mem_append_right _ (List.mem_append_right _ (List.mem_append_right _ (List.mem_append_right _ (List.mem_append_left _ (List.mem_of_getElem? (i := 136) rfl)))))
set_option maxRecDepth 100000 in
theorem mf_X7_16 : u_lay RX7 TX7 16 ∈ lw_tbl := List.mem_append_right _ (List.mem_append_right _ (List.mem_append_right _ (List.mem_append_right _ (List.mem_append_left _ (List.mem_of_getElem? (i := 138) rfl)))))
set_option maxRecDepth 100000 in
theorem mf_X7_17 : u_lay RX7 TX7 17 ∈ lw_tbl := List.mem_append_right _ (List.mem_append_right _ (List.mem_append_right _ (List.mem_append_right _ (List.mem_append_left _ (List.mem_of_getElem? (i := 140) rfl)))))
set_option maxRecDepth 100000 in
theorem mf_X7_18 : u_lay RX7 TX7 18 ∈ lw_tbl := List.mem_append_right _ (List.mem_append_right _ (List.mem_append_right _ (List.mem_append_right _ (List.mem_append_left _ (List.mem_of_getElem? (i := 142) rfl)))))
set_option maxRecDepth 100000 in
theorem mf_X7_19 : u_lay RX7 TX7 19 ∈ lw_tbl := List.mem_append_right _ (List.mem_append_right _ (List.mem_append_right _ (List.mem_append_right _ (List.mem_append_left _ (List.mem_of_getElem? (i := 144) rfl)))))
set_option maxRecDepth 100000 in
theorem mf_X7_20 : u_lay RX7 TX7 20 ∈ lw_tbl := List.mem_append_right _ (List.mem_append_right _ (List.mem_append_right _ (List.mem_append_right _ (List.mem_append_left _ (List.mem_of_getElem? (i := 146) rfl)))))
set_option maxRecDepth 100000 in
theorem mf_X7_21 : u_lay RX7 TX7 21 ∈ lw_tbl := List.mem_append_right _ (List.mem_append_right _ (List.mem_append_right _ (List.mem_append_right _ (List.mem_append_left _ (List.mem_of_getElem? (i := 148) rfl)))))
set_option maxRecDepth 100000 in
theorem mf_X7_22 : u_lay RX7 TX7 22 ∈ lw_tbl := List.mem_append_right _ (List.mem_append_right _ (List.mem_append_right _ (List.mem_append_right _ (List.mem_append_left _ (List.mem_of_getElem? (i := 150) rfl)))))
set_option maxRecDepth 100000 in
theorem mf_X7_23 : u_lay RX7 TX7 23 ∈ lw_tbl := List.mem_append_right _ (List.mem_append_right _ (List.mem_append_right _ (List.mem_append_right _ (List.mem_append_left _ (List.mem_of_getElem? (i := 152) rfl)))))
set_option maxRecDepth 100000 in
theorem mf_X7_24 : u_lay RX7 TX7 24 ∈ lw_tbl := List.mem_append_right _ (List.mem_append_right _ (List.mem_append_right _ (List.mem_append_right _ (List.mem_append_left _ (List.mem_of_getElem? (i := 154) rfl)))))
set_option maxRecDepth 100000 in
theorem mf_X7_25 : u_lay RX7 TX7 25 ∈ lw_tbl := List.mem_append_right _ (List.mem_append_right _ (List.mem_append_right _ (List.mem_append_right _ (List.mem_append_left _ (List.mem_of_getElem? (i := 156) rfl)))))
set_option maxRecDepth 100000 in
theorem mf_X7_26 : u_lay RX7 TX7 26 ∈ lw_tbl := List.mem_append_right _ (List.mem_append_right _ (List.mem_append_right _ (List.mem_append_right _ (List.mem_append_left _ (List.mem_of_getElem? (i := 158) rfl)))))
set_option maxRecDepth 100000 in
theorem mf_X7_27 : u_lay RX7 TX7 27 ∈ lw_tbl := List.mem_append_right _ (List.mem_append_right _ (List.mem_append_right _ (List.mem_append_right _ (List.mem_append_left _ (List.mem_of_getElem? (i := 160) rfl)))))
set_option maxRecDepth 100000 in
theorem inX7 : ∀ w ∈ wsX70, w ∈ lw_tbl := by
  intro w hw
  obtain ⟨k, hk, rfl⟩ := List.mem_map.mp hw
  have hk := List.mem_range.mp hk
  rcases (show k = 0 ∨ k = 1 ∨ k = 2 ∨ k = 3 ∨ k = 4 ∨ k = 5 ∨ k = 6 ∨ k = 7 ∨ k = 8 ∨ k = 9 ∨ k = 10 ∨ k = 11 ∨ k = 12 ∨ k = 13 ∨ k = 14 ∨ k = 15 ∨ k = 16 ∨ k = 17 ∨ k = 18 ∨ k = 19 ∨ k = 20 ∨ k = 21 ∨ k = 22 ∨ k = 23 ∨ k = 24 ∨ k = 25 ∨ k = 26 ∨ k = 27 by omega) with rfl | rfl | rfl | rfl | rfl | rfl | rfl | rfl | rfl | rfl | rfl | rfl | rfl | rfl | rfl | rfl | rfl | rfl | rfl | rfl | rfl | rfl | rfl | rfl | rfl | rfl | rfl | rfl
  · exact mf_X7_0
  · exact mf_X7_1
  · exact mf_X7_2
  · exact mf_X7_3
  · exact mf_X7_4
  · exact mf_X7_5
  · exact mf_X7_6
  · exact mf_X7_7
  · exact mf_X7_8
  · exact mf_X7_9
  · exact mf_X7_10
  · exact mf_X7_11
  · exact mf_X7_12
  · exact mf_X7_13
  · exact mf_X7_14
  · exact mf_X7_15
  · exact mf_X7_16
  · exact mf_X7_17
  · exact mf_X7_18
  · exact mf_X7_19
  · exact mf_X7_20
  · exact mf_X7_21
  · exact mf_X7_22
  · exact mf_X7_23
  · exact mf_X7_24
  · exact mf_X7_25
  · exact mf_X7_26
  · exact mf_X7_27
set_option maxRecDepth 100000 in
theorem mw_0 : Cond.code yX6_init cX6_init 1 none ∈ lw_tbl := List.mem_append_right _ (List.mem_append_left _ (List.mem_of_getElem? (i := 19) rfl))
set_option maxRecDepth 100000 in
theorem mw_1 : Cond.fieldLink RX6 43 "EmptyBoxes" "matching" "LEmptyBoxes$Matching;" ∈ lw_tbl := List.mem_append_right _ (List.mem_append_left _ (List.mem_of_getElem? (i := 225) rfl))
set_option maxRecDepth 100000 in
theorem mw_2 : Cond.initialized RX2 ∈ lw_tbl := List.mem_append_right _ (List.mem_append_left _ (List.mem_of_getElem? (i := 8) rfl))
set_option maxRecDepth 100000 in
theorem mw_3 : Cond.instantiable RX2 7 ∈ lw_tbl := List.mem_append_right _ (List.mem_append_left _ (List.mem_of_getElem? (i := 191) rfl))
set_option maxRecDepth 100000 in
theorem mw_4 : Cond.classLink RX6 40 RX2 ∈ lw_tbl := List.mem_append_right _ (List.mem_append_left _ (List.mem_of_getElem? (i := 190) rfl))
set_option maxRecDepth 100000 in
theorem mw_5 : Cond.fieldLink RX6 36 "EmptyBoxes" "plan" "LEmptyBoxes$Plan;" ∈ lw_tbl := List.mem_append_right _ (List.mem_append_left _ (List.mem_of_getElem? (i := 224) rfl))
set_option maxRecDepth 100000 in
theorem mw_6 : Cond.initialized RX3 ∈ lw_tbl := List.mem_append_right _ (List.mem_append_left _ (List.mem_of_getElem? (i := 7) rfl))
set_option maxRecDepth 100000 in
theorem mw_7 : Cond.instantiable RX3 11 ∈ lw_tbl := List.mem_append_right _ (List.mem_append_left _ (List.mem_of_getElem? (i := 150) rfl))
set_option maxRecDepth 100000 in
theorem mw_8 : Cond.classLink RX6 33 RX3 ∈ lw_tbl := List.mem_append_right _ (List.mem_append_left _ (List.mem_of_getElem? (i := 149) rfl))
set_option maxRecDepth 100000 in
theorem mw_9 : Cond.fieldLink RX6 29 "EmptyBoxes" "text" "LEmptyBoxes$LeaseText;" ∈ lw_tbl := List.mem_append_right _ (List.mem_append_left _ (List.mem_of_getElem? (i := 223) rfl))
set_option maxRecDepth 100000 in
theorem mw_10 : Cond.initialized RX1 ∈ lw_tbl := List.mem_append_right _ (List.mem_append_left _ (List.mem_of_getElem? (i := 6) rfl))
set_option maxRecDepth 100000 in
theorem mw_11 : Cond.instantiable RX1 3 ∈ lw_tbl := List.mem_append_right _ (List.mem_append_left _ (List.mem_of_getElem? (i := 132) rfl))
set_option maxRecDepth 100000 in
theorem mw_12 : Cond.classLink RX6 26 RX1 ∈ lw_tbl := List.mem_append_right _ (List.mem_append_left _ (List.mem_of_getElem? (i := 131) rfl))
set_option maxRecDepth 100000 in
theorem mw_13 : Cond.fieldLink RX6 22 "EmptyBoxes" "tape" "LEmptyBoxes$Tape;" ∈ lw_tbl := List.mem_append_right _ (List.mem_append_left _ (List.mem_of_getElem? (i := 222) rfl))
set_option maxRecDepth 100000 in
theorem mw_14 : Cond.initialized RX5 ∈ lw_tbl := List.mem_append_right _ (List.mem_append_left _ (List.mem_of_getElem? (i := 5) rfl))
set_option maxRecDepth 100000 in
theorem mw_15 : Cond.instantiable RX5 4 ∈ lw_tbl := List.mem_append_right _ (List.mem_append_left _ (List.mem_of_getElem? (i := 113) rfl))
set_option maxRecDepth 100000 in
theorem mw_16 : Cond.classLink RX6 19 RX5 ∈ lw_tbl := List.mem_append_right _ (List.mem_append_left _ (List.mem_of_getElem? (i := 112) rfl))
set_option maxRecDepth 100000 in
theorem mw_17 : Cond.fieldLink RX6 16 "EmptyBoxes" "kept" "LEmptyBoxes$Desk;" ∈ lw_tbl := List.mem_append_right _ (List.mem_append_left _ (List.mem_of_getElem? (i := 221) rfl))
set_option maxRecDepth 100000 in
theorem mw_18 : Cond.fieldLink RX6 12 "EmptyBoxes" "desk" "LEmptyBoxes$Desk;" ∈ lw_tbl := List.mem_append_right _ (List.mem_append_left _ (List.mem_of_getElem? (i := 220) rfl))
set_option maxRecDepth 100000 in
theorem mw_19 : Cond.initialized RX0 ∈ lw_tbl := List.mem_append_right _ (List.mem_append_left _ (List.mem_of_getElem? (i := 2) rfl))
set_option maxRecDepth 100000 in
theorem mw_20 : Cond.instantiable RX0 13 ∈ lw_tbl := List.mem_append_right _ (List.mem_append_left _ (List.mem_of_getElem? (i := 24) rfl))
set_option maxRecDepth 100000 in
theorem mw_21 : Cond.classLink RX6 9 RX0 ∈ lw_tbl := List.mem_append_right _ (List.mem_append_left _ (List.mem_of_getElem? (i := 23) rfl))
set_option maxRecDepth 100000 in
theorem mw_22 : Cond.code objectInit ⟨#[0xb1]⟩ 1 none ∈ lw_tbl := List.mem_append_right _ (List.mem_append_left _ (List.mem_of_getElem? (i := 22) rfl))
set_option maxRecDepth 100000 in
theorem mw_23 : Cond.instanceMethod objectInit ∈ lw_tbl := List.mem_append_right _ (List.mem_append_left _ (List.mem_of_getElem? (i := 21) rfl))
set_option maxRecDepth 100000 in
theorem mw_24 : Cond.methodLink RX6 3 objectInit ∈ lw_tbl := List.mem_append_right _ (List.mem_append_left _ (List.mem_of_getElem? (i := 20) rfl))
set_option maxRecDepth 100000 in
theorem hmwsX6_init_r1 : ∀ w ∈ wsX6_init_r1, w ∈ lw_tbl := List.forall_mem_cons.mpr ⟨mw_24, List.forall_mem_cons.mpr ⟨mw_23, List.forall_mem_cons.mpr ⟨mw_22, List.forall_mem_cons.mpr ⟨mw_21, List.forall_mem_cons.mpr ⟨mw_20, List.forall_mem_cons.mpr ⟨mw_19, List.forall_mem_cons.mpr ⟨mw_18, List.forall_mem_cons.mpr ⟨mw_17, List.forall_mem_cons.mpr ⟨mw_16, List.forall_mem_cons.mpr ⟨mw_15, List.forall_mem_cons.mpr ⟨mw_14, List.forall_mem_cons.mpr ⟨mw_13, List.forall_mem_cons.mpr ⟨mw_12, List.forall_mem_cons.mpr ⟨mw_11, List.forall_mem_cons.mpr ⟨mw_10, List.forall_mem_cons.mpr ⟨mw_9, List.forall_mem_cons.mpr ⟨mw_8, List.forall_mem_cons.mpr ⟨mw_7, List.forall_mem_cons.mpr ⟨mw_6, List.forall_mem_cons.mpr ⟨mw_5, List.forall_mem_cons.mpr ⟨mw_4, List.forall_mem_cons.mpr ⟨mw_3, List.forall_mem_cons.mpr ⟨mw_2, List.forall_mem_cons.mpr ⟨mw_1, List.forall_mem_nil _⟩⟩⟩⟩⟩⟩⟩⟩⟩⟩⟩⟩⟩⟩⟩⟩⟩⟩⟩⟩⟩⟩⟩⟩
set_option maxRecDepth 100000 in
theorem mw_25 : Cond.instanceMethod yX4_init ∈ lw_tbl := List.mem_append_right _ (List.mem_append_left _ (List.mem_of_getElem? (i := 32) rfl))
set_option maxRecDepth 100000 in
theorem mw_26 : Cond.methodLink RX0 11 yX4_init ∈ lw_tbl := List.mem_append_right _ (List.mem_append_left _ (List.mem_of_getElem? (i := 31) rfl))
set_option maxRecDepth 100000 in
theorem mw_27 : Cond.fieldLink RX0 57 "EmptyBoxes$Desk" "freeDays" "I" ∈ lw_tbl := List.mem_append_right _ (List.mem_append_left _ (List.mem_of_getElem? (i := 83) rfl))
set_option maxRecDepth 100000 in
theorem mw_28 : Cond.fieldLink RX0 54 "EmptyBoxes$Desk" "dayRate" "I" ∈ lw_tbl := List.mem_append_right _ (List.mem_append_left _ (List.mem_of_getElem? (i := 81) rfl))
set_option maxRecDepth 100000 in
theorem mw_29 : Cond.fieldLink RX0 51 "EmptyBoxes$Desk" "lackCost" "I" ∈ lw_tbl := List.mem_append_right _ (List.mem_append_left _ (List.mem_of_getElem? (i := 78) rfl))
set_option maxRecDepth 100000 in
theorem mw_30 : Cond.fieldLink RX0 47 "EmptyBoxes$Desk" "today" "I" ∈ lw_tbl := List.mem_append_right _ (List.mem_append_left _ (List.mem_of_getElem? (i := 76) rfl))
set_option maxRecDepth 100000 in
theorem mw_31 : Cond.fieldLink RX0 41 "EmptyBoxes$Desk" "uses" "LEmptyBoxes$Table;" ∈ lw_tbl := List.mem_append_right _ (List.mem_append_left _ (List.mem_of_getElem? (i := 74) rfl))
set_option maxRecDepth 100000 in
theorem mw_32 : Cond.fieldLink RX0 38 "EmptyBoxes$Desk" "leases" "LEmptyBoxes$Table;" ∈ lw_tbl := List.mem_append_right _ (List.mem_append_left _ (List.mem_of_getElem? (i := 72) rfl))
set_option maxRecDepth 100000 in
theorem mw_33 : Cond.fieldLink RX0 35 "EmptyBoxes$Desk" "leaves" "LEmptyBoxes$Table;" ∈ lw_tbl := List.mem_append_right _ (List.mem_append_left _ (List.mem_of_getElem? (i := 70) rfl))
set_option maxRecDepth 100000 in
theorem mw_34 : Cond.fieldLink RX0 32 "EmptyBoxes$Desk" "wants" "LEmptyBoxes$Table;" ∈ lw_tbl := List.mem_append_right _ (List.mem_append_left _ (List.mem_of_getElem? (i := 68) rfl))
set_option maxRecDepth 100000 in
theorem mw_35 : Cond.fieldLink RX0 29 "EmptyBoxes$Desk" "offers" "LEmptyBoxes$Table;" ∈ lw_tbl := List.mem_append_right _ (List.mem_append_left _ (List.mem_of_getElem? (i := 66) rfl))
set_option maxRecDepth 100000 in
theorem mw_36 : Cond.fieldLink RX0 26 "EmptyBoxes$Desk" "routes" "LEmptyBoxes$Table;" ∈ lw_tbl := List.mem_append_right _ (List.mem_append_left _ (List.mem_of_getElem? (i := 63) rfl))
set_option maxRecDepth 100000 in
theorem mw_37 : Cond.fieldLink RX0 23 "EmptyBoxes$Desk" "weeks" "LEmptyBoxes$Table;" ∈ lw_tbl := List.mem_append_right _ (List.mem_append_left _ (List.mem_of_getElem? (i := 60) rfl))
set_option maxRecDepth 100000 in
theorem mw_38 : Cond.fieldLink RX0 20 "EmptyBoxes$Desk" "words" "LEmptyBoxes$Table;" ∈ lw_tbl := List.mem_append_right _ (List.mem_append_left _ (List.mem_of_getElem? (i := 58) rfl))
set_option maxRecDepth 100000 in
theorem mw_39 : Cond.fieldLink RX0 14 "EmptyBoxes$Desk" "boxes" "LEmptyBoxes$Table;" ∈ lw_tbl := List.mem_append_right _ (List.mem_append_left _ (List.mem_of_getElem? (i := 56) rfl))
set_option maxRecDepth 100000 in
theorem mw_40 : Cond.initialized RX4 ∈ lw_tbl := List.mem_append_right _ (List.mem_append_left _ (List.mem_of_getElem? (i := 3) rfl))
set_option maxRecDepth 100000 in
theorem mw_41 : Cond.instantiable RX4 4 ∈ lw_tbl := List.mem_append_right _ (List.mem_append_left _ (List.mem_of_getElem? (i := 30) rfl))
set_option maxRecDepth 100000 in
theorem mw_42 : Cond.classLink RX0 9 RX4 ∈ lw_tbl := List.mem_append_right _ (List.mem_append_left _ (List.mem_of_getElem? (i := 29) rfl))
set_option maxRecDepth 100000 in
theorem mw_43 : Cond.methodLink RX0 3 objectInit ∈ lw_tbl := List.mem_append_right _ (List.mem_append_left _ (List.mem_of_getElem? (i := 28) rfl))
set_option maxRecDepth 100000 in
theorem mw_44 : Cond.code yX0_init cX0_init 1 none ∈ lw_tbl := List.mem_append_right _ (List.mem_append_left _ (List.mem_of_getElem? (i := 27) rfl))
set_option maxRecDepth 100000 in
theorem mw_45 : Cond.instanceMethod yX0_init ∈ lw_tbl := List.mem_append_right _ (List.mem_append_left _ (List.mem_of_getElem? (i := 26) rfl))
set_option maxRecDepth 100000 in
theorem mw_46 : Cond.methodLink RX6 11 yX0_init ∈ lw_tbl := List.mem_append_right _ (List.mem_append_left _ (List.mem_of_getElem? (i := 25) rfl))
set_option maxRecDepth 100000 in
theorem mw_47 : Cond.fieldLink RX6 51 "EmptyBoxes" "planStands" "Z" ∈ lw_tbl := List.mem_append_right _ (List.mem_append_left _ (List.mem_of_getElem? (i := 227) rfl))
set_option maxRecDepth 100000 in
theorem mw_48 : Cond.fieldLink RX6 47 "EmptyBoxes" "isKept" "Z" ∈ lw_tbl := List.mem_append_right _ (List.mem_append_left _ (List.mem_of_getElem? (i := 226) rfl))
set_option maxRecDepth 100000 in
theorem hmwsX6_init_r2 : ∀ w ∈ wsX6_init_r2, w ∈ lw_tbl := List.forall_mem_cons.mpr ⟨mw_48, List.forall_mem_cons.mpr ⟨mw_47, List.forall_mem_cons.mpr ⟨mw_46, List.forall_mem_cons.mpr ⟨mw_45, List.forall_mem_cons.mpr ⟨mw_44, List.forall_mem_cons.mpr ⟨mw_43, List.forall_mem_cons.mpr ⟨mw_42, List.forall_mem_cons.mpr ⟨mw_41, List.forall_mem_cons.mpr ⟨mw_40, List.forall_mem_cons.mpr ⟨mw_39, List.forall_mem_cons.mpr ⟨mw_38, List.forall_mem_cons.mpr ⟨mw_37, List.forall_mem_cons.mpr ⟨mw_36, List.forall_mem_cons.mpr ⟨mw_35, List.forall_mem_cons.mpr ⟨mw_34, List.forall_mem_cons.mpr ⟨mw_33, List.forall_mem_cons.mpr ⟨mw_32, List.forall_mem_cons.mpr ⟨mw_31, List.forall_mem_cons.mpr ⟨mw_30, List.forall_mem_cons.mpr ⟨mw_29, List.forall_mem_cons.mpr ⟨mw_28, List.forall_mem_cons.mpr ⟨mw_27, List.forall_mem_cons.mpr ⟨mw_26, List.forall_mem_cons.mpr ⟨mw_25, List.forall_mem_nil _⟩⟩⟩⟩⟩⟩⟩⟩⟩⟩⟩⟩⟩⟩⟩⟩⟩⟩⟩⟩⟩⟩⟩⟩
set_option maxRecDepth 100000 in
theorem mw_49 : Cond.instanceMethod yX3_init ∈ lw_tbl := List.mem_append_right _ (List.mem_append_left _ (List.mem_of_getElem? (i := 152) rfl))
set_option maxRecDepth 100000 in
theorem mw_50 : Cond.fieldLink RX1 9 "EmptyBoxes$LeaseText" "told" "[I" ∈ lw_tbl := List.mem_append_right _ (List.mem_append_left _ (List.mem_of_getElem? (i := 137) rfl))
set_option maxRecDepth 100000 in
theorem mw_51 : Cond.methodLink RX1 3 objectInit ∈ lw_tbl := List.mem_append_right _ (List.mem_append_left _ (List.mem_of_getElem? (i := 136) rfl))
set_option maxRecDepth 100000 in
theorem mw_52 : Cond.code yX1_init cX1_init 1 none ∈ lw_tbl := List.mem_append_right _ (List.mem_append_left _ (List.mem_of_getElem? (i := 135) rfl))
set_option maxRecDepth 100000 in
theorem mw_53 : Cond.instanceMethod yX1_init ∈ lw_tbl := List.mem_append_right _ (List.mem_append_left _ (List.mem_of_getElem? (i := 134) rfl))
set_option maxRecDepth 100000 in
theorem mw_54 : Cond.fieldLink RX5 9 "EmptyBoxes$Tape" "bytes" "[I" ∈ lw_tbl := List.mem_append_right _ (List.mem_append_left _ (List.mem_of_getElem? (i := 118) rfl))
set_option maxRecDepth 100000 in
theorem mw_55 : Cond.methodLink RX5 3 objectInit ∈ lw_tbl := List.mem_append_right _ (List.mem_append_left _ (List.mem_of_getElem? (i := 117) rfl))
set_option maxRecDepth 100000 in
theorem mw_56 : Cond.code yX5_init cX5_init 1 none ∈ lw_tbl := List.mem_append_right _ (List.mem_append_left _ (List.mem_of_getElem? (i := 116) rfl))
set_option maxRecDepth 100000 in
theorem mw_57 : Cond.instanceMethod yX5_init ∈ lw_tbl := List.mem_append_right _ (List.mem_append_left _ (List.mem_of_getElem? (i := 115) rfl))
set_option maxRecDepth 100000 in
theorem mw_58 : Cond.code yX4_growToMost cX4_growToMost 1 none ∈ lw_tbl := List.mem_append_right _ (List.mem_append_left _ (List.mem_of_getElem? (i := 55) rfl))
set_option maxRecDepth 100000 in
theorem mw_59 : Cond.selects RX4 yX4_growToMost yX4_growToMost ∈ lw_tbl := List.mem_append_right _ (List.mem_append_left _ (List.mem_of_getElem? (i := 54) rfl))
set_option maxRecDepth 100000 in
theorem mw_60 : Cond.instanceMethod yX4_growToMost ∈ lw_tbl := List.mem_append_right _ (List.mem_append_left _ (List.mem_of_getElem? (i := 53) rfl))
set_option maxRecDepth 100000 in
theorem mw_61 : Cond.methodLink RX0 44 yX4_growToMost ∈ lw_tbl := List.mem_append_right _ (List.mem_append_left _ (List.mem_of_getElem? (i := 52) rfl))
set_option maxRecDepth 100000 in
theorem mw_62 : Cond.fieldLink RX4 28 "EmptyBoxes$Table" "rows" "I" ∈ lw_tbl := List.mem_append_right _ (List.mem_append_left _ (List.mem_of_getElem? (i := 41) rfl))
set_option maxRecDepth 100000 in
theorem mw_63 : Cond.fieldLink RX4 24 "EmptyBoxes$Table" "cells" "[I" ∈ lw_tbl := List.mem_append_right _ (List.mem_append_left _ (List.mem_of_getElem? (i := 38) rfl))
set_option maxRecDepth 100000 in
theorem mw_64 : Cond.arrayClass .int ∈ lw_tbl := List.mem_append_right _ (List.mem_append_left _ (List.mem_of_getElem? (i := 51) rfl))
set_option maxRecDepth 100000 in
theorem mw_65 : Cond.fieldLink RX4 21 "EmptyBoxes$Table" "columns" "I" ∈ lw_tbl := List.mem_append_right _ (List.mem_append_left _ (List.mem_of_getElem? (i := 39) rfl))
set_option maxRecDepth 100000 in
theorem mw_66 : Cond.fieldLink RX4 15 "EmptyBoxes$Table" "most" "I" ∈ lw_tbl := List.mem_append_right _ (List.mem_append_left _ (List.mem_of_getElem? (i := 40) rfl))
set_option maxRecDepth 100000 in
theorem mw_67 : Cond.code Lib.Math.max.name Lib.Math.max.code 2 (some .int) ∈ lw_tbl := List.mem_append_right _ (List.mem_append_left _ (List.mem_of_getElem? (i := 37) rfl))
set_option maxRecDepth 100000 in
theorem mw_68 : Cond.initialized "java/lang/Math" ∈ lw_tbl := List.mem_append_right _ (List.mem_append_left _ (List.mem_of_getElem? (i := 4) rfl))
set_option maxRecDepth 100000 in
theorem mw_69 : Cond.static Lib.Math.max.name ∈ lw_tbl := List.mem_append_right _ (List.mem_append_left _ (List.mem_of_getElem? (i := 36) rfl))
set_option maxRecDepth 100000 in
theorem mw_70 : Cond.methodLink RX4 9 Lib.Math.max.name ∈ lw_tbl := List.mem_append_right _ (List.mem_append_left _ (List.mem_of_getElem? (i := 35) rfl))
set_option maxRecDepth 100000 in
theorem mw_71 : Cond.methodLink RX4 3 objectInit ∈ lw_tbl := List.mem_append_right _ (List.mem_append_left _ (List.mem_of_getElem? (i := 34) rfl))
set_option maxRecDepth 100000 in
theorem mw_72 : Cond.code yX4_init cX4_init 3 none ∈ lw_tbl := List.mem_append_right _ (List.mem_append_left _ (List.mem_of_getElem? (i := 33) rfl))
set_option maxRecDepth 100000 in
theorem hmwsX6_init_r3 : ∀ w ∈ wsX6_init_r3, w ∈ lw_tbl := List.forall_mem_cons.mpr ⟨mw_72, List.forall_mem_cons.mpr ⟨mw_71, List.forall_mem_cons.mpr ⟨mw_70, List.forall_mem_cons.mpr ⟨mw_69, List.forall_mem_cons.mpr ⟨mw_68, List.forall_mem_cons.mpr ⟨mw_67, List.forall_mem_cons.mpr ⟨mw_66, List.forall_mem_cons.mpr ⟨mw_65, List.forall_mem_cons.mpr ⟨mw_64, List.forall_mem_cons.mpr ⟨mw_63, List.forall_mem_cons.mpr ⟨mw_62, List.forall_mem_cons.mpr ⟨mw_61, List.forall_mem_cons.mpr ⟨mw_60, List.forall_mem_cons.mpr ⟨mw_59, List.forall_mem_cons.mpr ⟨mw_58, List.forall_mem_cons.mpr ⟨mw_57, List.forall_mem_cons.mpr ⟨mw_56, List.forall_mem_cons.mpr ⟨mw_55, List.forall_mem_cons.mpr ⟨mw_54, List.forall_mem_cons.mpr ⟨mw_53, List.forall_mem_cons.mpr ⟨mw_52, List.forall_mem_cons.mpr ⟨mw_51, List.forall_mem_cons.mpr ⟨mw_50, List.forall_mem_cons.mpr ⟨mw_49, List.forall_mem_nil _⟩⟩⟩⟩⟩⟩⟩⟩⟩⟩⟩⟩⟩⟩⟩⟩⟩⟩⟩⟩⟩⟩⟩⟩
set_option maxRecDepth 100000 in
theorem mw_73 : Cond.fieldLink RX2 18 "EmptyBoxes$Matching" "given" "[I" ∈ lw_tbl := List.mem_append_right _ (List.mem_append_left _ (List.mem_of_getElem? (i := 198) rfl))
set_option maxRecDepth 100000 in
theorem mw_74 : Cond.fieldLink RX2 15 "EmptyBoxes$Matching" "best" "[I" ∈ lw_tbl := List.mem_append_right _ (List.mem_append_left _ (List.mem_of_getElem? (i := 197) rfl))
set_option maxRecDepth 100000 in
theorem mw_75 : Cond.fieldLink RX2 9 "EmptyBoxes$Matching" "score" "[I" ∈ lw_tbl := List.mem_append_right _ (List.mem_append_left _ (List.mem_of_getElem? (i := 196) rfl))
set_option maxRecDepth 100000 in
theorem mw_76 : Cond.methodLink RX2 3 objectInit ∈ lw_tbl := List.mem_append_right _ (List.mem_append_left _ (List.mem_of_getElem? (i := 195) rfl))
set_option maxRecDepth 100000 in
theorem mw_77 : Cond.code yX2_init cX2_init 1 none ∈ lw_tbl := List.mem_append_right _ (List.mem_append_left _ (List.mem_of_getElem? (i := 194) rfl))
set_option maxRecDepth 100000 in
theorem mw_78 : Cond.instanceMethod yX2_init ∈ lw_tbl := List.mem_append_right _ (List.mem_append_left _ (List.mem_of_getElem? (i := 193) rfl))
set_option maxRecDepth 100000 in
theorem mw_79 : Cond.fieldLink RX3 33 "EmptyBoxes$Plan" "way" "[I" ∈ lw_tbl := List.mem_append_right _ (List.mem_append_left _ (List.mem_of_getElem? (i := 162) rfl))
set_option maxRecDepth 100000 in
theorem mw_80 : Cond.fieldLink RX3 30 "EmptyBoxes$Plan" "gain" "[I" ∈ lw_tbl := List.mem_append_right _ (List.mem_append_left _ (List.mem_of_getElem? (i := 161) rfl))
set_option maxRecDepth 100000 in
theorem mw_81 : Cond.fieldLink RX3 27 "EmptyBoxes$Plan" "unmet" "[I" ∈ lw_tbl := List.mem_append_right _ (List.mem_append_left _ (List.mem_of_getElem? (i := 160) rfl))
set_option maxRecDepth 100000 in
theorem mw_82 : Cond.fieldLink RX3 24 "EmptyBoxes$Plan" "idle" "[I" ∈ lw_tbl := List.mem_append_right _ (List.mem_append_left _ (List.mem_of_getElem? (i := 159) rfl))
set_option maxRecDepth 100000 in
theorem mw_83 : Cond.fieldLink RX3 21 "EmptyBoxes$Plan" "room" "[I" ∈ lw_tbl := List.mem_append_right _ (List.mem_append_left _ (List.mem_of_getElem? (i := 158) rfl))
set_option maxRecDepth 100000 in
theorem mw_84 : Cond.fieldLink RX3 18 "EmptyBoxes$Plan" "cost" "[I" ∈ lw_tbl := List.mem_append_right _ (List.mem_append_left _ (List.mem_of_getElem? (i := 157) rfl))
set_option maxRecDepth 100000 in
theorem mw_85 : Cond.fieldLink RX3 15 "EmptyBoxes$Plan" "end" "[I" ∈ lw_tbl := List.mem_append_right _ (List.mem_append_left _ (List.mem_of_getElem? (i := 156) rfl))
set_option maxRecDepth 100000 in
theorem mw_86 : Cond.fieldLink RX3 11 "EmptyBoxes$Plan" "start" "[I" ∈ lw_tbl := List.mem_append_right _ (List.mem_append_left _ (List.mem_of_getElem? (i := 155) rfl))
set_option maxRecDepth 100000 in
theorem mw_87 : Cond.methodLink RX3 5 objectInit ∈ lw_tbl := List.mem_append_right _ (List.mem_append_left _ (List.mem_of_getElem? (i := 154) rfl))
set_option maxRecDepth 100000 in
theorem mw_88 : Cond.code yX3_init cX3_init 1 none ∈ lw_tbl := List.mem_append_right _ (List.mem_append_left _ (List.mem_of_getElem? (i := 153) rfl))
set_option maxRecDepth 100000 in
theorem hmwsX6_init_r4 : ∀ w ∈ wsX6_init_r4, w ∈ lw_tbl := List.forall_mem_cons.mpr ⟨mw_88, List.forall_mem_cons.mpr ⟨mw_87, List.forall_mem_cons.mpr ⟨mw_86, List.forall_mem_cons.mpr ⟨mw_85, List.forall_mem_cons.mpr ⟨mw_84, List.forall_mem_cons.mpr ⟨mw_83, List.forall_mem_cons.mpr ⟨mw_82, List.forall_mem_cons.mpr ⟨mw_81, List.forall_mem_cons.mpr ⟨mw_80, List.forall_mem_cons.mpr ⟨mw_79, List.forall_mem_cons.mpr ⟨mw_78, List.forall_mem_cons.mpr ⟨mw_77, List.forall_mem_cons.mpr ⟨mw_76, List.forall_mem_cons.mpr ⟨mw_75, List.forall_mem_cons.mpr ⟨mw_74, List.forall_mem_cons.mpr ⟨mw_73, List.forall_mem_nil _⟩⟩⟩⟩⟩⟩⟩⟩⟩⟩⟩⟩⟩⟩⟩⟩
set_option maxRecDepth 100000 in
theorem hmwsX6_init : ∀ w ∈ wsX6_init, w ∈ lw_tbl := List.forall_mem_cons.mpr ⟨mw_0, List.forall_mem_append.mpr ⟨List.forall_mem_append.mpr ⟨List.forall_mem_append.mpr ⟨List.forall_mem_append.mpr ⟨List.forall_mem_append.mpr ⟨List.forall_mem_append.mpr ⟨List.forall_mem_append.mpr ⟨List.forall_mem_append.mpr ⟨hmwsX6_init_r1, List.forall_mem_append.mpr ⟨hmwsX6_init_r2, List.forall_mem_append.mpr ⟨hmwsX6_init_r3, hmwsX6_init_r4⟩⟩⟩, inX0⟩, inX6⟩, inX5⟩, inX1⟩, inX3⟩, inX2⟩, inX4⟩⟩
set_option maxRecDepth 100000 in
theorem mw_89 : Cond.methodLink RL 9 yX6_init ∈ lw_tbl := List.mem_append_right _ (List.mem_append_left _ (List.mem_of_getElem? (i := 17) rfl))
set_option maxRecDepth 100000 in
theorem mw_90 : Cond.instanceMethod yX6_init ∈ lw_tbl := List.mem_append_right _ (List.mem_append_left _ (List.mem_of_getElem? (i := 18) rfl))
set_option maxRecDepth 100000 in
theorem mw_91 : Cond.initialized RX6 ∈ lw_tbl := List.mem_append_right _ (List.mem_append_left _ (List.mem_of_getElem? (i := 1) rfl))
set_option maxRecDepth 100000 in
theorem glX6_init : GoodIn lw_tbl wsX6_init := goodIn_sub hmwsX6_init (by decide +kernel)
set_option maxRecDepth 100000 in
theorem ckL_X6_init : CkI lw_tbl RL 9 yX6_init wsX6_init cX6_init 1 0 := ⟨_, glX6_init, rfl, mw_91, mw_89, mw_90, rfl, by decide +kernel⟩
set_option maxRecDepth 100000 in
theorem mw_92 : Cond.code yX7_init cX7_init 1 none ∈ lw_tbl := List.mem_append_right _ (List.mem_append_right _ (List.mem_append_right _ (List.mem_append_right _ (List.mem_append_left _ (List.mem_of_getElem? (i := 76) rfl)))))
set_option maxRecDepth 100000 in
theorem mw_93 : Cond.fieldLink RX7 61 "EmptyBoxesModel" "kept" "[I" ∈ lw_tbl := List.mem_append_right _ (List.mem_append_right _ (List.mem_append_right _ (List.mem_append_right _ (List.mem_append_left _ (List.mem_of_getElem? (i := 104) rfl)))))
set_option maxRecDepth 100000 in
theorem mw_94 : Cond.fieldLink RX7 58 "EmptyBoxesModel" "tape" "[I" ∈ lw_tbl := List.mem_append_right _ (List.mem_append_right _ (List.mem_append_right _ (List.mem_append_right _ (List.mem_append_left _ (List.mem_of_getElem? (i := 95) rfl)))))
set_option maxRecDepth 100000 in
theorem mw_95 : Cond.fieldLink RX7 55 "EmptyBoxesModel" "best" "[I" ∈ lw_tbl := List.mem_append_right _ (List.mem_append_right _ (List.mem_append_right _ (List.mem_append_right _ (List.mem_append_left _ (List.mem_of_getElem? (i := 94) rfl)))))
set_option maxRecDepth 100000 in
theorem mw_96 : Cond.fieldLink RX7 52 "EmptyBoxesModel" "by" "[I" ∈ lw_tbl := List.mem_append_right _ (List.mem_append_right _ (List.mem_append_right _ (List.mem_append_right _ (List.mem_append_left _ (List.mem_of_getElem? (i := 93) rfl)))))
set_option maxRecDepth 100000 in
theorem mw_97 : Cond.fieldLink RX7 49 "EmptyBoxesModel" "far" "[I" ∈ lw_tbl := List.mem_append_right _ (List.mem_append_right _ (List.mem_append_right _ (List.mem_append_right _ (List.mem_append_left _ (List.mem_of_getElem? (i := 92) rfl)))))
set_option maxRecDepth 100000 in
theorem mw_98 : Cond.fieldLink RX7 46 "EmptyBoxesModel" "arcCost" "[I" ∈ lw_tbl := List.mem_append_right _ (List.mem_append_right _ (List.mem_append_right _ (List.mem_append_right _ (List.mem_append_left _ (List.mem_of_getElem? (i := 90) rfl)))))
set_option maxRecDepth 100000 in
theorem mw_99 : Cond.fieldLink RX7 43 "EmptyBoxesModel" "arcRoom" "[I" ∈ lw_tbl := List.mem_append_right _ (List.mem_append_right _ (List.mem_append_right _ (List.mem_append_right _ (List.mem_append_left _ (List.mem_of_getElem? (i := 89) rfl)))))
set_option maxRecDepth 100000 in
theorem mw_100 : Cond.fieldLink RX7 40 "EmptyBoxesModel" "arcTo" "[I" ∈ lw_tbl := List.mem_append_right _ (List.mem_append_right _ (List.mem_append_right _ (List.mem_append_right _ (List.mem_append_left _ (List.mem_of_getElem? (i := 88) rfl)))))
set_option maxRecDepth 100000 in
theorem mw_101 : Cond.fieldLink RX7 37 "EmptyBoxesModel" "arcFrom" "[I" ∈ lw_tbl := List.mem_append_right _ (List.mem_append_right _ (List.mem_append_right _ (List.mem_append_right _ (List.mem_append_left _ (List.mem_of_getElem? (i := 87) rfl)))))
set_option maxRecDepth 100000 in
theorem mw_102 : Cond.fieldLink RX7 34 "EmptyBoxesModel" "uses" "[I" ∈ lw_tbl := List.mem_append_right _ (List.mem_append_right _ (List.mem_append_right _ (List.mem_append_right _ (List.mem_append_left _ (List.mem_of_getElem? (i := 86) rfl)))))
set_option maxRecDepth 100000 in
theorem mw_103 : Cond.fieldLink RX7 31 "EmptyBoxesModel" "leases" "[I" ∈ lw_tbl := List.mem_append_right _ (List.mem_append_right _ (List.mem_append_right _ (List.mem_append_right _ (List.mem_append_left _ (List.mem_of_getElem? (i := 85) rfl)))))
set_option maxRecDepth 100000 in
theorem mw_104 : Cond.fieldLink RX7 28 "EmptyBoxesModel" "leave" "[I" ∈ lw_tbl := List.mem_append_right _ (List.mem_append_right _ (List.mem_append_right _ (List.mem_append_right _ (List.mem_append_left _ (List.mem_of_getElem? (i := 84) rfl)))))
set_option maxRecDepth 100000 in
theorem mw_105 : Cond.fieldLink RX7 25 "EmptyBoxesModel" "turns" "[I" ∈ lw_tbl := List.mem_append_right _ (List.mem_append_right _ (List.mem_append_right _ (List.mem_append_right _ (List.mem_append_left _ (List.mem_of_getElem? (i := 83) rfl)))))
set_option maxRecDepth 100000 in
theorem mw_106 : Cond.fieldLink RX7 22 "EmptyBoxesModel" "routes" "[I" ∈ lw_tbl := List.mem_append_right _ (List.mem_append_right _ (List.mem_append_right _ (List.mem_append_right _ (List.mem_append_left _ (List.mem_of_getElem? (i := 82) rfl)))))
set_option maxRecDepth 100000 in
theorem mw_107 : Cond.fieldLink RX7 19 "EmptyBoxesModel" "weeks" "[I" ∈ lw_tbl := List.mem_append_right _ (List.mem_append_right _ (List.mem_append_right _ (List.mem_append_right _ (List.mem_append_left _ (List.mem_of_getElem? (i := 81) rfl)))))
set_option maxRecDepth 100000 in
theorem mw_108 : Cond.fieldLink RX7 16 "EmptyBoxesModel" "words" "[I" ∈ lw_tbl := List.mem_append_right _ (List.mem_append_right _ (List.mem_append_right _ (List.mem_append_right _ (List.mem_append_left _ (List.mem_of_getElem? (i := 80) rfl)))))
set_option maxRecDepth 100000 in
theorem mw_109 : Cond.fieldLink RX7 13 "EmptyBoxesModel" "boxes" "[I" ∈ lw_tbl := List.mem_append_right _ (List.mem_append_right _ (List.mem_append_right _ (List.mem_append_right _ (List.mem_append_left _ (List.mem_of_getElem? (i := 79) rfl)))))
set_option maxRecDepth 100000 in
theorem mw_110 : Cond.fieldLink RX7 7 "EmptyBoxesModel" "numbers" "[I" ∈ lw_tbl := List.mem_append_right _ (List.mem_append_right _ (List.mem_append_right _ (List.mem_append_right _ (List.mem_append_left _ (List.mem_of_getElem? (i := 78) rfl)))))
set_option maxRecDepth 100000 in
theorem mw_111 : Cond.methodLink RX7 1 objectInit ∈ lw_tbl := List.mem_append_right _ (List.mem_append_right _ (List.mem_append_right _ (List.mem_append_right _ (List.mem_append_left _ (List.mem_of_getElem? (i := 77) rfl)))))
set_option maxRecDepth 100000 in
theorem hmwsX7_init : ∀ w ∈ wsX7_init, w ∈ lw_tbl := List.forall_mem_cons.mpr ⟨mw_92, List.forall_mem_append.mpr ⟨List.forall_mem_cons.mpr ⟨mw_111, List.forall_mem_cons.mpr ⟨mw_23, List.forall_mem_cons.mpr ⟨mw_22, List.forall_mem_cons.mpr ⟨mw_64, List.forall_mem_cons.mpr ⟨mw_110, List.forall_mem_cons.mpr ⟨mw_109, List.forall_mem_cons.mpr ⟨mw_108, List.forall_mem_cons.mpr ⟨mw_107, List.forall_mem_cons.mpr ⟨mw_106, List.forall_mem_cons.mpr ⟨mw_105, List.forall_mem_cons.mpr ⟨mw_104, List.forall_mem_cons.mpr ⟨mw_103, List.forall_mem_cons.mpr ⟨mw_102, List.forall_mem_cons.mpr ⟨mw_101, List.forall_mem_cons.mpr ⟨mw_100, List.forall_mem_cons.mpr ⟨mw_99, List.forall_mem_cons.mpr ⟨mw_98, List.forall_mem_cons.mpr ⟨mw_97, List.forall_mem_cons.mpr ⟨mw_96, List.forall_mem_cons.mpr ⟨mw_95, List.forall_mem_cons.mpr ⟨mw_94, List.forall_mem_cons.mpr ⟨mw_93, List.forall_mem_nil _⟩⟩⟩⟩⟩⟩⟩⟩⟩⟩⟩⟩⟩⟩⟩⟩⟩⟩⟩⟩⟩⟩, inX7⟩⟩
set_option maxRecDepth 100000 in
theorem mw_112 : Cond.methodLink RL 12 yX7_init ∈ lw_tbl := List.mem_append_right _ (List.mem_append_right _ (List.mem_append_right _ (List.mem_append_right _ (List.mem_append_left _ (List.mem_of_getElem? (i := 74) rfl)))))
set_option maxRecDepth 100000 in
theorem mw_113 : Cond.instanceMethod yX7_init ∈ lw_tbl := List.mem_append_right _ (List.mem_append_right _ (List.mem_append_right _ (List.mem_append_right _ (List.mem_append_left _ (List.mem_of_getElem? (i := 75) rfl)))))
set_option maxRecDepth 100000 in
theorem mw_114 : Cond.initialized RX7 ∈ lw_tbl := List.mem_append_right _ (List.mem_append_left _ (List.mem_of_getElem? (i := 9) rfl))
set_option maxRecDepth 100000 in
theorem glX7_init : GoodIn lw_tbl wsX7_init := goodIn_sub hmwsX7_init (by decide +kernel)
set_option maxRecDepth 100000 in
theorem ckL_X7_init : CkI lw_tbl RL 12 yX7_init wsX7_init cX7_init 1 0 := ⟨_, glX7_init, rfl, mw_114, mw_112, mw_113, rfl, by decide +kernel⟩
set_option maxRecDepth 100000 in
theorem mw_115 : Cond.code yX6_days cX6_days 2 (some .int) ∈ lw_tbl := List.mem_append_right _ (List.mem_append_right _ (List.mem_append_left _ (List.mem_of_getElem? (i := 8) rfl)))
set_option maxRecDepth 100000 in
theorem mw_116 : Cond.code yX6_isWithin cX6_isWithin 3 (some .boolean) ∈ lw_tbl := List.mem_append_right _ (List.mem_append_right _ (List.mem_append_left _ (List.mem_of_getElem? (i := 11) rfl)))
set_option maxRecDepth 100000 in
theorem mw_117 : Cond.static yX6_isWithin ∈ lw_tbl := List.mem_append_right _ (List.mem_append_right _ (List.mem_append_left _ (List.mem_of_getElem? (i := 10) rfl)))
set_option maxRecDepth 100000 in
theorem mw_118 : Cond.methodLink RX6 54 yX6_isWithin ∈ lw_tbl := List.mem_append_right _ (List.mem_append_right _ (List.mem_append_left _ (List.mem_of_getElem? (i := 9) rfl)))
set_option maxRecDepth 100000 in
theorem mw_119 : Cond.fieldLink RX6 58 "EmptyBoxes$Desk" "today" "I" ∈ lw_tbl := List.mem_append_right _ (List.mem_append_left _ (List.mem_of_getElem? (i := 77) rfl))
set_option maxRecDepth 100000 in
theorem hmwsX6_days : ∀ w ∈ wsX6_days, w ∈ lw_tbl := List.forall_mem_cons.mpr ⟨mw_115, List.forall_mem_append.mpr ⟨List.forall_mem_append.mpr ⟨List.forall_mem_cons.mpr ⟨mw_18, List.forall_mem_cons.mpr ⟨mw_119, List.forall_mem_cons.mpr ⟨mw_118, List.forall_mem_cons.mpr ⟨mw_117, List.forall_mem_cons.mpr ⟨mw_91, List.forall_mem_cons.mpr ⟨mw_116, List.forall_mem_nil _⟩⟩⟩⟩⟩⟩, inX6⟩, inX0⟩⟩
set_option maxRecDepth 100000 in
theorem mw_120 : Cond.methodLink RL 13 yX6_days ∈ lw_tbl := List.mem_append_right _ (List.mem_append_right _ (List.mem_append_left _ (List.mem_of_getElem? (i := 5) rfl)))
set_option maxRecDepth 100000 in
theorem mw_121 : Cond.instanceMethod yX6_days ∈ lw_tbl := List.mem_append_right _ (List.mem_append_right _ (List.mem_append_left _ (List.mem_of_getElem? (i := 6) rfl)))
set_option maxRecDepth 100000 in
theorem mw_122 : Cond.selects RX6 yX6_days yX6_days ∈ lw_tbl := List.mem_append_right _ (List.mem_append_right _ (List.mem_append_left _ (List.mem_of_getElem? (i := 7) rfl)))
set_option maxRecDepth 100000 in
theorem glX6_days : GoodIn lw_tbl (wsV RL 13 RX6 yX6_days wsX6_days) := goodIn_sub (List.forall_mem_append.mpr ⟨List.forall_mem_cons.mpr ⟨mw_120, List.forall_mem_cons.mpr ⟨mw_121, List.forall_mem_cons.mpr ⟨mw_122, List.forall_mem_cons.mpr ⟨mw_91, List.forall_mem_nil _⟩⟩⟩⟩, hmwsX6_days⟩) (by decide +kernel)
set_option maxRecDepth 100000 in
theorem ckL_X6_days : CkV lw_tbl RL 13 yX6_days wsX6_days cX6_days 2 (some .int) 1 6 := ⟨RX6, TX6, 8, _, rfl, glX6_days, rfl, hdX6_days⟩
set_option maxRecDepth 100000 in
theorem mw_123 : Cond.code yX7_days cX7_days 2 (some .int) ∈ lw_tbl := List.mem_append_right _ (List.mem_append_right _ (List.mem_append_right _ (List.mem_append_right _ (List.mem_append_left _ (List.mem_of_getElem? (i := 166) rfl)))))
set_option maxRecDepth 100000 in
theorem mw_124 : Cond.code yX7_in cX7_in 3 (some .boolean) ∈ lw_tbl := List.mem_append_right _ (List.mem_append_right _ (List.mem_append_right _ (List.mem_append_right _ (List.mem_append_left _ (List.mem_of_getElem? (i := 169) rfl)))))
set_option maxRecDepth 100000 in
theorem mw_125 : Cond.static yX7_in ∈ lw_tbl := List.mem_append_right _ (List.mem_append_right _ (List.mem_append_right _ (List.mem_append_right _ (List.mem_append_left _ (List.mem_of_getElem? (i := 168) rfl)))))
set_option maxRecDepth 100000 in
theorem mw_126 : Cond.methodLink RX7 64 yX7_in ∈ lw_tbl := List.mem_append_right _ (List.mem_append_right _ (List.mem_append_right _ (List.mem_append_right _ (List.mem_append_left _ (List.mem_of_getElem? (i := 167) rfl)))))
set_option maxRecDepth 100000 in
theorem hmwsX7_days : ∀ w ∈ wsX7_days, w ∈ lw_tbl := List.forall_mem_cons.mpr ⟨mw_123, List.forall_mem_append.mpr ⟨List.forall_mem_cons.mpr ⟨mw_110, List.forall_mem_cons.mpr ⟨mw_126, List.forall_mem_cons.mpr ⟨mw_125, List.forall_mem_cons.mpr ⟨mw_114, List.forall_mem_cons.mpr ⟨mw_124, List.forall_mem_nil _⟩⟩⟩⟩⟩, inX7⟩⟩
set_option maxRecDepth 100000 in
theorem mw_127 : Cond.methodLink RL 17 yX7_days ∈ lw_tbl := List.mem_append_right _ (List.mem_append_right _ (List.mem_append_right _ (List.mem_append_right _ (List.mem_append_left _ (List.mem_of_getElem? (i := 163) rfl)))))
set_option maxRecDepth 100000 in
theorem mw_128 : Cond.instanceMethod yX7_days ∈ lw_tbl := List.mem_append_right _ (List.mem_append_right _ (List.mem_append_right _ (List.mem_append_right _ (List.mem_append_left _ (List.mem_of_getElem? (i := 164) rfl)))))
set_option maxRecDepth 100000 in
theorem mw_129 : Cond.selects RX7 yX7_days yX7_days ∈ lw_tbl := List.mem_append_right _ (List.mem_append_right _ (List.mem_append_right _ (List.mem_append_right _ (List.mem_append_left _ (List.mem_of_getElem? (i := 165) rfl)))))
set_option maxRecDepth 100000 in
theorem glX7_days : GoodIn lw_tbl (wsV RL 17 RX7 yX7_days wsX7_days) := goodIn_sub (List.forall_mem_append.mpr ⟨List.forall_mem_cons.mpr ⟨mw_127, List.forall_mem_cons.mpr ⟨mw_128, List.forall_mem_cons.mpr ⟨mw_129, List.forall_mem_cons.mpr ⟨mw_114, List.forall_mem_nil _⟩⟩⟩⟩, hmwsX7_days⟩) (by decide +kernel)
set_option maxRecDepth 100000 in
theorem ckL_X7_days : CkV lw_tbl RL 17 yX7_days wsX7_days cX7_days 2 (some .int) 1 7 := ⟨RX7, TX7, 28, _, rfl, glX7_days, rfl, hdX7_days⟩
set_option maxRecDepth 100000 in
theorem mw_130 : Cond.code yX6_box cX6_box 6 (some .int) ∈ lw_tbl := List.mem_append_right _ (List.mem_append_right _ (List.mem_append_left _ (List.mem_of_getElem? (i := 15) rfl)))
set_option maxRecDepth 100000 in
theorem mw_131 : Cond.methodLink RX6 117 yX4_size ∈ lw_tbl := List.mem_append_right _ (List.mem_append_right _ (List.mem_append_left _ (List.mem_of_getElem? (i := 32) rfl)))
set_option maxRecDepth 100000 in
theorem mw_132 : Cond.code yX6_boxOfMark cX6_boxOfMark 3 (some .int) ∈ lw_tbl := List.mem_append_right _ (List.mem_append_right _ (List.mem_append_left _ (List.mem_of_getElem? (i := 31) rfl)))
set_option maxRecDepth 100000 in
theorem mw_133 : Cond.selects RX6 yX6_boxOfMark yX6_boxOfMark ∈ lw_tbl := List.mem_append_left _ (List.mem_map.mpr ⟨(⟨"EmptyBoxes", "boxOfMark", "(I)I"⟩, 8), List.mem_append_left _ (List.mem_of_getElem? (i := 0) rfl), rfl⟩)
set_option maxRecDepth 100000 in
theorem mw_134 : Cond.instanceMethod yX6_boxOfMark ∈ lw_tbl := List.mem_append_right _ (List.mem_append_right _ (List.mem_append_left _ (List.mem_of_getElem? (i := 30) rfl)))
set_option maxRecDepth 100000 in
theorem mw_135 : Cond.methodLink RX6 75 yX6_boxOfMark ∈ lw_tbl := List.mem_append_right _ (List.mem_append_right _ (List.mem_append_left _ (List.mem_of_getElem? (i := 28) rfl)))
set_option maxRecDepth 100000 in
theorem mw_136 : Cond.code yX6_isLease cX6_isLease 1 (some .boolean) ∈ lw_tbl := List.mem_append_right _ (List.mem_append_right _ (List.mem_append_left _ (List.mem_of_getElem? (i := 27) rfl)))
set_option maxRecDepth 100000 in
theorem mw_137 : Cond.static yX6_isLease ∈ lw_tbl := List.mem_append_right _ (List.mem_append_right _ (List.mem_append_left _ (List.mem_of_getElem? (i := 26) rfl)))
set_option maxRecDepth 100000 in
theorem mw_138 : Cond.methodLink RX6 72 yX6_isLease ∈ lw_tbl := List.mem_append_right _ (List.mem_append_right _ (List.mem_append_left _ (List.mem_of_getElem? (i := 25) rfl)))
set_option maxRecDepth 100000 in
theorem mw_139 : Cond.code yX6_isLine cX6_isLine 1 (some .boolean) ∈ lw_tbl := List.mem_append_right _ (List.mem_append_right _ (List.mem_append_left _ (List.mem_of_getElem? (i := 24) rfl)))
set_option maxRecDepth 100000 in
theorem mw_140 : Cond.static yX6_isLine ∈ lw_tbl := List.mem_append_right _ (List.mem_append_right _ (List.mem_append_left _ (List.mem_of_getElem? (i := 23) rfl)))
set_option maxRecDepth 100000 in
theorem mw_141 : Cond.methodLink RX6 69 yX6_isLine ∈ lw_tbl := List.mem_append_right _ (List.mem_append_right _ (List.mem_append_left _ (List.mem_of_getElem? (i := 22) rfl)))
set_option maxRecDepth 100000 in
theorem mw_142 : Cond.code yX6_isKind cX6_isKind 1 (some .boolean) ∈ lw_tbl := List.mem_append_right _ (List.mem_append_right _ (List.mem_append_left _ (List.mem_of_getElem? (i := 21) rfl)))
set_option maxRecDepth 100000 in
theorem mw_143 : Cond.static yX6_isKind ∈ lw_tbl := List.mem_append_right _ (List.mem_append_right _ (List.mem_append_left _ (List.mem_of_getElem? (i := 20) rfl)))
set_option maxRecDepth 100000 in
theorem mw_144 : Cond.methodLink RX6 66 yX6_isKind ∈ lw_tbl := List.mem_append_right _ (List.mem_append_right _ (List.mem_append_left _ (List.mem_of_getElem? (i := 19) rfl)))
set_option maxRecDepth 100000 in
theorem mw_145 : Cond.code yX6_isMark cX6_isMark 1 (some .boolean) ∈ lw_tbl := List.mem_append_right _ (List.mem_append_right _ (List.mem_append_left _ (List.mem_of_getElem? (i := 18) rfl)))
set_option maxRecDepth 100000 in
theorem mw_146 : Cond.static yX6_isMark ∈ lw_tbl := List.mem_append_right _ (List.mem_append_right _ (List.mem_append_left _ (List.mem_of_getElem? (i := 17) rfl)))
set_option maxRecDepth 100000 in
theorem mw_147 : Cond.methodLink RX6 62 yX6_isMark ∈ lw_tbl := List.mem_append_right _ (List.mem_append_right _ (List.mem_append_left _ (List.mem_of_getElem? (i := 16) rfl)))
set_option maxRecDepth 100000 in
theorem mw_148 : Cond.fieldLink RX6 82 "EmptyBoxes$Desk" "boxes" "LEmptyBoxes$Table;" ∈ lw_tbl := List.mem_append_right _ (List.mem_append_left _ (List.mem_of_getElem? (i := 57) rfl))
set_option maxRecDepth 100000 in
theorem hmwsX6_box_r1 : ∀ w ∈ wsX6_box_r1, w ∈ lw_tbl := List.forall_mem_cons.mpr ⟨mw_18, List.forall_mem_cons.mpr ⟨mw_148, List.forall_mem_cons.mpr ⟨mw_119, List.forall_mem_cons.mpr ⟨mw_147, List.forall_mem_cons.mpr ⟨mw_146, List.forall_mem_cons.mpr ⟨mw_91, List.forall_mem_cons.mpr ⟨mw_145, List.forall_mem_cons.mpr ⟨mw_118, List.forall_mem_cons.mpr ⟨mw_117, List.forall_mem_cons.mpr ⟨mw_116, List.forall_mem_cons.mpr ⟨mw_144, List.forall_mem_cons.mpr ⟨mw_143, List.forall_mem_cons.mpr ⟨mw_142, List.forall_mem_cons.mpr ⟨mw_141, List.forall_mem_cons.mpr ⟨mw_140, List.forall_mem_cons.mpr ⟨mw_139, List.forall_mem_cons.mpr ⟨mw_138, List.forall_mem_cons.mpr ⟨mw_137, List.forall_mem_cons.mpr ⟨mw_136, List.forall_mem_cons.mpr ⟨mw_135, List.forall_mem_cons.mpr ⟨mw_134, List.forall_mem_cons.mpr ⟨mw_133, List.forall_mem_cons.mpr ⟨mw_132, List.forall_mem_cons.mpr ⟨mw_131, List.forall_mem_nil _⟩⟩⟩⟩⟩⟩⟩⟩⟩⟩⟩⟩⟩⟩⟩⟩⟩⟩⟩⟩⟩⟩⟩⟩
set_option maxRecDepth 100000 in
theorem mw_149 : Cond.code yX4_isFull cX4_isFull 1 (some .boolean) ∈ lw_tbl := List.mem_append_right _ (List.mem_append_right _ (List.mem_append_left _ (List.mem_of_getElem? (i := 51) rfl)))
set_option maxRecDepth 100000 in
theorem mw_150 : Cond.selects RX4 yX4_isFull yX4_isFull ∈ lw_tbl := List.mem_append_right _ (List.mem_append_right _ (List.mem_append_left _ (List.mem_of_getElem? (i := 50) rfl)))
set_option maxRecDepth 100000 in
theorem mw_151 : Cond.instanceMethod yX4_isFull ∈ lw_tbl := List.mem_append_right _ (List.mem_append_right _ (List.mem_append_left _ (List.mem_of_getElem? (i := 49) rfl)))
set_option maxRecDepth 100000 in
theorem mw_152 : Cond.methodLink RX6 86 yX4_isFull ∈ lw_tbl := List.mem_append_right _ (List.mem_append_right _ (List.mem_append_left _ (List.mem_of_getElem? (i := 48) rfl)))
set_option maxRecDepth 100000 in
theorem mw_153 : Cond.fieldLink RX6 261 "EmptyBoxes$Desk" "leases" "LEmptyBoxes$Table;" ∈ lw_tbl := List.mem_append_right _ (List.mem_append_left _ (List.mem_of_getElem? (i := 73) rfl))
set_option maxRecDepth 100000 in
theorem mw_154 : Cond.code yX6_wasRead cX6_wasRead 2 (some .boolean) ∈ lw_tbl := List.mem_append_right _ (List.mem_append_right _ (List.mem_append_left _ (List.mem_of_getElem? (i := 47) rfl)))
set_option maxRecDepth 100000 in
theorem mw_155 : Cond.selects RX6 yX6_wasRead yX6_wasRead ∈ lw_tbl := List.mem_append_left _ (List.mem_map.mpr ⟨(⟨"EmptyBoxes", "wasRead", "(I)Z"⟩, 8), List.mem_append_left _ (List.mem_of_getElem? (i := 2) rfl), rfl⟩)
set_option maxRecDepth 100000 in
theorem mw_156 : Cond.instanceMethod yX6_wasRead ∈ lw_tbl := List.mem_append_right _ (List.mem_append_right _ (List.mem_append_left _ (List.mem_of_getElem? (i := 46) rfl)))
set_option maxRecDepth 100000 in
theorem mw_157 : Cond.methodLink RX6 79 yX6_wasRead ∈ lw_tbl := List.mem_append_right _ (List.mem_append_right _ (List.mem_append_left _ (List.mem_of_getElem? (i := 44) rfl)))
set_option maxRecDepth 100000 in
theorem mw_158 : Cond.code yX4_holds cX4_holds 3 (some .boolean) ∈ lw_tbl := List.mem_append_right _ (List.mem_append_right _ (List.mem_append_left _ (List.mem_of_getElem? (i := 43) rfl)))
set_option maxRecDepth 100000 in
theorem mw_159 : Cond.selects RX4 yX4_holds yX4_holds ∈ lw_tbl := List.mem_append_left _ (List.mem_map.mpr ⟨(⟨"EmptyBoxes$Table", "holds", "(II)Z"⟩, 4), List.mem_append_left _ (List.mem_of_getElem? (i := 1) rfl), rfl⟩)
set_option maxRecDepth 100000 in
theorem mw_160 : Cond.instanceMethod yX4_holds ∈ lw_tbl := List.mem_append_right _ (List.mem_append_right _ (List.mem_append_left _ (List.mem_of_getElem? (i := 42) rfl)))
set_option maxRecDepth 100000 in
theorem mw_161 : Cond.methodLink RX4 31 yX4_holds ∈ lw_tbl := List.mem_append_right _ (List.mem_append_right _ (List.mem_append_left _ (List.mem_of_getElem? (i := 40) rfl)))
set_option maxRecDepth 100000 in
theorem mw_162 : Cond.code yX4_cell cX4_cell 3 (some .int) ∈ lw_tbl := List.mem_append_right _ (List.mem_append_right _ (List.mem_append_left _ (List.mem_of_getElem? (i := 39) rfl)))
set_option maxRecDepth 100000 in
theorem mw_163 : Cond.selects RX4 yX4_cell yX4_cell ∈ lw_tbl := List.mem_append_right _ (List.mem_append_right _ (List.mem_append_left _ (List.mem_of_getElem? (i := 38) rfl)))
set_option maxRecDepth 100000 in
theorem mw_164 : Cond.instanceMethod yX4_cell ∈ lw_tbl := List.mem_append_right _ (List.mem_append_right _ (List.mem_append_left _ (List.mem_of_getElem? (i := 37) rfl)))
set_option maxRecDepth 100000 in
theorem mw_165 : Cond.methodLink RX6 113 yX4_cell ∈ lw_tbl := List.mem_append_right _ (List.mem_append_right _ (List.mem_append_left _ (List.mem_of_getElem? (i := 36) rfl)))
set_option maxRecDepth 100000 in
theorem mw_166 : Cond.code yX4_size cX4_size 1 (some .int) ∈ lw_tbl := List.mem_append_right _ (List.mem_append_right _ (List.mem_append_left _ (List.mem_of_getElem? (i := 35) rfl)))
set_option maxRecDepth 100000 in
theorem mw_167 : Cond.selects RX4 yX4_size yX4_size ∈ lw_tbl := List.mem_append_right _ (List.mem_append_right _ (List.mem_append_left _ (List.mem_of_getElem? (i := 34) rfl)))
set_option maxRecDepth 100000 in
theorem mw_168 : Cond.instanceMethod yX4_size ∈ lw_tbl := List.mem_append_right _ (List.mem_append_right _ (List.mem_append_left _ (List.mem_of_getElem? (i := 33) rfl)))
set_option maxRecDepth 100000 in
theorem hmwsX6_box_r2 : ∀ w ∈ wsX6_box_r2, w ∈ lw_tbl := List.forall_mem_cons.mpr ⟨mw_168, List.forall_mem_cons.mpr ⟨mw_167, List.forall_mem_cons.mpr ⟨mw_40, List.forall_mem_cons.mpr ⟨mw_166, List.forall_mem_cons.mpr ⟨mw_62, List.forall_mem_cons.mpr ⟨mw_165, List.forall_mem_cons.mpr ⟨mw_164, List.forall_mem_cons.mpr ⟨mw_163, List.forall_mem_cons.mpr ⟨mw_162, List.forall_mem_cons.mpr ⟨mw_63, List.forall_mem_cons.mpr ⟨mw_65, List.forall_mem_cons.mpr ⟨mw_161, List.forall_mem_cons.mpr ⟨mw_160, List.forall_mem_cons.mpr ⟨mw_159, List.forall_mem_cons.mpr ⟨mw_158, List.forall_mem_cons.mpr ⟨mw_157, List.forall_mem_cons.mpr ⟨mw_156, List.forall_mem_cons.mpr ⟨mw_155, List.forall_mem_cons.mpr ⟨mw_154, List.forall_mem_cons.mpr ⟨mw_153, List.forall_mem_cons.mpr ⟨mw_152, List.forall_mem_cons.mpr ⟨mw_151, List.forall_mem_cons.mpr ⟨mw_150, List.forall_mem_cons.mpr ⟨mw_149, List.forall_mem_nil _⟩⟩⟩⟩⟩⟩⟩⟩⟩⟩⟩⟩⟩⟩⟩⟩⟩⟩⟩⟩⟩⟩⟩⟩
set_option maxRecDepth 100000 in
theorem mw_169 : Cond.code yX4_put cX4_put 4 none ∈ lw_tbl := List.mem_append_right _ (List.mem_append_right _ (List.mem_append_left _ (List.mem_of_getElem? (i := 60) rfl)))
set_option maxRecDepth 100000 in
theorem mw_170 : Cond.selects RX4 yX4_put yX4_put ∈ lw_tbl := List.mem_append_right _ (List.mem_append_right _ (List.mem_append_left _ (List.mem_of_getElem? (i := 59) rfl)))
set_option maxRecDepth 100000 in
theorem mw_171 : Cond.instanceMethod yX4_put ∈ lw_tbl := List.mem_append_right _ (List.mem_append_right _ (List.mem_append_left _ (List.mem_of_getElem? (i := 58) rfl)))
set_option maxRecDepth 100000 in
theorem mw_172 : Cond.methodLink RX6 96 yX4_put ∈ lw_tbl := List.mem_append_right _ (List.mem_append_right _ (List.mem_append_left _ (List.mem_of_getElem? (i := 57) rfl)))
set_option maxRecDepth 100000 in
theorem mw_173 : Cond.methodLink RX4 35 yX4_isFull ∈ lw_tbl := List.mem_append_right _ (List.mem_append_right _ (List.mem_append_left _ (List.mem_of_getElem? (i := 56) rfl)))
set_option maxRecDepth 100000 in
theorem mw_174 : Cond.code yX4_grow cX4_grow 1 (some .int) ∈ lw_tbl := List.mem_append_right _ (List.mem_append_right _ (List.mem_append_left _ (List.mem_of_getElem? (i := 55) rfl)))
set_option maxRecDepth 100000 in
theorem mw_175 : Cond.selects RX4 yX4_grow yX4_grow ∈ lw_tbl := List.mem_append_right _ (List.mem_append_right _ (List.mem_append_left _ (List.mem_of_getElem? (i := 54) rfl)))
set_option maxRecDepth 100000 in
theorem mw_176 : Cond.instanceMethod yX4_grow ∈ lw_tbl := List.mem_append_right _ (List.mem_append_right _ (List.mem_append_left _ (List.mem_of_getElem? (i := 53) rfl)))
set_option maxRecDepth 100000 in
theorem mw_177 : Cond.methodLink RX6 92 yX4_grow ∈ lw_tbl := List.mem_append_right _ (List.mem_append_right _ (List.mem_append_left _ (List.mem_of_getElem? (i := 52) rfl)))
set_option maxRecDepth 100000 in
theorem hmwsX6_box_r3 : ∀ w ∈ wsX6_box_r3, w ∈ lw_tbl := List.forall_mem_cons.mpr ⟨mw_66, List.forall_mem_cons.mpr ⟨mw_177, List.forall_mem_cons.mpr ⟨mw_176, List.forall_mem_cons.mpr ⟨mw_175, List.forall_mem_cons.mpr ⟨mw_174, List.forall_mem_cons.mpr ⟨mw_173, List.forall_mem_cons.mpr ⟨mw_172, List.forall_mem_cons.mpr ⟨mw_171, List.forall_mem_cons.mpr ⟨mw_170, List.forall_mem_cons.mpr ⟨mw_169, List.forall_mem_nil _⟩⟩⟩⟩⟩⟩⟩⟩⟩⟩
set_option maxRecDepth 100000 in
theorem hmwsX6_box : ∀ w ∈ wsX6_box, w ∈ lw_tbl := List.forall_mem_cons.mpr ⟨mw_130, List.forall_mem_append.mpr ⟨List.forall_mem_append.mpr ⟨List.forall_mem_append.mpr ⟨List.forall_mem_append.mpr ⟨hmwsX6_box_r1, List.forall_mem_append.mpr ⟨hmwsX6_box_r2, hmwsX6_box_r3⟩⟩, inX6⟩, inX0⟩, inX4⟩⟩
set_option maxRecDepth 100000 in
theorem mw_178 : Cond.methodLink RL 18 yX6_box ∈ lw_tbl := List.mem_append_right _ (List.mem_append_right _ (List.mem_append_left _ (List.mem_of_getElem? (i := 12) rfl)))
set_option maxRecDepth 100000 in
theorem mw_179 : Cond.instanceMethod yX6_box ∈ lw_tbl := List.mem_append_right _ (List.mem_append_right _ (List.mem_append_left _ (List.mem_of_getElem? (i := 13) rfl)))
set_option maxRecDepth 100000 in
theorem mw_180 : Cond.selects RX6 yX6_box yX6_box ∈ lw_tbl := List.mem_append_right _ (List.mem_append_right _ (List.mem_append_left _ (List.mem_of_getElem? (i := 14) rfl)))
set_option maxRecDepth 100000 in
theorem glX6_box : GoodIn lw_tbl (wsV RL 18 RX6 yX6_box wsX6_box) := goodIn_sub (List.forall_mem_append.mpr ⟨List.forall_mem_cons.mpr ⟨mw_178, List.forall_mem_cons.mpr ⟨mw_179, List.forall_mem_cons.mpr ⟨mw_180, List.forall_mem_cons.mpr ⟨mw_91, List.forall_mem_nil _⟩⟩⟩⟩, hmwsX6_box⟩) (by decide +kernel)
set_option maxRecDepth 100000 in
theorem ckL_X6_box : CkV lw_tbl RL 18 yX6_box wsX6_box cX6_box 6 (some .int) 4 6 := ⟨RX6, TX6, 8, _, rfl, glX6_box, rfl, hdX6_box⟩
set_option maxRecDepth 100000 in
theorem mw_181 : Cond.code yX7_box cX7_box 6 (some .int) ∈ lw_tbl := List.mem_append_right _ (List.mem_append_right _ (List.mem_append_right _ (List.mem_append_right _ (List.mem_append_left _ (List.mem_of_getElem? (i := 173) rfl)))))
set_option maxRecDepth 100000 in
theorem mw_182 : Cond.code yX7_get cX7_get 3 (some .int) ∈ lw_tbl := List.mem_append_right _ (List.mem_append_right _ (List.mem_append_right _ (List.mem_append_right _ (List.mem_append_left _ (List.mem_of_getElem? (i := 184) rfl)))))
set_option maxRecDepth 100000 in
theorem mw_183 : Cond.selects RX7 yX7_get yX7_get ∈ lw_tbl := List.mem_append_left _ (List.mem_map.mpr ⟨(⟨"EmptyBoxesModel", "get", "(II)I"⟩, 28), List.mem_append_right _ (List.mem_append_right _ (List.mem_append_left _ (List.mem_of_getElem? (i := 15) rfl))), rfl⟩)
set_option maxRecDepth 100000 in
theorem mw_184 : Cond.instanceMethod yX7_get ∈ lw_tbl := List.mem_append_right _ (List.mem_append_right _ (List.mem_append_right _ (List.mem_append_right _ (List.mem_append_left _ (List.mem_of_getElem? (i := 183) rfl)))))
set_option maxRecDepth 100000 in
theorem mw_185 : Cond.methodLink RX7 68 yX7_get ∈ lw_tbl := List.mem_append_right _ (List.mem_append_right _ (List.mem_append_right _ (List.mem_append_right _ (List.mem_append_left _ (List.mem_of_getElem? (i := 181) rfl)))))
set_option maxRecDepth 100000 in
theorem mw_186 : Cond.code yX7_boxOf cX7_boxOf 3 (some .int) ∈ lw_tbl := List.mem_append_right _ (List.mem_append_right _ (List.mem_append_right _ (List.mem_append_right _ (List.mem_append_left _ (List.mem_of_getElem? (i := 180) rfl)))))
set_option maxRecDepth 100000 in
theorem mw_187 : Cond.selects RX7 yX7_boxOf yX7_boxOf ∈ lw_tbl := List.mem_append_left _ (List.mem_map.mpr ⟨(⟨"EmptyBoxesModel", "boxOf", "(I)I"⟩, 28), List.mem_append_right _ (List.mem_append_right _ (List.mem_append_left _ (List.mem_of_getElem? (i := 14) rfl))), rfl⟩)
set_option maxRecDepth 100000 in
theorem mw_188 : Cond.instanceMethod yX7_boxOf ∈ lw_tbl := List.mem_append_right _ (List.mem_append_right _ (List.mem_append_right _ (List.mem_append_right _ (List.mem_append_left _ (List.mem_of_getElem? (i := 179) rfl)))))
set_option maxRecDepth 100000 in
theorem mw_189 : Cond.methodLink RX7 76 yX7_boxOf ∈ lw_tbl := List.mem_append_right _ (List.mem_append_right _ (List.mem_append_right _ (List.mem_append_right _ (List.mem_append_left _ (List.mem_of_getElem? (i := 177) rfl)))))
set_option maxRecDepth 100000 in
theorem mw_190 : Cond.code yX7_isLine cX7_isLine 1 (some .boolean) ∈ lw_tbl := List.mem_append_right _ (List.mem_append_right _ (List.mem_append_right _ (List.mem_append_right _ (List.mem_append_left _ (List.mem_of_getElem? (i := 176) rfl)))))
set_option maxRecDepth 100000 in
theorem mw_191 : Cond.static yX7_isLine ∈ lw_tbl := List.mem_append_right _ (List.mem_append_right _ (List.mem_append_right _ (List.mem_append_right _ (List.mem_append_left _ (List.mem_of_getElem? (i := 175) rfl)))))
set_option maxRecDepth 100000 in
theorem mw_192 : Cond.methodLink RX7 72 yX7_isLine ∈ lw_tbl := List.mem_append_right _ (List.mem_append_right _ (List.mem_append_right _ (List.mem_append_right _ (List.mem_append_left _ (List.mem_of_getElem? (i := 174) rfl)))))
set_option maxRecDepth 100000 in
theorem hmwsX7_box : ∀ w ∈ wsX7_box, w ∈ lw_tbl := List.forall_mem_cons.mpr ⟨mw_181, List.forall_mem_append.mpr ⟨List.forall_mem_cons.mpr ⟨mw_103, List.forall_mem_cons.mpr ⟨mw_110, List.forall_mem_cons.mpr ⟨mw_109, List.forall_mem_cons.mpr ⟨mw_126, List.forall_mem_cons.mpr ⟨mw_125, List.forall_mem_cons.mpr ⟨mw_114, List.forall_mem_cons.mpr ⟨mw_124, List.forall_mem_cons.mpr ⟨mw_192, List.forall_mem_cons.mpr ⟨mw_191, List.forall_mem_cons.mpr ⟨mw_190, List.forall_mem_cons.mpr ⟨mw_189, List.forall_mem_cons.mpr ⟨mw_188, List.forall_mem_cons.mpr ⟨mw_187, List.forall_mem_cons.mpr ⟨mw_186, List.forall_mem_cons.mpr ⟨mw_185, List.forall_mem_cons.mpr ⟨mw_184, List.forall_mem_cons.mpr ⟨mw_183, List.forall_mem_cons.mpr ⟨mw_182, List.forall_mem_nil _⟩⟩⟩⟩⟩⟩⟩⟩⟩⟩⟩⟩⟩⟩⟩⟩⟩⟩, inX7⟩⟩
set_option maxRecDepth 100000 in
theorem mw_193 : Cond.methodLink RL 22 yX7_box ∈ lw_tbl := List.mem_append_right _ (List.mem_append_right _ (List.mem_append_right _ (List.mem_append_right _ (List.mem_append_left _ (List.mem_of_getElem? (i := 170) rfl)))))
set_option maxRecDepth 100000 in
theorem mw_194 : Cond.instanceMethod yX7_box ∈ lw_tbl := List.mem_append_right _ (List.mem_append_right _ (List.mem_append_right _ (List.mem_append_right _ (List.mem_append_left _ (List.mem_of_getElem? (i := 171) rfl)))))
set_option maxRecDepth 100000 in
theorem mw_195 : Cond.selects RX7 yX7_box yX7_box ∈ lw_tbl := List.mem_append_right _ (List.mem_append_right _ (List.mem_append_right _ (List.mem_append_right _ (List.mem_append_left _ (List.mem_of_getElem? (i := 172) rfl)))))
set_option maxRecDepth 100000 in
theorem glX7_box : GoodIn lw_tbl (wsV RL 22 RX7 yX7_box wsX7_box) := goodIn_sub (List.forall_mem_append.mpr ⟨List.forall_mem_cons.mpr ⟨mw_193, List.forall_mem_cons.mpr ⟨mw_194, List.forall_mem_cons.mpr ⟨mw_195, List.forall_mem_cons.mpr ⟨mw_114, List.forall_mem_nil _⟩⟩⟩⟩, hmwsX7_box⟩) (by decide +kernel)
set_option maxRecDepth 100000 in
theorem ckL_X7_box : CkV lw_tbl RL 22 yX7_box wsX7_box cX7_box 6 (some .int) 4 7 := ⟨RX7, TX7, 28, _, rfl, glX7_box, rfl, hdX7_box⟩
set_option maxRecDepth 100000 in
theorem mw_196 : Cond.code yX6_check cX6_check 2 (some .int) ∈ lw_tbl := List.mem_append_right _ (List.mem_append_right _ (List.mem_append_left _ (List.mem_of_getElem? (i := 64) rfl)))
set_option maxRecDepth 100000 in
theorem mw_197 : Cond.code yX6_checkDigit cX6_checkDigit 2 (some .int) ∈ lw_tbl := List.mem_append_right _ (List.mem_append_right _ (List.mem_append_left _ (List.mem_of_getElem? (i := 67) rfl)))
set_option maxRecDepth 100000 in
theorem mw_198 : Cond.static yX6_checkDigit ∈ lw_tbl := List.mem_append_right _ (List.mem_append_right _ (List.mem_append_left _ (List.mem_of_getElem? (i := 66) rfl)))
set_option maxRecDepth 100000 in
theorem mw_199 : Cond.methodLink RX6 100 yX6_checkDigit ∈ lw_tbl := List.mem_append_right _ (List.mem_append_right _ (List.mem_append_left _ (List.mem_of_getElem? (i := 65) rfl)))
set_option maxRecDepth 100000 in
theorem hmwsX6_check : ∀ w ∈ wsX6_check, w ∈ lw_tbl := List.forall_mem_cons.mpr ⟨mw_196, List.forall_mem_cons.mpr ⟨mw_147, List.forall_mem_cons.mpr ⟨mw_146, List.forall_mem_cons.mpr ⟨mw_91, List.forall_mem_cons.mpr ⟨mw_145, List.forall_mem_cons.mpr ⟨mw_118, List.forall_mem_cons.mpr ⟨mw_117, List.forall_mem_cons.mpr ⟨mw_116, List.forall_mem_cons.mpr ⟨mw_199, List.forall_mem_cons.mpr ⟨mw_198, List.forall_mem_cons.mpr ⟨mw_197, List.forall_mem_nil _⟩⟩⟩⟩⟩⟩⟩⟩⟩⟩⟩
set_option maxRecDepth 100000 in
theorem mw_200 : Cond.methodLink RL 23 yX6_check ∈ lw_tbl := List.mem_append_right _ (List.mem_append_right _ (List.mem_append_left _ (List.mem_of_getElem? (i := 61) rfl)))
set_option maxRecDepth 100000 in
theorem mw_201 : Cond.instanceMethod yX6_check ∈ lw_tbl := List.mem_append_right _ (List.mem_append_right _ (List.mem_append_left _ (List.mem_of_getElem? (i := 62) rfl)))
set_option maxRecDepth 100000 in
theorem mw_202 : Cond.selects RX6 yX6_check yX6_check ∈ lw_tbl := List.mem_append_right _ (List.mem_append_right _ (List.mem_append_left _ (List.mem_of_getElem? (i := 63) rfl)))
set_option maxRecDepth 100000 in
theorem glX6_check : GoodIn lw_tbl (wsV RL 23 RX6 yX6_check wsX6_check) := goodIn_sub (List.forall_mem_append.mpr ⟨List.forall_mem_cons.mpr ⟨mw_200, List.forall_mem_cons.mpr ⟨mw_201, List.forall_mem_cons.mpr ⟨mw_202, List.forall_mem_cons.mpr ⟨mw_91, List.forall_mem_nil _⟩⟩⟩⟩, hmwsX6_check⟩) (by decide +kernel)
set_option maxRecDepth 100000 in
theorem ckL_X6_check : CkV lw_tbl RL 23 yX6_check wsX6_check cX6_check 2 (some .int) 1 6 := ⟨RX6, TX6, 8, _, rfl, glX6_check, rfl, hdX6_check⟩
set_option maxRecDepth 100000 in
theorem mw_203 : Cond.code yX7_check cX7_check 2 (some .int) ∈ lw_tbl := List.mem_append_right _ (List.mem_append_right _ (List.mem_append_right _ (List.mem_append_right _ (List.mem_append_left _ (List.mem_of_getElem? (i := 188) rfl)))))
set_option maxRecDepth 100000 in
theorem mw_204 : Cond.code yX7_checkOf cX7_checkOf 2 (some .int) ∈ lw_tbl := List.mem_append_right _ (List.mem_append_right _ (List.mem_append_right _ (List.mem_append_right _ (List.mem_append_left _ (List.mem_of_getElem? (i := 191) rfl)))))
set_option maxRecDepth 100000 in
theorem mw_205 : Cond.static yX7_checkOf ∈ lw_tbl := List.mem_append_right _ (List.mem_append_right _ (List.mem_append_right _ (List.mem_append_right _ (List.mem_append_left _ (List.mem_of_getElem? (i := 190) rfl)))))
set_option maxRecDepth 100000 in
theorem mw_206 : Cond.methodLink RX7 80 yX7_checkOf ∈ lw_tbl := List.mem_append_right _ (List.mem_append_right _ (List.mem_append_right _ (List.mem_append_right _ (List.mem_append_left _ (List.mem_of_getElem? (i := 189) rfl)))))
set_option maxRecDepth 100000 in
theorem hmwsX7_check : ∀ w ∈ wsX7_check, w ∈ lw_tbl := List.forall_mem_cons.mpr ⟨mw_203, List.forall_mem_cons.mpr ⟨mw_126, List.forall_mem_cons.mpr ⟨mw_125, List.forall_mem_cons.mpr ⟨mw_114, List.forall_mem_cons.mpr ⟨mw_124, List.forall_mem_cons.mpr ⟨mw_206, List.forall_mem_cons.mpr ⟨mw_205, List.forall_mem_cons.mpr ⟨mw_204, List.forall_mem_nil _⟩⟩⟩⟩⟩⟩⟩⟩
set_option maxRecDepth 100000 in
theorem mw_207 : Cond.methodLink RL 26 yX7_check ∈ lw_tbl := List.mem_append_right _ (List.mem_append_right _ (List.mem_append_right _ (List.mem_append_right _ (List.mem_append_left _ (List.mem_of_getElem? (i := 185) rfl)))))
set_option maxRecDepth 100000 in
theorem mw_208 : Cond.instanceMethod yX7_check ∈ lw_tbl := List.mem_append_right _ (List.mem_append_right _ (List.mem_append_right _ (List.mem_append_right _ (List.mem_append_left _ (List.mem_of_getElem? (i := 186) rfl)))))
set_option maxRecDepth 100000 in
theorem mw_209 : Cond.selects RX7 yX7_check yX7_check ∈ lw_tbl := List.mem_append_right _ (List.mem_append_right _ (List.mem_append_right _ (List.mem_append_right _ (List.mem_append_left _ (List.mem_of_getElem? (i := 187) rfl)))))
set_option maxRecDepth 100000 in
theorem glX7_check : GoodIn lw_tbl (wsV RL 26 RX7 yX7_check wsX7_check) := goodIn_sub (List.forall_mem_append.mpr ⟨List.forall_mem_cons.mpr ⟨mw_207, List.forall_mem_cons.mpr ⟨mw_208, List.forall_mem_cons.mpr ⟨mw_209, List.forall_mem_cons.mpr ⟨mw_114, List.forall_mem_nil _⟩⟩⟩⟩, hmwsX7_check⟩) (by decide +kernel)
set_option maxRecDepth 100000 in
theorem ckL_X7_check : CkV lw_tbl RL 26 yX7_check wsX7_check cX7_check 2 (some .int) 1 7 := ⟨RX7, TX7, 28, _, rfl, glX7_check, rfl, hdX7_check⟩
set_option maxRecDepth 100000 in
theorem mw_210 : Cond.code yX6_find cX6_find 3 (some .int) ∈ lw_tbl := List.mem_append_right _ (List.mem_append_right _ (List.mem_append_left _ (List.mem_of_getElem? (i := 71) rfl)))
set_option maxRecDepth 100000 in
theorem mw_211 : Cond.constant RX6 103 (99999) ∈ lw_tbl := List.mem_append_right _ (List.mem_append_right _ (List.mem_append_left _ (List.mem_of_getElem? (i := 72) rfl)))
set_option maxRecDepth 100000 in
theorem hmwsX6_find_r1 : ∀ w ∈ wsX6_find_r1, w ∈ lw_tbl := List.forall_mem_cons.mpr ⟨mw_211, List.forall_mem_cons.mpr ⟨mw_118, List.forall_mem_cons.mpr ⟨mw_117, List.forall_mem_cons.mpr ⟨mw_91, List.forall_mem_cons.mpr ⟨mw_116, List.forall_mem_cons.mpr ⟨mw_135, List.forall_mem_cons.mpr ⟨mw_134, List.forall_mem_cons.mpr ⟨mw_133, List.forall_mem_cons.mpr ⟨mw_132, List.forall_mem_cons.mpr ⟨mw_18, List.forall_mem_cons.mpr ⟨mw_148, List.forall_mem_cons.mpr ⟨mw_131, List.forall_mem_cons.mpr ⟨mw_168, List.forall_mem_cons.mpr ⟨mw_167, List.forall_mem_cons.mpr ⟨mw_40, List.forall_mem_cons.mpr ⟨mw_166, List.forall_mem_cons.mpr ⟨mw_62, List.forall_mem_cons.mpr ⟨mw_165, List.forall_mem_cons.mpr ⟨mw_164, List.forall_mem_cons.mpr ⟨mw_163, List.forall_mem_cons.mpr ⟨mw_162, List.forall_mem_cons.mpr ⟨mw_63, List.forall_mem_cons.mpr ⟨mw_65, List.forall_mem_cons.mpr ⟨mw_161, List.forall_mem_nil _⟩⟩⟩⟩⟩⟩⟩⟩⟩⟩⟩⟩⟩⟩⟩⟩⟩⟩⟩⟩⟩⟩⟩⟩
set_option maxRecDepth 100000 in
theorem mw_212 : Cond.code yX6_unlikeDigits cX6_unlikeDigits 4 (some .int) ∈ lw_tbl := List.mem_append_right _ (List.mem_append_right _ (List.mem_append_left _ (List.mem_of_getElem? (i := 83) rfl)))
set_option maxRecDepth 100000 in
theorem mw_213 : Cond.static yX6_unlikeDigits ∈ lw_tbl := List.mem_append_right _ (List.mem_append_right _ (List.mem_append_left _ (List.mem_of_getElem? (i := 82) rfl)))
set_option maxRecDepth 100000 in
theorem mw_214 : Cond.methodLink RX6 120 yX6_unlikeDigits ∈ lw_tbl := List.mem_append_right _ (List.mem_append_right _ (List.mem_append_left _ (List.mem_of_getElem? (i := 81) rfl)))
set_option maxRecDepth 100000 in
theorem mw_215 : Cond.code yX6_onlyBoxNear cX6_onlyBoxNear 4 (some .int) ∈ lw_tbl := List.mem_append_right _ (List.mem_append_right _ (List.mem_append_left _ (List.mem_of_getElem? (i := 80) rfl)))
set_option maxRecDepth 100000 in
theorem mw_216 : Cond.selects RX6 yX6_onlyBoxNear yX6_onlyBoxNear ∈ lw_tbl := List.mem_append_left _ (List.mem_map.mpr ⟨(⟨"EmptyBoxes", "onlyBoxNear", "(I)I"⟩, 8), List.mem_append_left _ (List.mem_of_getElem? (i := 4) rfl), rfl⟩)
set_option maxRecDepth 100000 in
theorem mw_217 : Cond.instanceMethod yX6_onlyBoxNear ∈ lw_tbl := List.mem_append_right _ (List.mem_append_right _ (List.mem_append_left _ (List.mem_of_getElem? (i := 79) rfl)))
set_option maxRecDepth 100000 in
theorem mw_218 : Cond.methodLink RX6 107 yX6_onlyBoxNear ∈ lw_tbl := List.mem_append_right _ (List.mem_append_right _ (List.mem_append_left _ (List.mem_of_getElem? (i := 77) rfl)))
set_option maxRecDepth 100000 in
theorem mw_219 : Cond.code yX6_fiveDigits cX6_fiveDigits 3 (some .int) ∈ lw_tbl := List.mem_append_right _ (List.mem_append_right _ (List.mem_append_left _ (List.mem_of_getElem? (i := 76) rfl)))
set_option maxRecDepth 100000 in
theorem mw_220 : Cond.selects RX6 yX6_fiveDigits yX6_fiveDigits ∈ lw_tbl := List.mem_append_left _ (List.mem_map.mpr ⟨(⟨"EmptyBoxes", "fiveDigits", "(I)I"⟩, 8), List.mem_append_left _ (List.mem_of_getElem? (i := 3) rfl), rfl⟩)
set_option maxRecDepth 100000 in
theorem mw_221 : Cond.instanceMethod yX6_fiveDigits ∈ lw_tbl := List.mem_append_right _ (List.mem_append_right _ (List.mem_append_left _ (List.mem_of_getElem? (i := 75) rfl)))
set_option maxRecDepth 100000 in
theorem mw_222 : Cond.methodLink RX6 104 yX6_fiveDigits ∈ lw_tbl := List.mem_append_right _ (List.mem_append_right _ (List.mem_append_left _ (List.mem_of_getElem? (i := 73) rfl)))
set_option maxRecDepth 100000 in
theorem hmwsX6_find_r2 : ∀ w ∈ wsX6_find_r2, w ∈ lw_tbl := List.forall_mem_cons.mpr ⟨mw_160, List.forall_mem_cons.mpr ⟨mw_159, List.forall_mem_cons.mpr ⟨mw_158, List.forall_mem_cons.mpr ⟨mw_222, List.forall_mem_cons.mpr ⟨mw_221, List.forall_mem_cons.mpr ⟨mw_220, List.forall_mem_cons.mpr ⟨mw_219, List.forall_mem_cons.mpr ⟨mw_199, List.forall_mem_cons.mpr ⟨mw_198, List.forall_mem_cons.mpr ⟨mw_197, List.forall_mem_cons.mpr ⟨mw_218, List.forall_mem_cons.mpr ⟨mw_217, List.forall_mem_cons.mpr ⟨mw_216, List.forall_mem_cons.mpr ⟨mw_215, List.forall_mem_cons.mpr ⟨mw_214, List.forall_mem_cons.mpr ⟨mw_213, List.forall_mem_cons.mpr ⟨mw_212, List.forall_mem_nil _⟩⟩⟩⟩⟩⟩⟩⟩⟩⟩⟩⟩⟩⟩⟩⟩⟩
set_option maxRecDepth 100000 in
theorem hmwsX6_find : ∀ w ∈ wsX6_find, w ∈ lw_tbl := List.forall_mem_cons.mpr ⟨mw_210, List.forall_mem_append.mpr ⟨List.forall_mem_append.mpr ⟨List.forall_mem_append.mpr ⟨List.forall_mem_append.mpr ⟨hmwsX6_find_r1, hmwsX6_find_r2⟩, inX6⟩, inX0⟩, inX4⟩⟩
set_option maxRecDepth 100000 in
theorem mw_223 : Cond.methodLink RL 27 yX6_find ∈ lw_tbl := List.mem_append_right _ (List.mem_append_right _ (List.mem_append_left _ (List.mem_of_getElem? (i := 68) rfl)))
set_option maxRecDepth 100000 in
theorem mw_224 : Cond.instanceMethod yX6_find ∈ lw_tbl := List.mem_append_right _ (List.mem_append_right _ (List.mem_append_left _ (List.mem_of_getElem? (i := 69) rfl)))
set_option maxRecDepth 100000 in
theorem mw_225 : Cond.selects RX6 yX6_find yX6_find ∈ lw_tbl := List.mem_append_right _ (List.mem_append_right _ (List.mem_append_left _ (List.mem_of_getElem? (i := 70) rfl)))
set_option maxRecDepth 100000 in
theorem glX6_find : GoodIn lw_tbl (wsV RL 27 RX6 yX6_find wsX6_find) := goodIn_sub (List.forall_mem_append.mpr ⟨List.forall_mem_cons.mpr ⟨mw_223, List.forall_mem_cons.mpr ⟨mw_224, List.forall_mem_cons.mpr ⟨mw_225, List.forall_mem_cons.mpr ⟨mw_91, List.forall_mem_nil _⟩⟩⟩⟩, hmwsX6_find⟩) (by decide +kernel)
set_option maxRecDepth 100000 in
theorem ckL_X6_find : CkV lw_tbl RL 27 yX6_find wsX6_find cX6_find 3 (some .int) 1 6 := ⟨RX6, TX6, 8, _, rfl, glX6_find, rfl, hdX6_find⟩
set_option maxRecDepth 100000 in
theorem mw_226 : Cond.code yX7_find cX7_find 9 (some .int) ∈ lw_tbl := List.mem_append_right _ (List.mem_append_right _ (List.mem_append_right _ (List.mem_append_right _ (List.mem_append_left _ (List.mem_of_getElem? (i := 195) rfl)))))
set_option maxRecDepth 100000 in
theorem mw_227 : Cond.constant RX7 83 (99999) ∈ lw_tbl := List.mem_append_right _ (List.mem_append_right _ (List.mem_append_right _ (List.mem_append_right _ (List.mem_append_left _ (List.mem_of_getElem? (i := 196) rfl)))))
set_option maxRecDepth 100000 in
theorem hmwsX7_find : ∀ w ∈ wsX7_find, w ∈ lw_tbl := List.forall_mem_cons.mpr ⟨mw_226, List.forall_mem_append.mpr ⟨List.forall_mem_cons.mpr ⟨mw_227, List.forall_mem_cons.mpr ⟨mw_110, List.forall_mem_cons.mpr ⟨mw_126, List.forall_mem_cons.mpr ⟨mw_125, List.forall_mem_cons.mpr ⟨mw_114, List.forall_mem_cons.mpr ⟨mw_124, List.forall_mem_cons.mpr ⟨mw_206, List.forall_mem_cons.mpr ⟨mw_205, List.forall_mem_cons.mpr ⟨mw_204, List.forall_mem_cons.mpr ⟨mw_189, List.forall_mem_cons.mpr ⟨mw_188, List.forall_mem_cons.mpr ⟨mw_187, List.forall_mem_cons.mpr ⟨mw_186, List.forall_mem_cons.mpr ⟨mw_185, List.forall_mem_cons.mpr ⟨mw_184, List.forall_mem_cons.mpr ⟨mw_183, List.forall_mem_cons.mpr ⟨mw_182, List.forall_mem_cons.mpr ⟨mw_109, List.forall_mem_nil _⟩⟩⟩⟩⟩⟩⟩⟩⟩⟩⟩⟩⟩⟩⟩⟩⟩⟩, inX7⟩⟩
set_option maxRecDepth 100000 in
theorem mw_228 : Cond.methodLink RL 30 yX7_find ∈ lw_tbl := List.mem_append_right _ (List.mem_append_right _ (List.mem_append_right _ (List.mem_append_right _ (List.mem_append_left _ (List.mem_of_getElem? (i := 192) rfl)))))
set_option maxRecDepth 100000 in
theorem mw_229 : Cond.instanceMethod yX7_find ∈ lw_tbl := List.mem_append_right _ (List.mem_append_right _ (List.mem_append_right _ (List.mem_append_right _ (List.mem_append_left _ (List.mem_of_getElem? (i := 193) rfl)))))
set_option maxRecDepth 100000 in
theorem mw_230 : Cond.selects RX7 yX7_find yX7_find ∈ lw_tbl := List.mem_append_right _ (List.mem_append_right _ (List.mem_append_right _ (List.mem_append_right _ (List.mem_append_left _ (List.mem_of_getElem? (i := 194) rfl)))))
set_option maxRecDepth 100000 in
theorem glX7_find : GoodIn lw_tbl (wsV RL 30 RX7 yX7_find wsX7_find) := goodIn_sub (List.forall_mem_append.mpr ⟨List.forall_mem_cons.mpr ⟨mw_228, List.forall_mem_cons.mpr ⟨mw_229, List.forall_mem_cons.mpr ⟨mw_230, List.forall_mem_cons.mpr ⟨mw_114, List.forall_mem_nil _⟩⟩⟩⟩, hmwsX7_find⟩) (by decide +kernel)
set_option maxRecDepth 100000 in
theorem ckL_X7_find : CkV lw_tbl RL 30 yX7_find wsX7_find cX7_find 9 (some .int) 1 7 := ⟨RX7, TX7, 28, _, rfl, glX7_find, rfl, hdX7_find⟩
set_option maxRecDepth 100000 in
theorem mw_231 : Cond.code yX6_of cX6_of 3 (some .int) ∈ lw_tbl := List.mem_append_right _ (List.mem_append_right _ (List.mem_append_left _ (List.mem_of_getElem? (i := 87) rfl)))
set_option maxRecDepth 100000 in
theorem mw_232 : Cond.code yX4_has cX4_has 2 (some .boolean) ∈ lw_tbl := List.mem_append_right _ (List.mem_append_right _ (List.mem_append_left _ (List.mem_of_getElem? (i := 91) rfl)))
set_option maxRecDepth 100000 in
theorem mw_233 : Cond.selects RX4 yX4_has yX4_has ∈ lw_tbl := List.mem_append_right _ (List.mem_append_right _ (List.mem_append_left _ (List.mem_of_getElem? (i := 90) rfl)))
set_option maxRecDepth 100000 in
theorem mw_234 : Cond.instanceMethod yX4_has ∈ lw_tbl := List.mem_append_right _ (List.mem_append_right _ (List.mem_append_left _ (List.mem_of_getElem? (i := 89) rfl)))
set_option maxRecDepth 100000 in
theorem mw_235 : Cond.methodLink RX6 110 yX4_has ∈ lw_tbl := List.mem_append_right _ (List.mem_append_right _ (List.mem_append_left _ (List.mem_of_getElem? (i := 88) rfl)))
set_option maxRecDepth 100000 in
theorem hmwsX6_of : ∀ w ∈ wsX6_of, w ∈ lw_tbl := List.forall_mem_cons.mpr ⟨mw_231, List.forall_mem_append.mpr ⟨List.forall_mem_append.mpr ⟨List.forall_mem_append.mpr ⟨List.forall_mem_cons.mpr ⟨mw_18, List.forall_mem_cons.mpr ⟨mw_148, List.forall_mem_cons.mpr ⟨mw_235, List.forall_mem_cons.mpr ⟨mw_234, List.forall_mem_cons.mpr ⟨mw_233, List.forall_mem_cons.mpr ⟨mw_40, List.forall_mem_cons.mpr ⟨mw_232, List.forall_mem_cons.mpr ⟨mw_62, List.forall_mem_cons.mpr ⟨mw_118, List.forall_mem_cons.mpr ⟨mw_117, List.forall_mem_cons.mpr ⟨mw_91, List.forall_mem_cons.mpr ⟨mw_116, List.forall_mem_cons.mpr ⟨mw_165, List.forall_mem_cons.mpr ⟨mw_164, List.forall_mem_cons.mpr ⟨mw_163, List.forall_mem_cons.mpr ⟨mw_162, List.forall_mem_cons.mpr ⟨mw_63, List.forall_mem_cons.mpr ⟨mw_65, List.forall_mem_cons.mpr ⟨mw_161, List.forall_mem_cons.mpr ⟨mw_160, List.forall_mem_cons.mpr ⟨mw_159, List.forall_mem_cons.mpr ⟨mw_158, List.forall_mem_nil _⟩⟩⟩⟩⟩⟩⟩⟩⟩⟩⟩⟩⟩⟩⟩⟩⟩⟩⟩⟩⟩⟩, inX6⟩, inX0⟩, inX4⟩⟩
set_option maxRecDepth 100000 in
theorem mw_236 : Cond.methodLink RL 31 yX6_of ∈ lw_tbl := List.mem_append_right _ (List.mem_append_right _ (List.mem_append_left _ (List.mem_of_getElem? (i := 84) rfl)))
set_option maxRecDepth 100000 in
theorem mw_237 : Cond.instanceMethod yX6_of ∈ lw_tbl := List.mem_append_right _ (List.mem_append_right _ (List.mem_append_left _ (List.mem_of_getElem? (i := 85) rfl)))
set_option maxRecDepth 100000 in
theorem mw_238 : Cond.selects RX6 yX6_of yX6_of ∈ lw_tbl := List.mem_append_right _ (List.mem_append_right _ (List.mem_append_left _ (List.mem_of_getElem? (i := 86) rfl)))
set_option maxRecDepth 100000 in
theorem glX6_of : GoodIn lw_tbl (wsV RL 31 RX6 yX6_of wsX6_of) := goodIn_sub (List.forall_mem_append.mpr ⟨List.forall_mem_cons.mpr ⟨mw_236, List.forall_mem_cons.mpr ⟨mw_237, List.forall_mem_cons.mpr ⟨mw_238, List.forall_mem_cons.mpr ⟨mw_91, List.forall_mem_nil _⟩⟩⟩⟩, hmwsX6_of⟩) (by decide +kernel)
set_option maxRecDepth 100000 in
theorem ckL_X6_of : CkV lw_tbl RL 31 yX6_of wsX6_of cX6_of 3 (some .int) 2 6 := ⟨RX6, TX6, 8, _, rfl, glX6_of, rfl, hdX6_of⟩
set_option maxRecDepth 100000 in
theorem mw_239 : Cond.code yX7_of cX7_of 4 (some .int) ∈ lw_tbl := List.mem_append_right _ (List.mem_append_right _ (List.mem_append_right _ (List.mem_append_right _ (List.mem_append_left _ (List.mem_of_getElem? (i := 200) rfl)))))
set_option maxRecDepth 100000 in
theorem mw_240 : Cond.code yX7_isBox cX7_isBox 2 (some .boolean) ∈ lw_tbl := List.mem_append_right _ (List.mem_append_right _ (List.mem_append_right _ (List.mem_append_right _ (List.mem_append_left _ (List.mem_of_getElem? (i := 204) rfl)))))
set_option maxRecDepth 100000 in
theorem mw_241 : Cond.selects RX7 yX7_isBox yX7_isBox ∈ lw_tbl := List.mem_append_left _ (List.mem_map.mpr ⟨(⟨"EmptyBoxesModel", "isBox", "(I)Z"⟩, 28), List.mem_append_right _ (List.mem_append_right _ (List.mem_append_right _ (List.mem_append_left _ (List.mem_of_getElem? (i := 0) rfl)))), rfl⟩)
set_option maxRecDepth 100000 in
theorem mw_242 : Cond.instanceMethod yX7_isBox ∈ lw_tbl := List.mem_append_right _ (List.mem_append_right _ (List.mem_append_right _ (List.mem_append_right _ (List.mem_append_left _ (List.mem_of_getElem? (i := 203) rfl)))))
set_option maxRecDepth 100000 in
theorem mw_243 : Cond.methodLink RX7 84 yX7_isBox ∈ lw_tbl := List.mem_append_right _ (List.mem_append_right _ (List.mem_append_right _ (List.mem_append_right _ (List.mem_append_left _ (List.mem_of_getElem? (i := 201) rfl)))))
set_option maxRecDepth 100000 in
theorem hmwsX7_of : ∀ w ∈ wsX7_of, w ∈ lw_tbl := List.forall_mem_cons.mpr ⟨mw_239, List.forall_mem_append.mpr ⟨List.forall_mem_cons.mpr ⟨mw_243, List.forall_mem_cons.mpr ⟨mw_242, List.forall_mem_cons.mpr ⟨mw_241, List.forall_mem_cons.mpr ⟨mw_114, List.forall_mem_cons.mpr ⟨mw_240, List.forall_mem_cons.mpr ⟨mw_110, List.forall_mem_cons.mpr ⟨mw_126, List.forall_mem_cons.mpr ⟨mw_125, List.forall_mem_cons.mpr ⟨mw_124, List.forall_mem_cons.mpr ⟨mw_185, List.forall_mem_cons.mpr ⟨mw_184, List.forall_mem_cons.mpr ⟨mw_183, List.forall_mem_cons.mpr ⟨mw_182, List.forall_mem_cons.mpr ⟨mw_109, List.forall_mem_nil _⟩⟩⟩⟩⟩⟩⟩⟩⟩⟩⟩⟩⟩⟩, inX7⟩⟩
set_option maxRecDepth 100000 in
theorem mw_244 : Cond.methodLink RL 35 yX7_of ∈ lw_tbl := List.mem_append_right _ (List.mem_append_right _ (List.mem_append_right _ (List.mem_append_right _ (List.mem_append_left _ (List.mem_of_getElem? (i := 197) rfl)))))
set_option maxRecDepth 100000 in
theorem mw_245 : Cond.instanceMethod yX7_of ∈ lw_tbl := List.mem_append_right _ (List.mem_append_right _ (List.mem_append_right _ (List.mem_append_right _ (List.mem_append_left _ (List.mem_of_getElem? (i := 198) rfl)))))
set_option maxRecDepth 100000 in
theorem mw_246 : Cond.selects RX7 yX7_of yX7_of ∈ lw_tbl := List.mem_append_right _ (List.mem_append_right _ (List.mem_append_right _ (List.mem_append_right _ (List.mem_append_left _ (List.mem_of_getElem? (i := 199) rfl)))))
set_option maxRecDepth 100000 in
theorem glX7_of : GoodIn lw_tbl (wsV RL 35 RX7 yX7_of wsX7_of) := goodIn_sub (List.forall_mem_append.mpr ⟨List.forall_mem_cons.mpr ⟨mw_244, List.forall_mem_cons.mpr ⟨mw_245, List.forall_mem_cons.mpr ⟨mw_246, List.forall_mem_cons.mpr ⟨mw_114, List.forall_mem_nil _⟩⟩⟩⟩, hmwsX7_of⟩) (by decide +kernel)
set_option maxRecDepth 100000 in
theorem ckL_X7_of : CkV lw_tbl RL 35 yX7_of wsX7_of cX7_of 4 (some .int) 2 7 := ⟨RX7, TX7, 28, _, rfl, glX7_of, rfl, hdX7_of⟩
set_option maxRecDepth 100000 in
theorem mw_247 : Cond.code yX6_word cX6_word 6 (some .int) ∈ lw_tbl := List.mem_append_right _ (List.mem_append_right _ (List.mem_append_left _ (List.mem_of_getElem? (i := 95) rfl)))
set_option maxRecDepth 100000 in
theorem mw_248 : Cond.selects RX6 yX6_isWithLine yX6_isWithLine ∈ lw_tbl := List.mem_append_left _ (List.mem_map.mpr ⟨(⟨"EmptyBoxes", "isWithLine", "(I)Z"⟩, 8), List.mem_append_left _ (List.mem_of_getElem? (i := 6) rfl), rfl⟩)
set_option maxRecDepth 100000 in
theorem mw_249 : Cond.instanceMethod yX6_isWithLine ∈ lw_tbl := List.mem_append_right _ (List.mem_append_right _ (List.mem_append_left _ (List.mem_of_getElem? (i := 105) rfl)))
set_option maxRecDepth 100000 in
theorem mw_250 : Cond.methodLink RX6 129 yX6_isWithLine ∈ lw_tbl := List.mem_append_right _ (List.mem_append_right _ (List.mem_append_left _ (List.mem_of_getElem? (i := 103) rfl)))
set_option maxRecDepth 100000 in
theorem mw_251 : Cond.code yX6_isPlace cX6_isPlace 1 (some .boolean) ∈ lw_tbl := List.mem_append_right _ (List.mem_append_right _ (List.mem_append_left _ (List.mem_of_getElem? (i := 102) rfl)))
set_option maxRecDepth 100000 in
theorem mw_252 : Cond.static yX6_isPlace ∈ lw_tbl := List.mem_append_right _ (List.mem_append_right _ (List.mem_append_left _ (List.mem_of_getElem? (i := 101) rfl)))
set_option maxRecDepth 100000 in
theorem mw_253 : Cond.methodLink RX6 126 yX6_isPlace ∈ lw_tbl := List.mem_append_right _ (List.mem_append_right _ (List.mem_append_left _ (List.mem_of_getElem? (i := 100) rfl)))
set_option maxRecDepth 100000 in
theorem mw_254 : Cond.code yX6_isPastDay cX6_isPastDay 2 (some .boolean) ∈ lw_tbl := List.mem_append_right _ (List.mem_append_right _ (List.mem_append_left _ (List.mem_of_getElem? (i := 99) rfl)))
set_option maxRecDepth 100000 in
theorem mw_255 : Cond.selects RX6 yX6_isPastDay yX6_isPastDay ∈ lw_tbl := List.mem_append_left _ (List.mem_map.mpr ⟨(⟨"EmptyBoxes", "isPastDay", "(I)Z"⟩, 8), List.mem_append_left _ (List.mem_of_getElem? (i := 5) rfl), rfl⟩)
set_option maxRecDepth 100000 in
theorem mw_256 : Cond.instanceMethod yX6_isPastDay ∈ lw_tbl := List.mem_append_right _ (List.mem_append_right _ (List.mem_append_left _ (List.mem_of_getElem? (i := 98) rfl)))
set_option maxRecDepth 100000 in
theorem mw_257 : Cond.methodLink RX6 123 yX6_isPastDay ∈ lw_tbl := List.mem_append_right _ (List.mem_append_right _ (List.mem_append_left _ (List.mem_of_getElem? (i := 96) rfl)))
set_option maxRecDepth 100000 in
theorem mw_258 : Cond.fieldLink RX6 132 "EmptyBoxes$Desk" "words" "LEmptyBoxes$Table;" ∈ lw_tbl := List.mem_append_right _ (List.mem_append_left _ (List.mem_of_getElem? (i := 59) rfl))
set_option maxRecDepth 100000 in
theorem hmwsX6_word_r1 : ∀ w ∈ wsX6_word_r1, w ∈ lw_tbl := List.forall_mem_cons.mpr ⟨mw_18, List.forall_mem_cons.mpr ⟨mw_148, List.forall_mem_cons.mpr ⟨mw_258, List.forall_mem_cons.mpr ⟨mw_119, List.forall_mem_cons.mpr ⟨mw_235, List.forall_mem_cons.mpr ⟨mw_234, List.forall_mem_cons.mpr ⟨mw_233, List.forall_mem_cons.mpr ⟨mw_40, List.forall_mem_cons.mpr ⟨mw_232, List.forall_mem_cons.mpr ⟨mw_62, List.forall_mem_cons.mpr ⟨mw_257, List.forall_mem_cons.mpr ⟨mw_256, List.forall_mem_cons.mpr ⟨mw_255, List.forall_mem_cons.mpr ⟨mw_91, List.forall_mem_cons.mpr ⟨mw_254, List.forall_mem_cons.mpr ⟨mw_118, List.forall_mem_cons.mpr ⟨mw_117, List.forall_mem_cons.mpr ⟨mw_116, List.forall_mem_cons.mpr ⟨mw_253, List.forall_mem_cons.mpr ⟨mw_252, List.forall_mem_cons.mpr ⟨mw_251, List.forall_mem_cons.mpr ⟨mw_250, List.forall_mem_cons.mpr ⟨mw_249, List.forall_mem_cons.mpr ⟨mw_248, List.forall_mem_nil _⟩⟩⟩⟩⟩⟩⟩⟩⟩⟩⟩⟩⟩⟩⟩⟩⟩⟩⟩⟩⟩⟩⟩⟩
set_option maxRecDepth 100000 in
theorem mw_259 : Cond.code yX6_isWithLine cX6_isWithLine 2 (some .boolean) ∈ lw_tbl := List.mem_append_right _ (List.mem_append_right _ (List.mem_append_left _ (List.mem_of_getElem? (i := 106) rfl)))
set_option maxRecDepth 100000 in
theorem hmwsX6_word_r2 : ∀ w ∈ wsX6_word_r2, w ∈ lw_tbl := List.forall_mem_cons.mpr ⟨mw_259, List.forall_mem_cons.mpr ⟨mw_165, List.forall_mem_cons.mpr ⟨mw_164, List.forall_mem_cons.mpr ⟨mw_163, List.forall_mem_cons.mpr ⟨mw_162, List.forall_mem_cons.mpr ⟨mw_63, List.forall_mem_cons.mpr ⟨mw_65, List.forall_mem_cons.mpr ⟨mw_161, List.forall_mem_cons.mpr ⟨mw_160, List.forall_mem_cons.mpr ⟨mw_159, List.forall_mem_cons.mpr ⟨mw_158, List.forall_mem_cons.mpr ⟨mw_152, List.forall_mem_cons.mpr ⟨mw_151, List.forall_mem_cons.mpr ⟨mw_150, List.forall_mem_cons.mpr ⟨mw_149, List.forall_mem_cons.mpr ⟨mw_66, List.forall_mem_cons.mpr ⟨mw_177, List.forall_mem_cons.mpr ⟨mw_176, List.forall_mem_cons.mpr ⟨mw_175, List.forall_mem_cons.mpr ⟨mw_174, List.forall_mem_cons.mpr ⟨mw_173, List.forall_mem_cons.mpr ⟨mw_172, List.forall_mem_cons.mpr ⟨mw_171, List.forall_mem_cons.mpr ⟨mw_170, List.forall_mem_nil _⟩⟩⟩⟩⟩⟩⟩⟩⟩⟩⟩⟩⟩⟩⟩⟩⟩⟩⟩⟩⟩⟩⟩⟩
set_option maxRecDepth 100000 in
theorem hmwsX6_word_r3 : ∀ w ∈ wsX6_word_r3, w ∈ lw_tbl := List.forall_mem_cons.mpr ⟨mw_169, List.forall_mem_nil _⟩
set_option maxRecDepth 100000 in
theorem hmwsX6_word : ∀ w ∈ wsX6_word, w ∈ lw_tbl := List.forall_mem_cons.mpr ⟨mw_247, List.forall_mem_append.mpr ⟨List.forall_mem_append.mpr ⟨List.forall_mem_append.mpr ⟨List.forall_mem_append.mpr ⟨hmwsX6_word_r1, List.forall_mem_append.mpr ⟨hmwsX6_word_r2, hmwsX6_word_r3⟩⟩, inX6⟩, inX0⟩, inX4⟩⟩
set_option maxRecDepth 100000 in
theorem mw_260 : Cond.methodLink RL 36 yX6_word ∈ lw_tbl := List.mem_append_right _ (List.mem_append_right _ (List.mem_append_left _ (List.mem_of_getElem? (i := 92) rfl)))
set_option maxRecDepth 100000 in
theorem mw_261 : Cond.instanceMethod yX6_word ∈ lw_tbl := List.mem_append_right _ (List.mem_append_right _ (List.mem_append_left _ (List.mem_of_getElem? (i := 93) rfl)))
set_option maxRecDepth 100000 in
theorem mw_262 : Cond.selects RX6 yX6_word yX6_word ∈ lw_tbl := List.mem_append_right _ (List.mem_append_right _ (List.mem_append_left _ (List.mem_of_getElem? (i := 94) rfl)))
set_option maxRecDepth 100000 in
theorem glX6_word : GoodIn lw_tbl (wsV RL 36 RX6 yX6_word wsX6_word) := goodIn_sub (List.forall_mem_append.mpr ⟨List.forall_mem_cons.mpr ⟨mw_260, List.forall_mem_cons.mpr ⟨mw_261, List.forall_mem_cons.mpr ⟨mw_262, List.forall_mem_cons.mpr ⟨mw_91, List.forall_mem_nil _⟩⟩⟩⟩, hmwsX6_word⟩) (by decide +kernel)
set_option maxRecDepth 100000 in
theorem ckL_X6_word : CkV lw_tbl RL 36 yX6_word wsX6_word cX6_word 6 (some .int) 4 6 := ⟨RX6, TX6, 8, _, rfl, glX6_word, rfl, hdX6_word⟩
set_option maxRecDepth 100000 in
theorem mw_263 : Cond.code yX7_word cX7_word 6 (some .int) ∈ lw_tbl := List.mem_append_right _ (List.mem_append_right _ (List.mem_append_right _ (List.mem_append_right _ (List.mem_append_left _ (List.mem_of_getElem? (i := 208) rfl)))))
set_option maxRecDepth 100000 in
theorem mw_264 : Cond.code yX7_isPlace cX7_isPlace 1 (some .boolean) ∈ lw_tbl := List.mem_append_right _ (List.mem_append_right _ (List.mem_append_right _ (List.mem_append_right _ (List.mem_append_left _ (List.mem_of_getElem? (i := 215) rfl)))))
set_option maxRecDepth 100000 in
theorem mw_265 : Cond.static yX7_isPlace ∈ lw_tbl := List.mem_append_right _ (List.mem_append_right _ (List.mem_append_right _ (List.mem_append_right _ (List.mem_append_left _ (List.mem_of_getElem? (i := 214) rfl)))))
set_option maxRecDepth 100000 in
theorem mw_266 : Cond.methodLink RX7 90 yX7_isPlace ∈ lw_tbl := List.mem_append_right _ (List.mem_append_right _ (List.mem_append_right _ (List.mem_append_right _ (List.mem_append_left _ (List.mem_of_getElem? (i := 213) rfl)))))
set_option maxRecDepth 100000 in
theorem mw_267 : Cond.code yX7_isPast cX7_isPast 2 (some .boolean) ∈ lw_tbl := List.mem_append_right _ (List.mem_append_right _ (List.mem_append_right _ (List.mem_append_right _ (List.mem_append_left _ (List.mem_of_getElem? (i := 212) rfl)))))
set_option maxRecDepth 100000 in
theorem mw_268 : Cond.selects RX7 yX7_isPast yX7_isPast ∈ lw_tbl := List.mem_append_left _ (List.mem_map.mpr ⟨(⟨"EmptyBoxesModel", "isPast", "(I)Z"⟩, 28), List.mem_append_right _ (List.mem_append_right _ (List.mem_append_right _ (List.mem_append_left _ (List.mem_of_getElem? (i := 1) rfl)))), rfl⟩)
set_option maxRecDepth 100000 in
theorem mw_269 : Cond.instanceMethod yX7_isPast ∈ lw_tbl := List.mem_append_right _ (List.mem_append_right _ (List.mem_append_right _ (List.mem_append_right _ (List.mem_append_left _ (List.mem_of_getElem? (i := 211) rfl)))))
set_option maxRecDepth 100000 in
theorem mw_270 : Cond.methodLink RX7 87 yX7_isPast ∈ lw_tbl := List.mem_append_right _ (List.mem_append_right _ (List.mem_append_right _ (List.mem_append_right _ (List.mem_append_left _ (List.mem_of_getElem? (i := 209) rfl)))))
set_option maxRecDepth 100000 in
theorem hmwsX7_word : ∀ w ∈ wsX7_word, w ∈ lw_tbl := List.forall_mem_cons.mpr ⟨mw_263, List.forall_mem_append.mpr ⟨List.forall_mem_cons.mpr ⟨mw_110, List.forall_mem_cons.mpr ⟨mw_108, List.forall_mem_cons.mpr ⟨mw_243, List.forall_mem_cons.mpr ⟨mw_242, List.forall_mem_cons.mpr ⟨mw_241, List.forall_mem_cons.mpr ⟨mw_114, List.forall_mem_cons.mpr ⟨mw_240, List.forall_mem_cons.mpr ⟨mw_126, List.forall_mem_cons.mpr ⟨mw_125, List.forall_mem_cons.mpr ⟨mw_124, List.forall_mem_cons.mpr ⟨mw_270, List.forall_mem_cons.mpr ⟨mw_269, List.forall_mem_cons.mpr ⟨mw_268, List.forall_mem_cons.mpr ⟨mw_267, List.forall_mem_cons.mpr ⟨mw_266, List.forall_mem_cons.mpr ⟨mw_265, List.forall_mem_cons.mpr ⟨mw_264, List.forall_mem_cons.mpr ⟨mw_185, List.forall_mem_cons.mpr ⟨mw_184, List.forall_mem_cons.mpr ⟨mw_183, List.forall_mem_cons.mpr ⟨mw_182, List.forall_mem_cons.mpr ⟨mw_109, List.forall_mem_nil _⟩⟩⟩⟩⟩⟩⟩⟩⟩⟩⟩⟩⟩⟩⟩⟩⟩⟩⟩⟩⟩⟩, inX7⟩⟩
set_option maxRecDepth 100000 in
theorem mw_271 : Cond.methodLink RL 39 yX7_word ∈ lw_tbl := List.mem_append_right _ (List.mem_append_right _ (List.mem_append_right _ (List.mem_append_right _ (List.mem_append_left _ (List.mem_of_getElem? (i := 205) rfl)))))
set_option maxRecDepth 100000 in
theorem mw_272 : Cond.instanceMethod yX7_word ∈ lw_tbl := List.mem_append_right _ (List.mem_append_right _ (List.mem_append_right _ (List.mem_append_right _ (List.mem_append_left _ (List.mem_of_getElem? (i := 206) rfl)))))
set_option maxRecDepth 100000 in
theorem mw_273 : Cond.selects RX7 yX7_word yX7_word ∈ lw_tbl := List.mem_append_right _ (List.mem_append_right _ (List.mem_append_right _ (List.mem_append_right _ (List.mem_append_left _ (List.mem_of_getElem? (i := 207) rfl)))))
set_option maxRecDepth 100000 in
theorem glX7_word : GoodIn lw_tbl (wsV RL 39 RX7 yX7_word wsX7_word) := goodIn_sub (List.forall_mem_append.mpr ⟨List.forall_mem_cons.mpr ⟨mw_271, List.forall_mem_cons.mpr ⟨mw_272, List.forall_mem_cons.mpr ⟨mw_273, List.forall_mem_cons.mpr ⟨mw_114, List.forall_mem_nil _⟩⟩⟩⟩, hmwsX7_word⟩) (by decide +kernel)
set_option maxRecDepth 100000 in
theorem ckL_X7_word : CkV lw_tbl RL 39 yX7_word wsX7_word cX7_word 6 (some .int) 4 7 := ⟨RX7, TX7, 28, _, rfl, glX7_word, rfl, hdX7_word⟩
set_option maxRecDepth 100000 in
theorem mw_274 : Cond.code yX6_where cX6_where 4 (some .int) ∈ lw_tbl := List.mem_append_right _ (List.mem_append_right _ (List.mem_append_left _ (List.mem_of_getElem? (i := 110) rfl)))
set_option maxRecDepth 100000 in
theorem mw_275 : Cond.code yX6_standing cX6_standing 6 (some .int) ∈ lw_tbl := List.mem_append_right _ (List.mem_append_right _ (List.mem_append_left _ (List.mem_of_getElem? (i := 117) rfl)))
set_option maxRecDepth 100000 in
theorem mw_276 : Cond.selects RX6 yX6_standing yX6_standing ∈ lw_tbl := List.mem_append_left _ (List.mem_map.mpr ⟨(⟨"EmptyBoxes", "standing", "(III)I"⟩, 8), List.mem_append_left _ (List.mem_of_getElem? (i := 7) rfl), rfl⟩)
set_option maxRecDepth 100000 in
theorem mw_277 : Cond.instanceMethod yX6_standing ∈ lw_tbl := List.mem_append_right _ (List.mem_append_right _ (List.mem_append_left _ (List.mem_of_getElem? (i := 116) rfl)))
set_option maxRecDepth 100000 in
theorem mw_278 : Cond.methodLink RX6 138 yX6_standing ∈ lw_tbl := List.mem_append_right _ (List.mem_append_right _ (List.mem_append_left _ (List.mem_of_getElem? (i := 114) rfl)))
set_option maxRecDepth 100000 in
theorem mw_279 : Cond.code yX6_isDay cX6_isDay 1 (some .boolean) ∈ lw_tbl := List.mem_append_right _ (List.mem_append_right _ (List.mem_append_left _ (List.mem_of_getElem? (i := 113) rfl)))
set_option maxRecDepth 100000 in
theorem mw_280 : Cond.static yX6_isDay ∈ lw_tbl := List.mem_append_right _ (List.mem_append_right _ (List.mem_append_left _ (List.mem_of_getElem? (i := 112) rfl)))
set_option maxRecDepth 100000 in
theorem mw_281 : Cond.methodLink RX6 135 yX6_isDay ∈ lw_tbl := List.mem_append_right _ (List.mem_append_right _ (List.mem_append_left _ (List.mem_of_getElem? (i := 111) rfl)))
set_option maxRecDepth 100000 in
theorem hmwsX6_where_r1 : ∀ w ∈ wsX6_where_r1, w ∈ lw_tbl := List.forall_mem_cons.mpr ⟨mw_18, List.forall_mem_cons.mpr ⟨mw_148, List.forall_mem_cons.mpr ⟨mw_235, List.forall_mem_cons.mpr ⟨mw_234, List.forall_mem_cons.mpr ⟨mw_233, List.forall_mem_cons.mpr ⟨mw_40, List.forall_mem_cons.mpr ⟨mw_232, List.forall_mem_cons.mpr ⟨mw_62, List.forall_mem_cons.mpr ⟨mw_281, List.forall_mem_cons.mpr ⟨mw_280, List.forall_mem_cons.mpr ⟨mw_91, List.forall_mem_cons.mpr ⟨mw_279, List.forall_mem_cons.mpr ⟨mw_118, List.forall_mem_cons.mpr ⟨mw_117, List.forall_mem_cons.mpr ⟨mw_116, List.forall_mem_cons.mpr ⟨mw_257, List.forall_mem_cons.mpr ⟨mw_256, List.forall_mem_cons.mpr ⟨mw_255, List.forall_mem_cons.mpr ⟨mw_254, List.forall_mem_cons.mpr ⟨mw_119, List.forall_mem_cons.mpr ⟨mw_278, List.forall_mem_cons.mpr ⟨mw_277, List.forall_mem_cons.mpr ⟨mw_276, List.forall_mem_cons.mpr ⟨mw_275, List.forall_mem_nil _⟩⟩⟩⟩⟩⟩⟩⟩⟩⟩⟩⟩⟩⟩⟩⟩⟩⟩⟩⟩⟩⟩⟩⟩
set_option maxRecDepth 100000 in
theorem mw_282 : Cond.methodLink RX6 158 yX6_isOut ∈ lw_tbl := List.mem_append_right _ (List.mem_append_right _ (List.mem_append_left _ (List.mem_of_getElem? (i := 126) rfl)))
set_option maxRecDepth 100000 in
theorem mw_283 : Cond.code yX6_isHeard cX6_isHeard 4 (some .boolean) ∈ lw_tbl := List.mem_append_right _ (List.mem_append_right _ (List.mem_append_left _ (List.mem_of_getElem? (i := 125) rfl)))
set_option maxRecDepth 100000 in
theorem mw_284 : Cond.selects RX6 yX6_isHeard yX6_isHeard ∈ lw_tbl := List.mem_append_left _ (List.mem_map.mpr ⟨(⟨"EmptyBoxes", "isHeard", "(III)Z"⟩, 8), List.mem_append_left _ (List.mem_of_getElem? (i := 9) rfl), rfl⟩)
set_option maxRecDepth 100000 in
theorem mw_285 : Cond.instanceMethod yX6_isHeard ∈ lw_tbl := List.mem_append_right _ (List.mem_append_right _ (List.mem_append_left _ (List.mem_of_getElem? (i := 124) rfl)))
set_option maxRecDepth 100000 in
theorem mw_286 : Cond.methodLink RX6 145 yX6_isHeard ∈ lw_tbl := List.mem_append_right _ (List.mem_append_right _ (List.mem_append_left _ (List.mem_of_getElem? (i := 122) rfl)))
set_option maxRecDepth 100000 in
theorem mw_287 : Cond.code yX6_latestWord cX6_latestWord 8 (some .int) ∈ lw_tbl := List.mem_append_right _ (List.mem_append_right _ (List.mem_append_left _ (List.mem_of_getElem? (i := 121) rfl)))
set_option maxRecDepth 100000 in
theorem mw_288 : Cond.selects RX6 yX6_latestWord yX6_latestWord ∈ lw_tbl := List.mem_append_left _ (List.mem_map.mpr ⟨(⟨"EmptyBoxes", "latestWord", "(III)I"⟩, 8), List.mem_append_left _ (List.mem_of_getElem? (i := 8) rfl), rfl⟩)
set_option maxRecDepth 100000 in
theorem mw_289 : Cond.instanceMethod yX6_latestWord ∈ lw_tbl := List.mem_append_right _ (List.mem_append_right _ (List.mem_append_left _ (List.mem_of_getElem? (i := 120) rfl)))
set_option maxRecDepth 100000 in
theorem mw_290 : Cond.methodLink RX6 142 yX6_latestWord ∈ lw_tbl := List.mem_append_right _ (List.mem_append_right _ (List.mem_append_left _ (List.mem_of_getElem? (i := 118) rfl)))
set_option maxRecDepth 100000 in
theorem hmwsX6_where_r2 : ∀ w ∈ wsX6_where_r2, w ∈ lw_tbl := List.forall_mem_cons.mpr ⟨mw_258, List.forall_mem_cons.mpr ⟨mw_290, List.forall_mem_cons.mpr ⟨mw_289, List.forall_mem_cons.mpr ⟨mw_288, List.forall_mem_cons.mpr ⟨mw_287, List.forall_mem_cons.mpr ⟨mw_131, List.forall_mem_cons.mpr ⟨mw_168, List.forall_mem_cons.mpr ⟨mw_167, List.forall_mem_cons.mpr ⟨mw_166, List.forall_mem_cons.mpr ⟨mw_165, List.forall_mem_cons.mpr ⟨mw_164, List.forall_mem_cons.mpr ⟨mw_163, List.forall_mem_cons.mpr ⟨mw_162, List.forall_mem_cons.mpr ⟨mw_63, List.forall_mem_cons.mpr ⟨mw_65, List.forall_mem_cons.mpr ⟨mw_161, List.forall_mem_cons.mpr ⟨mw_160, List.forall_mem_cons.mpr ⟨mw_159, List.forall_mem_cons.mpr ⟨mw_158, List.forall_mem_cons.mpr ⟨mw_286, List.forall_mem_cons.mpr ⟨mw_285, List.forall_mem_cons.mpr ⟨mw_284, List.forall_mem_cons.mpr ⟨mw_283, List.forall_mem_cons.mpr ⟨mw_282, List.forall_mem_nil _⟩⟩⟩⟩⟩⟩⟩⟩⟩⟩⟩⟩⟩⟩⟩⟩⟩⟩⟩⟩⟩⟩⟩⟩
set_option maxRecDepth 100000 in
theorem mw_291 : Cond.code yX6_isOut cX6_isOut 2 (some .boolean) ∈ lw_tbl := List.mem_append_right _ (List.mem_append_right _ (List.mem_append_left _ (List.mem_of_getElem? (i := 129) rfl)))
set_option maxRecDepth 100000 in
theorem mw_292 : Cond.selects RX6 yX6_isOut yX6_isOut ∈ lw_tbl := List.mem_append_left _ (List.mem_map.mpr ⟨(⟨"EmptyBoxes", "isOut", "(I)Z"⟩, 8), List.mem_append_left _ (List.mem_of_getElem? (i := 10) rfl), rfl⟩)
set_option maxRecDepth 100000 in
theorem mw_293 : Cond.instanceMethod yX6_isOut ∈ lw_tbl := List.mem_append_right _ (List.mem_append_right _ (List.mem_append_left _ (List.mem_of_getElem? (i := 128) rfl)))
set_option maxRecDepth 100000 in
theorem hmwsX6_where_r3 : ∀ w ∈ wsX6_where_r3, w ∈ lw_tbl := List.forall_mem_cons.mpr ⟨mw_293, List.forall_mem_cons.mpr ⟨mw_292, List.forall_mem_cons.mpr ⟨mw_291, List.forall_mem_nil _⟩⟩⟩
set_option maxRecDepth 100000 in
theorem hmwsX6_where : ∀ w ∈ wsX6_where, w ∈ lw_tbl := List.forall_mem_cons.mpr ⟨mw_274, List.forall_mem_append.mpr ⟨List.forall_mem_append.mpr ⟨List.forall_mem_append.mpr ⟨List.forall_mem_append.mpr ⟨hmwsX6_where_r1, List.forall_mem_append.mpr ⟨hmwsX6_where_r2, hmwsX6_where_r3⟩⟩, inX6⟩, inX0⟩, inX4⟩⟩
set_option maxRecDepth 100000 in
theorem mw_294 : Cond.methodLink RL 40 yX6_where ∈ lw_tbl := List.mem_append_right _ (List.mem_append_right _ (List.mem_append_left _ (List.mem_of_getElem? (i := 107) rfl)))
set_option maxRecDepth 100000 in
theorem mw_295 : Cond.instanceMethod yX6_where ∈ lw_tbl := List.mem_append_right _ (List.mem_append_right _ (List.mem_append_left _ (List.mem_of_getElem? (i := 108) rfl)))
set_option maxRecDepth 100000 in
theorem mw_296 : Cond.selects RX6 yX6_where yX6_where ∈ lw_tbl := List.mem_append_right _ (List.mem_append_right _ (List.mem_append_left _ (List.mem_of_getElem? (i := 109) rfl)))
set_option maxRecDepth 100000 in
theorem glX6_where : GoodIn lw_tbl (wsV RL 40 RX6 yX6_where wsX6_where) := goodIn_sub (List.forall_mem_append.mpr ⟨List.forall_mem_cons.mpr ⟨mw_294, List.forall_mem_cons.mpr ⟨mw_295, List.forall_mem_cons.mpr ⟨mw_296, List.forall_mem_cons.mpr ⟨mw_91, List.forall_mem_nil _⟩⟩⟩⟩, hmwsX6_where⟩) (by decide +kernel)
set_option maxRecDepth 100000 in
theorem ckL_X6_where : CkV lw_tbl RL 40 yX6_where wsX6_where cX6_where 4 (some .int) 3 6 := ⟨RX6, TX6, 8, _, rfl, glX6_where, rfl, hdX6_where⟩
set_option maxRecDepth 100000 in
theorem mw_297 : Cond.code yX7_where cX7_where 4 (some .int) ∈ lw_tbl := List.mem_append_right _ (List.mem_append_right _ (List.mem_append_right _ (List.mem_append_right _ (List.mem_append_left _ (List.mem_of_getElem? (i := 219) rfl)))))
set_option maxRecDepth 100000 in
theorem mw_298 : Cond.selects RX7 yX7_latest yX7_latest ∈ lw_tbl := List.mem_append_left _ (List.mem_map.mpr ⟨(⟨"EmptyBoxesModel", "latest", "(III)I"⟩, 28), List.mem_append_right _ (List.mem_append_right _ (List.mem_append_right _ (List.mem_append_left _ (List.mem_of_getElem? (i := 3) rfl)))), rfl⟩)
set_option maxRecDepth 100000 in
theorem mw_299 : Cond.instanceMethod yX7_latest ∈ lw_tbl := List.mem_append_right _ (List.mem_append_right _ (List.mem_append_right _ (List.mem_append_right _ (List.mem_append_left _ (List.mem_of_getElem? (i := 229) rfl)))))
set_option maxRecDepth 100000 in
theorem mw_300 : Cond.methodLink RX7 93 yX7_latest ∈ lw_tbl := List.mem_append_right _ (List.mem_append_right _ (List.mem_append_right _ (List.mem_append_right _ (List.mem_append_left _ (List.mem_of_getElem? (i := 227) rfl)))))
set_option maxRecDepth 100000 in
theorem mw_301 : Cond.code yX7_whereIs cX7_whereIs 5 (some .int) ∈ lw_tbl := List.mem_append_right _ (List.mem_append_right _ (List.mem_append_right _ (List.mem_append_right _ (List.mem_append_left _ (List.mem_of_getElem? (i := 226) rfl)))))
set_option maxRecDepth 100000 in
theorem mw_302 : Cond.selects RX7 yX7_whereIs yX7_whereIs ∈ lw_tbl := List.mem_append_left _ (List.mem_map.mpr ⟨(⟨"EmptyBoxesModel", "whereIs", "(III)I"⟩, 28), List.mem_append_right _ (List.mem_append_right _ (List.mem_append_right _ (List.mem_append_left _ (List.mem_of_getElem? (i := 2) rfl)))), rfl⟩)
set_option maxRecDepth 100000 in
theorem mw_303 : Cond.instanceMethod yX7_whereIs ∈ lw_tbl := List.mem_append_right _ (List.mem_append_right _ (List.mem_append_right _ (List.mem_append_right _ (List.mem_append_left _ (List.mem_of_getElem? (i := 225) rfl)))))
set_option maxRecDepth 100000 in
theorem mw_304 : Cond.methodLink RX7 100 yX7_whereIs ∈ lw_tbl := List.mem_append_right _ (List.mem_append_right _ (List.mem_append_right _ (List.mem_append_right _ (List.mem_append_left _ (List.mem_of_getElem? (i := 223) rfl)))))
set_option maxRecDepth 100000 in
theorem mw_305 : Cond.code yX7_isDay cX7_isDay 1 (some .boolean) ∈ lw_tbl := List.mem_append_right _ (List.mem_append_right _ (List.mem_append_right _ (List.mem_append_right _ (List.mem_append_left _ (List.mem_of_getElem? (i := 222) rfl)))))
set_option maxRecDepth 100000 in
theorem mw_306 : Cond.static yX7_isDay ∈ lw_tbl := List.mem_append_right _ (List.mem_append_right _ (List.mem_append_right _ (List.mem_append_right _ (List.mem_append_left _ (List.mem_of_getElem? (i := 221) rfl)))))
set_option maxRecDepth 100000 in
theorem mw_307 : Cond.methodLink RX7 97 yX7_isDay ∈ lw_tbl := List.mem_append_right _ (List.mem_append_right _ (List.mem_append_right _ (List.mem_append_right _ (List.mem_append_left _ (List.mem_of_getElem? (i := 220) rfl)))))
set_option maxRecDepth 100000 in
theorem hmwsX7_where_r1 : ∀ w ∈ wsX7_where_r1, w ∈ lw_tbl := List.forall_mem_cons.mpr ⟨mw_243, List.forall_mem_cons.mpr ⟨mw_242, List.forall_mem_cons.mpr ⟨mw_241, List.forall_mem_cons.mpr ⟨mw_114, List.forall_mem_cons.mpr ⟨mw_240, List.forall_mem_cons.mpr ⟨mw_110, List.forall_mem_cons.mpr ⟨mw_126, List.forall_mem_cons.mpr ⟨mw_125, List.forall_mem_cons.mpr ⟨mw_124, List.forall_mem_cons.mpr ⟨mw_307, List.forall_mem_cons.mpr ⟨mw_306, List.forall_mem_cons.mpr ⟨mw_305, List.forall_mem_cons.mpr ⟨mw_270, List.forall_mem_cons.mpr ⟨mw_269, List.forall_mem_cons.mpr ⟨mw_268, List.forall_mem_cons.mpr ⟨mw_267, List.forall_mem_cons.mpr ⟨mw_304, List.forall_mem_cons.mpr ⟨mw_303, List.forall_mem_cons.mpr ⟨mw_302, List.forall_mem_cons.mpr ⟨mw_301, List.forall_mem_cons.mpr ⟨mw_108, List.forall_mem_cons.mpr ⟨mw_300, List.forall_mem_cons.mpr ⟨mw_299, List.forall_mem_cons.mpr ⟨mw_298, List.forall_mem_nil _⟩⟩⟩⟩⟩⟩⟩⟩⟩⟩⟩⟩⟩⟩⟩⟩⟩⟩⟩⟩⟩⟩⟩⟩
set_option maxRecDepth 100000 in
theorem mw_308 : Cond.code yX7_latest cX7_latest 6 (some .int) ∈ lw_tbl := List.mem_append_right _ (List.mem_append_right _ (List.mem_append_right _ (List.mem_append_right _ (List.mem_append_left _ (List.mem_of_getElem? (i := 230) rfl)))))
set_option maxRecDepth 100000 in
theorem hmwsX7_where_r2 : ∀ w ∈ wsX7_where_r2, w ∈ lw_tbl := List.forall_mem_cons.mpr ⟨mw_308, List.forall_mem_nil _⟩
set_option maxRecDepth 100000 in
theorem hmwsX7_where : ∀ w ∈ wsX7_where, w ∈ lw_tbl := List.forall_mem_cons.mpr ⟨mw_297, List.forall_mem_append.mpr ⟨List.forall_mem_append.mpr ⟨hmwsX7_where_r1, hmwsX7_where_r2⟩, inX7⟩⟩
set_option maxRecDepth 100000 in
theorem mw_309 : Cond.methodLink RL 44 yX7_where ∈ lw_tbl := List.mem_append_right _ (List.mem_append_right _ (List.mem_append_right _ (List.mem_append_right _ (List.mem_append_left _ (List.mem_of_getElem? (i := 216) rfl)))))
set_option maxRecDepth 100000 in
theorem mw_310 : Cond.instanceMethod yX7_where ∈ lw_tbl := List.mem_append_right _ (List.mem_append_right _ (List.mem_append_right _ (List.mem_append_right _ (List.mem_append_left _ (List.mem_of_getElem? (i := 217) rfl)))))
set_option maxRecDepth 100000 in
theorem mw_311 : Cond.selects RX7 yX7_where yX7_where ∈ lw_tbl := List.mem_append_right _ (List.mem_append_right _ (List.mem_append_right _ (List.mem_append_right _ (List.mem_append_left _ (List.mem_of_getElem? (i := 218) rfl)))))
set_option maxRecDepth 100000 in
theorem glX7_where : GoodIn lw_tbl (wsV RL 44 RX7 yX7_where wsX7_where) := goodIn_sub (List.forall_mem_append.mpr ⟨List.forall_mem_cons.mpr ⟨mw_309, List.forall_mem_cons.mpr ⟨mw_310, List.forall_mem_cons.mpr ⟨mw_311, List.forall_mem_cons.mpr ⟨mw_114, List.forall_mem_nil _⟩⟩⟩⟩, hmwsX7_where⟩) (by decide +kernel)
set_option maxRecDepth 100000 in
theorem ckL_X7_where : CkV lw_tbl RL 44 yX7_where wsX7_where cX7_where 4 (some .int) 3 7 := ⟨RX7, TX7, 28, _, rfl, glX7_where, rfl, hdX7_where⟩
set_option maxRecDepth 100000 in
theorem mw_312 : Cond.code yX6_since cX6_since 5 (some .int) ∈ lw_tbl := List.mem_append_right _ (List.mem_append_right _ (List.mem_append_left _ (List.mem_of_getElem? (i := 133) rfl)))
set_option maxRecDepth 100000 in
theorem hmwsX6_since_r1 : ∀ w ∈ wsX6_since_r1, w ∈ lw_tbl := List.forall_mem_cons.mpr ⟨mw_18, List.forall_mem_cons.mpr ⟨mw_148, List.forall_mem_cons.mpr ⟨mw_258, List.forall_mem_cons.mpr ⟨mw_235, List.forall_mem_cons.mpr ⟨mw_234, List.forall_mem_cons.mpr ⟨mw_233, List.forall_mem_cons.mpr ⟨mw_40, List.forall_mem_cons.mpr ⟨mw_232, List.forall_mem_cons.mpr ⟨mw_62, List.forall_mem_cons.mpr ⟨mw_281, List.forall_mem_cons.mpr ⟨mw_280, List.forall_mem_cons.mpr ⟨mw_91, List.forall_mem_cons.mpr ⟨mw_279, List.forall_mem_cons.mpr ⟨mw_118, List.forall_mem_cons.mpr ⟨mw_117, List.forall_mem_cons.mpr ⟨mw_116, List.forall_mem_cons.mpr ⟨mw_257, List.forall_mem_cons.mpr ⟨mw_256, List.forall_mem_cons.mpr ⟨mw_255, List.forall_mem_cons.mpr ⟨mw_254, List.forall_mem_cons.mpr ⟨mw_119, List.forall_mem_cons.mpr ⟨mw_290, List.forall_mem_cons.mpr ⟨mw_289, List.forall_mem_cons.mpr ⟨mw_288, List.forall_mem_nil _⟩⟩⟩⟩⟩⟩⟩⟩⟩⟩⟩⟩⟩⟩⟩⟩⟩⟩⟩⟩⟩⟩⟩⟩
set_option maxRecDepth 100000 in
theorem hmwsX6_since_r2 : ∀ w ∈ wsX6_since_r2, w ∈ lw_tbl := List.forall_mem_cons.mpr ⟨mw_287, List.forall_mem_cons.mpr ⟨mw_131, List.forall_mem_cons.mpr ⟨mw_168, List.forall_mem_cons.mpr ⟨mw_167, List.forall_mem_cons.mpr ⟨mw_166, List.forall_mem_cons.mpr ⟨mw_165, List.forall_mem_cons.mpr ⟨mw_164, List.forall_mem_cons.mpr ⟨mw_163, List.forall_mem_cons.mpr ⟨mw_162, List.forall_mem_cons.mpr ⟨mw_63, List.forall_mem_cons.mpr ⟨mw_65, List.forall_mem_cons.mpr ⟨mw_161, List.forall_mem_cons.mpr ⟨mw_160, List.forall_mem_cons.mpr ⟨mw_159, List.forall_mem_cons.mpr ⟨mw_158, List.forall_mem_cons.mpr ⟨mw_286, List.forall_mem_cons.mpr ⟨mw_285, List.forall_mem_cons.mpr ⟨mw_284, List.forall_mem_cons.mpr ⟨mw_283, List.forall_mem_nil _⟩⟩⟩⟩⟩⟩⟩⟩⟩⟩⟩⟩⟩⟩⟩⟩⟩⟩⟩
set_option maxRecDepth 100000 in
theorem hmwsX6_since : ∀ w ∈ wsX6_since, w ∈ lw_tbl := List.forall_mem_cons.mpr ⟨mw_312, List.forall_mem_append.mpr ⟨List.forall_mem_append.mpr ⟨List.forall_mem_append.mpr ⟨List.forall_mem_append.mpr ⟨hmwsX6_since_r1, hmwsX6_since_r2⟩, inX6⟩, inX0⟩, inX4⟩⟩
set_option maxRecDepth 100000 in
theorem mw_313 : Cond.methodLink RL 45 yX6_since ∈ lw_tbl := List.mem_append_right _ (List.mem_append_right _ (List.mem_append_left _ (List.mem_of_getElem? (i := 130) rfl)))
set_option maxRecDepth 100000 in
theorem mw_314 : Cond.instanceMethod yX6_since ∈ lw_tbl := List.mem_append_right _ (List.mem_append_right _ (List.mem_append_left _ (List.mem_of_getElem? (i := 131) rfl)))
set_option maxRecDepth 100000 in
theorem mw_315 : Cond.selects RX6 yX6_since yX6_since ∈ lw_tbl := List.mem_append_right _ (List.mem_append_right _ (List.mem_append_left _ (List.mem_of_getElem? (i := 132) rfl)))
set_option maxRecDepth 100000 in
theorem glX6_since : GoodIn lw_tbl (wsV RL 45 RX6 yX6_since wsX6_since) := goodIn_sub (List.forall_mem_append.mpr ⟨List.forall_mem_cons.mpr ⟨mw_313, List.forall_mem_cons.mpr ⟨mw_314, List.forall_mem_cons.mpr ⟨mw_315, List.forall_mem_cons.mpr ⟨mw_91, List.forall_mem_nil _⟩⟩⟩⟩, hmwsX6_since⟩) (by decide +kernel)
set_option maxRecDepth 100000 in
theorem ckL_X6_since : CkV lw_tbl RL 45 yX6_since wsX6_since cX6_since 5 (some .int) 3 6 := ⟨RX6, TX6, 8, _, rfl, glX6_since, rfl, hdX6_since⟩
set_option maxRecDepth 100000 in
theorem mw_316 : Cond.code yX7_since cX7_since 5 (some .int) ∈ lw_tbl := List.mem_append_right _ (List.mem_append_right _ (List.mem_append_right _ (List.mem_append_right _ (List.mem_append_left _ (List.mem_of_getElem? (i := 234) rfl)))))
set_option maxRecDepth 100000 in
theorem hmwsX7_since : ∀ w ∈ wsX7_since, w ∈ lw_tbl := List.forall_mem_cons.mpr ⟨mw_316, List.forall_mem_append.mpr ⟨List.forall_mem_cons.mpr ⟨mw_108, List.forall_mem_cons.mpr ⟨mw_243, List.forall_mem_cons.mpr ⟨mw_242, List.forall_mem_cons.mpr ⟨mw_241, List.forall_mem_cons.mpr ⟨mw_114, List.forall_mem_cons.mpr ⟨mw_240, List.forall_mem_cons.mpr ⟨mw_110, List.forall_mem_cons.mpr ⟨mw_126, List.forall_mem_cons.mpr ⟨mw_125, List.forall_mem_cons.mpr ⟨mw_124, List.forall_mem_cons.mpr ⟨mw_307, List.forall_mem_cons.mpr ⟨mw_306, List.forall_mem_cons.mpr ⟨mw_305, List.forall_mem_cons.mpr ⟨mw_270, List.forall_mem_cons.mpr ⟨mw_269, List.forall_mem_cons.mpr ⟨mw_268, List.forall_mem_cons.mpr ⟨mw_267, List.forall_mem_cons.mpr ⟨mw_300, List.forall_mem_cons.mpr ⟨mw_299, List.forall_mem_cons.mpr ⟨mw_298, List.forall_mem_cons.mpr ⟨mw_308, List.forall_mem_nil _⟩⟩⟩⟩⟩⟩⟩⟩⟩⟩⟩⟩⟩⟩⟩⟩⟩⟩⟩⟩⟩, inX7⟩⟩
set_option maxRecDepth 100000 in
theorem mw_317 : Cond.methodLink RL 48 yX7_since ∈ lw_tbl := List.mem_append_right _ (List.mem_append_right _ (List.mem_append_right _ (List.mem_append_right _ (List.mem_append_left _ (List.mem_of_getElem? (i := 231) rfl)))))
set_option maxRecDepth 100000 in
theorem mw_318 : Cond.instanceMethod yX7_since ∈ lw_tbl := List.mem_append_right _ (List.mem_append_right _ (List.mem_append_right _ (List.mem_append_right _ (List.mem_append_left _ (List.mem_of_getElem? (i := 232) rfl)))))
set_option maxRecDepth 100000 in
theorem mw_319 : Cond.selects RX7 yX7_since yX7_since ∈ lw_tbl := List.mem_append_right _ (List.mem_append_right _ (List.mem_append_right _ (List.mem_append_right _ (List.mem_append_left _ (List.mem_of_getElem? (i := 233) rfl)))))
set_option maxRecDepth 100000 in
theorem glX7_since : GoodIn lw_tbl (wsV RL 48 RX7 yX7_since wsX7_since) := goodIn_sub (List.forall_mem_append.mpr ⟨List.forall_mem_cons.mpr ⟨mw_317, List.forall_mem_cons.mpr ⟨mw_318, List.forall_mem_cons.mpr ⟨mw_319, List.forall_mem_cons.mpr ⟨mw_114, List.forall_mem_nil _⟩⟩⟩⟩, hmwsX7_since⟩) (by decide +kernel)
set_option maxRecDepth 100000 in
theorem ckL_X7_since : CkV lw_tbl RL 48 yX7_since wsX7_since cX7_since 5 (some .int) 3 7 := ⟨RX7, TX7, 28, _, rfl, glX7_since, rfl, hdX7_since⟩
set_option maxRecDepth 100000 in
theorem mw_320 : Cond.code yX6_quarrels cX6_quarrels 6 (some .int) ∈ lw_tbl := List.mem_append_right _ (List.mem_append_right _ (List.mem_append_left _ (List.mem_of_getElem? (i := 137) rfl)))
set_option maxRecDepth 100000 in
theorem hmwsX6_quarrels_r1 : ∀ w ∈ wsX6_quarrels_r1, w ∈ lw_tbl := List.forall_mem_cons.mpr ⟨mw_18, List.forall_mem_cons.mpr ⟨mw_148, List.forall_mem_cons.mpr ⟨mw_258, List.forall_mem_cons.mpr ⟨mw_235, List.forall_mem_cons.mpr ⟨mw_234, List.forall_mem_cons.mpr ⟨mw_233, List.forall_mem_cons.mpr ⟨mw_40, List.forall_mem_cons.mpr ⟨mw_232, List.forall_mem_cons.mpr ⟨mw_62, List.forall_mem_cons.mpr ⟨mw_257, List.forall_mem_cons.mpr ⟨mw_256, List.forall_mem_cons.mpr ⟨mw_255, List.forall_mem_cons.mpr ⟨mw_91, List.forall_mem_cons.mpr ⟨mw_254, List.forall_mem_cons.mpr ⟨mw_119, List.forall_mem_cons.mpr ⟨mw_118, List.forall_mem_cons.mpr ⟨mw_117, List.forall_mem_cons.mpr ⟨mw_116, List.forall_mem_cons.mpr ⟨mw_131, List.forall_mem_cons.mpr ⟨mw_168, List.forall_mem_cons.mpr ⟨mw_167, List.forall_mem_cons.mpr ⟨mw_166, List.forall_mem_cons.mpr ⟨mw_286, List.forall_mem_cons.mpr ⟨mw_285, List.forall_mem_nil _⟩⟩⟩⟩⟩⟩⟩⟩⟩⟩⟩⟩⟩⟩⟩⟩⟩⟩⟩⟩⟩⟩⟩⟩
set_option maxRecDepth 100000 in
theorem mw_321 : Cond.code yX6_isQuarrel cX6_isQuarrel 3 (some .boolean) ∈ lw_tbl := List.mem_append_right _ (List.mem_append_right _ (List.mem_append_left _ (List.mem_of_getElem? (i := 149) rfl)))
set_option maxRecDepth 100000 in
theorem mw_322 : Cond.selects RX6 yX6_isQuarrel yX6_isQuarrel ∈ lw_tbl := List.mem_append_left _ (List.mem_map.mpr ⟨(⟨"EmptyBoxes", "isQuarrel", "(II)Z"⟩, 8), List.mem_append_left _ (List.mem_of_getElem? (i := 13) rfl), rfl⟩)
set_option maxRecDepth 100000 in
theorem mw_323 : Cond.instanceMethod yX6_isQuarrel ∈ lw_tbl := List.mem_append_right _ (List.mem_append_right _ (List.mem_append_left _ (List.mem_of_getElem? (i := 148) rfl)))
set_option maxRecDepth 100000 in
theorem mw_324 : Cond.methodLink RX6 151 yX6_isQuarrel ∈ lw_tbl := List.mem_append_right _ (List.mem_append_right _ (List.mem_append_left _ (List.mem_of_getElem? (i := 146) rfl)))
set_option maxRecDepth 100000 in
theorem mw_325 : Cond.code yX6_isBehind cX6_isBehind 5 (some .boolean) ∈ lw_tbl := List.mem_append_right _ (List.mem_append_right _ (List.mem_append_left _ (List.mem_of_getElem? (i := 145) rfl)))
set_option maxRecDepth 100000 in
theorem mw_326 : Cond.selects RX6 yX6_isBehind yX6_isBehind ∈ lw_tbl := List.mem_append_left _ (List.mem_map.mpr ⟨(⟨"EmptyBoxes", "isBehind", "(II)Z"⟩, 8), List.mem_append_left _ (List.mem_of_getElem? (i := 12) rfl), rfl⟩)
set_option maxRecDepth 100000 in
theorem mw_327 : Cond.instanceMethod yX6_isBehind ∈ lw_tbl := List.mem_append_right _ (List.mem_append_right _ (List.mem_append_left _ (List.mem_of_getElem? (i := 144) rfl)))
set_option maxRecDepth 100000 in
theorem mw_328 : Cond.methodLink RX6 164 yX6_isBehind ∈ lw_tbl := List.mem_append_right _ (List.mem_append_right _ (List.mem_append_left _ (List.mem_of_getElem? (i := 142) rfl)))
set_option maxRecDepth 100000 in
theorem mw_329 : Cond.code yX6_wordBehind cX6_wordBehind 6 (some .int) ∈ lw_tbl := List.mem_append_right _ (List.mem_append_right _ (List.mem_append_left _ (List.mem_of_getElem? (i := 141) rfl)))
set_option maxRecDepth 100000 in
theorem mw_330 : Cond.selects RX6 yX6_wordBehind yX6_wordBehind ∈ lw_tbl := List.mem_append_left _ (List.mem_map.mpr ⟨(⟨"EmptyBoxes", "wordBehind", "(III)I"⟩, 8), List.mem_append_left _ (List.mem_of_getElem? (i := 11) rfl), rfl⟩)
set_option maxRecDepth 100000 in
theorem mw_331 : Cond.instanceMethod yX6_wordBehind ∈ lw_tbl := List.mem_append_right _ (List.mem_append_right _ (List.mem_append_left _ (List.mem_of_getElem? (i := 140) rfl)))
set_option maxRecDepth 100000 in
theorem mw_332 : Cond.methodLink RX6 148 yX6_wordBehind ∈ lw_tbl := List.mem_append_right _ (List.mem_append_right _ (List.mem_append_left _ (List.mem_of_getElem? (i := 138) rfl)))
set_option maxRecDepth 100000 in
theorem hmwsX6_quarrels_r2 : ∀ w ∈ wsX6_quarrels_r2, w ∈ lw_tbl := List.forall_mem_cons.mpr ⟨mw_284, List.forall_mem_cons.mpr ⟨mw_283, List.forall_mem_cons.mpr ⟨mw_165, List.forall_mem_cons.mpr ⟨mw_164, List.forall_mem_cons.mpr ⟨mw_163, List.forall_mem_cons.mpr ⟨mw_162, List.forall_mem_cons.mpr ⟨mw_63, List.forall_mem_cons.mpr ⟨mw_65, List.forall_mem_cons.mpr ⟨mw_161, List.forall_mem_cons.mpr ⟨mw_160, List.forall_mem_cons.mpr ⟨mw_159, List.forall_mem_cons.mpr ⟨mw_158, List.forall_mem_cons.mpr ⟨mw_332, List.forall_mem_cons.mpr ⟨mw_331, List.forall_mem_cons.mpr ⟨mw_330, List.forall_mem_cons.mpr ⟨mw_329, List.forall_mem_cons.mpr ⟨mw_328, List.forall_mem_cons.mpr ⟨mw_327, List.forall_mem_cons.mpr ⟨mw_326, List.forall_mem_cons.mpr ⟨mw_325, List.forall_mem_cons.mpr ⟨mw_324, List.forall_mem_cons.mpr ⟨mw_323, List.forall_mem_cons.mpr ⟨mw_322, List.forall_mem_cons.mpr ⟨mw_321, List.forall_mem_nil _⟩⟩⟩⟩⟩⟩⟩⟩⟩⟩⟩⟩⟩⟩⟩⟩⟩⟩⟩⟩⟩⟩⟩⟩
set_option maxRecDepth 100000 in
theorem hmwsX6_quarrels_r3 : ∀ w ∈ wsX6_quarrels_r3, w ∈ lw_tbl := List.forall_mem_cons.mpr ⟨mw_282, List.forall_mem_cons.mpr ⟨mw_293, List.forall_mem_cons.mpr ⟨mw_292, List.forall_mem_cons.mpr ⟨mw_291, List.forall_mem_nil _⟩⟩⟩⟩
set_option maxRecDepth 100000 in
theorem hmwsX6_quarrels : ∀ w ∈ wsX6_quarrels, w ∈ lw_tbl := List.forall_mem_cons.mpr ⟨mw_320, List.forall_mem_append.mpr ⟨List.forall_mem_append.mpr ⟨List.forall_mem_append.mpr ⟨List.forall_mem_append.mpr ⟨hmwsX6_quarrels_r1, List.forall_mem_append.mpr ⟨hmwsX6_quarrels_r2, hmwsX6_quarrels_r3⟩⟩, inX6⟩, inX0⟩, inX4⟩⟩
set_option maxRecDepth 100000 in
theorem mw_333 : Cond.methodLink RL 49 yX6_quarrels ∈ lw_tbl := List.mem_append_right _ (List.mem_append_right _ (List.mem_append_left _ (List.mem_of_getElem? (i := 134) rfl)))
set_option maxRecDepth 100000 in
theorem mw_334 : Cond.instanceMethod yX6_quarrels ∈ lw_tbl := List.mem_append_right _ (List.mem_append_right _ (List.mem_append_left _ (List.mem_of_getElem? (i := 135) rfl)))
set_option maxRecDepth 100000 in
theorem mw_335 : Cond.selects RX6 yX6_quarrels yX6_quarrels ∈ lw_tbl := List.mem_append_right _ (List.mem_append_right _ (List.mem_append_left _ (List.mem_of_getElem? (i := 136) rfl)))
set_option maxRecDepth 100000 in
theorem glX6_quarrels : GoodIn lw_tbl (wsV RL 49 RX6 yX6_quarrels wsX6_quarrels) := goodIn_sub (List.forall_mem_append.mpr ⟨List.forall_mem_cons.mpr ⟨mw_333, List.forall_mem_cons.mpr ⟨mw_334, List.forall_mem_cons.mpr ⟨mw_335, List.forall_mem_cons.mpr ⟨mw_91, List.forall_mem_nil _⟩⟩⟩⟩, hmwsX6_quarrels⟩) (by decide +kernel)
set_option maxRecDepth 100000 in
theorem ckL_X6_quarrels : CkV lw_tbl RL 49 yX6_quarrels wsX6_quarrels cX6_quarrels 6 (some .int) 2 6 := ⟨RX6, TX6, 8, _, rfl, glX6_quarrels, rfl, hdX6_quarrels⟩
set_option maxRecDepth 100000 in
theorem mw_336 : Cond.code yX7_quarrels cX7_quarrels 8 (some .int) ∈ lw_tbl := List.mem_append_right _ (List.mem_append_right _ (List.mem_append_right _ (List.mem_append_right _ (List.mem_append_left _ (List.mem_of_getElem? (i := 238) rfl)))))
set_option maxRecDepth 100000 in
theorem mw_337 : Cond.code yX7_follows cX7_follows 7 (some .int) ∈ lw_tbl := List.mem_append_right _ (List.mem_append_right _ (List.mem_append_right _ (List.mem_append_right _ (List.mem_append_right _ (List.mem_of_getElem? (i := 2) rfl)))))
set_option maxRecDepth 100000 in
theorem mw_338 : Cond.selects RX7 yX7_follows yX7_follows ∈ lw_tbl := List.mem_append_left _ (List.mem_map.mpr ⟨(⟨"EmptyBoxesModel", "follows", "(III)I"⟩, 28), List.mem_append_right _ (List.mem_append_right _ (List.mem_append_right _ (List.mem_append_left _ (List.mem_of_getElem? (i := 4) rfl)))), rfl⟩)
set_option maxRecDepth 100000 in
theorem mw_339 : Cond.instanceMethod yX7_follows ∈ lw_tbl := List.mem_append_right _ (List.mem_append_right _ (List.mem_append_right _ (List.mem_append_right _ (List.mem_append_right _ (List.mem_of_getElem? (i := 1) rfl)))))
set_option maxRecDepth 100000 in
theorem mw_340 : Cond.methodLink RX7 103 yX7_follows ∈ lw_tbl := List.mem_append_right _ (List.mem_append_right _ (List.mem_append_right _ (List.mem_append_right _ (List.mem_append_left _ (List.mem_of_getElem? (i := 239) rfl)))))
set_option maxRecDepth 100000 in
theorem hmwsX7_quarrels : ∀ w ∈ wsX7_quarrels, w ∈ lw_tbl := List.forall_mem_cons.mpr ⟨mw_336, List.forall_mem_append.mpr ⟨List.forall_mem_cons.mpr ⟨mw_108, List.forall_mem_cons.mpr ⟨mw_243, List.forall_mem_cons.mpr ⟨mw_242, List.forall_mem_cons.mpr ⟨mw_241, List.forall_mem_cons.mpr ⟨mw_114, List.forall_mem_cons.mpr ⟨mw_240, List.forall_mem_cons.mpr ⟨mw_110, List.forall_mem_cons.mpr ⟨mw_126, List.forall_mem_cons.mpr ⟨mw_125, List.forall_mem_cons.mpr ⟨mw_124, List.forall_mem_cons.mpr ⟨mw_270, List.forall_mem_cons.mpr ⟨mw_269, List.forall_mem_cons.mpr ⟨mw_268, List.forall_mem_cons.mpr ⟨mw_267, List.forall_mem_cons.mpr ⟨mw_340, List.forall_mem_cons.mpr ⟨mw_339, List.forall_mem_cons.mpr ⟨mw_338, List.forall_mem_cons.mpr ⟨mw_337, List.forall_mem_nil _⟩⟩⟩⟩⟩⟩⟩⟩⟩⟩⟩⟩⟩⟩⟩⟩⟩⟩, inX7⟩⟩
set_option maxRecDepth 100000 in
theorem mw_341 : Cond.methodLink RL 52 yX7_quarrels ∈ lw_tbl := List.mem_append_right _ (List.mem_append_right _ (List.mem_append_right _ (List.mem_append_right _ (List.mem_append_left _ (List.mem_of_getElem? (i := 235) rfl)))))
set_option maxRecDepth 100000 in
theorem mw_342 : Cond.instanceMethod yX7_quarrels ∈ lw_tbl := List.mem_append_right _ (List.mem_append_right _ (List.mem_append_right _ (List.mem_append_right _ (List.mem_append_left _ (List.mem_of_getElem? (i := 236) rfl)))))
set_option maxRecDepth 100000 in
theorem mw_343 : Cond.selects RX7 yX7_quarrels yX7_quarrels ∈ lw_tbl := List.mem_append_right _ (List.mem_append_right _ (List.mem_append_right _ (List.mem_append_right _ (List.mem_append_left _ (List.mem_of_getElem? (i := 237) rfl)))))
set_option maxRecDepth 100000 in
theorem glX7_quarrels : GoodIn lw_tbl (wsV RL 52 RX7 yX7_quarrels wsX7_quarrels) := goodIn_sub (List.forall_mem_append.mpr ⟨List.forall_mem_cons.mpr ⟨mw_341, List.forall_mem_cons.mpr ⟨mw_342, List.forall_mem_cons.mpr ⟨mw_343, List.forall_mem_cons.mpr ⟨mw_114, List.forall_mem_nil _⟩⟩⟩⟩, hmwsX7_quarrels⟩) (by decide +kernel)
set_option maxRecDepth 100000 in
theorem ckL_X7_quarrels : CkV lw_tbl RL 52 yX7_quarrels wsX7_quarrels cX7_quarrels 8 (some .int) 2 7 := ⟨RX7, TX7, 28, _, rfl, glX7_quarrels, rfl, hdX7_quarrels⟩
set_option maxRecDepth 100000 in
theorem mw_344 : Cond.code yX6_count cX6_count 4 (some .int) ∈ lw_tbl := List.mem_append_right _ (List.mem_append_right _ (List.mem_append_left _ (List.mem_of_getElem? (i := 153) rfl)))
set_option maxRecDepth 100000 in
theorem hmwsX6_count_r1 : ∀ w ∈ wsX6_count_r1, w ∈ lw_tbl := List.forall_mem_cons.mpr ⟨mw_18, List.forall_mem_cons.mpr ⟨mw_148, List.forall_mem_cons.mpr ⟨mw_253, List.forall_mem_cons.mpr ⟨mw_252, List.forall_mem_cons.mpr ⟨mw_91, List.forall_mem_cons.mpr ⟨mw_251, List.forall_mem_cons.mpr ⟨mw_118, List.forall_mem_cons.mpr ⟨mw_117, List.forall_mem_cons.mpr ⟨mw_116, List.forall_mem_cons.mpr ⟨mw_131, List.forall_mem_cons.mpr ⟨mw_168, List.forall_mem_cons.mpr ⟨mw_167, List.forall_mem_cons.mpr ⟨mw_40, List.forall_mem_cons.mpr ⟨mw_166, List.forall_mem_cons.mpr ⟨mw_62, List.forall_mem_cons.mpr ⟨mw_250, List.forall_mem_cons.mpr ⟨mw_249, List.forall_mem_cons.mpr ⟨mw_248, List.forall_mem_cons.mpr ⟨mw_259, List.forall_mem_cons.mpr ⟨mw_165, List.forall_mem_cons.mpr ⟨mw_164, List.forall_mem_cons.mpr ⟨mw_163, List.forall_mem_cons.mpr ⟨mw_162, List.forall_mem_cons.mpr ⟨mw_63, List.forall_mem_nil _⟩⟩⟩⟩⟩⟩⟩⟩⟩⟩⟩⟩⟩⟩⟩⟩⟩⟩⟩⟩⟩⟩⟩⟩
set_option maxRecDepth 100000 in
theorem mw_345 : Cond.code yX6_isLateToday cX6_isLateToday 3 (some .boolean) ∈ lw_tbl := List.mem_append_right _ (List.mem_append_right _ (List.mem_append_left _ (List.mem_of_getElem? (i := 161) rfl)))
set_option maxRecDepth 100000 in
theorem mw_346 : Cond.selects RX6 yX6_isLateToday yX6_isLateToday ∈ lw_tbl := List.mem_append_left _ (List.mem_map.mpr ⟨(⟨"EmptyBoxes", "isLateToday", "(I)Z"⟩, 8), List.mem_append_left _ (List.mem_of_getElem? (i := 15) rfl), rfl⟩)
set_option maxRecDepth 100000 in
theorem mw_347 : Cond.instanceMethod yX6_isLateToday ∈ lw_tbl := List.mem_append_right _ (List.mem_append_right _ (List.mem_append_left _ (List.mem_of_getElem? (i := 160) rfl)))
set_option maxRecDepth 100000 in
theorem mw_348 : Cond.methodLink RX6 161 yX6_isLateToday ∈ lw_tbl := List.mem_append_right _ (List.mem_append_right _ (List.mem_append_left _ (List.mem_of_getElem? (i := 158) rfl)))
set_option maxRecDepth 100000 in
theorem mw_349 : Cond.code yX6_isCountedAs cX6_isCountedAs 4 (some .boolean) ∈ lw_tbl := List.mem_append_right _ (List.mem_append_right _ (List.mem_append_left _ (List.mem_of_getElem? (i := 157) rfl)))
set_option maxRecDepth 100000 in
theorem mw_350 : Cond.selects RX6 yX6_isCountedAs yX6_isCountedAs ∈ lw_tbl := List.mem_append_left _ (List.mem_map.mpr ⟨(⟨"EmptyBoxes", "isCountedAs", "(II)Z"⟩, 8), List.mem_append_left _ (List.mem_of_getElem? (i := 14) rfl), rfl⟩)
set_option maxRecDepth 100000 in
theorem mw_351 : Cond.instanceMethod yX6_isCountedAs ∈ lw_tbl := List.mem_append_right _ (List.mem_append_right _ (List.mem_append_left _ (List.mem_of_getElem? (i := 156) rfl)))
set_option maxRecDepth 100000 in
theorem mw_352 : Cond.methodLink RX6 155 yX6_isCountedAs ∈ lw_tbl := List.mem_append_right _ (List.mem_append_right _ (List.mem_append_left _ (List.mem_of_getElem? (i := 154) rfl)))
set_option maxRecDepth 100000 in
theorem hmwsX6_count_r2 : ∀ w ∈ wsX6_count_r2, w ∈ lw_tbl := List.forall_mem_cons.mpr ⟨mw_65, List.forall_mem_cons.mpr ⟨mw_161, List.forall_mem_cons.mpr ⟨mw_160, List.forall_mem_cons.mpr ⟨mw_159, List.forall_mem_cons.mpr ⟨mw_158, List.forall_mem_cons.mpr ⟨mw_352, List.forall_mem_cons.mpr ⟨mw_351, List.forall_mem_cons.mpr ⟨mw_350, List.forall_mem_cons.mpr ⟨mw_349, List.forall_mem_cons.mpr ⟨mw_119, List.forall_mem_cons.mpr ⟨mw_348, List.forall_mem_cons.mpr ⟨mw_347, List.forall_mem_cons.mpr ⟨mw_346, List.forall_mem_cons.mpr ⟨mw_345, List.forall_mem_cons.mpr ⟨mw_258, List.forall_mem_cons.mpr ⟨mw_290, List.forall_mem_cons.mpr ⟨mw_289, List.forall_mem_cons.mpr ⟨mw_288, List.forall_mem_cons.mpr ⟨mw_287, List.forall_mem_cons.mpr ⟨mw_286, List.forall_mem_cons.mpr ⟨mw_285, List.forall_mem_cons.mpr ⟨mw_284, List.forall_mem_cons.mpr ⟨mw_283, List.forall_mem_cons.mpr ⟨mw_282, List.forall_mem_nil _⟩⟩⟩⟩⟩⟩⟩⟩⟩⟩⟩⟩⟩⟩⟩⟩⟩⟩⟩⟩⟩⟩⟩⟩
set_option maxRecDepth 100000 in
theorem hmwsX6_count_r3 : ∀ w ∈ wsX6_count_r3, w ∈ lw_tbl := List.forall_mem_cons.mpr ⟨mw_293, List.forall_mem_cons.mpr ⟨mw_292, List.forall_mem_cons.mpr ⟨mw_291, List.forall_mem_cons.mpr ⟨mw_278, List.forall_mem_cons.mpr ⟨mw_277, List.forall_mem_cons.mpr ⟨mw_276, List.forall_mem_cons.mpr ⟨mw_275, List.forall_mem_nil _⟩⟩⟩⟩⟩⟩⟩
set_option maxRecDepth 100000 in
theorem hmwsX6_count : ∀ w ∈ wsX6_count, w ∈ lw_tbl := List.forall_mem_cons.mpr ⟨mw_344, List.forall_mem_append.mpr ⟨List.forall_mem_append.mpr ⟨List.forall_mem_append.mpr ⟨List.forall_mem_append.mpr ⟨hmwsX6_count_r1, List.forall_mem_append.mpr ⟨hmwsX6_count_r2, hmwsX6_count_r3⟩⟩, inX6⟩, inX0⟩, inX4⟩⟩
set_option maxRecDepth 100000 in
theorem mw_353 : Cond.methodLink RL 53 yX6_count ∈ lw_tbl := List.mem_append_right _ (List.mem_append_right _ (List.mem_append_left _ (List.mem_of_getElem? (i := 150) rfl)))
set_option maxRecDepth 100000 in
theorem mw_354 : Cond.instanceMethod yX6_count ∈ lw_tbl := List.mem_append_right _ (List.mem_append_right _ (List.mem_append_left _ (List.mem_of_getElem? (i := 151) rfl)))
set_option maxRecDepth 100000 in
theorem mw_355 : Cond.selects RX6 yX6_count yX6_count ∈ lw_tbl := List.mem_append_right _ (List.mem_append_right _ (List.mem_append_left _ (List.mem_of_getElem? (i := 152) rfl)))
set_option maxRecDepth 100000 in
theorem glX6_count : GoodIn lw_tbl (wsV RL 53 RX6 yX6_count wsX6_count) := goodIn_sub (List.forall_mem_append.mpr ⟨List.forall_mem_cons.mpr ⟨mw_353, List.forall_mem_cons.mpr ⟨mw_354, List.forall_mem_cons.mpr ⟨mw_355, List.forall_mem_cons.mpr ⟨mw_91, List.forall_mem_nil _⟩⟩⟩⟩, hmwsX6_count⟩) (by decide +kernel)
set_option maxRecDepth 100000 in
theorem ckL_X6_count : CkV lw_tbl RL 53 yX6_count wsX6_count cX6_count 4 (some .int) 1 6 := ⟨RX6, TX6, 8, _, rfl, glX6_count, rfl, hdX6_count⟩
set_option maxRecDepth 100000 in
theorem mw_356 : Cond.code yX7_count cX7_count 6 (some .int) ∈ lw_tbl := List.mem_append_right _ (List.mem_append_right _ (List.mem_append_right _ (List.mem_append_right _ (List.mem_append_right _ (List.mem_of_getElem? (i := 6) rfl)))))
set_option maxRecDepth 100000 in
theorem mw_357 : Cond.instanceMethod yX7_isLate ∈ lw_tbl := List.mem_append_right _ (List.mem_append_right _ (List.mem_append_right _ (List.mem_append_right _ (List.mem_append_right _ (List.mem_of_getElem? (i := 9) rfl)))))
set_option maxRecDepth 100000 in
theorem mw_358 : Cond.methodLink RX7 106 yX7_isLate ∈ lw_tbl := List.mem_append_right _ (List.mem_append_right _ (List.mem_append_right _ (List.mem_append_right _ (List.mem_append_right _ (List.mem_of_getElem? (i := 7) rfl)))))
set_option maxRecDepth 100000 in
theorem hmwsX7_count_r1 : ∀ w ∈ wsX7_count_r1, w ∈ lw_tbl := List.forall_mem_cons.mpr ⟨mw_110, List.forall_mem_cons.mpr ⟨mw_266, List.forall_mem_cons.mpr ⟨mw_265, List.forall_mem_cons.mpr ⟨mw_114, List.forall_mem_cons.mpr ⟨mw_264, List.forall_mem_cons.mpr ⟨mw_126, List.forall_mem_cons.mpr ⟨mw_125, List.forall_mem_cons.mpr ⟨mw_124, List.forall_mem_cons.mpr ⟨mw_185, List.forall_mem_cons.mpr ⟨mw_184, List.forall_mem_cons.mpr ⟨mw_183, List.forall_mem_cons.mpr ⟨mw_182, List.forall_mem_cons.mpr ⟨mw_109, List.forall_mem_cons.mpr ⟨mw_304, List.forall_mem_cons.mpr ⟨mw_303, List.forall_mem_cons.mpr ⟨mw_302, List.forall_mem_cons.mpr ⟨mw_301, List.forall_mem_cons.mpr ⟨mw_108, List.forall_mem_cons.mpr ⟨mw_300, List.forall_mem_cons.mpr ⟨mw_299, List.forall_mem_cons.mpr ⟨mw_298, List.forall_mem_cons.mpr ⟨mw_308, List.forall_mem_cons.mpr ⟨mw_358, List.forall_mem_cons.mpr ⟨mw_357, List.forall_mem_nil _⟩⟩⟩⟩⟩⟩⟩⟩⟩⟩⟩⟩⟩⟩⟩⟩⟩⟩⟩⟩⟩⟩⟩⟩
set_option maxRecDepth 100000 in
theorem mw_359 : Cond.code yX7_isLate cX7_isLate 4 (some .boolean) ∈ lw_tbl := List.mem_append_right _ (List.mem_append_right _ (List.mem_append_right _ (List.mem_append_right _ (List.mem_append_right _ (List.mem_of_getElem? (i := 10) rfl)))))
set_option maxRecDepth 100000 in
theorem mw_360 : Cond.selects RX7 yX7_isLate yX7_isLate ∈ lw_tbl := List.mem_append_left _ (List.mem_map.mpr ⟨(⟨"EmptyBoxesModel", "isLate", "(I)Z"⟩, 28), List.mem_append_right _ (List.mem_append_right _ (List.mem_append_right _ (List.mem_append_left _ (List.mem_of_getElem? (i := 5) rfl)))), rfl⟩)
set_option maxRecDepth 100000 in
theorem hmwsX7_count_r2 : ∀ w ∈ wsX7_count_r2, w ∈ lw_tbl := List.forall_mem_cons.mpr ⟨mw_360, List.forall_mem_cons.mpr ⟨mw_359, List.forall_mem_nil _⟩⟩
set_option maxRecDepth 100000 in
theorem hmwsX7_count : ∀ w ∈ wsX7_count, w ∈ lw_tbl := List.forall_mem_cons.mpr ⟨mw_356, List.forall_mem_append.mpr ⟨List.forall_mem_append.mpr ⟨hmwsX7_count_r1, hmwsX7_count_r2⟩, inX7⟩⟩
set_option maxRecDepth 100000 in
theorem mw_361 : Cond.methodLink RL 56 yX7_count ∈ lw_tbl := List.mem_append_right _ (List.mem_append_right _ (List.mem_append_right _ (List.mem_append_right _ (List.mem_append_right _ (List.mem_of_getElem? (i := 3) rfl)))))
set_option maxRecDepth 100000 in
theorem mw_362 : Cond.instanceMethod yX7_count ∈ lw_tbl := List.mem_append_right _ (List.mem_append_right _ (List.mem_append_right _ (List.mem_append_right _ (List.mem_append_right _ (List.mem_of_getElem? (i := 4) rfl)))))
set_option maxRecDepth 100000 in
theorem mw_363 : Cond.selects RX7 yX7_count yX7_count ∈ lw_tbl := List.mem_append_right _ (List.mem_append_right _ (List.mem_append_right _ (List.mem_append_right _ (List.mem_append_right _ (List.mem_of_getElem? (i := 5) rfl)))))
set_option maxRecDepth 100000 in
theorem glX7_count : GoodIn lw_tbl (wsV RL 56 RX7 yX7_count wsX7_count) := goodIn_sub (List.forall_mem_append.mpr ⟨List.forall_mem_cons.mpr ⟨mw_361, List.forall_mem_cons.mpr ⟨mw_362, List.forall_mem_cons.mpr ⟨mw_363, List.forall_mem_cons.mpr ⟨mw_114, List.forall_mem_nil _⟩⟩⟩⟩, hmwsX7_count⟩) (by decide +kernel)
set_option maxRecDepth 100000 in
theorem ckL_X7_count : CkV lw_tbl RL 56 yX7_count wsX7_count cX7_count 6 (some .int) 1 7 := ⟨RX7, TX7, 28, _, rfl, glX7_count, rfl, hdX7_count⟩
set_option maxRecDepth 100000 in
theorem mw_364 : Cond.code yX6_week cX6_week 7 (some .int) ∈ lw_tbl := List.mem_append_right _ (List.mem_append_right _ (List.mem_append_left _ (List.mem_of_getElem? (i := 165) rfl)))
set_option maxRecDepth 100000 in
theorem mw_365 : Cond.code yX6_knotOf cX6_knotOf 2 (some .int) ∈ lw_tbl := List.mem_append_right _ (List.mem_append_right _ (List.mem_append_left _ (List.mem_of_getElem? (i := 171) rfl)))
set_option maxRecDepth 100000 in
theorem mw_366 : Cond.static yX6_knotOf ∈ lw_tbl := List.mem_append_right _ (List.mem_append_right _ (List.mem_append_left _ (List.mem_of_getElem? (i := 170) rfl)))
set_option maxRecDepth 100000 in
theorem mw_367 : Cond.methodLink RX6 170 yX6_knotOf ∈ lw_tbl := List.mem_append_right _ (List.mem_append_right _ (List.mem_append_left _ (List.mem_of_getElem? (i := 169) rfl)))
set_option maxRecDepth 100000 in
theorem mw_368 : Cond.code yX6_isWeek cX6_isWeek 1 (some .boolean) ∈ lw_tbl := List.mem_append_right _ (List.mem_append_right _ (List.mem_append_left _ (List.mem_of_getElem? (i := 168) rfl)))
set_option maxRecDepth 100000 in
theorem mw_369 : Cond.static yX6_isWeek ∈ lw_tbl := List.mem_append_right _ (List.mem_append_right _ (List.mem_append_left _ (List.mem_of_getElem? (i := 167) rfl)))
set_option maxRecDepth 100000 in
theorem mw_370 : Cond.methodLink RX6 167 yX6_isWeek ∈ lw_tbl := List.mem_append_right _ (List.mem_append_right _ (List.mem_append_left _ (List.mem_of_getElem? (i := 166) rfl)))
set_option maxRecDepth 100000 in
theorem mw_371 : Cond.fieldLink RX6 173 "EmptyBoxes$Desk" "weeks" "LEmptyBoxes$Table;" ∈ lw_tbl := List.mem_append_right _ (List.mem_append_left _ (List.mem_of_getElem? (i := 62) rfl))
set_option maxRecDepth 100000 in
theorem hmwsX6_week_r1 : ∀ w ∈ wsX6_week_r1, w ∈ lw_tbl := List.forall_mem_cons.mpr ⟨mw_18, List.forall_mem_cons.mpr ⟨mw_371, List.forall_mem_cons.mpr ⟨mw_47, List.forall_mem_cons.mpr ⟨mw_253, List.forall_mem_cons.mpr ⟨mw_252, List.forall_mem_cons.mpr ⟨mw_91, List.forall_mem_cons.mpr ⟨mw_251, List.forall_mem_cons.mpr ⟨mw_118, List.forall_mem_cons.mpr ⟨mw_117, List.forall_mem_cons.mpr ⟨mw_116, List.forall_mem_cons.mpr ⟨mw_370, List.forall_mem_cons.mpr ⟨mw_369, List.forall_mem_cons.mpr ⟨mw_368, List.forall_mem_cons.mpr ⟨mw_367, List.forall_mem_cons.mpr ⟨mw_366, List.forall_mem_cons.mpr ⟨mw_365, List.forall_mem_cons.mpr ⟨mw_165, List.forall_mem_cons.mpr ⟨mw_164, List.forall_mem_cons.mpr ⟨mw_163, List.forall_mem_cons.mpr ⟨mw_40, List.forall_mem_cons.mpr ⟨mw_162, List.forall_mem_cons.mpr ⟨mw_63, List.forall_mem_cons.mpr ⟨mw_65, List.forall_mem_cons.mpr ⟨mw_161, List.forall_mem_nil _⟩⟩⟩⟩⟩⟩⟩⟩⟩⟩⟩⟩⟩⟩⟩⟩⟩⟩⟩⟩⟩⟩⟩⟩
set_option maxRecDepth 100000 in
theorem hmwsX6_week_r2 : ∀ w ∈ wsX6_week_r2, w ∈ lw_tbl := List.forall_mem_cons.mpr ⟨mw_160, List.forall_mem_cons.mpr ⟨mw_159, List.forall_mem_cons.mpr ⟨mw_158, List.forall_mem_cons.mpr ⟨mw_62, List.forall_mem_cons.mpr ⟨mw_172, List.forall_mem_cons.mpr ⟨mw_171, List.forall_mem_cons.mpr ⟨mw_170, List.forall_mem_cons.mpr ⟨mw_169, List.forall_mem_nil _⟩⟩⟩⟩⟩⟩⟩⟩
set_option maxRecDepth 100000 in
theorem hmwsX6_week : ∀ w ∈ wsX6_week, w ∈ lw_tbl := List.forall_mem_cons.mpr ⟨mw_364, List.forall_mem_append.mpr ⟨List.forall_mem_append.mpr ⟨List.forall_mem_append.mpr ⟨List.forall_mem_append.mpr ⟨hmwsX6_week_r1, hmwsX6_week_r2⟩, inX6⟩, inX0⟩, inX4⟩⟩
set_option maxRecDepth 100000 in
theorem mw_372 : Cond.methodLink RL 57 yX6_week ∈ lw_tbl := List.mem_append_right _ (List.mem_append_right _ (List.mem_append_left _ (List.mem_of_getElem? (i := 162) rfl)))
set_option maxRecDepth 100000 in
theorem mw_373 : Cond.instanceMethod yX6_week ∈ lw_tbl := List.mem_append_right _ (List.mem_append_right _ (List.mem_append_left _ (List.mem_of_getElem? (i := 163) rfl)))
set_option maxRecDepth 100000 in
theorem mw_374 : Cond.selects RX6 yX6_week yX6_week ∈ lw_tbl := List.mem_append_right _ (List.mem_append_right _ (List.mem_append_left _ (List.mem_of_getElem? (i := 164) rfl)))
set_option maxRecDepth 100000 in
theorem glX6_week : GoodIn lw_tbl (wsV RL 57 RX6 yX6_week wsX6_week) := goodIn_sub (List.forall_mem_append.mpr ⟨List.forall_mem_cons.mpr ⟨mw_372, List.forall_mem_cons.mpr ⟨mw_373, List.forall_mem_cons.mpr ⟨mw_374, List.forall_mem_cons.mpr ⟨mw_91, List.forall_mem_nil _⟩⟩⟩⟩, hmwsX6_week⟩) (by decide +kernel)
set_option maxRecDepth 100000 in
theorem ckL_X6_week : CkV lw_tbl RL 57 yX6_week wsX6_week cX6_week 7 (some .int) 4 6 := ⟨RX6, TX6, 8, _, rfl, glX6_week, rfl, hdX6_week⟩
set_option maxRecDepth 100000 in
theorem mw_375 : Cond.code yX7_week cX7_week 7 (some .int) ∈ lw_tbl := List.mem_append_right _ (List.mem_append_right _ (List.mem_append_right _ (List.mem_append_right _ (List.mem_append_right _ (List.mem_of_getElem? (i := 14) rfl)))))
set_option maxRecDepth 100000 in
theorem hmwsX7_week : ∀ w ∈ wsX7_week, w ∈ lw_tbl := List.forall_mem_cons.mpr ⟨mw_375, List.forall_mem_append.mpr ⟨List.forall_mem_cons.mpr ⟨mw_107, List.forall_mem_cons.mpr ⟨mw_266, List.forall_mem_cons.mpr ⟨mw_265, List.forall_mem_cons.mpr ⟨mw_114, List.forall_mem_cons.mpr ⟨mw_264, List.forall_mem_cons.mpr ⟨mw_126, List.forall_mem_cons.mpr ⟨mw_125, List.forall_mem_cons.mpr ⟨mw_124, List.forall_mem_nil _⟩⟩⟩⟩⟩⟩⟩⟩, inX7⟩⟩
set_option maxRecDepth 100000 in
theorem mw_376 : Cond.methodLink RL 60 yX7_week ∈ lw_tbl := List.mem_append_right _ (List.mem_append_right _ (List.mem_append_right _ (List.mem_append_right _ (List.mem_append_right _ (List.mem_of_getElem? (i := 11) rfl)))))
set_option maxRecDepth 100000 in
theorem mw_377 : Cond.instanceMethod yX7_week ∈ lw_tbl := List.mem_append_right _ (List.mem_append_right _ (List.mem_append_right _ (List.mem_append_right _ (List.mem_append_right _ (List.mem_of_getElem? (i := 12) rfl)))))
set_option maxRecDepth 100000 in
theorem mw_378 : Cond.selects RX7 yX7_week yX7_week ∈ lw_tbl := List.mem_append_right _ (List.mem_append_right _ (List.mem_append_right _ (List.mem_append_right _ (List.mem_append_right _ (List.mem_of_getElem? (i := 13) rfl)))))
set_option maxRecDepth 100000 in
theorem glX7_week : GoodIn lw_tbl (wsV RL 60 RX7 yX7_week wsX7_week) := goodIn_sub (List.forall_mem_append.mpr ⟨List.forall_mem_cons.mpr ⟨mw_376, List.forall_mem_cons.mpr ⟨mw_377, List.forall_mem_cons.mpr ⟨mw_378, List.forall_mem_cons.mpr ⟨mw_114, List.forall_mem_nil _⟩⟩⟩⟩, hmwsX7_week⟩) (by decide +kernel)
set_option maxRecDepth 100000 in
theorem ckL_X7_week : CkV lw_tbl RL 60 yX7_week wsX7_week cX7_week 7 (some .int) 4 7 := ⟨RX7, TX7, 28, _, rfl, glX7_week, rfl, hdX7_week⟩
set_option maxRecDepth 100000 in
theorem mw_379 : Cond.code yX6_route cX6_route 6 (some .int) ∈ lw_tbl := List.mem_append_right _ (List.mem_append_right _ (List.mem_append_left _ (List.mem_of_getElem? (i := 175) rfl)))
set_option maxRecDepth 100000 in
theorem mw_380 : Cond.fieldLink RX6 176 "EmptyBoxes$Desk" "routes" "LEmptyBoxes$Table;" ∈ lw_tbl := List.mem_append_right _ (List.mem_append_left _ (List.mem_of_getElem? (i := 65) rfl))
set_option maxRecDepth 100000 in
theorem hmwsX6_route_r1 : ∀ w ∈ wsX6_route_r1, w ∈ lw_tbl := List.forall_mem_cons.mpr ⟨mw_18, List.forall_mem_cons.mpr ⟨mw_380, List.forall_mem_cons.mpr ⟨mw_47, List.forall_mem_cons.mpr ⟨mw_253, List.forall_mem_cons.mpr ⟨mw_252, List.forall_mem_cons.mpr ⟨mw_91, List.forall_mem_cons.mpr ⟨mw_251, List.forall_mem_cons.mpr ⟨mw_118, List.forall_mem_cons.mpr ⟨mw_117, List.forall_mem_cons.mpr ⟨mw_116, List.forall_mem_cons.mpr ⟨mw_152, List.forall_mem_cons.mpr ⟨mw_151, List.forall_mem_cons.mpr ⟨mw_150, List.forall_mem_cons.mpr ⟨mw_40, List.forall_mem_cons.mpr ⟨mw_149, List.forall_mem_cons.mpr ⟨mw_62, List.forall_mem_cons.mpr ⟨mw_66, List.forall_mem_cons.mpr ⟨mw_177, List.forall_mem_cons.mpr ⟨mw_176, List.forall_mem_cons.mpr ⟨mw_175, List.forall_mem_cons.mpr ⟨mw_174, List.forall_mem_cons.mpr ⟨mw_173, List.forall_mem_cons.mpr ⟨mw_172, List.forall_mem_cons.mpr ⟨mw_171, List.forall_mem_nil _⟩⟩⟩⟩⟩⟩⟩⟩⟩⟩⟩⟩⟩⟩⟩⟩⟩⟩⟩⟩⟩⟩⟩⟩
set_option maxRecDepth 100000 in
theorem hmwsX6_route_r2 : ∀ w ∈ wsX6_route_r2, w ∈ lw_tbl := List.forall_mem_cons.mpr ⟨mw_170, List.forall_mem_cons.mpr ⟨mw_169, List.forall_mem_cons.mpr ⟨mw_63, List.forall_mem_cons.mpr ⟨mw_65, List.forall_mem_cons.mpr ⟨mw_161, List.forall_mem_cons.mpr ⟨mw_160, List.forall_mem_cons.mpr ⟨mw_159, List.forall_mem_cons.mpr ⟨mw_158, List.forall_mem_nil _⟩⟩⟩⟩⟩⟩⟩⟩
set_option maxRecDepth 100000 in
theorem hmwsX6_route : ∀ w ∈ wsX6_route, w ∈ lw_tbl := List.forall_mem_cons.mpr ⟨mw_379, List.forall_mem_append.mpr ⟨List.forall_mem_append.mpr ⟨List.forall_mem_append.mpr ⟨List.forall_mem_append.mpr ⟨hmwsX6_route_r1, hmwsX6_route_r2⟩, inX6⟩, inX0⟩, inX4⟩⟩
set_option maxRecDepth 100000 in
theorem mw_381 : Cond.methodLink RL 61 yX6_route ∈ lw_tbl := List.mem_append_right _ (List.mem_append_right _ (List.mem_append_left _ (List.mem_of_getElem? (i := 172) rfl)))
set_option maxRecDepth 100000 in
theorem mw_382 : Cond.instanceMethod yX6_route ∈ lw_tbl := List.mem_append_right _ (List.mem_append_right _ (List.mem_append_left _ (List.mem_of_getElem? (i := 173) rfl)))
set_option maxRecDepth 100000 in
theorem mw_383 : Cond.selects RX6 yX6_route yX6_route ∈ lw_tbl := List.mem_append_right _ (List.mem_append_right _ (List.mem_append_left _ (List.mem_of_getElem? (i := 174) rfl)))
set_option maxRecDepth 100000 in
theorem glX6_route : GoodIn lw_tbl (wsV RL 61 RX6 yX6_route wsX6_route) := goodIn_sub (List.forall_mem_append.mpr ⟨List.forall_mem_cons.mpr ⟨mw_381, List.forall_mem_cons.mpr ⟨mw_382, List.forall_mem_cons.mpr ⟨mw_383, List.forall_mem_cons.mpr ⟨mw_91, List.forall_mem_nil _⟩⟩⟩⟩, hmwsX6_route⟩) (by decide +kernel)
set_option maxRecDepth 100000 in
theorem ckL_X6_route : CkV lw_tbl RL 61 yX6_route wsX6_route cX6_route 6 (some .int) 4 6 := ⟨RX6, TX6, 8, _, rfl, glX6_route, rfl, hdX6_route⟩
set_option maxRecDepth 100000 in
theorem mw_384 : Cond.code yX7_route cX7_route 6 (some .int) ∈ lw_tbl := List.mem_append_right _ (List.mem_append_right _ (List.mem_append_right _ (List.mem_append_right _ (List.mem_append_right _ (List.mem_of_getElem? (i := 18) rfl)))))
set_option maxRecDepth 100000 in
theorem hmwsX7_route : ∀ w ∈ wsX7_route, w ∈ lw_tbl := List.forall_mem_cons.mpr ⟨mw_384, List.forall_mem_append.mpr ⟨List.forall_mem_cons.mpr ⟨mw_110, List.forall_mem_cons.mpr ⟨mw_106, List.forall_mem_cons.mpr ⟨mw_266, List.forall_mem_cons.mpr ⟨mw_265, List.forall_mem_cons.mpr ⟨mw_114, List.forall_mem_cons.mpr ⟨mw_264, List.forall_mem_cons.mpr ⟨mw_126, List.forall_mem_cons.mpr ⟨mw_125, List.forall_mem_cons.mpr ⟨mw_124, List.forall_mem_nil _⟩⟩⟩⟩⟩⟩⟩⟩⟩, inX7⟩⟩
set_option maxRecDepth 100000 in
theorem mw_385 : Cond.methodLink RL 64 yX7_route ∈ lw_tbl := List.mem_append_right _ (List.mem_append_right _ (List.mem_append_right _ (List.mem_append_right _ (List.mem_append_right _ (List.mem_of_getElem? (i := 15) rfl)))))
set_option maxRecDepth 100000 in
theorem mw_386 : Cond.instanceMethod yX7_route ∈ lw_tbl := List.mem_append_right _ (List.mem_append_right _ (List.mem_append_right _ (List.mem_append_right _ (List.mem_append_right _ (List.mem_of_getElem? (i := 16) rfl)))))
set_option maxRecDepth 100000 in
theorem mw_387 : Cond.selects RX7 yX7_route yX7_route ∈ lw_tbl := List.mem_append_right _ (List.mem_append_right _ (List.mem_append_right _ (List.mem_append_right _ (List.mem_append_right _ (List.mem_of_getElem? (i := 17) rfl)))))
set_option maxRecDepth 100000 in
theorem glX7_route : GoodIn lw_tbl (wsV RL 64 RX7 yX7_route wsX7_route) := goodIn_sub (List.forall_mem_append.mpr ⟨List.forall_mem_cons.mpr ⟨mw_385, List.forall_mem_cons.mpr ⟨mw_386, List.forall_mem_cons.mpr ⟨mw_387, List.forall_mem_cons.mpr ⟨mw_114, List.forall_mem_nil _⟩⟩⟩⟩, hmwsX7_route⟩) (by decide +kernel)
set_option maxRecDepth 100000 in
theorem ckL_X7_route : CkV lw_tbl RL 64 yX7_route wsX7_route cX7_route 6 (some .int) 4 7 := ⟨RX7, TX7, 28, _, rfl, glX7_route, rfl, hdX7_route⟩
set_option maxRecDepth 100000 in
theorem mw_388 : Cond.code yX6_lack cX6_lack 3 (some .int) ∈ lw_tbl := List.mem_append_right _ (List.mem_append_right _ (List.mem_append_left _ (List.mem_of_getElem? (i := 179) rfl)))
set_option maxRecDepth 100000 in
theorem mw_389 : Cond.fieldLink RX6 179 "EmptyBoxes$Desk" "lackCost" "I" ∈ lw_tbl := List.mem_append_right _ (List.mem_append_left _ (List.mem_of_getElem? (i := 80) rfl))
set_option maxRecDepth 100000 in
theorem hmwsX6_lack : ∀ w ∈ wsX6_lack, w ∈ lw_tbl := List.forall_mem_cons.mpr ⟨mw_388, List.forall_mem_append.mpr ⟨List.forall_mem_append.mpr ⟨List.forall_mem_cons.mpr ⟨mw_18, List.forall_mem_cons.mpr ⟨mw_389, List.forall_mem_cons.mpr ⟨mw_47, List.forall_mem_cons.mpr ⟨mw_118, List.forall_mem_cons.mpr ⟨mw_117, List.forall_mem_cons.mpr ⟨mw_91, List.forall_mem_cons.mpr ⟨mw_116, List.forall_mem_nil _⟩⟩⟩⟩⟩⟩⟩, inX6⟩, inX0⟩⟩
set_option maxRecDepth 100000 in
theorem mw_390 : Cond.methodLink RL 65 yX6_lack ∈ lw_tbl := List.mem_append_right _ (List.mem_append_right _ (List.mem_append_left _ (List.mem_of_getElem? (i := 176) rfl)))
set_option maxRecDepth 100000 in
theorem mw_391 : Cond.instanceMethod yX6_lack ∈ lw_tbl := List.mem_append_right _ (List.mem_append_right _ (List.mem_append_left _ (List.mem_of_getElem? (i := 177) rfl)))
set_option maxRecDepth 100000 in
theorem mw_392 : Cond.selects RX6 yX6_lack yX6_lack ∈ lw_tbl := List.mem_append_right _ (List.mem_append_right _ (List.mem_append_left _ (List.mem_of_getElem? (i := 178) rfl)))
set_option maxRecDepth 100000 in
theorem glX6_lack : GoodIn lw_tbl (wsV RL 65 RX6 yX6_lack wsX6_lack) := goodIn_sub (List.forall_mem_append.mpr ⟨List.forall_mem_cons.mpr ⟨mw_390, List.forall_mem_cons.mpr ⟨mw_391, List.forall_mem_cons.mpr ⟨mw_392, List.forall_mem_cons.mpr ⟨mw_91, List.forall_mem_nil _⟩⟩⟩⟩, hmwsX6_lack⟩) (by decide +kernel)
set_option maxRecDepth 100000 in
theorem ckL_X6_lack : CkV lw_tbl RL 65 yX6_lack wsX6_lack cX6_lack 3 (some .int) 1 6 := ⟨RX6, TX6, 8, _, rfl, glX6_lack, rfl, hdX6_lack⟩
set_option maxRecDepth 100000 in
theorem mw_393 : Cond.code yX7_lack cX7_lack 3 (some .int) ∈ lw_tbl := List.mem_append_right _ (List.mem_append_right _ (List.mem_append_right _ (List.mem_append_right _ (List.mem_append_right _ (List.mem_of_getElem? (i := 22) rfl)))))
set_option maxRecDepth 100000 in
theorem hmwsX7_lack : ∀ w ∈ wsX7_lack, w ∈ lw_tbl := List.forall_mem_cons.mpr ⟨mw_393, List.forall_mem_append.mpr ⟨List.forall_mem_cons.mpr ⟨mw_110, List.forall_mem_cons.mpr ⟨mw_126, List.forall_mem_cons.mpr ⟨mw_125, List.forall_mem_cons.mpr ⟨mw_114, List.forall_mem_cons.mpr ⟨mw_124, List.forall_mem_nil _⟩⟩⟩⟩⟩, inX7⟩⟩
set_option maxRecDepth 100000 in
theorem mw_394 : Cond.methodLink RL 68 yX7_lack ∈ lw_tbl := List.mem_append_right _ (List.mem_append_right _ (List.mem_append_right _ (List.mem_append_right _ (List.mem_append_right _ (List.mem_of_getElem? (i := 19) rfl)))))
set_option maxRecDepth 100000 in
theorem mw_395 : Cond.instanceMethod yX7_lack ∈ lw_tbl := List.mem_append_right _ (List.mem_append_right _ (List.mem_append_right _ (List.mem_append_right _ (List.mem_append_right _ (List.mem_of_getElem? (i := 20) rfl)))))
set_option maxRecDepth 100000 in
theorem mw_396 : Cond.selects RX7 yX7_lack yX7_lack ∈ lw_tbl := List.mem_append_right _ (List.mem_append_right _ (List.mem_append_right _ (List.mem_append_right _ (List.mem_append_right _ (List.mem_of_getElem? (i := 21) rfl)))))
set_option maxRecDepth 100000 in
theorem glX7_lack : GoodIn lw_tbl (wsV RL 68 RX7 yX7_lack wsX7_lack) := goodIn_sub (List.forall_mem_append.mpr ⟨List.forall_mem_cons.mpr ⟨mw_394, List.forall_mem_cons.mpr ⟨mw_395, List.forall_mem_cons.mpr ⟨mw_396, List.forall_mem_cons.mpr ⟨mw_114, List.forall_mem_nil _⟩⟩⟩⟩, hmwsX7_lack⟩) (by decide +kernel)
set_option maxRecDepth 100000 in
theorem ckL_X7_lack : CkV lw_tbl RL 68 yX7_lack wsX7_lack cX7_lack 3 (some .int) 1 7 := ⟨RX7, TX7, 28, _, rfl, glX7_lack, rfl, hdX7_lack⟩
set_option maxRecDepth 100000 in
theorem mw_397 : Cond.code yX6_least cX6_least 1 (some .int) ∈ lw_tbl := List.mem_append_right _ (List.mem_append_right _ (List.mem_append_left _ (List.mem_of_getElem? (i := 183) rfl)))
set_option maxRecDepth 100000 in
theorem mw_398 : Cond.fieldLink RX3 77 "EmptyBoxes$Desk" "weeks" "LEmptyBoxes$Table;" ∈ lw_tbl := List.mem_append_right _ (List.mem_append_left _ (List.mem_of_getElem? (i := 61) rfl))
set_option maxRecDepth 100000 in
theorem mw_399 : Cond.fieldLink RX3 74 "EmptyBoxes$Plan" "leastCost" "I" ∈ lw_tbl := List.mem_append_right _ (List.mem_append_left _ (List.mem_of_getElem? (i := 165) rfl))
set_option maxRecDepth 100000 in
theorem mw_400 : Cond.fieldLink RX3 73 "EmptyBoxes$Plan" "lackCost" "I" ∈ lw_tbl := List.mem_append_right _ (List.mem_append_left _ (List.mem_of_getElem? (i := 164) rfl))
set_option maxRecDepth 100000 in
theorem mw_401 : Cond.fieldLink RX3 69 "EmptyBoxes$Desk" "lackCost" "I" ∈ lw_tbl := List.mem_append_right _ (List.mem_append_left _ (List.mem_of_getElem? (i := 79) rfl))
set_option maxRecDepth 100000 in
theorem mw_402 : Cond.code yX3_layKnots cX3_layKnots 5 none ∈ lw_tbl := List.mem_append_right _ (List.mem_append_right _ (List.mem_append_left _ (List.mem_of_getElem? (i := 195) rfl)))
set_option maxRecDepth 100000 in
theorem mw_403 : Cond.selects RX3 yX3_layKnots yX3_layKnots ∈ lw_tbl := List.mem_append_left _ (List.mem_map.mpr ⟨(⟨"EmptyBoxes$Plan", "layKnots", "(LEmptyBoxes$Desk;)V"⟩, 11), List.mem_append_right _ (List.mem_append_left _ (List.mem_of_getElem? (i := 1) rfl)), rfl⟩)
set_option maxRecDepth 100000 in
theorem mw_404 : Cond.instanceMethod yX3_layKnots ∈ lw_tbl := List.mem_append_right _ (List.mem_append_right _ (List.mem_append_left _ (List.mem_of_getElem? (i := 194) rfl)))
set_option maxRecDepth 100000 in
theorem mw_405 : Cond.methodLink RX3 44 yX3_layKnots ∈ lw_tbl := List.mem_append_right _ (List.mem_append_right _ (List.mem_append_left _ (List.mem_of_getElem? (i := 192) rfl)))
set_option maxRecDepth 100000 in
theorem mw_406 : Cond.fieldLink RX3 48 "EmptyBoxes$Desk" "routes" "LEmptyBoxes$Table;" ∈ lw_tbl := List.mem_append_right _ (List.mem_append_left _ (List.mem_of_getElem? (i := 64) rfl))
set_option maxRecDepth 100000 in
theorem mw_407 : Cond.code yX3_solve cX3_solve 4 none ∈ lw_tbl := List.mem_append_right _ (List.mem_append_right _ (List.mem_append_left _ (List.mem_of_getElem? (i := 191) rfl)))
set_option maxRecDepth 100000 in
theorem mw_408 : Cond.selects RX3 yX3_solve yX3_solve ∈ lw_tbl := List.mem_append_right _ (List.mem_append_right _ (List.mem_append_left _ (List.mem_of_getElem? (i := 190) rfl)))
set_option maxRecDepth 100000 in
theorem mw_409 : Cond.instanceMethod yX3_solve ∈ lw_tbl := List.mem_append_right _ (List.mem_append_right _ (List.mem_append_left _ (List.mem_of_getElem? (i := 189) rfl)))
set_option maxRecDepth 100000 in
theorem mw_410 : Cond.methodLink RX6 191 yX3_solve ∈ lw_tbl := List.mem_append_right _ (List.mem_append_right _ (List.mem_append_left _ (List.mem_of_getElem? (i := 188) rfl)))
set_option maxRecDepth 100000 in
theorem mw_411 : Cond.code yX6_makePlan cX6_makePlan 1 none ∈ lw_tbl := List.mem_append_right _ (List.mem_append_right _ (List.mem_append_left _ (List.mem_of_getElem? (i := 187) rfl)))
set_option maxRecDepth 100000 in
theorem mw_412 : Cond.selects RX6 yX6_makePlan yX6_makePlan ∈ lw_tbl := List.mem_append_left _ (List.mem_map.mpr ⟨(⟨"EmptyBoxes", "makePlan", "()V"⟩, 8), List.mem_append_right _ (List.mem_append_left _ (List.mem_of_getElem? (i := 0) rfl)), rfl⟩)
set_option maxRecDepth 100000 in
theorem mw_413 : Cond.instanceMethod yX6_makePlan ∈ lw_tbl := List.mem_append_right _ (List.mem_append_right _ (List.mem_append_left _ (List.mem_of_getElem? (i := 186) rfl)))
set_option maxRecDepth 100000 in
theorem mw_414 : Cond.methodLink RX6 182 yX6_makePlan ∈ lw_tbl := List.mem_append_right _ (List.mem_append_right _ (List.mem_append_left _ (List.mem_of_getElem? (i := 184) rfl)))
set_option maxRecDepth 100000 in
theorem mw_415 : Cond.fieldLink RX6 185 "EmptyBoxes$Plan" "leastCost" "I" ∈ lw_tbl := List.mem_append_right _ (List.mem_append_left _ (List.mem_of_getElem? (i := 166) rfl))
set_option maxRecDepth 100000 in
theorem hmwsX6_least_r1 : ∀ w ∈ wsX6_least_r1, w ∈ lw_tbl := List.forall_mem_cons.mpr ⟨mw_5, List.forall_mem_cons.mpr ⟨mw_415, List.forall_mem_cons.mpr ⟨mw_414, List.forall_mem_cons.mpr ⟨mw_413, List.forall_mem_cons.mpr ⟨mw_412, List.forall_mem_cons.mpr ⟨mw_91, List.forall_mem_cons.mpr ⟨mw_411, List.forall_mem_cons.mpr ⟨mw_47, List.forall_mem_cons.mpr ⟨mw_18, List.forall_mem_cons.mpr ⟨mw_410, List.forall_mem_cons.mpr ⟨mw_409, List.forall_mem_cons.mpr ⟨mw_408, List.forall_mem_cons.mpr ⟨mw_6, List.forall_mem_cons.mpr ⟨mw_407, List.forall_mem_cons.mpr ⟨mw_406, List.forall_mem_cons.mpr ⟨mw_405, List.forall_mem_cons.mpr ⟨mw_404, List.forall_mem_cons.mpr ⟨mw_403, List.forall_mem_cons.mpr ⟨mw_402, List.forall_mem_cons.mpr ⟨mw_401, List.forall_mem_cons.mpr ⟨mw_400, List.forall_mem_cons.mpr ⟨mw_399, List.forall_mem_cons.mpr ⟨mw_398, List.forall_mem_cons.mpr ⟨mw_82, List.forall_mem_nil _⟩⟩⟩⟩⟩⟩⟩⟩⟩⟩⟩⟩⟩⟩⟩⟩⟩⟩⟩⟩⟩⟩⟩⟩
set_option maxRecDepth 100000 in
theorem mw_416 : Cond.methodLink RX3 94 yX4_size ∈ lw_tbl := List.mem_append_right _ (List.mem_append_right _ (List.mem_append_left _ (List.mem_of_getElem? (i := 202) rfl)))
set_option maxRecDepth 100000 in
theorem mw_417 : Cond.fieldLink RX3 91 "EmptyBoxes$Plan" "arcs" "I" ∈ lw_tbl := List.mem_append_right _ (List.mem_append_left _ (List.mem_of_getElem? (i := 163) rfl))
set_option maxRecDepth 100000 in
theorem mw_418 : Cond.code yX3_layArcs cX3_layArcs 5 none ∈ lw_tbl := List.mem_append_right _ (List.mem_append_right _ (List.mem_append_left _ (List.mem_of_getElem? (i := 201) rfl)))
set_option maxRecDepth 100000 in
theorem mw_419 : Cond.selects RX3 yX3_layArcs yX3_layArcs ∈ lw_tbl := List.mem_append_left _ (List.mem_map.mpr ⟨(⟨"EmptyBoxes$Plan", "layArcs", "(LEmptyBoxes$Table;)V"⟩, 11), List.mem_append_right _ (List.mem_append_left _ (List.mem_of_getElem? (i := 2) rfl)), rfl⟩)
set_option maxRecDepth 100000 in
theorem mw_420 : Cond.instanceMethod yX3_layArcs ∈ lw_tbl := List.mem_append_right _ (List.mem_append_right _ (List.mem_append_left _ (List.mem_of_getElem? (i := 200) rfl)))
set_option maxRecDepth 100000 in
theorem mw_421 : Cond.methodLink RX3 54 yX3_layArcs ∈ lw_tbl := List.mem_append_right _ (List.mem_append_right _ (List.mem_append_left _ (List.mem_of_getElem? (i := 198) rfl)))
set_option maxRecDepth 100000 in
theorem mw_422 : Cond.methodLink RX3 80 yX4_cell ∈ lw_tbl := List.mem_append_right _ (List.mem_append_right _ (List.mem_append_left _ (List.mem_of_getElem? (i := 196) rfl)))
set_option maxRecDepth 100000 in
theorem mw_423 : Cond.methodLink RX3 86 Lib.Math.max.name ∈ lw_tbl := List.mem_append_right _ (List.mem_append_right _ (List.mem_append_left _ (List.mem_of_getElem? (i := 197) rfl)))
set_option maxRecDepth 100000 in
theorem hmwsX6_least_r2 : ∀ w ∈ wsX6_least_r2, w ∈ lw_tbl := List.forall_mem_cons.mpr ⟨mw_423, List.forall_mem_cons.mpr ⟨mw_69, List.forall_mem_cons.mpr ⟨mw_68, List.forall_mem_cons.mpr ⟨mw_67, List.forall_mem_cons.mpr ⟨mw_81, List.forall_mem_cons.mpr ⟨mw_422, List.forall_mem_cons.mpr ⟨mw_164, List.forall_mem_cons.mpr ⟨mw_163, List.forall_mem_cons.mpr ⟨mw_40, List.forall_mem_cons.mpr ⟨mw_162, List.forall_mem_cons.mpr ⟨mw_63, List.forall_mem_cons.mpr ⟨mw_65, List.forall_mem_cons.mpr ⟨mw_161, List.forall_mem_cons.mpr ⟨mw_160, List.forall_mem_cons.mpr ⟨mw_159, List.forall_mem_cons.mpr ⟨mw_158, List.forall_mem_cons.mpr ⟨mw_62, List.forall_mem_cons.mpr ⟨mw_421, List.forall_mem_cons.mpr ⟨mw_420, List.forall_mem_cons.mpr ⟨mw_419, List.forall_mem_cons.mpr ⟨mw_418, List.forall_mem_cons.mpr ⟨mw_417, List.forall_mem_cons.mpr ⟨mw_416, List.forall_mem_cons.mpr ⟨mw_168, List.forall_mem_nil _⟩⟩⟩⟩⟩⟩⟩⟩⟩⟩⟩⟩⟩⟩⟩⟩⟩⟩⟩⟩⟩⟩⟩⟩
set_option maxRecDepth 100000 in
theorem mw_424 : Cond.selects RX3 yX3_reckonGains yX3_reckonGains ∈ lw_tbl := List.mem_append_left _ (List.mem_map.mpr ⟨(⟨"EmptyBoxes$Plan", "reckonGains", "()V"⟩, 11), List.mem_append_right _ (List.mem_append_left _ (List.mem_of_getElem? (i := 5) rfl)), rfl⟩)
set_option maxRecDepth 100000 in
theorem mw_425 : Cond.instanceMethod yX3_reckonGains ∈ lw_tbl := List.mem_append_right _ (List.mem_append_right _ (List.mem_append_left _ (List.mem_of_getElem? (i := 218) rfl)))
set_option maxRecDepth 100000 in
theorem mw_426 : Cond.methodLink RX3 58 yX3_reckonGains ∈ lw_tbl := List.mem_append_right _ (List.mem_append_right _ (List.mem_append_left _ (List.mem_of_getElem? (i := 216) rfl)))
set_option maxRecDepth 100000 in
theorem mw_427 : Cond.code yX3_putArc cX3_putArc 6 none ∈ lw_tbl := List.mem_append_right _ (List.mem_append_right _ (List.mem_append_left _ (List.mem_of_getElem? (i := 215) rfl)))
set_option maxRecDepth 100000 in
theorem mw_428 : Cond.selects RX3 yX3_putArc yX3_putArc ∈ lw_tbl := List.mem_append_left _ (List.mem_map.mpr ⟨(⟨"EmptyBoxes$Plan", "putArc", "(IIIII)V"⟩, 11), List.mem_append_right _ (List.mem_append_left _ (List.mem_of_getElem? (i := 4) rfl)), rfl⟩)
set_option maxRecDepth 100000 in
theorem mw_429 : Cond.instanceMethod yX3_putArc ∈ lw_tbl := List.mem_append_right _ (List.mem_append_right _ (List.mem_append_left _ (List.mem_of_getElem? (i := 214) rfl)))
set_option maxRecDepth 100000 in
theorem mw_430 : Cond.methodLink RX3 104 yX3_putArc ∈ lw_tbl := List.mem_append_right _ (List.mem_append_right _ (List.mem_append_left _ (List.mem_of_getElem? (i := 212) rfl)))
set_option maxRecDepth 100000 in
theorem mw_431 : Cond.code yX3_isKnot cX3_isKnot 1 (some .boolean) ∈ lw_tbl := List.mem_append_right _ (List.mem_append_right _ (List.mem_append_left _ (List.mem_of_getElem? (i := 210) rfl)))
set_option maxRecDepth 100000 in
theorem mw_432 : Cond.static yX3_isKnot ∈ lw_tbl := List.mem_append_right _ (List.mem_append_right _ (List.mem_append_left _ (List.mem_of_getElem? (i := 209) rfl)))
set_option maxRecDepth 100000 in
theorem mw_433 : Cond.methodLink RX3 36 yX3_isKnot ∈ lw_tbl := List.mem_append_right _ (List.mem_append_right _ (List.mem_append_left _ (List.mem_of_getElem? (i := 208) rfl)))
set_option maxRecDepth 100000 in
theorem mw_434 : Cond.code yX3_layArc cX3_layArc 5 none ∈ lw_tbl := List.mem_append_right _ (List.mem_append_right _ (List.mem_append_left _ (List.mem_of_getElem? (i := 207) rfl)))
set_option maxRecDepth 100000 in
theorem mw_435 : Cond.selects RX3 yX3_layArc yX3_layArc ∈ lw_tbl := List.mem_append_left _ (List.mem_map.mpr ⟨(⟨"EmptyBoxes$Plan", "layArc", "(IIII)V"⟩, 11), List.mem_append_right _ (List.mem_append_left _ (List.mem_of_getElem? (i := 3) rfl)), rfl⟩)
set_option maxRecDepth 100000 in
theorem mw_436 : Cond.instanceMethod yX3_layArc ∈ lw_tbl := List.mem_append_right _ (List.mem_append_right _ (List.mem_append_left _ (List.mem_of_getElem? (i := 206) rfl)))
set_option maxRecDepth 100000 in
theorem mw_437 : Cond.methodLink RX3 100 yX3_layArc ∈ lw_tbl := List.mem_append_right _ (List.mem_append_right _ (List.mem_append_left _ (List.mem_of_getElem? (i := 204) rfl)))
set_option maxRecDepth 100000 in
theorem hmwsX6_least_r3 : ∀ w ∈ wsX6_least_r3, w ∈ lw_tbl := List.forall_mem_cons.mpr ⟨mw_167, List.forall_mem_cons.mpr ⟨mw_166, List.forall_mem_cons.mpr ⟨mw_366, List.forall_mem_cons.mpr ⟨mw_365, List.forall_mem_cons.mpr ⟨mw_437, List.forall_mem_cons.mpr ⟨mw_436, List.forall_mem_cons.mpr ⟨mw_435, List.forall_mem_cons.mpr ⟨mw_434, List.forall_mem_cons.mpr ⟨mw_433, List.forall_mem_cons.mpr ⟨mw_432, List.forall_mem_cons.mpr ⟨mw_431, List.forall_mem_cons.mpr ⟨mw_117, List.forall_mem_cons.mpr ⟨mw_116, List.forall_mem_cons.mpr ⟨mw_430, List.forall_mem_cons.mpr ⟨mw_429, List.forall_mem_cons.mpr ⟨mw_428, List.forall_mem_cons.mpr ⟨mw_427, List.forall_mem_cons.mpr ⟨mw_86, List.forall_mem_cons.mpr ⟨mw_85, List.forall_mem_cons.mpr ⟨mw_84, List.forall_mem_cons.mpr ⟨mw_83, List.forall_mem_cons.mpr ⟨mw_426, List.forall_mem_cons.mpr ⟨mw_425, List.forall_mem_cons.mpr ⟨mw_424, List.forall_mem_nil _⟩⟩⟩⟩⟩⟩⟩⟩⟩⟩⟩⟩⟩⟩⟩⟩⟩⟩⟩⟩⟩⟩⟩⟩
set_option maxRecDepth 100000 in
theorem mw_438 : Cond.code Lib.Math.min.name Lib.Math.min.code 2 (some .int) ∈ lw_tbl := List.mem_append_right _ (List.mem_append_right _ (List.mem_append_left _ (List.mem_of_getElem? (i := 234) rfl)))
set_option maxRecDepth 100000 in
theorem mw_439 : Cond.static Lib.Math.min.name ∈ lw_tbl := List.mem_append_right _ (List.mem_append_right _ (List.mem_append_left _ (List.mem_of_getElem? (i := 233) rfl)))
set_option maxRecDepth 100000 in
theorem mw_440 : Cond.methodLink RX3 112 Lib.Math.min.name ∈ lw_tbl := List.mem_append_right _ (List.mem_append_right _ (List.mem_append_left _ (List.mem_of_getElem? (i := 232) rfl)))
set_option maxRecDepth 100000 in
theorem mw_441 : Cond.code yX3_boxesThatGo cX3_boxesThatGo 5 (some .int) ∈ lw_tbl := List.mem_append_right _ (List.mem_append_right _ (List.mem_append_left _ (List.mem_of_getElem? (i := 231) rfl)))
set_option maxRecDepth 100000 in
theorem mw_442 : Cond.selects RX3 yX3_boxesThatGo yX3_boxesThatGo ∈ lw_tbl := List.mem_append_left _ (List.mem_map.mpr ⟨(⟨"EmptyBoxes$Plan", "boxesThatGo", "(I)I"⟩, 11), List.mem_append_right _ (List.mem_append_left _ (List.mem_of_getElem? (i := 8) rfl)), rfl⟩)
set_option maxRecDepth 100000 in
theorem mw_443 : Cond.instanceMethod yX3_boxesThatGo ∈ lw_tbl := List.mem_append_right _ (List.mem_append_right _ (List.mem_append_left _ (List.mem_of_getElem? (i := 230) rfl)))
set_option maxRecDepth 100000 in
theorem mw_444 : Cond.methodLink RX3 108 yX3_boxesThatGo ∈ lw_tbl := List.mem_append_right _ (List.mem_append_right _ (List.mem_append_left _ (List.mem_of_getElem? (i := 228) rfl)))
set_option maxRecDepth 100000 in
theorem mw_445 : Cond.code yX3_sendFrom cX3_sendFrom 6 none ∈ lw_tbl := List.mem_append_right _ (List.mem_append_right _ (List.mem_append_left _ (List.mem_of_getElem? (i := 227) rfl)))
set_option maxRecDepth 100000 in
theorem mw_446 : Cond.selects RX3 yX3_sendFrom yX3_sendFrom ∈ lw_tbl := List.mem_append_left _ (List.mem_map.mpr ⟨(⟨"EmptyBoxes$Plan", "sendFrom", "(I)V"⟩, 11), List.mem_append_right _ (List.mem_append_left _ (List.mem_of_getElem? (i := 7) rfl)), rfl⟩)
set_option maxRecDepth 100000 in
theorem mw_447 : Cond.instanceMethod yX3_sendFrom ∈ lw_tbl := List.mem_append_right _ (List.mem_append_right _ (List.mem_append_left _ (List.mem_of_getElem? (i := 226) rfl)))
set_option maxRecDepth 100000 in
theorem mw_448 : Cond.methodLink RX3 65 yX3_sendFrom ∈ lw_tbl := List.mem_append_right _ (List.mem_append_right _ (List.mem_append_left _ (List.mem_of_getElem? (i := 224) rfl)))
set_option maxRecDepth 100000 in
theorem mw_449 : Cond.code yX3_knotToSend cX3_knotToSend 2 (some .int) ∈ lw_tbl := List.mem_append_right _ (List.mem_append_right _ (List.mem_append_left _ (List.mem_of_getElem? (i := 223) rfl)))
set_option maxRecDepth 100000 in
theorem mw_450 : Cond.selects RX3 yX3_knotToSend yX3_knotToSend ∈ lw_tbl := List.mem_append_left _ (List.mem_map.mpr ⟨(⟨"EmptyBoxes$Plan", "knotToSend", "()I"⟩, 11), List.mem_append_right _ (List.mem_append_left _ (List.mem_of_getElem? (i := 6) rfl)), rfl⟩)
set_option maxRecDepth 100000 in
theorem mw_451 : Cond.instanceMethod yX3_knotToSend ∈ lw_tbl := List.mem_append_right _ (List.mem_append_right _ (List.mem_append_left _ (List.mem_of_getElem? (i := 222) rfl)))
set_option maxRecDepth 100000 in
theorem mw_452 : Cond.methodLink RX3 61 yX3_knotToSend ∈ lw_tbl := List.mem_append_right _ (List.mem_append_right _ (List.mem_append_left _ (List.mem_of_getElem? (i := 220) rfl)))
set_option maxRecDepth 100000 in
theorem mw_453 : Cond.code yX3_reckonGains cX3_reckonGains 4 none ∈ lw_tbl := List.mem_append_right _ (List.mem_append_right _ (List.mem_append_left _ (List.mem_of_getElem? (i := 219) rfl)))
set_option maxRecDepth 100000 in
theorem hmwsX6_least_r4 : ∀ w ∈ wsX6_least_r4, w ∈ lw_tbl := List.forall_mem_cons.mpr ⟨mw_453, List.forall_mem_cons.mpr ⟨mw_80, List.forall_mem_cons.mpr ⟨mw_79, List.forall_mem_cons.mpr ⟨mw_452, List.forall_mem_cons.mpr ⟨mw_451, List.forall_mem_cons.mpr ⟨mw_450, List.forall_mem_cons.mpr ⟨mw_449, List.forall_mem_cons.mpr ⟨mw_448, List.forall_mem_cons.mpr ⟨mw_447, List.forall_mem_cons.mpr ⟨mw_446, List.forall_mem_cons.mpr ⟨mw_445, List.forall_mem_cons.mpr ⟨mw_444, List.forall_mem_cons.mpr ⟨mw_443, List.forall_mem_cons.mpr ⟨mw_442, List.forall_mem_cons.mpr ⟨mw_441, List.forall_mem_cons.mpr ⟨mw_440, List.forall_mem_cons.mpr ⟨mw_439, List.forall_mem_cons.mpr ⟨mw_438, List.forall_mem_nil _⟩⟩⟩⟩⟩⟩⟩⟩⟩⟩⟩⟩⟩⟩⟩⟩⟩⟩
set_option maxRecDepth 100000 in
theorem hmwsX6_least : ∀ w ∈ wsX6_least, w ∈ lw_tbl := List.forall_mem_cons.mpr ⟨mw_397, List.forall_mem_append.mpr ⟨List.forall_mem_append.mpr ⟨List.forall_mem_append.mpr ⟨List.forall_mem_append.mpr ⟨List.forall_mem_append.mpr ⟨hmwsX6_least_r1, List.forall_mem_append.mpr ⟨hmwsX6_least_r2, List.forall_mem_append.mpr ⟨hmwsX6_least_r3, hmwsX6_least_r4⟩⟩⟩, inX6⟩, inX3⟩, inX0⟩, inX4⟩⟩
set_option maxRecDepth 100000 in
theorem mw_454 : Cond.methodLink RL 69 yX6_least ∈ lw_tbl := List.mem_append_right _ (List.mem_append_right _ (List.mem_append_left _ (List.mem_of_getElem? (i := 180) rfl)))
set_option maxRecDepth 100000 in
theorem mw_455 : Cond.instanceMethod yX6_least ∈ lw_tbl := List.mem_append_right _ (List.mem_append_right _ (List.mem_append_left _ (List.mem_of_getElem? (i := 181) rfl)))
set_option maxRecDepth 100000 in
theorem mw_456 : Cond.selects RX6 yX6_least yX6_least ∈ lw_tbl := List.mem_append_right _ (List.mem_append_right _ (List.mem_append_left _ (List.mem_of_getElem? (i := 182) rfl)))
set_option maxRecDepth 100000 in
theorem glX6_least : GoodIn lw_tbl (wsV RL 69 RX6 yX6_least wsX6_least) := goodIn_sub (List.forall_mem_append.mpr ⟨List.forall_mem_cons.mpr ⟨mw_454, List.forall_mem_cons.mpr ⟨mw_455, List.forall_mem_cons.mpr ⟨mw_456, List.forall_mem_cons.mpr ⟨mw_91, List.forall_mem_nil _⟩⟩⟩⟩, hmwsX6_least⟩) (by decide +kernel)
set_option maxRecDepth 100000 in
theorem ckL_X6_least : CkV lw_tbl RL 69 yX6_least wsX6_least cX6_least 1 (some .int) 0 6 := ⟨RX6, TX6, 8, _, rfl, glX6_least, rfl, hdX6_least⟩
set_option maxRecDepth 100000 in
theorem mw_457 : Cond.code yX7_least cX7_least 1 (some .int) ∈ lw_tbl := List.mem_append_right _ (List.mem_append_right _ (List.mem_append_right _ (List.mem_append_right _ (List.mem_append_right _ (List.mem_of_getElem? (i := 26) rfl)))))
set_option maxRecDepth 100000 in
theorem mw_458 : Cond.instanceMethod yX7_cheapest ∈ lw_tbl := List.mem_append_right _ (List.mem_append_right _ (List.mem_append_right _ (List.mem_append_right _ (List.mem_append_right _ (List.mem_of_getElem? (i := 41) rfl)))))
set_option maxRecDepth 100000 in
theorem mw_459 : Cond.methodLink RX7 122 yX7_cheapest ∈ lw_tbl := List.mem_append_right _ (List.mem_append_right _ (List.mem_append_right _ (List.mem_append_right _ (List.mem_append_right _ (List.mem_of_getElem? (i := 39) rfl)))))
set_option maxRecDepth 100000 in
theorem mw_460 : Cond.code yX7_addArc cX7_addArc 5 none ∈ lw_tbl := List.mem_append_right _ (List.mem_append_right _ (List.mem_append_right _ (List.mem_append_right _ (List.mem_append_right _ (List.mem_of_getElem? (i := 38) rfl)))))
set_option maxRecDepth 100000 in
theorem mw_461 : Cond.selects RX7 yX7_addArc yX7_addArc ∈ lw_tbl := List.mem_append_left _ (List.mem_map.mpr ⟨(⟨"EmptyBoxesModel", "addArc", "(IIII)V"⟩, 28), List.mem_append_right _ (List.mem_append_right _ (List.mem_append_right _ (List.mem_append_left _ (List.mem_of_getElem? (i := 8) rfl)))), rfl⟩)
set_option maxRecDepth 100000 in
theorem mw_462 : Cond.instanceMethod yX7_addArc ∈ lw_tbl := List.mem_append_right _ (List.mem_append_right _ (List.mem_append_right _ (List.mem_append_right _ (List.mem_append_right _ (List.mem_of_getElem? (i := 37) rfl)))))
set_option maxRecDepth 100000 in
theorem mw_463 : Cond.methodLink RX7 113 yX7_addArc ∈ lw_tbl := List.mem_append_right _ (List.mem_append_right _ (List.mem_append_right _ (List.mem_append_right _ (List.mem_append_right _ (List.mem_of_getElem? (i := 35) rfl)))))
set_option maxRecDepth 100000 in
theorem mw_464 : Cond.fieldLink RX7 109 "EmptyBoxesModel" "arcs" "I" ∈ lw_tbl := List.mem_append_right _ (List.mem_append_right _ (List.mem_append_right _ (List.mem_append_right _ (List.mem_append_left _ (List.mem_of_getElem? (i := 91) rfl)))))
set_option maxRecDepth 100000 in
theorem mw_465 : Cond.code yX7_addArcs cX7_addArcs 4 none ∈ lw_tbl := List.mem_append_right _ (List.mem_append_right _ (List.mem_append_right _ (List.mem_append_right _ (List.mem_append_right _ (List.mem_of_getElem? (i := 34) rfl)))))
set_option maxRecDepth 100000 in
theorem mw_466 : Cond.selects RX7 yX7_addArcs yX7_addArcs ∈ lw_tbl := List.mem_append_left _ (List.mem_map.mpr ⟨(⟨"EmptyBoxesModel", "addArcs", "(I)V"⟩, 28), List.mem_append_right _ (List.mem_append_right _ (List.mem_append_right _ (List.mem_append_left _ (List.mem_of_getElem? (i := 7) rfl)))), rfl⟩)
set_option maxRecDepth 100000 in
theorem mw_467 : Cond.instanceMethod yX7_addArcs ∈ lw_tbl := List.mem_append_right _ (List.mem_append_right _ (List.mem_append_right _ (List.mem_append_right _ (List.mem_append_right _ (List.mem_of_getElem? (i := 33) rfl)))))
set_option maxRecDepth 100000 in
theorem mw_468 : Cond.methodLink RX7 118 yX7_addArcs ∈ lw_tbl := List.mem_append_right _ (List.mem_append_right _ (List.mem_append_right _ (List.mem_append_right _ (List.mem_append_right _ (List.mem_of_getElem? (i := 31) rfl)))))
set_option maxRecDepth 100000 in
theorem mw_469 : Cond.code yX7_leastWith cX7_leastWith 6 (some .int) ∈ lw_tbl := List.mem_append_right _ (List.mem_append_right _ (List.mem_append_right _ (List.mem_append_right _ (List.mem_append_right _ (List.mem_of_getElem? (i := 30) rfl)))))
set_option maxRecDepth 100000 in
theorem mw_470 : Cond.selects RX7 yX7_leastWith yX7_leastWith ∈ lw_tbl := List.mem_append_left _ (List.mem_map.mpr ⟨(⟨"EmptyBoxesModel", "leastWith", "(I)I"⟩, 28), List.mem_append_right _ (List.mem_append_right _ (List.mem_append_right _ (List.mem_append_left _ (List.mem_of_getElem? (i := 6) rfl)))), rfl⟩)
set_option maxRecDepth 100000 in
theorem mw_471 : Cond.instanceMethod yX7_leastWith ∈ lw_tbl := List.mem_append_right _ (List.mem_append_right _ (List.mem_append_right _ (List.mem_append_right _ (List.mem_append_right _ (List.mem_of_getElem? (i := 29) rfl)))))
set_option maxRecDepth 100000 in
theorem mw_472 : Cond.methodLink RX7 126 yX7_leastWith ∈ lw_tbl := List.mem_append_right _ (List.mem_append_right _ (List.mem_append_right _ (List.mem_append_right _ (List.mem_append_right _ (List.mem_of_getElem? (i := 27) rfl)))))
set_option maxRecDepth 100000 in
theorem hmwsX7_least_r1 : ∀ w ∈ wsX7_least_r1, w ∈ lw_tbl := List.forall_mem_cons.mpr ⟨mw_472, List.forall_mem_cons.mpr ⟨mw_471, List.forall_mem_cons.mpr ⟨mw_470, List.forall_mem_cons.mpr ⟨mw_114, List.forall_mem_cons.mpr ⟨mw_469, List.forall_mem_cons.mpr ⟨mw_110, List.forall_mem_cons.mpr ⟨mw_107, List.forall_mem_cons.mpr ⟨mw_96, List.forall_mem_cons.mpr ⟨mw_99, List.forall_mem_cons.mpr ⟨mw_101, List.forall_mem_cons.mpr ⟨mw_468, List.forall_mem_cons.mpr ⟨mw_467, List.forall_mem_cons.mpr ⟨mw_466, List.forall_mem_cons.mpr ⟨mw_465, List.forall_mem_cons.mpr ⟨mw_464, List.forall_mem_cons.mpr ⟨mw_106, List.forall_mem_cons.mpr ⟨mw_463, List.forall_mem_cons.mpr ⟨mw_462, List.forall_mem_cons.mpr ⟨mw_461, List.forall_mem_cons.mpr ⟨mw_460, List.forall_mem_cons.mpr ⟨mw_100, List.forall_mem_cons.mpr ⟨mw_98, List.forall_mem_cons.mpr ⟨mw_459, List.forall_mem_cons.mpr ⟨mw_458, List.forall_mem_nil _⟩⟩⟩⟩⟩⟩⟩⟩⟩⟩⟩⟩⟩⟩⟩⟩⟩⟩⟩⟩⟩⟩⟩⟩
set_option maxRecDepth 100000 in
theorem mw_473 : Cond.constant RX7 117 (1000000) ∈ lw_tbl := List.mem_append_right _ (List.mem_append_right _ (List.mem_append_right _ (List.mem_append_right _ (List.mem_append_right _ (List.mem_of_getElem? (i := 43) rfl)))))
set_option maxRecDepth 100000 in
theorem mw_474 : Cond.code yX7_cheapest cX7_cheapest 4 (some .int) ∈ lw_tbl := List.mem_append_right _ (List.mem_append_right _ (List.mem_append_right _ (List.mem_append_right _ (List.mem_append_right _ (List.mem_of_getElem? (i := 42) rfl)))))
set_option maxRecDepth 100000 in
theorem mw_475 : Cond.selects RX7 yX7_cheapest yX7_cheapest ∈ lw_tbl := List.mem_append_left _ (List.mem_map.mpr ⟨(⟨"EmptyBoxesModel", "cheapest", "()I"⟩, 28), List.mem_append_right _ (List.mem_append_right _ (List.mem_append_right _ (List.mem_append_left _ (List.mem_of_getElem? (i := 9) rfl)))), rfl⟩)
set_option maxRecDepth 100000 in
theorem hmwsX7_least_r2 : ∀ w ∈ wsX7_least_r2, w ∈ lw_tbl := List.forall_mem_cons.mpr ⟨mw_475, List.forall_mem_cons.mpr ⟨mw_474, List.forall_mem_cons.mpr ⟨mw_97, List.forall_mem_cons.mpr ⟨mw_473, List.forall_mem_nil _⟩⟩⟩⟩
set_option maxRecDepth 100000 in
theorem hmwsX7_least : ∀ w ∈ wsX7_least, w ∈ lw_tbl := List.forall_mem_cons.mpr ⟨mw_457, List.forall_mem_append.mpr ⟨List.forall_mem_append.mpr ⟨hmwsX7_least_r1, hmwsX7_least_r2⟩, inX7⟩⟩
set_option maxRecDepth 100000 in
theorem mw_476 : Cond.methodLink RL 73 yX7_least ∈ lw_tbl := List.mem_append_right _ (List.mem_append_right _ (List.mem_append_right _ (List.mem_append_right _ (List.mem_append_right _ (List.mem_of_getElem? (i := 23) rfl)))))
set_option maxRecDepth 100000 in
theorem mw_477 : Cond.instanceMethod yX7_least ∈ lw_tbl := List.mem_append_right _ (List.mem_append_right _ (List.mem_append_right _ (List.mem_append_right _ (List.mem_append_right _ (List.mem_of_getElem? (i := 24) rfl)))))
set_option maxRecDepth 100000 in
theorem mw_478 : Cond.selects RX7 yX7_least yX7_least ∈ lw_tbl := List.mem_append_right _ (List.mem_append_right _ (List.mem_append_right _ (List.mem_append_right _ (List.mem_append_right _ (List.mem_of_getElem? (i := 25) rfl)))))
set_option maxRecDepth 100000 in
theorem glX7_least : GoodIn lw_tbl (wsV RL 73 RX7 yX7_least wsX7_least) := goodIn_sub (List.forall_mem_append.mpr ⟨List.forall_mem_cons.mpr ⟨mw_476, List.forall_mem_cons.mpr ⟨mw_477, List.forall_mem_cons.mpr ⟨mw_478, List.forall_mem_cons.mpr ⟨mw_114, List.forall_mem_nil _⟩⟩⟩⟩, hmwsX7_least⟩) (by decide +kernel)
set_option maxRecDepth 100000 in
theorem ckL_X7_least : CkV lw_tbl RL 73 yX7_least wsX7_least cX7_least 1 (some .int) 0 7 := ⟨RX7, TX7, 28, _, rfl, glX7_least, rfl, hdX7_least⟩
set_option maxRecDepth 100000 in
theorem mw_479 : Cond.code yX6_worth cX6_worth 3 (some .int) ∈ lw_tbl := List.mem_append_right _ (List.mem_append_right _ (List.mem_append_left _ (List.mem_of_getElem? (i := 238) rfl)))
set_option maxRecDepth 100000 in
theorem hmwsX6_worth_r1 : ∀ w ∈ wsX6_worth_r1, w ∈ lw_tbl := List.forall_mem_cons.mpr ⟨mw_5, List.forall_mem_cons.mpr ⟨mw_253, List.forall_mem_cons.mpr ⟨mw_252, List.forall_mem_cons.mpr ⟨mw_91, List.forall_mem_cons.mpr ⟨mw_251, List.forall_mem_cons.mpr ⟨mw_118, List.forall_mem_cons.mpr ⟨mw_117, List.forall_mem_cons.mpr ⟨mw_116, List.forall_mem_cons.mpr ⟨mw_370, List.forall_mem_cons.mpr ⟨mw_369, List.forall_mem_cons.mpr ⟨mw_368, List.forall_mem_cons.mpr ⟨mw_414, List.forall_mem_cons.mpr ⟨mw_413, List.forall_mem_cons.mpr ⟨mw_412, List.forall_mem_cons.mpr ⟨mw_411, List.forall_mem_cons.mpr ⟨mw_47, List.forall_mem_cons.mpr ⟨mw_18, List.forall_mem_cons.mpr ⟨mw_410, List.forall_mem_cons.mpr ⟨mw_409, List.forall_mem_cons.mpr ⟨mw_408, List.forall_mem_cons.mpr ⟨mw_6, List.forall_mem_cons.mpr ⟨mw_407, List.forall_mem_cons.mpr ⟨mw_406, List.forall_mem_cons.mpr ⟨mw_405, List.forall_mem_nil _⟩⟩⟩⟩⟩⟩⟩⟩⟩⟩⟩⟩⟩⟩⟩⟩⟩⟩⟩⟩⟩⟩⟩⟩
set_option maxRecDepth 100000 in
theorem hmwsX6_worth_r2 : ∀ w ∈ wsX6_worth_r2, w ∈ lw_tbl := List.forall_mem_cons.mpr ⟨mw_404, List.forall_mem_cons.mpr ⟨mw_403, List.forall_mem_cons.mpr ⟨mw_402, List.forall_mem_cons.mpr ⟨mw_401, List.forall_mem_cons.mpr ⟨mw_400, List.forall_mem_cons.mpr ⟨mw_399, List.forall_mem_cons.mpr ⟨mw_398, List.forall_mem_cons.mpr ⟨mw_82, List.forall_mem_cons.mpr ⟨mw_423, List.forall_mem_cons.mpr ⟨mw_69, List.forall_mem_cons.mpr ⟨mw_68, List.forall_mem_cons.mpr ⟨mw_67, List.forall_mem_cons.mpr ⟨mw_81, List.forall_mem_cons.mpr ⟨mw_422, List.forall_mem_cons.mpr ⟨mw_164, List.forall_mem_cons.mpr ⟨mw_163, List.forall_mem_cons.mpr ⟨mw_40, List.forall_mem_cons.mpr ⟨mw_162, List.forall_mem_cons.mpr ⟨mw_63, List.forall_mem_cons.mpr ⟨mw_65, List.forall_mem_cons.mpr ⟨mw_161, List.forall_mem_cons.mpr ⟨mw_160, List.forall_mem_cons.mpr ⟨mw_159, List.forall_mem_cons.mpr ⟨mw_158, List.forall_mem_nil _⟩⟩⟩⟩⟩⟩⟩⟩⟩⟩⟩⟩⟩⟩⟩⟩⟩⟩⟩⟩⟩⟩⟩⟩
set_option maxRecDepth 100000 in
theorem hmwsX6_worth_r3 : ∀ w ∈ wsX6_worth_r3, w ∈ lw_tbl := List.forall_mem_cons.mpr ⟨mw_62, List.forall_mem_cons.mpr ⟨mw_421, List.forall_mem_cons.mpr ⟨mw_420, List.forall_mem_cons.mpr ⟨mw_419, List.forall_mem_cons.mpr ⟨mw_418, List.forall_mem_cons.mpr ⟨mw_417, List.forall_mem_cons.mpr ⟨mw_416, List.forall_mem_cons.mpr ⟨mw_168, List.forall_mem_cons.mpr ⟨mw_167, List.forall_mem_cons.mpr ⟨mw_166, List.forall_mem_cons.mpr ⟨mw_366, List.forall_mem_cons.mpr ⟨mw_365, List.forall_mem_cons.mpr ⟨mw_437, List.forall_mem_cons.mpr ⟨mw_436, List.forall_mem_cons.mpr ⟨mw_435, List.forall_mem_cons.mpr ⟨mw_434, List.forall_mem_cons.mpr ⟨mw_433, List.forall_mem_cons.mpr ⟨mw_432, List.forall_mem_cons.mpr ⟨mw_431, List.forall_mem_cons.mpr ⟨mw_430, List.forall_mem_cons.mpr ⟨mw_429, List.forall_mem_cons.mpr ⟨mw_428, List.forall_mem_cons.mpr ⟨mw_427, List.forall_mem_cons.mpr ⟨mw_86, List.forall_mem_nil _⟩⟩⟩⟩⟩⟩⟩⟩⟩⟩⟩⟩⟩⟩⟩⟩⟩⟩⟩⟩⟩⟩⟩⟩
set_option maxRecDepth 100000 in
theorem hmwsX6_worth_r4 : ∀ w ∈ wsX6_worth_r4, w ∈ lw_tbl := List.forall_mem_cons.mpr ⟨mw_85, List.forall_mem_cons.mpr ⟨mw_84, List.forall_mem_cons.mpr ⟨mw_83, List.forall_mem_cons.mpr ⟨mw_426, List.forall_mem_cons.mpr ⟨mw_425, List.forall_mem_cons.mpr ⟨mw_424, List.forall_mem_cons.mpr ⟨mw_453, List.forall_mem_cons.mpr ⟨mw_80, List.forall_mem_cons.mpr ⟨mw_79, List.forall_mem_cons.mpr ⟨mw_452, List.forall_mem_cons.mpr ⟨mw_451, List.forall_mem_cons.mpr ⟨mw_450, List.forall_mem_cons.mpr ⟨mw_449, List.forall_mem_cons.mpr ⟨mw_448, List.forall_mem_cons.mpr ⟨mw_447, List.forall_mem_cons.mpr ⟨mw_446, List.forall_mem_cons.mpr ⟨mw_445, List.forall_mem_cons.mpr ⟨mw_444, List.forall_mem_cons.mpr ⟨mw_443, List.forall_mem_cons.mpr ⟨mw_442, List.forall_mem_cons.mpr ⟨mw_441, List.forall_mem_cons.mpr ⟨mw_440, List.forall_mem_cons.mpr ⟨mw_439, List.forall_mem_cons.mpr ⟨mw_438, List.forall_mem_nil _⟩⟩⟩⟩⟩⟩⟩⟩⟩⟩⟩⟩⟩⟩⟩⟩⟩⟩⟩⟩⟩⟩⟩⟩
set_option maxRecDepth 100000 in
theorem mw_480 : Cond.code yX3_gainAt cX3_gainAt 2 (some .int) ∈ lw_tbl := List.mem_append_right _ (List.mem_append_right _ (List.mem_append_right _ (List.mem_append_left _ (List.mem_of_getElem? (i := 2) rfl))))
set_option maxRecDepth 100000 in
theorem mw_481 : Cond.selects RX3 yX3_gainAt yX3_gainAt ∈ lw_tbl := List.mem_append_right _ (List.mem_append_right _ (List.mem_append_right _ (List.mem_append_left _ (List.mem_of_getElem? (i := 1) rfl))))
set_option maxRecDepth 100000 in
theorem mw_482 : Cond.instanceMethod yX3_gainAt ∈ lw_tbl := List.mem_append_right _ (List.mem_append_right _ (List.mem_append_right _ (List.mem_append_left _ (List.mem_of_getElem? (i := 0) rfl))))
set_option maxRecDepth 100000 in
theorem mw_483 : Cond.methodLink RX6 188 yX3_gainAt ∈ lw_tbl := List.mem_append_right _ (List.mem_append_right _ (List.mem_append_left _ (List.mem_of_getElem? (i := 239) rfl)))
set_option maxRecDepth 100000 in
theorem hmwsX6_worth_r5 : ∀ w ∈ wsX6_worth_r5, w ∈ lw_tbl := List.forall_mem_cons.mpr ⟨mw_367, List.forall_mem_cons.mpr ⟨mw_483, List.forall_mem_cons.mpr ⟨mw_482, List.forall_mem_cons.mpr ⟨mw_481, List.forall_mem_cons.mpr ⟨mw_480, List.forall_mem_nil _⟩⟩⟩⟩⟩
set_option maxRecDepth 100000 in
theorem hmwsX6_worth : ∀ w ∈ wsX6_worth, w ∈ lw_tbl := List.forall_mem_cons.mpr ⟨mw_479, List.forall_mem_append.mpr ⟨List.forall_mem_append.mpr ⟨List.forall_mem_append.mpr ⟨List.forall_mem_append.mpr ⟨List.forall_mem_append.mpr ⟨hmwsX6_worth_r1, List.forall_mem_append.mpr ⟨hmwsX6_worth_r2, List.forall_mem_append.mpr ⟨hmwsX6_worth_r3, List.forall_mem_append.mpr ⟨hmwsX6_worth_r4, hmwsX6_worth_r5⟩⟩⟩⟩, inX6⟩, inX0⟩, inX3⟩, inX4⟩⟩
set_option maxRecDepth 100000 in
theorem mw_484 : Cond.methodLink RL 74 yX6_worth ∈ lw_tbl := List.mem_append_right _ (List.mem_append_right _ (List.mem_append_left _ (List.mem_of_getElem? (i := 235) rfl)))
set_option maxRecDepth 100000 in
theorem mw_485 : Cond.instanceMethod yX6_worth ∈ lw_tbl := List.mem_append_right _ (List.mem_append_right _ (List.mem_append_left _ (List.mem_of_getElem? (i := 236) rfl)))
set_option maxRecDepth 100000 in
theorem mw_486 : Cond.selects RX6 yX6_worth yX6_worth ∈ lw_tbl := List.mem_append_right _ (List.mem_append_right _ (List.mem_append_left _ (List.mem_of_getElem? (i := 237) rfl)))
set_option maxRecDepth 100000 in
theorem glX6_worth : GoodIn lw_tbl (wsV RL 74 RX6 yX6_worth wsX6_worth) := goodIn_sub (List.forall_mem_append.mpr ⟨List.forall_mem_cons.mpr ⟨mw_484, List.forall_mem_cons.mpr ⟨mw_485, List.forall_mem_cons.mpr ⟨mw_486, List.forall_mem_cons.mpr ⟨mw_91, List.forall_mem_nil _⟩⟩⟩⟩, hmwsX6_worth⟩) (by decide +kernel)
set_option maxRecDepth 100000 in
theorem ckL_X6_worth : CkV lw_tbl RL 74 yX6_worth wsX6_worth cX6_worth 3 (some .int) 2 6 := ⟨RX6, TX6, 8, _, rfl, glX6_worth, rfl, hdX6_worth⟩
set_option maxRecDepth 100000 in
theorem mw_487 : Cond.code yX7_worth cX7_worth 3 (some .int) ∈ lw_tbl := List.mem_append_right _ (List.mem_append_right _ (List.mem_append_right _ (List.mem_append_right _ (List.mem_append_right _ (List.mem_of_getElem? (i := 47) rfl)))))
set_option maxRecDepth 100000 in
theorem hmwsX7_worth_r1 : ∀ w ∈ wsX7_worth_r1, w ∈ lw_tbl := List.forall_mem_cons.mpr ⟨mw_266, List.forall_mem_cons.mpr ⟨mw_265, List.forall_mem_cons.mpr ⟨mw_114, List.forall_mem_cons.mpr ⟨mw_264, List.forall_mem_cons.mpr ⟨mw_126, List.forall_mem_cons.mpr ⟨mw_125, List.forall_mem_cons.mpr ⟨mw_124, List.forall_mem_cons.mpr ⟨mw_472, List.forall_mem_cons.mpr ⟨mw_471, List.forall_mem_cons.mpr ⟨mw_470, List.forall_mem_cons.mpr ⟨mw_469, List.forall_mem_cons.mpr ⟨mw_110, List.forall_mem_cons.mpr ⟨mw_107, List.forall_mem_cons.mpr ⟨mw_96, List.forall_mem_cons.mpr ⟨mw_99, List.forall_mem_cons.mpr ⟨mw_101, List.forall_mem_cons.mpr ⟨mw_468, List.forall_mem_cons.mpr ⟨mw_467, List.forall_mem_cons.mpr ⟨mw_466, List.forall_mem_cons.mpr ⟨mw_465, List.forall_mem_cons.mpr ⟨mw_464, List.forall_mem_cons.mpr ⟨mw_106, List.forall_mem_cons.mpr ⟨mw_463, List.forall_mem_cons.mpr ⟨mw_462, List.forall_mem_nil _⟩⟩⟩⟩⟩⟩⟩⟩⟩⟩⟩⟩⟩⟩⟩⟩⟩⟩⟩⟩⟩⟩⟩⟩
set_option maxRecDepth 100000 in
theorem hmwsX7_worth_r2 : ∀ w ∈ wsX7_worth_r2, w ∈ lw_tbl := List.forall_mem_cons.mpr ⟨mw_461, List.forall_mem_cons.mpr ⟨mw_460, List.forall_mem_cons.mpr ⟨mw_100, List.forall_mem_cons.mpr ⟨mw_98, List.forall_mem_cons.mpr ⟨mw_459, List.forall_mem_cons.mpr ⟨mw_458, List.forall_mem_cons.mpr ⟨mw_475, List.forall_mem_cons.mpr ⟨mw_474, List.forall_mem_cons.mpr ⟨mw_97, List.forall_mem_cons.mpr ⟨mw_473, List.forall_mem_nil _⟩⟩⟩⟩⟩⟩⟩⟩⟩⟩
set_option maxRecDepth 100000 in
theorem hmwsX7_worth : ∀ w ∈ wsX7_worth, w ∈ lw_tbl := List.forall_mem_cons.mpr ⟨mw_487, List.forall_mem_append.mpr ⟨List.forall_mem_append.mpr ⟨hmwsX7_worth_r1, hmwsX7_worth_r2⟩, inX7⟩⟩
set_option maxRecDepth 100000 in
theorem mw_488 : Cond.methodLink RL 77 yX7_worth ∈ lw_tbl := List.mem_append_right _ (List.mem_append_right _ (List.mem_append_right _ (List.mem_append_right _ (List.mem_append_right _ (List.mem_of_getElem? (i := 44) rfl)))))
set_option maxRecDepth 100000 in
theorem mw_489 : Cond.instanceMethod yX7_worth ∈ lw_tbl := List.mem_append_right _ (List.mem_append_right _ (List.mem_append_right _ (List.mem_append_right _ (List.mem_append_right _ (List.mem_of_getElem? (i := 45) rfl)))))
set_option maxRecDepth 100000 in
theorem mw_490 : Cond.selects RX7 yX7_worth yX7_worth ∈ lw_tbl := List.mem_append_right _ (List.mem_append_right _ (List.mem_append_right _ (List.mem_append_right _ (List.mem_append_right _ (List.mem_of_getElem? (i := 46) rfl)))))
set_option maxRecDepth 100000 in
theorem glX7_worth : GoodIn lw_tbl (wsV RL 77 RX7 yX7_worth wsX7_worth) := goodIn_sub (List.forall_mem_append.mpr ⟨List.forall_mem_cons.mpr ⟨mw_488, List.forall_mem_cons.mpr ⟨mw_489, List.forall_mem_cons.mpr ⟨mw_490, List.forall_mem_cons.mpr ⟨mw_114, List.forall_mem_nil _⟩⟩⟩⟩, hmwsX7_worth⟩) (by decide +kernel)
set_option maxRecDepth 100000 in
theorem ckL_X7_worth : CkV lw_tbl RL 77 yX7_worth wsX7_worth cX7_worth 3 (some .int) 2 7 := ⟨RX7, TX7, 28, _, rfl, glX7_worth, rfl, hdX7_worth⟩
set_option maxRecDepth 100000 in
theorem mw_491 : Cond.code yX6_turn cX6_turn 9 (some .int) ∈ lw_tbl := List.mem_append_right _ (List.mem_append_right _ (List.mem_append_right _ (List.mem_append_left _ (List.mem_of_getElem? (i := 6) rfl))))
set_option maxRecDepth 100000 in
theorem mw_492 : Cond.fieldLink RX6 198 "EmptyBoxes$Desk" "offers" "LEmptyBoxes$Table;" ∈ lw_tbl := List.mem_append_right _ (List.mem_append_left _ (List.mem_of_getElem? (i := 67) rfl))
set_option maxRecDepth 100000 in
theorem mw_493 : Cond.fieldLink RX6 195 "EmptyBoxes$Desk" "wants" "LEmptyBoxes$Table;" ∈ lw_tbl := List.mem_append_right _ (List.mem_append_left _ (List.mem_of_getElem? (i := 69) rfl))
set_option maxRecDepth 100000 in
theorem hmwsX6_turn_r1 : ∀ w ∈ wsX6_turn_r1, w ∈ lw_tbl := List.forall_mem_cons.mpr ⟨mw_18, List.forall_mem_cons.mpr ⟨mw_493, List.forall_mem_cons.mpr ⟨mw_492, List.forall_mem_cons.mpr ⟨mw_253, List.forall_mem_cons.mpr ⟨mw_252, List.forall_mem_cons.mpr ⟨mw_91, List.forall_mem_cons.mpr ⟨mw_251, List.forall_mem_cons.mpr ⟨mw_118, List.forall_mem_cons.mpr ⟨mw_117, List.forall_mem_cons.mpr ⟨mw_116, List.forall_mem_cons.mpr ⟨mw_141, List.forall_mem_cons.mpr ⟨mw_140, List.forall_mem_cons.mpr ⟨mw_139, List.forall_mem_cons.mpr ⟨mw_144, List.forall_mem_cons.mpr ⟨mw_143, List.forall_mem_cons.mpr ⟨mw_142, List.forall_mem_cons.mpr ⟨mw_281, List.forall_mem_cons.mpr ⟨mw_280, List.forall_mem_cons.mpr ⟨mw_279, List.forall_mem_cons.mpr ⟨mw_152, List.forall_mem_cons.mpr ⟨mw_151, List.forall_mem_cons.mpr ⟨mw_150, List.forall_mem_cons.mpr ⟨mw_40, List.forall_mem_cons.mpr ⟨mw_149, List.forall_mem_nil _⟩⟩⟩⟩⟩⟩⟩⟩⟩⟩⟩⟩⟩⟩⟩⟩⟩⟩⟩⟩⟩⟩⟩⟩
set_option maxRecDepth 100000 in
theorem hmwsX6_turn_r2 : ∀ w ∈ wsX6_turn_r2, w ∈ lw_tbl := List.forall_mem_cons.mpr ⟨mw_62, List.forall_mem_cons.mpr ⟨mw_66, List.forall_mem_cons.mpr ⟨mw_177, List.forall_mem_cons.mpr ⟨mw_176, List.forall_mem_cons.mpr ⟨mw_175, List.forall_mem_cons.mpr ⟨mw_174, List.forall_mem_cons.mpr ⟨mw_173, List.forall_mem_cons.mpr ⟨mw_172, List.forall_mem_cons.mpr ⟨mw_171, List.forall_mem_cons.mpr ⟨mw_170, List.forall_mem_cons.mpr ⟨mw_169, List.forall_mem_cons.mpr ⟨mw_63, List.forall_mem_cons.mpr ⟨mw_65, List.forall_mem_cons.mpr ⟨mw_161, List.forall_mem_cons.mpr ⟨mw_160, List.forall_mem_cons.mpr ⟨mw_159, List.forall_mem_cons.mpr ⟨mw_158, List.forall_mem_nil _⟩⟩⟩⟩⟩⟩⟩⟩⟩⟩⟩⟩⟩⟩⟩⟩⟩
set_option maxRecDepth 100000 in
theorem hmwsX6_turn : ∀ w ∈ wsX6_turn, w ∈ lw_tbl := List.forall_mem_cons.mpr ⟨mw_491, List.forall_mem_append.mpr ⟨List.forall_mem_append.mpr ⟨List.forall_mem_append.mpr ⟨List.forall_mem_append.mpr ⟨hmwsX6_turn_r1, hmwsX6_turn_r2⟩, inX6⟩, inX0⟩, inX4⟩⟩
set_option maxRecDepth 100000 in
theorem mw_494 : Cond.methodLink RL 78 yX6_turn ∈ lw_tbl := List.mem_append_right _ (List.mem_append_right _ (List.mem_append_right _ (List.mem_append_left _ (List.mem_of_getElem? (i := 3) rfl))))
set_option maxRecDepth 100000 in
theorem mw_495 : Cond.instanceMethod yX6_turn ∈ lw_tbl := List.mem_append_right _ (List.mem_append_right _ (List.mem_append_right _ (List.mem_append_left _ (List.mem_of_getElem? (i := 4) rfl))))
set_option maxRecDepth 100000 in
theorem mw_496 : Cond.selects RX6 yX6_turn yX6_turn ∈ lw_tbl := List.mem_append_right _ (List.mem_append_right _ (List.mem_append_right _ (List.mem_append_left _ (List.mem_of_getElem? (i := 5) rfl))))
set_option maxRecDepth 100000 in
theorem glX6_turn : GoodIn lw_tbl (wsV RL 78 RX6 yX6_turn wsX6_turn) := goodIn_sub (List.forall_mem_append.mpr ⟨List.forall_mem_cons.mpr ⟨mw_494, List.forall_mem_cons.mpr ⟨mw_495, List.forall_mem_cons.mpr ⟨mw_496, List.forall_mem_cons.mpr ⟨mw_91, List.forall_mem_nil _⟩⟩⟩⟩, hmwsX6_turn⟩) (by decide +kernel)
set_option maxRecDepth 100000 in
theorem ckL_X6_turn : CkV lw_tbl RL 78 yX6_turn wsX6_turn cX6_turn 9 (some .int) 6 6 := ⟨RX6, TX6, 8, _, rfl, glX6_turn, rfl, hdX6_turn⟩
set_option maxRecDepth 100000 in
theorem mw_497 : Cond.code yX7_turn cX7_turn 9 (some .int) ∈ lw_tbl := List.mem_append_right _ (List.mem_append_right _ (List.mem_append_right _ (List.mem_append_right _ (List.mem_append_right _ (List.mem_of_getElem? (i := 51) rfl)))))
set_option maxRecDepth 100000 in
theorem hmwsX7_turn : ∀ w ∈ wsX7_turn, w ∈ lw_tbl := List.forall_mem_cons.mpr ⟨mw_497, List.forall_mem_append.mpr ⟨List.forall_mem_cons.mpr ⟨mw_110, List.forall_mem_cons.mpr ⟨mw_105, List.forall_mem_cons.mpr ⟨mw_266, List.forall_mem_cons.mpr ⟨mw_265, List.forall_mem_cons.mpr ⟨mw_114, List.forall_mem_cons.mpr ⟨mw_264, List.forall_mem_cons.mpr ⟨mw_126, List.forall_mem_cons.mpr ⟨mw_125, List.forall_mem_cons.mpr ⟨mw_124, List.forall_mem_cons.mpr ⟨mw_192, List.forall_mem_cons.mpr ⟨mw_191, List.forall_mem_cons.mpr ⟨mw_190, List.forall_mem_cons.mpr ⟨mw_307, List.forall_mem_cons.mpr ⟨mw_306, List.forall_mem_cons.mpr ⟨mw_305, List.forall_mem_nil _⟩⟩⟩⟩⟩⟩⟩⟩⟩⟩⟩⟩⟩⟩⟩, inX7⟩⟩
set_option maxRecDepth 100000 in
theorem mw_498 : Cond.methodLink RL 82 yX7_turn ∈ lw_tbl := List.mem_append_right _ (List.mem_append_right _ (List.mem_append_right _ (List.mem_append_right _ (List.mem_append_right _ (List.mem_of_getElem? (i := 48) rfl)))))
set_option maxRecDepth 100000 in
theorem mw_499 : Cond.instanceMethod yX7_turn ∈ lw_tbl := List.mem_append_right _ (List.mem_append_right _ (List.mem_append_right _ (List.mem_append_right _ (List.mem_append_right _ (List.mem_of_getElem? (i := 49) rfl)))))
set_option maxRecDepth 100000 in
theorem mw_500 : Cond.selects RX7 yX7_turn yX7_turn ∈ lw_tbl := List.mem_append_right _ (List.mem_append_right _ (List.mem_append_right _ (List.mem_append_right _ (List.mem_append_right _ (List.mem_of_getElem? (i := 50) rfl)))))
set_option maxRecDepth 100000 in
theorem glX7_turn : GoodIn lw_tbl (wsV RL 82 RX7 yX7_turn wsX7_turn) := goodIn_sub (List.forall_mem_append.mpr ⟨List.forall_mem_cons.mpr ⟨mw_498, List.forall_mem_cons.mpr ⟨mw_499, List.forall_mem_cons.mpr ⟨mw_500, List.forall_mem_cons.mpr ⟨mw_114, List.forall_mem_nil _⟩⟩⟩⟩, hmwsX7_turn⟩) (by decide +kernel)
set_option maxRecDepth 100000 in
theorem ckL_X7_turn : CkV lw_tbl RL 82 yX7_turn wsX7_turn cX7_turn 9 (some .int) 6 7 := ⟨RX7, TX7, 28, _, rfl, glX7_turn, rfl, hdX7_turn⟩
set_option maxRecDepth 100000 in
theorem mw_501 : Cond.code yX6_leave cX6_leave 4 (some .int) ∈ lw_tbl := List.mem_append_right _ (List.mem_append_right _ (List.mem_append_right _ (List.mem_append_left _ (List.mem_of_getElem? (i := 10) rfl))))
set_option maxRecDepth 100000 in
theorem mw_502 : Cond.code yX6_hasLeave cX6_hasLeave 3 (some .boolean) ∈ lw_tbl := List.mem_append_right _ (List.mem_append_right _ (List.mem_append_right _ (List.mem_append_left _ (List.mem_of_getElem? (i := 14) rfl))))
set_option maxRecDepth 100000 in
theorem mw_503 : Cond.selects RX6 yX6_hasLeave yX6_hasLeave ∈ lw_tbl := List.mem_append_left _ (List.mem_map.mpr ⟨(⟨"EmptyBoxes", "hasLeave", "(II)Z"⟩, 8), List.mem_append_right _ (List.mem_append_left _ (List.mem_of_getElem? (i := 9) rfl)), rfl⟩)
set_option maxRecDepth 100000 in
theorem mw_504 : Cond.instanceMethod yX6_hasLeave ∈ lw_tbl := List.mem_append_right _ (List.mem_append_right _ (List.mem_append_right _ (List.mem_append_left _ (List.mem_of_getElem? (i := 13) rfl))))
set_option maxRecDepth 100000 in
theorem mw_505 : Cond.methodLink RX6 201 yX6_hasLeave ∈ lw_tbl := List.mem_append_right _ (List.mem_append_right _ (List.mem_append_right _ (List.mem_append_left _ (List.mem_of_getElem? (i := 11) rfl))))
set_option maxRecDepth 100000 in
theorem mw_506 : Cond.fieldLink RX6 204 "EmptyBoxes$Desk" "leaves" "LEmptyBoxes$Table;" ∈ lw_tbl := List.mem_append_right _ (List.mem_append_left _ (List.mem_of_getElem? (i := 71) rfl))
set_option maxRecDepth 100000 in
theorem hmwsX6_leave_r1 : ∀ w ∈ wsX6_leave_r1, w ∈ lw_tbl := List.forall_mem_cons.mpr ⟨mw_18, List.forall_mem_cons.mpr ⟨mw_506, List.forall_mem_cons.mpr ⟨mw_141, List.forall_mem_cons.mpr ⟨mw_140, List.forall_mem_cons.mpr ⟨mw_91, List.forall_mem_cons.mpr ⟨mw_139, List.forall_mem_cons.mpr ⟨mw_118, List.forall_mem_cons.mpr ⟨mw_117, List.forall_mem_cons.mpr ⟨mw_116, List.forall_mem_cons.mpr ⟨mw_505, List.forall_mem_cons.mpr ⟨mw_504, List.forall_mem_cons.mpr ⟨mw_503, List.forall_mem_cons.mpr ⟨mw_502, List.forall_mem_cons.mpr ⟨mw_165, List.forall_mem_cons.mpr ⟨mw_164, List.forall_mem_cons.mpr ⟨mw_163, List.forall_mem_cons.mpr ⟨mw_40, List.forall_mem_cons.mpr ⟨mw_162, List.forall_mem_cons.mpr ⟨mw_63, List.forall_mem_cons.mpr ⟨mw_65, List.forall_mem_cons.mpr ⟨mw_161, List.forall_mem_cons.mpr ⟨mw_160, List.forall_mem_cons.mpr ⟨mw_159, List.forall_mem_cons.mpr ⟨mw_158, List.forall_mem_nil _⟩⟩⟩⟩⟩⟩⟩⟩⟩⟩⟩⟩⟩⟩⟩⟩⟩⟩⟩⟩⟩⟩⟩⟩
set_option maxRecDepth 100000 in
theorem hmwsX6_leave_r2 : ∀ w ∈ wsX6_leave_r2, w ∈ lw_tbl := List.forall_mem_cons.mpr ⟨mw_62, List.forall_mem_cons.mpr ⟨mw_172, List.forall_mem_cons.mpr ⟨mw_171, List.forall_mem_cons.mpr ⟨mw_170, List.forall_mem_cons.mpr ⟨mw_169, List.forall_mem_nil _⟩⟩⟩⟩⟩
set_option maxRecDepth 100000 in
theorem hmwsX6_leave : ∀ w ∈ wsX6_leave, w ∈ lw_tbl := List.forall_mem_cons.mpr ⟨mw_501, List.forall_mem_append.mpr ⟨List.forall_mem_append.mpr ⟨List.forall_mem_append.mpr ⟨List.forall_mem_append.mpr ⟨hmwsX6_leave_r1, hmwsX6_leave_r2⟩, inX6⟩, inX0⟩, inX4⟩⟩
set_option maxRecDepth 100000 in
theorem mw_507 : Cond.methodLink RL 83 yX6_leave ∈ lw_tbl := List.mem_append_right _ (List.mem_append_right _ (List.mem_append_right _ (List.mem_append_left _ (List.mem_of_getElem? (i := 7) rfl))))
set_option maxRecDepth 100000 in
theorem mw_508 : Cond.instanceMethod yX6_leave ∈ lw_tbl := List.mem_append_right _ (List.mem_append_right _ (List.mem_append_right _ (List.mem_append_left _ (List.mem_of_getElem? (i := 8) rfl))))
set_option maxRecDepth 100000 in
theorem mw_509 : Cond.selects RX6 yX6_leave yX6_leave ∈ lw_tbl := List.mem_append_right _ (List.mem_append_right _ (List.mem_append_right _ (List.mem_append_left _ (List.mem_of_getElem? (i := 9) rfl))))
set_option maxRecDepth 100000 in
theorem glX6_leave : GoodIn lw_tbl (wsV RL 83 RX6 yX6_leave wsX6_leave) := goodIn_sub (List.forall_mem_append.mpr ⟨List.forall_mem_cons.mpr ⟨mw_507, List.forall_mem_cons.mpr ⟨mw_508, List.forall_mem_cons.mpr ⟨mw_509, List.forall_mem_cons.mpr ⟨mw_91, List.forall_mem_nil _⟩⟩⟩⟩, hmwsX6_leave⟩) (by decide +kernel)
set_option maxRecDepth 100000 in
theorem ckL_X6_leave : CkV lw_tbl RL 83 yX6_leave wsX6_leave cX6_leave 4 (some .int) 3 6 := ⟨RX6, TX6, 8, _, rfl, glX6_leave, rfl, hdX6_leave⟩
set_option maxRecDepth 100000 in
theorem mw_510 : Cond.code yX7_leave cX7_leave 6 (some .int) ∈ lw_tbl := List.mem_append_right _ (List.mem_append_right _ (List.mem_append_right _ (List.mem_append_right _ (List.mem_append_right _ (List.mem_of_getElem? (i := 55) rfl)))))
set_option maxRecDepth 100000 in
theorem hmwsX7_leave : ∀ w ∈ wsX7_leave, w ∈ lw_tbl := List.forall_mem_cons.mpr ⟨mw_510, List.forall_mem_append.mpr ⟨List.forall_mem_cons.mpr ⟨mw_104, List.forall_mem_cons.mpr ⟨mw_192, List.forall_mem_cons.mpr ⟨mw_191, List.forall_mem_cons.mpr ⟨mw_114, List.forall_mem_cons.mpr ⟨mw_190, List.forall_mem_cons.mpr ⟨mw_126, List.forall_mem_cons.mpr ⟨mw_125, List.forall_mem_cons.mpr ⟨mw_124, List.forall_mem_nil _⟩⟩⟩⟩⟩⟩⟩⟩, inX7⟩⟩
set_option maxRecDepth 100000 in
theorem mw_511 : Cond.methodLink RL 87 yX7_leave ∈ lw_tbl := List.mem_append_right _ (List.mem_append_right _ (List.mem_append_right _ (List.mem_append_right _ (List.mem_append_right _ (List.mem_of_getElem? (i := 52) rfl)))))
set_option maxRecDepth 100000 in
theorem mw_512 : Cond.instanceMethod yX7_leave ∈ lw_tbl := List.mem_append_right _ (List.mem_append_right _ (List.mem_append_right _ (List.mem_append_right _ (List.mem_append_right _ (List.mem_of_getElem? (i := 53) rfl)))))
set_option maxRecDepth 100000 in
theorem mw_513 : Cond.selects RX7 yX7_leave yX7_leave ∈ lw_tbl := List.mem_append_right _ (List.mem_append_right _ (List.mem_append_right _ (List.mem_append_right _ (List.mem_append_right _ (List.mem_of_getElem? (i := 54) rfl)))))
set_option maxRecDepth 100000 in
theorem glX7_leave : GoodIn lw_tbl (wsV RL 87 RX7 yX7_leave wsX7_leave) := goodIn_sub (List.forall_mem_append.mpr ⟨List.forall_mem_cons.mpr ⟨mw_511, List.forall_mem_cons.mpr ⟨mw_512, List.forall_mem_cons.mpr ⟨mw_513, List.forall_mem_cons.mpr ⟨mw_114, List.forall_mem_nil _⟩⟩⟩⟩, hmwsX7_leave⟩) (by decide +kernel)
set_option maxRecDepth 100000 in
theorem ckL_X7_leave : CkV lw_tbl RL 87 yX7_leave wsX7_leave cX7_leave 6 (some .int) 3 7 := ⟨RX7, TX7, 28, _, rfl, glX7_leave, rfl, hdX7_leave⟩
set_option maxRecDepth 100000 in
theorem mw_514 : Cond.code yX6_suits cX6_suits 3 (some .int) ∈ lw_tbl := List.mem_append_right _ (List.mem_append_right _ (List.mem_append_right _ (List.mem_append_left _ (List.mem_of_getElem? (i := 18) rfl))))
set_option maxRecDepth 100000 in
theorem mw_515 : Cond.code yX6_isSuited cX6_isSuited 3 (some .boolean) ∈ lw_tbl := List.mem_append_right _ (List.mem_append_right _ (List.mem_append_right _ (List.mem_append_left _ (List.mem_of_getElem? (i := 22) rfl))))
set_option maxRecDepth 100000 in
theorem mw_516 : Cond.selects RX6 yX6_isSuited yX6_isSuited ∈ lw_tbl := List.mem_append_left _ (List.mem_map.mpr ⟨(⟨"EmptyBoxes", "isSuited", "(II)Z"⟩, 8), List.mem_append_right _ (List.mem_append_left _ (List.mem_of_getElem? (i := 10) rfl)), rfl⟩)
set_option maxRecDepth 100000 in
theorem mw_517 : Cond.instanceMethod yX6_isSuited ∈ lw_tbl := List.mem_append_right _ (List.mem_append_right _ (List.mem_append_right _ (List.mem_append_left _ (List.mem_of_getElem? (i := 21) rfl))))
set_option maxRecDepth 100000 in
theorem mw_518 : Cond.methodLink RX6 207 yX6_isSuited ∈ lw_tbl := List.mem_append_right _ (List.mem_append_right _ (List.mem_append_right _ (List.mem_append_left _ (List.mem_of_getElem? (i := 19) rfl))))
set_option maxRecDepth 100000 in
theorem hmwsX6_suits_r1 : ∀ w ∈ wsX6_suits_r1, w ∈ lw_tbl := List.forall_mem_cons.mpr ⟨mw_18, List.forall_mem_cons.mpr ⟨mw_492, List.forall_mem_cons.mpr ⟨mw_493, List.forall_mem_cons.mpr ⟨mw_235, List.forall_mem_cons.mpr ⟨mw_234, List.forall_mem_cons.mpr ⟨mw_233, List.forall_mem_cons.mpr ⟨mw_40, List.forall_mem_cons.mpr ⟨mw_232, List.forall_mem_cons.mpr ⟨mw_62, List.forall_mem_cons.mpr ⟨mw_518, List.forall_mem_cons.mpr ⟨mw_517, List.forall_mem_cons.mpr ⟨mw_516, List.forall_mem_cons.mpr ⟨mw_91, List.forall_mem_cons.mpr ⟨mw_515, List.forall_mem_cons.mpr ⟨mw_165, List.forall_mem_cons.mpr ⟨mw_164, List.forall_mem_cons.mpr ⟨mw_163, List.forall_mem_cons.mpr ⟨mw_162, List.forall_mem_cons.mpr ⟨mw_63, List.forall_mem_cons.mpr ⟨mw_65, List.forall_mem_cons.mpr ⟨mw_161, List.forall_mem_cons.mpr ⟨mw_160, List.forall_mem_cons.mpr ⟨mw_159, List.forall_mem_cons.mpr ⟨mw_158, List.forall_mem_nil _⟩⟩⟩⟩⟩⟩⟩⟩⟩⟩⟩⟩⟩⟩⟩⟩⟩⟩⟩⟩⟩⟩⟩⟩
set_option maxRecDepth 100000 in
theorem mw_519 : Cond.code yX6_isJoined cX6_isJoined 7 (some .boolean) ∈ lw_tbl := List.mem_append_right _ (List.mem_append_right _ (List.mem_append_right _ (List.mem_append_left _ (List.mem_of_getElem? (i := 30) rfl))))
set_option maxRecDepth 100000 in
theorem mw_520 : Cond.selects RX6 yX6_isJoined yX6_isJoined ∈ lw_tbl := List.mem_append_left _ (List.mem_map.mpr ⟨(⟨"EmptyBoxes", "isJoined", "(II)Z"⟩, 8), List.mem_append_right _ (List.mem_append_left _ (List.mem_of_getElem? (i := 12) rfl)), rfl⟩)
set_option maxRecDepth 100000 in
theorem mw_521 : Cond.instanceMethod yX6_isJoined ∈ lw_tbl := List.mem_append_right _ (List.mem_append_right _ (List.mem_append_right _ (List.mem_append_left _ (List.mem_of_getElem? (i := 29) rfl))))
set_option maxRecDepth 100000 in
theorem mw_522 : Cond.methodLink RX6 228 yX6_isJoined ∈ lw_tbl := List.mem_append_right _ (List.mem_append_right _ (List.mem_append_right _ (List.mem_append_left _ (List.mem_of_getElem? (i := 27) rfl))))
set_option maxRecDepth 100000 in
theorem mw_523 : Cond.code yX6_isSharing cX6_isSharing 3 (some .boolean) ∈ lw_tbl := List.mem_append_right _ (List.mem_append_right _ (List.mem_append_right _ (List.mem_append_left _ (List.mem_of_getElem? (i := 26) rfl))))
set_option maxRecDepth 100000 in
theorem mw_524 : Cond.selects RX6 yX6_isSharing yX6_isSharing ∈ lw_tbl := List.mem_append_left _ (List.mem_map.mpr ⟨(⟨"EmptyBoxes", "isSharing", "(II)Z"⟩, 8), List.mem_append_right _ (List.mem_append_left _ (List.mem_of_getElem? (i := 11) rfl)), rfl⟩)
set_option maxRecDepth 100000 in
theorem mw_525 : Cond.instanceMethod yX6_isSharing ∈ lw_tbl := List.mem_append_right _ (List.mem_append_right _ (List.mem_append_right _ (List.mem_append_left _ (List.mem_of_getElem? (i := 25) rfl))))
set_option maxRecDepth 100000 in
theorem mw_526 : Cond.methodLink RX6 225 yX6_isSharing ∈ lw_tbl := List.mem_append_right _ (List.mem_append_right _ (List.mem_append_right _ (List.mem_append_left _ (List.mem_of_getElem? (i := 23) rfl))))
set_option maxRecDepth 100000 in
theorem hmwsX6_suits_r2 : ∀ w ∈ wsX6_suits_r2, w ∈ lw_tbl := List.forall_mem_cons.mpr ⟨mw_526, List.forall_mem_cons.mpr ⟨mw_525, List.forall_mem_cons.mpr ⟨mw_524, List.forall_mem_cons.mpr ⟨mw_523, List.forall_mem_cons.mpr ⟨mw_505, List.forall_mem_cons.mpr ⟨mw_504, List.forall_mem_cons.mpr ⟨mw_503, List.forall_mem_cons.mpr ⟨mw_502, List.forall_mem_cons.mpr ⟨mw_506, List.forall_mem_cons.mpr ⟨mw_522, List.forall_mem_cons.mpr ⟨mw_521, List.forall_mem_cons.mpr ⟨mw_520, List.forall_mem_cons.mpr ⟨mw_519, List.forall_mem_cons.mpr ⟨mw_380, List.forall_mem_cons.mpr ⟨mw_131, List.forall_mem_cons.mpr ⟨mw_168, List.forall_mem_cons.mpr ⟨mw_167, List.forall_mem_cons.mpr ⟨mw_166, List.forall_mem_nil _⟩⟩⟩⟩⟩⟩⟩⟩⟩⟩⟩⟩⟩⟩⟩⟩⟩⟩
set_option maxRecDepth 100000 in
theorem hmwsX6_suits : ∀ w ∈ wsX6_suits, w ∈ lw_tbl := List.forall_mem_cons.mpr ⟨mw_514, List.forall_mem_append.mpr ⟨List.forall_mem_append.mpr ⟨List.forall_mem_append.mpr ⟨List.forall_mem_append.mpr ⟨hmwsX6_suits_r1, hmwsX6_suits_r2⟩, inX6⟩, inX0⟩, inX4⟩⟩
set_option maxRecDepth 100000 in
theorem mw_527 : Cond.methodLink RL 88 yX6_suits ∈ lw_tbl := List.mem_append_right _ (List.mem_append_right _ (List.mem_append_right _ (List.mem_append_left _ (List.mem_of_getElem? (i := 15) rfl))))
set_option maxRecDepth 100000 in
theorem mw_528 : Cond.instanceMethod yX6_suits ∈ lw_tbl := List.mem_append_right _ (List.mem_append_right _ (List.mem_append_right _ (List.mem_append_left _ (List.mem_of_getElem? (i := 16) rfl))))
set_option maxRecDepth 100000 in
theorem mw_529 : Cond.selects RX6 yX6_suits yX6_suits ∈ lw_tbl := List.mem_append_right _ (List.mem_append_right _ (List.mem_append_right _ (List.mem_append_left _ (List.mem_of_getElem? (i := 17) rfl))))
set_option maxRecDepth 100000 in
theorem glX6_suits : GoodIn lw_tbl (wsV RL 88 RX6 yX6_suits wsX6_suits) := goodIn_sub (List.forall_mem_append.mpr ⟨List.forall_mem_cons.mpr ⟨mw_527, List.forall_mem_cons.mpr ⟨mw_528, List.forall_mem_cons.mpr ⟨mw_529, List.forall_mem_cons.mpr ⟨mw_91, List.forall_mem_nil _⟩⟩⟩⟩, hmwsX6_suits⟩) (by decide +kernel)
set_option maxRecDepth 100000 in
theorem ckL_X6_suits : CkV lw_tbl RL 88 yX6_suits wsX6_suits cX6_suits 3 (some .int) 2 6 := ⟨RX6, TX6, 8, _, rfl, glX6_suits, rfl, hdX6_suits⟩
set_option maxRecDepth 100000 in
theorem mw_530 : Cond.code yX7_suits cX7_suits 3 (some .int) ∈ lw_tbl := List.mem_append_right _ (List.mem_append_right _ (List.mem_append_right _ (List.mem_append_right _ (List.mem_append_right _ (List.mem_of_getElem? (i := 59) rfl)))))
set_option maxRecDepth 100000 in
theorem mw_531 : Cond.code yX7_isNear cX7_isNear 6 (some .boolean) ∈ lw_tbl := List.mem_append_right _ (List.mem_append_right _ (List.mem_append_right _ (List.mem_append_right _ (List.mem_append_right _ (List.mem_of_getElem? (i := 67) rfl)))))
set_option maxRecDepth 100000 in
theorem mw_532 : Cond.selects RX7 yX7_isNear yX7_isNear ∈ lw_tbl := List.mem_append_left _ (List.mem_map.mpr ⟨(⟨"EmptyBoxesModel", "isNear", "(II)Z"⟩, 28), List.mem_append_right _ (List.mem_append_right _ (List.mem_append_right _ (List.mem_append_left _ (List.mem_of_getElem? (i := 11) rfl)))), rfl⟩)
set_option maxRecDepth 100000 in
theorem mw_533 : Cond.instanceMethod yX7_isNear ∈ lw_tbl := List.mem_append_right _ (List.mem_append_right _ (List.mem_append_right _ (List.mem_append_right _ (List.mem_append_right _ (List.mem_of_getElem? (i := 66) rfl)))))
set_option maxRecDepth 100000 in
theorem mw_534 : Cond.methodLink RX7 129 yX7_isNear ∈ lw_tbl := List.mem_append_right _ (List.mem_append_right _ (List.mem_append_right _ (List.mem_append_right _ (List.mem_append_right _ (List.mem_of_getElem? (i := 64) rfl)))))
set_option maxRecDepth 100000 in
theorem mw_535 : Cond.code yX7_suitsIt cX7_suitsIt 7 (some .boolean) ∈ lw_tbl := List.mem_append_right _ (List.mem_append_right _ (List.mem_append_right _ (List.mem_append_right _ (List.mem_append_right _ (List.mem_of_getElem? (i := 63) rfl)))))
set_option maxRecDepth 100000 in
theorem mw_536 : Cond.selects RX7 yX7_suitsIt yX7_suitsIt ∈ lw_tbl := List.mem_append_left _ (List.mem_map.mpr ⟨(⟨"EmptyBoxesModel", "suitsIt", "(II)Z"⟩, 28), List.mem_append_right _ (List.mem_append_right _ (List.mem_append_right _ (List.mem_append_left _ (List.mem_of_getElem? (i := 10) rfl)))), rfl⟩)
set_option maxRecDepth 100000 in
theorem mw_537 : Cond.instanceMethod yX7_suitsIt ∈ lw_tbl := List.mem_append_right _ (List.mem_append_right _ (List.mem_append_right _ (List.mem_append_right _ (List.mem_append_right _ (List.mem_of_getElem? (i := 62) rfl)))))
set_option maxRecDepth 100000 in
theorem mw_538 : Cond.methodLink RX7 133 yX7_suitsIt ∈ lw_tbl := List.mem_append_right _ (List.mem_append_right _ (List.mem_append_right _ (List.mem_append_right _ (List.mem_append_right _ (List.mem_of_getElem? (i := 60) rfl)))))
set_option maxRecDepth 100000 in
theorem hmwsX7_suits : ∀ w ∈ wsX7_suits, w ∈ lw_tbl := List.forall_mem_cons.mpr ⟨mw_530, List.forall_mem_append.mpr ⟨List.forall_mem_cons.mpr ⟨mw_110, List.forall_mem_cons.mpr ⟨mw_126, List.forall_mem_cons.mpr ⟨mw_125, List.forall_mem_cons.mpr ⟨mw_114, List.forall_mem_cons.mpr ⟨mw_124, List.forall_mem_cons.mpr ⟨mw_538, List.forall_mem_cons.mpr ⟨mw_537, List.forall_mem_cons.mpr ⟨mw_536, List.forall_mem_cons.mpr ⟨mw_535, List.forall_mem_cons.mpr ⟨mw_105, List.forall_mem_cons.mpr ⟨mw_104, List.forall_mem_cons.mpr ⟨mw_534, List.forall_mem_cons.mpr ⟨mw_533, List.forall_mem_cons.mpr ⟨mw_532, List.forall_mem_cons.mpr ⟨mw_531, List.forall_mem_cons.mpr ⟨mw_106, List.forall_mem_nil _⟩⟩⟩⟩⟩⟩⟩⟩⟩⟩⟩⟩⟩⟩⟩⟩, inX7⟩⟩
set_option maxRecDepth 100000 in
theorem mw_539 : Cond.methodLink RL 91 yX7_suits ∈ lw_tbl := List.mem_append_right _ (List.mem_append_right _ (List.mem_append_right _ (List.mem_append_right _ (List.mem_append_right _ (List.mem_of_getElem? (i := 56) rfl)))))
set_option maxRecDepth 100000 in
theorem mw_540 : Cond.instanceMethod yX7_suits ∈ lw_tbl := List.mem_append_right _ (List.mem_append_right _ (List.mem_append_right _ (List.mem_append_right _ (List.mem_append_right _ (List.mem_of_getElem? (i := 57) rfl)))))
set_option maxRecDepth 100000 in
theorem mw_541 : Cond.selects RX7 yX7_suits yX7_suits ∈ lw_tbl := List.mem_append_right _ (List.mem_append_right _ (List.mem_append_right _ (List.mem_append_right _ (List.mem_append_right _ (List.mem_of_getElem? (i := 58) rfl)))))
set_option maxRecDepth 100000 in
theorem glX7_suits : GoodIn lw_tbl (wsV RL 91 RX7 yX7_suits wsX7_suits) := goodIn_sub (List.forall_mem_append.mpr ⟨List.forall_mem_cons.mpr ⟨mw_539, List.forall_mem_cons.mpr ⟨mw_540, List.forall_mem_cons.mpr ⟨mw_541, List.forall_mem_cons.mpr ⟨mw_114, List.forall_mem_nil _⟩⟩⟩⟩, hmwsX7_suits⟩) (by decide +kernel)
set_option maxRecDepth 100000 in
theorem ckL_X7_suits : CkV lw_tbl RL 91 yX7_suits wsX7_suits cX7_suits 3 (some .int) 2 7 := ⟨RX7, TX7, 28, _, rfl, glX7_suits, rfl, hdX7_suits⟩
set_option maxRecDepth 100000 in
theorem mw_542 : Cond.code yX6_match cX6_match 3 (some .int) ∈ lw_tbl := List.mem_append_right _ (List.mem_append_right _ (List.mem_append_right _ (List.mem_append_left _ (List.mem_of_getElem? (i := 34) rfl))))
set_option maxRecDepth 100000 in
theorem mw_543 : Cond.selects RX2 yX2_begin yX2_begin ∈ lw_tbl := List.mem_append_right _ (List.mem_append_right _ (List.mem_append_right _ (List.mem_append_left _ (List.mem_of_getElem? (i := 41) rfl))))
set_option maxRecDepth 100000 in
theorem mw_544 : Cond.instanceMethod yX2_begin ∈ lw_tbl := List.mem_append_right _ (List.mem_append_right _ (List.mem_append_right _ (List.mem_append_left _ (List.mem_of_getElem? (i := 40) rfl))))
set_option maxRecDepth 100000 in
theorem mw_545 : Cond.methodLink RX6 231 yX2_begin ∈ lw_tbl := List.mem_append_right _ (List.mem_append_right _ (List.mem_append_right _ (List.mem_append_left _ (List.mem_of_getElem? (i := 39) rfl))))
set_option maxRecDepth 100000 in
theorem mw_546 : Cond.code yX6_makeMatch cX6_makeMatch 3 none ∈ lw_tbl := List.mem_append_right _ (List.mem_append_right _ (List.mem_append_right _ (List.mem_append_left _ (List.mem_of_getElem? (i := 38) rfl))))
set_option maxRecDepth 100000 in
theorem mw_547 : Cond.selects RX6 yX6_makeMatch yX6_makeMatch ∈ lw_tbl := List.mem_append_left _ (List.mem_map.mpr ⟨(⟨"EmptyBoxes", "makeMatch", "()V"⟩, 8), List.mem_append_right _ (List.mem_append_left _ (List.mem_of_getElem? (i := 13) rfl)), rfl⟩)
set_option maxRecDepth 100000 in
theorem mw_548 : Cond.instanceMethod yX6_makeMatch ∈ lw_tbl := List.mem_append_right _ (List.mem_append_right _ (List.mem_append_right _ (List.mem_append_left _ (List.mem_of_getElem? (i := 37) rfl))))
set_option maxRecDepth 100000 in
theorem mw_549 : Cond.methodLink RX6 210 yX6_makeMatch ∈ lw_tbl := List.mem_append_right _ (List.mem_append_right _ (List.mem_append_right _ (List.mem_append_left _ (List.mem_of_getElem? (i := 35) rfl))))
set_option maxRecDepth 100000 in
theorem mw_550 : Cond.fieldLink RX6 216 "EmptyBoxes$Matching" "gap" "I" ∈ lw_tbl := List.mem_append_right _ (List.mem_append_left _ (List.mem_of_getElem? (i := 204) rfl))
set_option maxRecDepth 100000 in
theorem mw_551 : Cond.fieldLink RX6 213 "EmptyBoxes$Matching" "pairs" "I" ∈ lw_tbl := List.mem_append_right _ (List.mem_append_left _ (List.mem_of_getElem? (i := 202) rfl))
set_option maxRecDepth 100000 in
theorem hmwsX6_match_r1 : ∀ w ∈ wsX6_match_r1, w ∈ lw_tbl := List.forall_mem_cons.mpr ⟨mw_18, List.forall_mem_cons.mpr ⟨mw_492, List.forall_mem_cons.mpr ⟨mw_1, List.forall_mem_cons.mpr ⟨mw_551, List.forall_mem_cons.mpr ⟨mw_550, List.forall_mem_cons.mpr ⟨mw_235, List.forall_mem_cons.mpr ⟨mw_234, List.forall_mem_cons.mpr ⟨mw_233, List.forall_mem_cons.mpr ⟨mw_40, List.forall_mem_cons.mpr ⟨mw_232, List.forall_mem_cons.mpr ⟨mw_62, List.forall_mem_cons.mpr ⟨mw_549, List.forall_mem_cons.mpr ⟨mw_548, List.forall_mem_cons.mpr ⟨mw_547, List.forall_mem_cons.mpr ⟨mw_91, List.forall_mem_cons.mpr ⟨mw_546, List.forall_mem_cons.mpr ⟨mw_493, List.forall_mem_cons.mpr ⟨mw_131, List.forall_mem_cons.mpr ⟨mw_168, List.forall_mem_cons.mpr ⟨mw_167, List.forall_mem_cons.mpr ⟨mw_166, List.forall_mem_cons.mpr ⟨mw_545, List.forall_mem_cons.mpr ⟨mw_544, List.forall_mem_cons.mpr ⟨mw_543, List.forall_mem_nil _⟩⟩⟩⟩⟩⟩⟩⟩⟩⟩⟩⟩⟩⟩⟩⟩⟩⟩⟩⟩⟩⟩⟩⟩
set_option maxRecDepth 100000 in
theorem mw_552 : Cond.fieldLink RX2 34 "EmptyBoxes$Matching" "wants" "I" ∈ lw_tbl := List.mem_append_right _ (List.mem_append_left _ (List.mem_of_getElem? (i := 200) rfl))
set_option maxRecDepth 100000 in
theorem mw_553 : Cond.fieldLink RX2 30 "EmptyBoxes$Matching" "offers" "I" ∈ lw_tbl := List.mem_append_right _ (List.mem_append_left _ (List.mem_of_getElem? (i := 199) rfl))
set_option maxRecDepth 100000 in
theorem mw_554 : Cond.methodLink RX2 27 Lib.Math.max.name ∈ lw_tbl := List.mem_append_right _ (List.mem_append_right _ (List.mem_append_right _ (List.mem_append_left _ (List.mem_of_getElem? (i := 44) rfl))))
set_option maxRecDepth 100000 in
theorem mw_555 : Cond.methodLink RX2 21 Lib.Math.min.name ∈ lw_tbl := List.mem_append_right _ (List.mem_append_right _ (List.mem_append_right _ (List.mem_append_left _ (List.mem_of_getElem? (i := 43) rfl))))
set_option maxRecDepth 100000 in
theorem mw_556 : Cond.code yX2_begin cX2_begin 4 none ∈ lw_tbl := List.mem_append_right _ (List.mem_append_right _ (List.mem_append_right _ (List.mem_append_left _ (List.mem_of_getElem? (i := 42) rfl))))
set_option maxRecDepth 100000 in
theorem hmwsX6_match_r2 : ∀ w ∈ wsX6_match_r2, w ∈ lw_tbl := List.forall_mem_cons.mpr ⟨mw_2, List.forall_mem_cons.mpr ⟨mw_556, List.forall_mem_cons.mpr ⟨mw_555, List.forall_mem_cons.mpr ⟨mw_439, List.forall_mem_cons.mpr ⟨mw_68, List.forall_mem_cons.mpr ⟨mw_438, List.forall_mem_cons.mpr ⟨mw_554, List.forall_mem_cons.mpr ⟨mw_69, List.forall_mem_cons.mpr ⟨mw_67, List.forall_mem_cons.mpr ⟨mw_553, List.forall_mem_cons.mpr ⟨mw_552, List.forall_mem_cons.mpr ⟨mw_75, List.forall_mem_cons.mpr ⟨mw_518, List.forall_mem_cons.mpr ⟨mw_517, List.forall_mem_cons.mpr ⟨mw_516, List.forall_mem_cons.mpr ⟨mw_515, List.forall_mem_cons.mpr ⟨mw_165, List.forall_mem_cons.mpr ⟨mw_164, List.forall_mem_cons.mpr ⟨mw_163, List.forall_mem_cons.mpr ⟨mw_162, List.forall_mem_cons.mpr ⟨mw_63, List.forall_mem_cons.mpr ⟨mw_65, List.forall_mem_cons.mpr ⟨mw_161, List.forall_mem_cons.mpr ⟨mw_160, List.forall_mem_nil _⟩⟩⟩⟩⟩⟩⟩⟩⟩⟩⟩⟩⟩⟩⟩⟩⟩⟩⟩⟩⟩⟩⟩⟩
set_option maxRecDepth 100000 in
theorem mw_557 : Cond.methodLink RX6 238 yX2_allow ∈ lw_tbl := List.mem_append_right _ (List.mem_append_right _ (List.mem_append_right _ (List.mem_append_left _ (List.mem_of_getElem? (i := 52) rfl))))
set_option maxRecDepth 100000 in
theorem mw_558 : Cond.code Lib.Math.abs.name Lib.Math.abs.code 1 (some .int) ∈ lw_tbl := List.mem_append_right _ (List.mem_append_right _ (List.mem_append_right _ (List.mem_append_left _ (List.mem_of_getElem? (i := 51) rfl))))
set_option maxRecDepth 100000 in
theorem mw_559 : Cond.static Lib.Math.abs.name ∈ lw_tbl := List.mem_append_right _ (List.mem_append_right _ (List.mem_append_right _ (List.mem_append_left _ (List.mem_of_getElem? (i := 50) rfl))))
set_option maxRecDepth 100000 in
theorem mw_560 : Cond.methodLink RX6 243 Lib.Math.abs.name ∈ lw_tbl := List.mem_append_right _ (List.mem_append_right _ (List.mem_append_right _ (List.mem_append_left _ (List.mem_of_getElem? (i := 49) rfl))))
set_option maxRecDepth 100000 in
theorem mw_561 : Cond.code yX6_gapBetween cX6_gapBetween 3 (some .int) ∈ lw_tbl := List.mem_append_right _ (List.mem_append_right _ (List.mem_append_right _ (List.mem_append_left _ (List.mem_of_getElem? (i := 48) rfl))))
set_option maxRecDepth 100000 in
theorem mw_562 : Cond.selects RX6 yX6_gapBetween yX6_gapBetween ∈ lw_tbl := List.mem_append_left _ (List.mem_map.mpr ⟨(⟨"EmptyBoxes", "gapBetween", "(II)I"⟩, 8), List.mem_append_right _ (List.mem_append_left _ (List.mem_of_getElem? (i := 14) rfl)), rfl⟩)
set_option maxRecDepth 100000 in
theorem mw_563 : Cond.instanceMethod yX6_gapBetween ∈ lw_tbl := List.mem_append_right _ (List.mem_append_right _ (List.mem_append_right _ (List.mem_append_left _ (List.mem_of_getElem? (i := 47) rfl))))
set_option maxRecDepth 100000 in
theorem mw_564 : Cond.methodLink RX6 235 yX6_gapBetween ∈ lw_tbl := List.mem_append_right _ (List.mem_append_right _ (List.mem_append_right _ (List.mem_append_left _ (List.mem_of_getElem? (i := 45) rfl))))
set_option maxRecDepth 100000 in
theorem hmwsX6_match_r3 : ∀ w ∈ wsX6_match_r3, w ∈ lw_tbl := List.forall_mem_cons.mpr ⟨mw_159, List.forall_mem_cons.mpr ⟨mw_158, List.forall_mem_cons.mpr ⟨mw_526, List.forall_mem_cons.mpr ⟨mw_525, List.forall_mem_cons.mpr ⟨mw_524, List.forall_mem_cons.mpr ⟨mw_523, List.forall_mem_cons.mpr ⟨mw_505, List.forall_mem_cons.mpr ⟨mw_504, List.forall_mem_cons.mpr ⟨mw_503, List.forall_mem_cons.mpr ⟨mw_502, List.forall_mem_cons.mpr ⟨mw_506, List.forall_mem_cons.mpr ⟨mw_522, List.forall_mem_cons.mpr ⟨mw_521, List.forall_mem_cons.mpr ⟨mw_520, List.forall_mem_cons.mpr ⟨mw_519, List.forall_mem_cons.mpr ⟨mw_380, List.forall_mem_cons.mpr ⟨mw_564, List.forall_mem_cons.mpr ⟨mw_563, List.forall_mem_cons.mpr ⟨mw_562, List.forall_mem_cons.mpr ⟨mw_561, List.forall_mem_cons.mpr ⟨mw_560, List.forall_mem_cons.mpr ⟨mw_559, List.forall_mem_cons.mpr ⟨mw_558, List.forall_mem_cons.mpr ⟨mw_557, List.forall_mem_nil _⟩⟩⟩⟩⟩⟩⟩⟩⟩⟩⟩⟩⟩⟩⟩⟩⟩⟩⟩⟩⟩⟩⟩⟩
set_option maxRecDepth 100000 in
theorem mw_565 : Cond.selects RX2 yX2_scoreWith yX2_scoreWith ∈ lw_tbl := List.mem_append_left _ (List.mem_map.mpr ⟨(⟨"EmptyBoxes$Matching", "scoreWith", "(III)I"⟩, 7), List.mem_append_right _ (List.mem_append_right _ (List.mem_append_left _ (List.mem_of_getElem? (i := 1) rfl))), rfl⟩)
set_option maxRecDepth 100000 in
theorem mw_566 : Cond.instanceMethod yX2_scoreWith ∈ lw_tbl := List.mem_append_right _ (List.mem_append_right _ (List.mem_append_right _ (List.mem_append_left _ (List.mem_of_getElem? (i := 71) rfl))))
set_option maxRecDepth 100000 in
theorem mw_567 : Cond.methodLink RX2 56 yX2_scoreWith ∈ lw_tbl := List.mem_append_right _ (List.mem_append_right _ (List.mem_append_right _ (List.mem_append_left _ (List.mem_of_getElem? (i := 69) rfl))))
set_option maxRecDepth 100000 in
theorem mw_568 : Cond.code yX2_isOpen cX2_isOpen 4 (some .boolean) ∈ lw_tbl := List.mem_append_right _ (List.mem_append_right _ (List.mem_append_right _ (List.mem_append_left _ (List.mem_of_getElem? (i := 68) rfl))))
set_option maxRecDepth 100000 in
theorem mw_569 : Cond.selects RX2 yX2_isOpen yX2_isOpen ∈ lw_tbl := List.mem_append_left _ (List.mem_map.mpr ⟨(⟨"EmptyBoxes$Matching", "isOpen", "(III)Z"⟩, 7), List.mem_append_right _ (List.mem_append_right _ (List.mem_append_left _ (List.mem_of_getElem? (i := 0) rfl))), rfl⟩)
set_option maxRecDepth 100000 in
theorem mw_570 : Cond.instanceMethod yX2_isOpen ∈ lw_tbl := List.mem_append_right _ (List.mem_append_right _ (List.mem_append_right _ (List.mem_append_left _ (List.mem_of_getElem? (i := 67) rfl))))
set_option maxRecDepth 100000 in
theorem mw_571 : Cond.methodLink RX2 53 yX2_isOpen ∈ lw_tbl := List.mem_append_right _ (List.mem_append_right _ (List.mem_append_right _ (List.mem_append_left _ (List.mem_of_getElem? (i := 65) rfl))))
set_option maxRecDepth 100000 in
theorem mw_572 : Cond.code yX2_bestFrom cX2_bestFrom 5 (some .int) ∈ lw_tbl := List.mem_append_right _ (List.mem_append_right _ (List.mem_append_right _ (List.mem_append_left _ (List.mem_of_getElem? (i := 64) rfl))))
set_option maxRecDepth 100000 in
theorem mw_573 : Cond.selects RX2 yX2_bestFrom yX2_bestFrom ∈ lw_tbl := List.mem_append_left _ (List.mem_map.mpr ⟨(⟨"EmptyBoxes$Matching", "bestFrom", "(II)I"⟩, 7), List.mem_append_right _ (List.mem_append_left _ (List.mem_of_getElem? (i := 15) rfl)), rfl⟩)
set_option maxRecDepth 100000 in
theorem mw_574 : Cond.instanceMethod yX2_bestFrom ∈ lw_tbl := List.mem_append_right _ (List.mem_append_right _ (List.mem_append_right _ (List.mem_append_left _ (List.mem_of_getElem? (i := 63) rfl))))
set_option maxRecDepth 100000 in
theorem mw_575 : Cond.methodLink RX2 41 yX2_bestFrom ∈ lw_tbl := List.mem_append_right _ (List.mem_append_right _ (List.mem_append_right _ (List.mem_append_left _ (List.mem_of_getElem? (i := 61) rfl))))
set_option maxRecDepth 100000 in
theorem mw_576 : Cond.fieldLink RX2 47 "EmptyBoxes$Matching" "gap" "I" ∈ lw_tbl := List.mem_append_right _ (List.mem_append_left _ (List.mem_of_getElem? (i := 203) rfl))
set_option maxRecDepth 100000 in
theorem mw_577 : Cond.fieldLink RX2 44 "EmptyBoxes$Matching" "pairs" "I" ∈ lw_tbl := List.mem_append_right _ (List.mem_append_left _ (List.mem_of_getElem? (i := 201) rfl))
set_option maxRecDepth 100000 in
theorem mw_578 : Cond.code yX2_solve cX2_solve 3 none ∈ lw_tbl := List.mem_append_right _ (List.mem_append_right _ (List.mem_append_right _ (List.mem_append_left _ (List.mem_of_getElem? (i := 60) rfl))))
set_option maxRecDepth 100000 in
theorem mw_579 : Cond.selects RX2 yX2_solve yX2_solve ∈ lw_tbl := List.mem_append_right _ (List.mem_append_right _ (List.mem_append_right _ (List.mem_append_left _ (List.mem_of_getElem? (i := 59) rfl))))
set_option maxRecDepth 100000 in
theorem mw_580 : Cond.instanceMethod yX2_solve ∈ lw_tbl := List.mem_append_right _ (List.mem_append_right _ (List.mem_append_right _ (List.mem_append_left _ (List.mem_of_getElem? (i := 58) rfl))))
set_option maxRecDepth 100000 in
theorem mw_581 : Cond.methodLink RX6 241 yX2_solve ∈ lw_tbl := List.mem_append_right _ (List.mem_append_right _ (List.mem_append_right _ (List.mem_append_left _ (List.mem_of_getElem? (i := 57) rfl))))
set_option maxRecDepth 100000 in
theorem mw_582 : Cond.code yX2_allow cX2_allow 4 none ∈ lw_tbl := List.mem_append_right _ (List.mem_append_right _ (List.mem_append_right _ (List.mem_append_left _ (List.mem_of_getElem? (i := 55) rfl))))
set_option maxRecDepth 100000 in
theorem mw_583 : Cond.selects RX2 yX2_allow yX2_allow ∈ lw_tbl := List.mem_append_right _ (List.mem_append_right _ (List.mem_append_right _ (List.mem_append_left _ (List.mem_of_getElem? (i := 54) rfl))))
set_option maxRecDepth 100000 in
theorem mw_584 : Cond.instanceMethod yX2_allow ∈ lw_tbl := List.mem_append_right _ (List.mem_append_right _ (List.mem_append_right _ (List.mem_append_left _ (List.mem_of_getElem? (i := 53) rfl))))
set_option maxRecDepth 100000 in
theorem hmwsX6_match_r4 : ∀ w ∈ wsX6_match_r4, w ∈ lw_tbl := List.forall_mem_cons.mpr ⟨mw_584, List.forall_mem_cons.mpr ⟨mw_583, List.forall_mem_cons.mpr ⟨mw_582, List.forall_mem_cons.mpr ⟨mw_117, List.forall_mem_cons.mpr ⟨mw_116, List.forall_mem_cons.mpr ⟨mw_581, List.forall_mem_cons.mpr ⟨mw_580, List.forall_mem_cons.mpr ⟨mw_579, List.forall_mem_cons.mpr ⟨mw_578, List.forall_mem_cons.mpr ⟨mw_74, List.forall_mem_cons.mpr ⟨mw_577, List.forall_mem_cons.mpr ⟨mw_576, List.forall_mem_cons.mpr ⟨mw_73, List.forall_mem_cons.mpr ⟨mw_575, List.forall_mem_cons.mpr ⟨mw_574, List.forall_mem_cons.mpr ⟨mw_573, List.forall_mem_cons.mpr ⟨mw_572, List.forall_mem_cons.mpr ⟨mw_571, List.forall_mem_cons.mpr ⟨mw_570, List.forall_mem_cons.mpr ⟨mw_569, List.forall_mem_cons.mpr ⟨mw_568, List.forall_mem_cons.mpr ⟨mw_567, List.forall_mem_cons.mpr ⟨mw_566, List.forall_mem_cons.mpr ⟨mw_565, List.forall_mem_nil _⟩⟩⟩⟩⟩⟩⟩⟩⟩⟩⟩⟩⟩⟩⟩⟩⟩⟩⟩⟩⟩⟩⟩⟩
set_option maxRecDepth 100000 in
theorem mw_585 : Cond.code yX2_wantOf cX2_wantOf 2 (some .int) ∈ lw_tbl := List.mem_append_right _ (List.mem_append_right _ (List.mem_append_right _ (List.mem_append_left _ (List.mem_of_getElem? (i := 80) rfl))))
set_option maxRecDepth 100000 in
theorem mw_586 : Cond.selects RX2 yX2_wantOf yX2_wantOf ∈ lw_tbl := List.mem_append_right _ (List.mem_append_right _ (List.mem_append_right _ (List.mem_append_left _ (List.mem_of_getElem? (i := 79) rfl))))
set_option maxRecDepth 100000 in
theorem mw_587 : Cond.instanceMethod yX2_wantOf ∈ lw_tbl := List.mem_append_right _ (List.mem_append_right _ (List.mem_append_right _ (List.mem_append_left _ (List.mem_of_getElem? (i := 78) rfl))))
set_option maxRecDepth 100000 in
theorem mw_588 : Cond.methodLink RX6 219 yX2_wantOf ∈ lw_tbl := List.mem_append_right _ (List.mem_append_right _ (List.mem_append_right _ (List.mem_append_left _ (List.mem_of_getElem? (i := 77) rfl))))
set_option maxRecDepth 100000 in
theorem mw_589 : Cond.code yX2_leastBestWant cX2_leastBestWant 4 (some .int) ∈ lw_tbl := List.mem_append_right _ (List.mem_append_right _ (List.mem_append_right _ (List.mem_append_left _ (List.mem_of_getElem? (i := 76) rfl))))
set_option maxRecDepth 100000 in
theorem mw_590 : Cond.selects RX2 yX2_leastBestWant yX2_leastBestWant ∈ lw_tbl := List.mem_append_left _ (List.mem_map.mpr ⟨(⟨"EmptyBoxes$Matching", "leastBestWant", "(II)I"⟩, 7), List.mem_append_right _ (List.mem_append_right _ (List.mem_append_left _ (List.mem_of_getElem? (i := 2) rfl))), rfl⟩)
set_option maxRecDepth 100000 in
theorem mw_591 : Cond.instanceMethod yX2_leastBestWant ∈ lw_tbl := List.mem_append_right _ (List.mem_append_right _ (List.mem_append_right _ (List.mem_append_left _ (List.mem_of_getElem? (i := 75) rfl))))
set_option maxRecDepth 100000 in
theorem mw_592 : Cond.methodLink RX2 50 yX2_leastBestWant ∈ lw_tbl := List.mem_append_right _ (List.mem_append_right _ (List.mem_append_right _ (List.mem_append_left _ (List.mem_of_getElem? (i := 73) rfl))))
set_option maxRecDepth 100000 in
theorem mw_593 : Cond.code yX2_scoreWith cX2_scoreWith 4 (some .int) ∈ lw_tbl := List.mem_append_right _ (List.mem_append_right _ (List.mem_append_right _ (List.mem_append_left _ (List.mem_of_getElem? (i := 72) rfl))))
set_option maxRecDepth 100000 in
theorem hmwsX6_match_r5 : ∀ w ∈ wsX6_match_r5, w ∈ lw_tbl := List.forall_mem_cons.mpr ⟨mw_593, List.forall_mem_cons.mpr ⟨mw_592, List.forall_mem_cons.mpr ⟨mw_591, List.forall_mem_cons.mpr ⟨mw_590, List.forall_mem_cons.mpr ⟨mw_589, List.forall_mem_cons.mpr ⟨mw_588, List.forall_mem_cons.mpr ⟨mw_587, List.forall_mem_cons.mpr ⟨mw_586, List.forall_mem_cons.mpr ⟨mw_585, List.forall_mem_nil _⟩⟩⟩⟩⟩⟩⟩⟩⟩
set_option maxRecDepth 100000 in
theorem hmwsX6_match : ∀ w ∈ wsX6_match, w ∈ lw_tbl := List.forall_mem_cons.mpr ⟨mw_542, List.forall_mem_append.mpr ⟨List.forall_mem_append.mpr ⟨List.forall_mem_append.mpr ⟨List.forall_mem_append.mpr ⟨List.forall_mem_append.mpr ⟨hmwsX6_match_r1, List.forall_mem_append.mpr ⟨hmwsX6_match_r2, List.forall_mem_append.mpr ⟨hmwsX6_match_r3, List.forall_mem_append.mpr ⟨hmwsX6_match_r4, hmwsX6_match_r5⟩⟩⟩⟩, inX6⟩, inX0⟩, inX2⟩, inX4⟩⟩
set_option maxRecDepth 100000 in
theorem mw_594 : Cond.methodLink RL 92 yX6_match ∈ lw_tbl := List.mem_append_right _ (List.mem_append_right _ (List.mem_append_right _ (List.mem_append_left _ (List.mem_of_getElem? (i := 31) rfl))))
set_option maxRecDepth 100000 in
theorem mw_595 : Cond.instanceMethod yX6_match ∈ lw_tbl := List.mem_append_right _ (List.mem_append_right _ (List.mem_append_right _ (List.mem_append_left _ (List.mem_of_getElem? (i := 32) rfl))))
set_option maxRecDepth 100000 in
theorem mw_596 : Cond.selects RX6 yX6_match yX6_match ∈ lw_tbl := List.mem_append_right _ (List.mem_append_right _ (List.mem_append_right _ (List.mem_append_left _ (List.mem_of_getElem? (i := 33) rfl))))
set_option maxRecDepth 100000 in
theorem glX6_match : GoodIn lw_tbl (wsV RL 92 RX6 yX6_match wsX6_match) := goodIn_sub (List.forall_mem_append.mpr ⟨List.forall_mem_cons.mpr ⟨mw_594, List.forall_mem_cons.mpr ⟨mw_595, List.forall_mem_cons.mpr ⟨mw_596, List.forall_mem_cons.mpr ⟨mw_91, List.forall_mem_nil _⟩⟩⟩⟩, hmwsX6_match⟩) (by decide +kernel)
set_option maxRecDepth 100000 in
theorem ckL_X6_match : CkV lw_tbl RL 92 yX6_match wsX6_match cX6_match 3 (some .int) 1 6 := ⟨RX6, TX6, 8, _, rfl, glX6_match, rfl, hdX6_match⟩
set_option maxRecDepth 100000 in
theorem mw_597 : Cond.code yX7_match cX7_match 8 (some .int) ∈ lw_tbl := List.mem_append_right _ (List.mem_append_right _ (List.mem_append_right _ (List.mem_append_right _ (List.mem_append_right _ (List.mem_of_getElem? (i := 71) rfl)))))
set_option maxRecDepth 100000 in
theorem mw_598 : Cond.code yX7_goesWith cX7_goesWith 4 (some .int) ∈ lw_tbl := List.mem_append_right _ (List.mem_append_right _ (List.mem_append_right _ (List.mem_append_right _ (List.mem_append_right _ (List.mem_of_getElem? (i := 79) rfl)))))
set_option maxRecDepth 100000 in
theorem mw_599 : Cond.selects RX7 yX7_goesWith yX7_goesWith ∈ lw_tbl := List.mem_append_left _ (List.mem_map.mpr ⟨(⟨"EmptyBoxesModel", "goesWith", "(III)I"⟩, 28), List.mem_append_right _ (List.mem_append_right _ (List.mem_append_right _ (List.mem_append_left _ (List.mem_of_getElem? (i := 13) rfl)))), rfl⟩)
set_option maxRecDepth 100000 in
theorem mw_600 : Cond.instanceMethod yX7_goesWith ∈ lw_tbl := List.mem_append_right _ (List.mem_append_right _ (List.mem_append_right _ (List.mem_append_right _ (List.mem_append_right _ (List.mem_of_getElem? (i := 78) rfl)))))
set_option maxRecDepth 100000 in
theorem mw_601 : Cond.methodLink RX7 136 yX7_goesWith ∈ lw_tbl := List.mem_append_right _ (List.mem_append_right _ (List.mem_append_right _ (List.mem_append_right _ (List.mem_append_right _ (List.mem_of_getElem? (i := 76) rfl)))))
set_option maxRecDepth 100000 in
theorem mw_602 : Cond.code yX7_weigh cX7_weigh 7 none ∈ lw_tbl := List.mem_append_right _ (List.mem_append_right _ (List.mem_append_right _ (List.mem_append_right _ (List.mem_append_right _ (List.mem_of_getElem? (i := 75) rfl)))))
set_option maxRecDepth 100000 in
theorem mw_603 : Cond.selects RX7 yX7_weigh yX7_weigh ∈ lw_tbl := List.mem_append_left _ (List.mem_map.mpr ⟨(⟨"EmptyBoxesModel", "weigh", "()V"⟩, 28), List.mem_append_right _ (List.mem_append_right _ (List.mem_append_right _ (List.mem_append_left _ (List.mem_of_getElem? (i := 12) rfl)))), rfl⟩)
set_option maxRecDepth 100000 in
theorem mw_604 : Cond.instanceMethod yX7_weigh ∈ lw_tbl := List.mem_append_right _ (List.mem_append_right _ (List.mem_append_right _ (List.mem_append_right _ (List.mem_append_right _ (List.mem_of_getElem? (i := 74) rfl)))))
set_option maxRecDepth 100000 in
theorem mw_605 : Cond.methodLink RX7 142 yX7_weigh ∈ lw_tbl := List.mem_append_right _ (List.mem_append_right _ (List.mem_append_right _ (List.mem_append_right _ (List.mem_append_right _ (List.mem_of_getElem? (i := 72) rfl)))))
set_option maxRecDepth 100000 in
theorem hmwsX7_match_r1 : ∀ w ∈ wsX7_match_r1, w ∈ lw_tbl := List.forall_mem_cons.mpr ⟨mw_110, List.forall_mem_cons.mpr ⟨mw_95, List.forall_mem_cons.mpr ⟨mw_126, List.forall_mem_cons.mpr ⟨mw_125, List.forall_mem_cons.mpr ⟨mw_114, List.forall_mem_cons.mpr ⟨mw_124, List.forall_mem_cons.mpr ⟨mw_605, List.forall_mem_cons.mpr ⟨mw_604, List.forall_mem_cons.mpr ⟨mw_603, List.forall_mem_cons.mpr ⟨mw_602, List.forall_mem_cons.mpr ⟨mw_601, List.forall_mem_cons.mpr ⟨mw_600, List.forall_mem_cons.mpr ⟨mw_599, List.forall_mem_cons.mpr ⟨mw_598, List.forall_mem_cons.mpr ⟨mw_538, List.forall_mem_cons.mpr ⟨mw_537, List.forall_mem_cons.mpr ⟨mw_536, List.forall_mem_cons.mpr ⟨mw_535, List.forall_mem_cons.mpr ⟨mw_105, List.forall_mem_cons.mpr ⟨mw_104, List.forall_mem_cons.mpr ⟨mw_534, List.forall_mem_cons.mpr ⟨mw_533, List.forall_mem_cons.mpr ⟨mw_532, List.forall_mem_cons.mpr ⟨mw_531, List.forall_mem_nil _⟩⟩⟩⟩⟩⟩⟩⟩⟩⟩⟩⟩⟩⟩⟩⟩⟩⟩⟩⟩⟩⟩⟩⟩
set_option maxRecDepth 100000 in
theorem mw_606 : Cond.code yX7_gapOf cX7_gapOf 4 (some .int) ∈ lw_tbl := List.mem_append_right _ (List.mem_append_right _ (List.mem_append_right _ (List.mem_append_right _ (List.mem_append_right _ (List.mem_of_getElem? (i := 83) rfl)))))
set_option maxRecDepth 100000 in
theorem mw_607 : Cond.selects RX7 yX7_gapOf yX7_gapOf ∈ lw_tbl := List.mem_append_left _ (List.mem_map.mpr ⟨(⟨"EmptyBoxesModel", "gapOf", "(II)I"⟩, 28), List.mem_append_right _ (List.mem_append_right _ (List.mem_append_right _ (List.mem_append_left _ (List.mem_of_getElem? (i := 14) rfl)))), rfl⟩)
set_option maxRecDepth 100000 in
theorem mw_608 : Cond.instanceMethod yX7_gapOf ∈ lw_tbl := List.mem_append_right _ (List.mem_append_right _ (List.mem_append_right _ (List.mem_append_right _ (List.mem_append_right _ (List.mem_of_getElem? (i := 82) rfl)))))
set_option maxRecDepth 100000 in
theorem mw_609 : Cond.methodLink RX7 139 yX7_gapOf ∈ lw_tbl := List.mem_append_right _ (List.mem_append_right _ (List.mem_append_right _ (List.mem_append_right _ (List.mem_append_right _ (List.mem_of_getElem? (i := 80) rfl)))))
set_option maxRecDepth 100000 in
theorem hmwsX7_match_r2 : ∀ w ∈ wsX7_match_r2, w ∈ lw_tbl := List.forall_mem_cons.mpr ⟨mw_106, List.forall_mem_cons.mpr ⟨mw_609, List.forall_mem_cons.mpr ⟨mw_608, List.forall_mem_cons.mpr ⟨mw_607, List.forall_mem_cons.mpr ⟨mw_606, List.forall_mem_nil _⟩⟩⟩⟩⟩
set_option maxRecDepth 100000 in
theorem hmwsX7_match : ∀ w ∈ wsX7_match, w ∈ lw_tbl := List.forall_mem_cons.mpr ⟨mw_597, List.forall_mem_append.mpr ⟨List.forall_mem_append.mpr ⟨hmwsX7_match_r1, hmwsX7_match_r2⟩, inX7⟩⟩
set_option maxRecDepth 100000 in
theorem mw_610 : Cond.methodLink RL 95 yX7_match ∈ lw_tbl := List.mem_append_right _ (List.mem_append_right _ (List.mem_append_right _ (List.mem_append_right _ (List.mem_append_right _ (List.mem_of_getElem? (i := 68) rfl)))))
set_option maxRecDepth 100000 in
theorem mw_611 : Cond.instanceMethod yX7_match ∈ lw_tbl := List.mem_append_right _ (List.mem_append_right _ (List.mem_append_right _ (List.mem_append_right _ (List.mem_append_right _ (List.mem_of_getElem? (i := 69) rfl)))))
set_option maxRecDepth 100000 in
theorem mw_612 : Cond.selects RX7 yX7_match yX7_match ∈ lw_tbl := List.mem_append_right _ (List.mem_append_right _ (List.mem_append_right _ (List.mem_append_right _ (List.mem_append_right _ (List.mem_of_getElem? (i := 70) rfl)))))
set_option maxRecDepth 100000 in
theorem glX7_match : GoodIn lw_tbl (wsV RL 95 RX7 yX7_match wsX7_match) := goodIn_sub (List.forall_mem_append.mpr ⟨List.forall_mem_cons.mpr ⟨mw_610, List.forall_mem_cons.mpr ⟨mw_611, List.forall_mem_cons.mpr ⟨mw_612, List.forall_mem_cons.mpr ⟨mw_114, List.forall_mem_nil _⟩⟩⟩⟩, hmwsX7_match⟩) (by decide +kernel)
set_option maxRecDepth 100000 in
theorem ckL_X7_match : CkV lw_tbl RL 95 yX7_match wsX7_match cX7_match 8 (some .int) 1 7 := ⟨RX7, TX7, 28, _, rfl, glX7_match, rfl, hdX7_match⟩
set_option maxRecDepth 100000 in
theorem mw_613 : Cond.code yX6_clear cX6_clear 2 (some .int) ∈ lw_tbl := List.mem_append_right _ (List.mem_append_right _ (List.mem_append_right _ (List.mem_append_left _ (List.mem_of_getElem? (i := 84) rfl))))
set_option maxRecDepth 100000 in
theorem mw_614 : Cond.code yX4_empty cX4_empty 1 none ∈ lw_tbl := List.mem_append_right _ (List.mem_append_right _ (List.mem_append_right _ (List.mem_append_left _ (List.mem_of_getElem? (i := 88) rfl))))
set_option maxRecDepth 100000 in
theorem mw_615 : Cond.selects RX4 yX4_empty yX4_empty ∈ lw_tbl := List.mem_append_right _ (List.mem_append_right _ (List.mem_append_right _ (List.mem_append_left _ (List.mem_of_getElem? (i := 87) rfl))))
set_option maxRecDepth 100000 in
theorem mw_616 : Cond.instanceMethod yX4_empty ∈ lw_tbl := List.mem_append_right _ (List.mem_append_right _ (List.mem_append_right _ (List.mem_append_left _ (List.mem_of_getElem? (i := 86) rfl))))
set_option maxRecDepth 100000 in
theorem mw_617 : Cond.methodLink RX6 222 yX4_empty ∈ lw_tbl := List.mem_append_right _ (List.mem_append_right _ (List.mem_append_right _ (List.mem_append_left _ (List.mem_of_getElem? (i := 85) rfl))))
set_option maxRecDepth 100000 in
theorem hmwsX6_clear : ∀ w ∈ wsX6_clear, w ∈ lw_tbl := List.forall_mem_cons.mpr ⟨mw_613, List.forall_mem_append.mpr ⟨List.forall_mem_append.mpr ⟨List.forall_mem_append.mpr ⟨List.forall_mem_cons.mpr ⟨mw_18, List.forall_mem_cons.mpr ⟨mw_492, List.forall_mem_cons.mpr ⟨mw_493, List.forall_mem_cons.mpr ⟨mw_131, List.forall_mem_cons.mpr ⟨mw_168, List.forall_mem_cons.mpr ⟨mw_167, List.forall_mem_cons.mpr ⟨mw_40, List.forall_mem_cons.mpr ⟨mw_166, List.forall_mem_cons.mpr ⟨mw_62, List.forall_mem_cons.mpr ⟨mw_617, List.forall_mem_cons.mpr ⟨mw_616, List.forall_mem_cons.mpr ⟨mw_615, List.forall_mem_cons.mpr ⟨mw_614, List.forall_mem_nil _⟩⟩⟩⟩⟩⟩⟩⟩⟩⟩⟩⟩⟩, inX6⟩, inX0⟩, inX4⟩⟩
set_option maxRecDepth 100000 in
theorem mw_618 : Cond.methodLink RL 96 yX6_clear ∈ lw_tbl := List.mem_append_right _ (List.mem_append_right _ (List.mem_append_right _ (List.mem_append_left _ (List.mem_of_getElem? (i := 81) rfl))))
set_option maxRecDepth 100000 in
theorem mw_619 : Cond.instanceMethod yX6_clear ∈ lw_tbl := List.mem_append_right _ (List.mem_append_right _ (List.mem_append_right _ (List.mem_append_left _ (List.mem_of_getElem? (i := 82) rfl))))
set_option maxRecDepth 100000 in
theorem mw_620 : Cond.selects RX6 yX6_clear yX6_clear ∈ lw_tbl := List.mem_append_right _ (List.mem_append_right _ (List.mem_append_right _ (List.mem_append_left _ (List.mem_of_getElem? (i := 83) rfl))))
set_option maxRecDepth 100000 in
theorem glX6_clear : GoodIn lw_tbl (wsV RL 96 RX6 yX6_clear wsX6_clear) := goodIn_sub (List.forall_mem_append.mpr ⟨List.forall_mem_cons.mpr ⟨mw_618, List.forall_mem_cons.mpr ⟨mw_619, List.forall_mem_cons.mpr ⟨mw_620, List.forall_mem_cons.mpr ⟨mw_91, List.forall_mem_nil _⟩⟩⟩⟩, hmwsX6_clear⟩) (by decide +kernel)
set_option maxRecDepth 100000 in
theorem ckL_X6_clear : CkV lw_tbl RL 96 yX6_clear wsX6_clear cX6_clear 2 (some .int) 0 6 := ⟨RX6, TX6, 8, _, rfl, glX6_clear, rfl, hdX6_clear⟩
set_option maxRecDepth 100000 in
theorem mw_621 : Cond.code yX7_clear cX7_clear 2 (some .int) ∈ lw_tbl := List.mem_append_right _ (List.mem_append_right _ (List.mem_append_right _ (List.mem_append_right _ (List.mem_append_right _ (List.mem_of_getElem? (i := 87) rfl)))))
set_option maxRecDepth 100000 in
theorem hmwsX7_clear : ∀ w ∈ wsX7_clear, w ∈ lw_tbl := List.forall_mem_cons.mpr ⟨mw_621, List.forall_mem_append.mpr ⟨List.forall_mem_cons.mpr ⟨mw_110, List.forall_mem_nil _⟩, inX7⟩⟩
set_option maxRecDepth 100000 in
theorem mw_622 : Cond.methodLink RL 99 yX7_clear ∈ lw_tbl := List.mem_append_right _ (List.mem_append_right _ (List.mem_append_right _ (List.mem_append_right _ (List.mem_append_right _ (List.mem_of_getElem? (i := 84) rfl)))))
set_option maxRecDepth 100000 in
theorem mw_623 : Cond.instanceMethod yX7_clear ∈ lw_tbl := List.mem_append_right _ (List.mem_append_right _ (List.mem_append_right _ (List.mem_append_right _ (List.mem_append_right _ (List.mem_of_getElem? (i := 85) rfl)))))
set_option maxRecDepth 100000 in
theorem mw_624 : Cond.selects RX7 yX7_clear yX7_clear ∈ lw_tbl := List.mem_append_right _ (List.mem_append_right _ (List.mem_append_right _ (List.mem_append_right _ (List.mem_append_right _ (List.mem_of_getElem? (i := 86) rfl)))))
set_option maxRecDepth 100000 in
theorem glX7_clear : GoodIn lw_tbl (wsV RL 99 RX7 yX7_clear wsX7_clear) := goodIn_sub (List.forall_mem_append.mpr ⟨List.forall_mem_cons.mpr ⟨mw_622, List.forall_mem_cons.mpr ⟨mw_623, List.forall_mem_cons.mpr ⟨mw_624, List.forall_mem_cons.mpr ⟨mw_114, List.forall_mem_nil _⟩⟩⟩⟩, hmwsX7_clear⟩) (by decide +kernel)
set_option maxRecDepth 100000 in
theorem ckL_X7_clear : CkV lw_tbl RL 99 yX7_clear wsX7_clear cX7_clear 2 (some .int) 0 7 := ⟨RX7, TX7, 28, _, rfl, glX7_clear, rfl, hdX7_clear⟩
set_option maxRecDepth 100000 in
theorem mw_625 : Cond.code yX6_feed cX6_feed 5 (some .int) ∈ lw_tbl := List.mem_append_right _ (List.mem_append_right _ (List.mem_append_right _ (List.mem_append_left _ (List.mem_of_getElem? (i := 92) rfl))))
set_option maxRecDepth 100000 in
theorem mw_626 : Cond.code yX5_takeByte cX5_takeByte 2 none ∈ lw_tbl := List.mem_append_right _ (List.mem_append_right _ (List.mem_append_right _ (List.mem_append_left _ (List.mem_of_getElem? (i := 100) rfl))))
set_option maxRecDepth 100000 in
theorem mw_627 : Cond.selects RX5 yX5_takeByte yX5_takeByte ∈ lw_tbl := List.mem_append_right _ (List.mem_append_right _ (List.mem_append_right _ (List.mem_append_left _ (List.mem_of_getElem? (i := 99) rfl))))
set_option maxRecDepth 100000 in
theorem mw_628 : Cond.instanceMethod yX5_takeByte ∈ lw_tbl := List.mem_append_right _ (List.mem_append_right _ (List.mem_append_right _ (List.mem_append_left _ (List.mem_of_getElem? (i := 98) rfl))))
set_option maxRecDepth 100000 in
theorem mw_629 : Cond.methodLink RX6 249 yX5_takeByte ∈ lw_tbl := List.mem_append_right _ (List.mem_append_right _ (List.mem_append_right _ (List.mem_append_left _ (List.mem_of_getElem? (i := 97) rfl))))
set_option maxRecDepth 100000 in
theorem mw_630 : Cond.fieldLink RX5 15 "EmptyBoxes$Tape" "many" "I" ∈ lw_tbl := List.mem_append_right _ (List.mem_append_left _ (List.mem_of_getElem? (i := 119) rfl))
set_option maxRecDepth 100000 in
theorem mw_631 : Cond.code yX5_size cX5_size 1 (some .int) ∈ lw_tbl := List.mem_append_right _ (List.mem_append_right _ (List.mem_append_right _ (List.mem_append_left _ (List.mem_of_getElem? (i := 96) rfl))))
set_option maxRecDepth 100000 in
theorem mw_632 : Cond.selects RX5 yX5_size yX5_size ∈ lw_tbl := List.mem_append_right _ (List.mem_append_right _ (List.mem_append_right _ (List.mem_append_left _ (List.mem_of_getElem? (i := 95) rfl))))
set_option maxRecDepth 100000 in
theorem mw_633 : Cond.instanceMethod yX5_size ∈ lw_tbl := List.mem_append_right _ (List.mem_append_right _ (List.mem_append_right _ (List.mem_append_left _ (List.mem_of_getElem? (i := 94) rfl))))
set_option maxRecDepth 100000 in
theorem mw_634 : Cond.methodLink RX6 248 yX5_size ∈ lw_tbl := List.mem_append_right _ (List.mem_append_right _ (List.mem_append_right _ (List.mem_append_left _ (List.mem_of_getElem? (i := 93) rfl))))
set_option maxRecDepth 100000 in
theorem hmwsX6_feed : ∀ w ∈ wsX6_feed, w ∈ lw_tbl := List.forall_mem_cons.mpr ⟨mw_625, List.forall_mem_append.mpr ⟨List.forall_mem_append.mpr ⟨List.forall_mem_cons.mpr ⟨mw_13, List.forall_mem_cons.mpr ⟨mw_118, List.forall_mem_cons.mpr ⟨mw_117, List.forall_mem_cons.mpr ⟨mw_91, List.forall_mem_cons.mpr ⟨mw_116, List.forall_mem_cons.mpr ⟨mw_634, List.forall_mem_cons.mpr ⟨mw_633, List.forall_mem_cons.mpr ⟨mw_632, List.forall_mem_cons.mpr ⟨mw_14, List.forall_mem_cons.mpr ⟨mw_631, List.forall_mem_cons.mpr ⟨mw_630, List.forall_mem_cons.mpr ⟨mw_629, List.forall_mem_cons.mpr ⟨mw_628, List.forall_mem_cons.mpr ⟨mw_627, List.forall_mem_cons.mpr ⟨mw_626, List.forall_mem_cons.mpr ⟨mw_54, List.forall_mem_nil _⟩⟩⟩⟩⟩⟩⟩⟩⟩⟩⟩⟩⟩⟩⟩⟩, inX6⟩, inX5⟩⟩
set_option maxRecDepth 100000 in
theorem mw_635 : Cond.methodLink RL 102 yX6_feed ∈ lw_tbl := List.mem_append_right _ (List.mem_append_right _ (List.mem_append_right _ (List.mem_append_left _ (List.mem_of_getElem? (i := 89) rfl))))
set_option maxRecDepth 100000 in
theorem mw_636 : Cond.instanceMethod yX6_feed ∈ lw_tbl := List.mem_append_right _ (List.mem_append_right _ (List.mem_append_right _ (List.mem_append_left _ (List.mem_of_getElem? (i := 90) rfl))))
set_option maxRecDepth 100000 in
theorem mw_637 : Cond.selects RX6 yX6_feed yX6_feed ∈ lw_tbl := List.mem_append_right _ (List.mem_append_right _ (List.mem_append_right _ (List.mem_append_left _ (List.mem_of_getElem? (i := 91) rfl))))
set_option maxRecDepth 100000 in
theorem glX6_feed : GoodIn lw_tbl (wsV RL 102 RX6 yX6_feed wsX6_feed) := goodIn_sub (List.forall_mem_append.mpr ⟨List.forall_mem_cons.mpr ⟨mw_635, List.forall_mem_cons.mpr ⟨mw_636, List.forall_mem_cons.mpr ⟨mw_637, List.forall_mem_cons.mpr ⟨mw_91, List.forall_mem_nil _⟩⟩⟩⟩, hmwsX6_feed⟩) (by decide +kernel)
set_option maxRecDepth 100000 in
theorem ckL_X6_feed : CkV lw_tbl RL 102 yX6_feed wsX6_feed cX6_feed 5 (some .int) 2 6 := ⟨RX6, TX6, 8, _, rfl, glX6_feed, rfl, hdX6_feed⟩
set_option maxRecDepth 100000 in
theorem mw_638 : Cond.code yX7_feed cX7_feed 5 (some .int) ∈ lw_tbl := List.mem_append_right _ (List.mem_append_right _ (List.mem_append_right _ (List.mem_append_right _ (List.mem_append_right _ (List.mem_of_getElem? (i := 91) rfl)))))
set_option maxRecDepth 100000 in
theorem mw_639 : Cond.constantLong RX7 148 (255) ∈ lw_tbl := List.mem_append_right _ (List.mem_append_right _ (List.mem_append_right _ (List.mem_append_right _ (List.mem_append_right _ (List.mem_of_getElem? (i := 92) rfl)))))
set_option maxRecDepth 100000 in
theorem mw_640 : Cond.fieldLink RX7 145 "EmptyBoxesModel" "tapeMany" "I" ∈ lw_tbl := List.mem_append_right _ (List.mem_append_right _ (List.mem_append_right _ (List.mem_append_right _ (List.mem_append_left _ (List.mem_of_getElem? (i := 96) rfl)))))
set_option maxRecDepth 100000 in
theorem hmwsX7_feed : ∀ w ∈ wsX7_feed, w ∈ lw_tbl := List.forall_mem_cons.mpr ⟨mw_638, List.forall_mem_append.mpr ⟨List.forall_mem_cons.mpr ⟨mw_640, List.forall_mem_cons.mpr ⟨mw_94, List.forall_mem_cons.mpr ⟨mw_639, List.forall_mem_cons.mpr ⟨mw_126, List.forall_mem_cons.mpr ⟨mw_125, List.forall_mem_cons.mpr ⟨mw_114, List.forall_mem_cons.mpr ⟨mw_124, List.forall_mem_nil _⟩⟩⟩⟩⟩⟩⟩, inX7⟩⟩
set_option maxRecDepth 100000 in
theorem mw_641 : Cond.methodLink RL 106 yX7_feed ∈ lw_tbl := List.mem_append_right _ (List.mem_append_right _ (List.mem_append_right _ (List.mem_append_right _ (List.mem_append_right _ (List.mem_of_getElem? (i := 88) rfl)))))
set_option maxRecDepth 100000 in
theorem mw_642 : Cond.instanceMethod yX7_feed ∈ lw_tbl := List.mem_append_right _ (List.mem_append_right _ (List.mem_append_right _ (List.mem_append_right _ (List.mem_append_right _ (List.mem_of_getElem? (i := 89) rfl)))))
set_option maxRecDepth 100000 in
theorem mw_643 : Cond.selects RX7 yX7_feed yX7_feed ∈ lw_tbl := List.mem_append_right _ (List.mem_append_right _ (List.mem_append_right _ (List.mem_append_right _ (List.mem_append_right _ (List.mem_of_getElem? (i := 90) rfl)))))
set_option maxRecDepth 100000 in
theorem glX7_feed : GoodIn lw_tbl (wsV RL 106 RX7 yX7_feed wsX7_feed) := goodIn_sub (List.forall_mem_append.mpr ⟨List.forall_mem_cons.mpr ⟨mw_641, List.forall_mem_cons.mpr ⟨mw_642, List.forall_mem_cons.mpr ⟨mw_643, List.forall_mem_cons.mpr ⟨mw_114, List.forall_mem_nil _⟩⟩⟩⟩, hmwsX7_feed⟩) (by decide +kernel)
set_option maxRecDepth 100000 in
theorem ckL_X7_feed : CkV lw_tbl RL 106 yX7_feed wsX7_feed cX7_feed 5 (some .int) 2 7 := ⟨RX7, TX7, 28, _, rfl, glX7_feed, rfl, hdX7_feed⟩
set_option maxRecDepth 100000 in
theorem mw_644 : Cond.code yX6_read cX6_read 4 (some .int) ∈ lw_tbl := List.mem_append_right _ (List.mem_append_right _ (List.mem_append_right _ (List.mem_append_left _ (List.mem_of_getElem? (i := 104) rfl))))
set_option maxRecDepth 100000 in
theorem mw_645 : Cond.code yX1_parse cX1_parse 3 (some .boolean) ∈ lw_tbl := List.mem_append_right _ (List.mem_append_right _ (List.mem_append_right _ (List.mem_append_left _ (List.mem_of_getElem? (i := 112) rfl))))
set_option maxRecDepth 100000 in
theorem mw_646 : Cond.selects RX1 yX1_parse yX1_parse ∈ lw_tbl := List.mem_append_right _ (List.mem_append_right _ (List.mem_append_right _ (List.mem_append_left _ (List.mem_of_getElem? (i := 111) rfl))))
set_option maxRecDepth 100000 in
theorem mw_647 : Cond.instanceMethod yX1_parse ∈ lw_tbl := List.mem_append_right _ (List.mem_append_right _ (List.mem_append_right _ (List.mem_append_left _ (List.mem_of_getElem? (i := 110) rfl))))
set_option maxRecDepth 100000 in
theorem mw_648 : Cond.methodLink RX6 254 yX1_parse ∈ lw_tbl := List.mem_append_right _ (List.mem_append_right _ (List.mem_append_right _ (List.mem_append_left _ (List.mem_of_getElem? (i := 109) rfl))))
set_option maxRecDepth 100000 in
theorem mw_649 : Cond.code yX5_empty cX5_empty 1 none ∈ lw_tbl := List.mem_append_right _ (List.mem_append_right _ (List.mem_append_right _ (List.mem_append_left _ (List.mem_of_getElem? (i := 108) rfl))))
set_option maxRecDepth 100000 in
theorem mw_650 : Cond.selects RX5 yX5_empty yX5_empty ∈ lw_tbl := List.mem_append_right _ (List.mem_append_right _ (List.mem_append_right _ (List.mem_append_left _ (List.mem_of_getElem? (i := 107) rfl))))
set_option maxRecDepth 100000 in
theorem mw_651 : Cond.instanceMethod yX5_empty ∈ lw_tbl := List.mem_append_right _ (List.mem_append_right _ (List.mem_append_right _ (List.mem_append_left _ (List.mem_of_getElem? (i := 106) rfl))))
set_option maxRecDepth 100000 in
theorem mw_652 : Cond.methodLink RX6 253 yX5_empty ∈ lw_tbl := List.mem_append_right _ (List.mem_append_right _ (List.mem_append_right _ (List.mem_append_left _ (List.mem_of_getElem? (i := 105) rfl))))
set_option maxRecDepth 100000 in
theorem mw_653 : Cond.fieldLink RX6 267 "EmptyBoxes$LeaseText" "clauses" "I" ∈ lw_tbl := List.mem_append_right _ (List.mem_append_left _ (List.mem_of_getElem? (i := 139) rfl))
set_option maxRecDepth 100000 in
theorem mw_654 : Cond.fieldLink RX6 258 "EmptyBoxes$LeaseText" "fault" "I" ∈ lw_tbl := List.mem_append_right _ (List.mem_append_left _ (List.mem_of_getElem? (i := 141) rfl))
set_option maxRecDepth 100000 in
theorem hmwsX6_read_r1 : ∀ w ∈ wsX6_read_r1, w ∈ lw_tbl := List.forall_mem_cons.mpr ⟨mw_13, List.forall_mem_cons.mpr ⟨mw_9, List.forall_mem_cons.mpr ⟨mw_654, List.forall_mem_cons.mpr ⟨mw_18, List.forall_mem_cons.mpr ⟨mw_153, List.forall_mem_cons.mpr ⟨mw_653, List.forall_mem_cons.mpr ⟨mw_138, List.forall_mem_cons.mpr ⟨mw_137, List.forall_mem_cons.mpr ⟨mw_91, List.forall_mem_cons.mpr ⟨mw_136, List.forall_mem_cons.mpr ⟨mw_118, List.forall_mem_cons.mpr ⟨mw_117, List.forall_mem_cons.mpr ⟨mw_116, List.forall_mem_cons.mpr ⟨mw_652, List.forall_mem_cons.mpr ⟨mw_651, List.forall_mem_cons.mpr ⟨mw_650, List.forall_mem_cons.mpr ⟨mw_14, List.forall_mem_cons.mpr ⟨mw_649, List.forall_mem_cons.mpr ⟨mw_630, List.forall_mem_cons.mpr ⟨mw_648, List.forall_mem_cons.mpr ⟨mw_647, List.forall_mem_cons.mpr ⟨mw_646, List.forall_mem_cons.mpr ⟨mw_10, List.forall_mem_cons.mpr ⟨mw_645, List.forall_mem_nil _⟩⟩⟩⟩⟩⟩⟩⟩⟩⟩⟩⟩⟩⟩⟩⟩⟩⟩⟩⟩⟩⟩⟩⟩
set_option maxRecDepth 100000 in
theorem mw_655 : Cond.code yX5_isAtEnd cX5_isAtEnd 1 (some .boolean) ∈ lw_tbl := List.mem_append_right _ (List.mem_append_right _ (List.mem_append_right _ (List.mem_append_left _ (List.mem_of_getElem? (i := 130) rfl))))
set_option maxRecDepth 100000 in
theorem mw_656 : Cond.selects RX5 yX5_isAtEnd yX5_isAtEnd ∈ lw_tbl := List.mem_append_right _ (List.mem_append_right _ (List.mem_append_right _ (List.mem_append_left _ (List.mem_of_getElem? (i := 129) rfl))))
set_option maxRecDepth 100000 in
theorem mw_657 : Cond.instanceMethod yX5_isAtEnd ∈ lw_tbl := List.mem_append_right _ (List.mem_append_right _ (List.mem_append_right _ (List.mem_append_left _ (List.mem_of_getElem? (i := 128) rfl))))
set_option maxRecDepth 100000 in
theorem mw_658 : Cond.methodLink RX5 32 yX5_isAtEnd ∈ lw_tbl := List.mem_append_right _ (List.mem_append_right _ (List.mem_append_right _ (List.mem_append_left _ (List.mem_of_getElem? (i := 127) rfl))))
set_option maxRecDepth 100000 in
theorem mw_659 : Cond.code yX5_isDigit cX5_isDigit 1 (some .boolean) ∈ lw_tbl := List.mem_append_right _ (List.mem_append_right _ (List.mem_append_right _ (List.mem_append_left _ (List.mem_of_getElem? (i := 126) rfl))))
set_option maxRecDepth 100000 in
theorem mw_660 : Cond.static yX5_isDigit ∈ lw_tbl := List.mem_append_right _ (List.mem_append_right _ (List.mem_append_right _ (List.mem_append_left _ (List.mem_of_getElem? (i := 125) rfl))))
set_option maxRecDepth 100000 in
theorem mw_661 : Cond.methodLink RX5 29 yX5_isDigit ∈ lw_tbl := List.mem_append_right _ (List.mem_append_right _ (List.mem_append_right _ (List.mem_append_left _ (List.mem_of_getElem? (i := 124) rfl))))
set_option maxRecDepth 100000 in
theorem mw_662 : Cond.code yX5_isLetter cX5_isLetter 1 (some .boolean) ∈ lw_tbl := List.mem_append_right _ (List.mem_append_right _ (List.mem_append_right _ (List.mem_append_left _ (List.mem_of_getElem? (i := 123) rfl))))
set_option maxRecDepth 100000 in
theorem mw_663 : Cond.static yX5_isLetter ∈ lw_tbl := List.mem_append_right _ (List.mem_append_right _ (List.mem_append_right _ (List.mem_append_left _ (List.mem_of_getElem? (i := 122) rfl))))
set_option maxRecDepth 100000 in
theorem mw_664 : Cond.methodLink RX5 25 yX5_isLetter ∈ lw_tbl := List.mem_append_right _ (List.mem_append_right _ (List.mem_append_right _ (List.mem_append_left _ (List.mem_of_getElem? (i := 121) rfl))))
set_option maxRecDepth 100000 in
theorem mw_665 : Cond.code yX5_advance cX5_advance 1 (some .boolean) ∈ lw_tbl := List.mem_append_right _ (List.mem_append_right _ (List.mem_append_right _ (List.mem_append_left _ (List.mem_of_getElem? (i := 120) rfl))))
set_option maxRecDepth 100000 in
theorem mw_666 : Cond.selects RX5 yX5_advance yX5_advance ∈ lw_tbl := List.mem_append_right _ (List.mem_append_right _ (List.mem_append_right _ (List.mem_append_left _ (List.mem_of_getElem? (i := 119) rfl))))
set_option maxRecDepth 100000 in
theorem mw_667 : Cond.instanceMethod yX5_advance ∈ lw_tbl := List.mem_append_right _ (List.mem_append_right _ (List.mem_append_right _ (List.mem_append_left _ (List.mem_of_getElem? (i := 118) rfl))))
set_option maxRecDepth 100000 in
theorem mw_668 : Cond.methodLink RX1 27 yX5_advance ∈ lw_tbl := List.mem_append_right _ (List.mem_append_right _ (List.mem_append_right _ (List.mem_append_left _ (List.mem_of_getElem? (i := 117) rfl))))
set_option maxRecDepth 100000 in
theorem mw_669 : Cond.fieldLink RX5 22 "EmptyBoxes$Tape" "behind" "I" ∈ lw_tbl := List.mem_append_right _ (List.mem_append_left _ (List.mem_of_getElem? (i := 121) rfl))
set_option maxRecDepth 100000 in
theorem mw_670 : Cond.fieldLink RX5 19 "EmptyBoxes$Tape" "first" "I" ∈ lw_tbl := List.mem_append_right _ (List.mem_append_left _ (List.mem_of_getElem? (i := 120) rfl))
set_option maxRecDepth 100000 in
theorem mw_671 : Cond.code yX5_rewind cX5_rewind 1 none ∈ lw_tbl := List.mem_append_right _ (List.mem_append_right _ (List.mem_append_right _ (List.mem_append_left _ (List.mem_of_getElem? (i := 116) rfl))))
set_option maxRecDepth 100000 in
theorem mw_672 : Cond.selects RX5 yX5_rewind yX5_rewind ∈ lw_tbl := List.mem_append_right _ (List.mem_append_right _ (List.mem_append_right _ (List.mem_append_left _ (List.mem_of_getElem? (i := 115) rfl))))
set_option maxRecDepth 100000 in
theorem mw_673 : Cond.instanceMethod yX5_rewind ∈ lw_tbl := List.mem_append_right _ (List.mem_append_right _ (List.mem_append_right _ (List.mem_append_left _ (List.mem_of_getElem? (i := 114) rfl))))
set_option maxRecDepth 100000 in
theorem mw_674 : Cond.methodLink RX1 22 yX5_rewind ∈ lw_tbl := List.mem_append_right _ (List.mem_append_right _ (List.mem_append_right _ (List.mem_append_left _ (List.mem_of_getElem? (i := 113) rfl))))
set_option maxRecDepth 100000 in
theorem mw_675 : Cond.fieldLink RX1 19 "EmptyBoxes$LeaseText" "fault" "I" ∈ lw_tbl := List.mem_append_right _ (List.mem_append_left _ (List.mem_of_getElem? (i := 140) rfl))
set_option maxRecDepth 100000 in
theorem mw_676 : Cond.fieldLink RX1 15 "EmptyBoxes$LeaseText" "clauses" "I" ∈ lw_tbl := List.mem_append_right _ (List.mem_append_left _ (List.mem_of_getElem? (i := 138) rfl))
set_option maxRecDepth 100000 in
theorem hmwsX6_read_r2 : ∀ w ∈ wsX6_read_r2, w ∈ lw_tbl := List.forall_mem_cons.mpr ⟨mw_50, List.forall_mem_cons.mpr ⟨mw_676, List.forall_mem_cons.mpr ⟨mw_675, List.forall_mem_cons.mpr ⟨mw_674, List.forall_mem_cons.mpr ⟨mw_673, List.forall_mem_cons.mpr ⟨mw_672, List.forall_mem_cons.mpr ⟨mw_671, List.forall_mem_cons.mpr ⟨mw_670, List.forall_mem_cons.mpr ⟨mw_669, List.forall_mem_cons.mpr ⟨mw_668, List.forall_mem_cons.mpr ⟨mw_667, List.forall_mem_cons.mpr ⟨mw_666, List.forall_mem_cons.mpr ⟨mw_665, List.forall_mem_cons.mpr ⟨mw_54, List.forall_mem_cons.mpr ⟨mw_664, List.forall_mem_cons.mpr ⟨mw_663, List.forall_mem_cons.mpr ⟨mw_662, List.forall_mem_cons.mpr ⟨mw_661, List.forall_mem_cons.mpr ⟨mw_660, List.forall_mem_cons.mpr ⟨mw_659, List.forall_mem_cons.mpr ⟨mw_658, List.forall_mem_cons.mpr ⟨mw_657, List.forall_mem_cons.mpr ⟨mw_656, List.forall_mem_cons.mpr ⟨mw_655, List.forall_mem_nil _⟩⟩⟩⟩⟩⟩⟩⟩⟩⟩⟩⟩⟩⟩⟩⟩⟩⟩⟩⟩⟩⟩⟩⟩
set_option maxRecDepth 100000 in
theorem mw_677 : Cond.methodLink RX5 42 yJ0_charAt_5068e ∈ lw_tbl := List.mem_append_right _ (List.mem_append_right _ (List.mem_append_right _ (List.mem_append_left _ (List.mem_of_getElem? (i := 153) rfl))))
set_option maxRecDepth 100000 in
theorem mw_678 : Cond.fieldLink RJ0 15 "java/lang/String" "coder" "B" ∈ lw_tbl := List.mem_append_right _ (List.mem_append_right _ (List.mem_append_right _ (List.mem_append_right _ (List.mem_append_right _ (List.mem_of_getElem? (i := 197) rfl)))))
set_option maxRecDepth 100000 in
theorem mw_679 : Cond.fieldLink RJ0 38 "java/lang/String" "COMPACT_STRINGS" "Z" ∈ lw_tbl := List.mem_append_right _ (List.mem_append_right _ (List.mem_append_right _ (List.mem_append_left _ (List.mem_of_getElem? (i := 151) rfl))))
set_option maxRecDepth 100000 in
theorem mw_680 : Cond.code yJ0_coder_7d493 cJ0_coder_7d493 1 (some .byte) ∈ lw_tbl := List.mem_append_right _ (List.mem_append_right _ (List.mem_append_right _ (List.mem_append_left _ (List.mem_of_getElem? (i := 150) rfl))))
set_option maxRecDepth 100000 in
theorem mw_681 : Cond.selects RJ0 yJ0_coder_7d493 yJ0_coder_7d493 ∈ lw_tbl := List.mem_append_right _ (List.mem_append_right _ (List.mem_append_right _ (List.mem_append_left _ (List.mem_of_getElem? (i := 149) rfl))))
set_option maxRecDepth 100000 in
theorem mw_682 : Cond.instanceMethod yJ0_coder_7d493 ∈ lw_tbl := List.mem_append_right _ (List.mem_append_right _ (List.mem_append_right _ (List.mem_append_left _ (List.mem_of_getElem? (i := 148) rfl))))
set_option maxRecDepth 100000 in
theorem mw_683 : Cond.methodLink RJ0 335 yJ0_coder_7d493 ∈ lw_tbl := List.mem_append_right _ (List.mem_append_right _ (List.mem_append_right _ (List.mem_append_left _ (List.mem_of_getElem? (i := 147) rfl))))
set_option maxRecDepth 100000 in
theorem mw_684 : Cond.fieldLink RJ0 9 "java/lang/String" "value" "[B" ∈ lw_tbl := List.mem_append_right _ (List.mem_append_right _ (List.mem_append_right _ (List.mem_append_right _ (List.mem_append_right _ (List.mem_of_getElem? (i := 196) rfl)))))
set_option maxRecDepth 100000 in
theorem mw_685 : Cond.code yJ0_length_8abf5 cJ0_length_8abf5 1 (some .int) ∈ lw_tbl := List.mem_append_right _ (List.mem_append_right _ (List.mem_append_right _ (List.mem_append_left _ (List.mem_of_getElem? (i := 146) rfl))))
set_option maxRecDepth 100000 in
theorem mw_686 : Cond.initialized RJ0 ∈ lw_tbl := List.mem_append_right _ (List.mem_append_left _ (List.mem_of_getElem? (i := 10) rfl))
set_option maxRecDepth 100000 in
theorem mw_687 : Cond.selects RJ0 yJ0_length_8abf5 yJ0_length_8abf5 ∈ lw_tbl := List.mem_append_right _ (List.mem_append_right _ (List.mem_append_right _ (List.mem_append_left _ (List.mem_of_getElem? (i := 145) rfl))))
set_option maxRecDepth 100000 in
theorem mw_688 : Cond.instanceMethod yJ0_length_8abf5 ∈ lw_tbl := List.mem_append_right _ (List.mem_append_right _ (List.mem_append_right _ (List.mem_append_left _ (List.mem_of_getElem? (i := 144) rfl))))
set_option maxRecDepth 100000 in
theorem mw_689 : Cond.methodLink RX5 36 yJ0_length_8abf5 ∈ lw_tbl := List.mem_append_right _ (List.mem_append_right _ (List.mem_append_right _ (List.mem_append_left _ (List.mem_of_getElem? (i := 143) rfl))))
set_option maxRecDepth 100000 in
theorem mw_690 : Cond.code yX5_says cX5_says 3 (some .boolean) ∈ lw_tbl := List.mem_append_right _ (List.mem_append_right _ (List.mem_append_right _ (List.mem_append_left _ (List.mem_of_getElem? (i := 142) rfl))))
set_option maxRecDepth 100000 in
theorem mw_691 : Cond.selects RX5 yX5_says yX5_says ∈ lw_tbl := List.mem_append_right _ (List.mem_append_right _ (List.mem_append_right _ (List.mem_append_left _ (List.mem_of_getElem? (i := 141) rfl))))
set_option maxRecDepth 100000 in
theorem mw_692 : Cond.instanceMethod yX5_says ∈ lw_tbl := List.mem_append_right _ (List.mem_append_right _ (List.mem_append_right _ (List.mem_append_left _ (List.mem_of_getElem? (i := 140) rfl))))
set_option maxRecDepth 100000 in
theorem mw_693 : Cond.methodLink RX1 52 yX5_says ∈ lw_tbl := List.mem_append_right _ (List.mem_append_right _ (List.mem_append_right _ (List.mem_append_left _ (List.mem_of_getElem? (i := 139) rfl))))
set_option maxRecDepth 100000 in
theorem mw_694 : Cond.code yX1_termSaid cX1_termSaid 1 (some .int) ∈ lw_tbl := List.mem_append_right _ (List.mem_append_right _ (List.mem_append_right _ (List.mem_append_left _ (List.mem_of_getElem? (i := 137) rfl))))
set_option maxRecDepth 100000 in
theorem mw_695 : Cond.static yX1_termSaid ∈ lw_tbl := List.mem_append_right _ (List.mem_append_right _ (List.mem_append_right _ (List.mem_append_left _ (List.mem_of_getElem? (i := 136) rfl))))
set_option maxRecDepth 100000 in
theorem mw_696 : Cond.methodLink RX1 39 yX1_termSaid ∈ lw_tbl := List.mem_append_right _ (List.mem_append_right _ (List.mem_append_right _ (List.mem_append_left _ (List.mem_of_getElem? (i := 135) rfl))))
set_option maxRecDepth 100000 in
theorem mw_697 : Cond.code yX1_parseClause cX1_parseClause 4 (some .boolean) ∈ lw_tbl := List.mem_append_right _ (List.mem_append_right _ (List.mem_append_right _ (List.mem_append_left _ (List.mem_of_getElem? (i := 134) rfl))))
set_option maxRecDepth 100000 in
theorem mw_698 : Cond.selects RX1 yX1_parseClause yX1_parseClause ∈ lw_tbl := List.mem_append_left _ (List.mem_map.mpr ⟨(⟨"EmptyBoxes$LeaseText", "parseClause", "(LEmptyBoxes$Tape;)Z"⟩, 3), List.mem_append_right _ (List.mem_append_right _ (List.mem_append_left _ (List.mem_of_getElem? (i := 3) rfl))), rfl⟩)
set_option maxRecDepth 100000 in
theorem mw_699 : Cond.instanceMethod yX1_parseClause ∈ lw_tbl := List.mem_append_right _ (List.mem_append_right _ (List.mem_append_right _ (List.mem_append_left _ (List.mem_of_getElem? (i := 133) rfl))))
set_option maxRecDepth 100000 in
theorem mw_700 : Cond.methodLink RX1 31 yX1_parseClause ∈ lw_tbl := List.mem_append_right _ (List.mem_append_right _ (List.mem_append_right _ (List.mem_append_left _ (List.mem_of_getElem? (i := 131) rfl))))
set_option maxRecDepth 100000 in
theorem hmwsX6_read_r3 : ∀ w ∈ wsX6_read_r3, w ∈ lw_tbl := List.forall_mem_cons.mpr ⟨mw_700, List.forall_mem_cons.mpr ⟨mw_699, List.forall_mem_cons.mpr ⟨mw_698, List.forall_mem_cons.mpr ⟨mw_697, List.forall_mem_cons.mpr ⟨mw_696, List.forall_mem_cons.mpr ⟨mw_695, List.forall_mem_cons.mpr ⟨mw_694, List.forall_mem_cons.mpr ⟨mw_693, List.forall_mem_cons.mpr ⟨mw_692, List.forall_mem_cons.mpr ⟨mw_691, List.forall_mem_cons.mpr ⟨mw_690, List.forall_mem_cons.mpr ⟨mw_689, List.forall_mem_cons.mpr ⟨mw_688, List.forall_mem_cons.mpr ⟨mw_687, List.forall_mem_cons.mpr ⟨mw_686, List.forall_mem_cons.mpr ⟨mw_685, List.forall_mem_cons.mpr ⟨mw_684, List.forall_mem_cons.mpr ⟨mw_683, List.forall_mem_cons.mpr ⟨mw_682, List.forall_mem_cons.mpr ⟨mw_681, List.forall_mem_cons.mpr ⟨mw_680, List.forall_mem_cons.mpr ⟨mw_679, List.forall_mem_cons.mpr ⟨mw_678, List.forall_mem_cons.mpr ⟨mw_677, List.forall_mem_nil _⟩⟩⟩⟩⟩⟩⟩⟩⟩⟩⟩⟩⟩⟩⟩⟩⟩⟩⟩⟩⟩⟩⟩⟩
set_option maxRecDepth 100000 in
theorem mw_701 : Cond.methodLink RJ2 67 yJ2_checkIndex_2214a ∈ lw_tbl := List.mem_append_right _ (List.mem_append_right _ (List.mem_append_right _ (List.mem_append_left _ (List.mem_of_getElem? (i := 175) rfl))))
set_option maxRecDepth 100000 in
theorem mw_702 : Cond.code yJ2_charAt_3b067 cJ2_charAt_3b067 2 (some .char) ∈ lw_tbl := List.mem_append_right _ (List.mem_append_right _ (List.mem_append_right _ (List.mem_append_left _ (List.mem_of_getElem? (i := 174) rfl))))
set_option maxRecDepth 100000 in
theorem mw_703 : Cond.initialized RJ2 ∈ lw_tbl := List.mem_append_right _ (List.mem_append_left _ (List.mem_of_getElem? (i := 13) rfl))
set_option maxRecDepth 100000 in
theorem mw_704 : Cond.static yJ2_charAt_3b067 ∈ lw_tbl := List.mem_append_right _ (List.mem_append_right _ (List.mem_append_right _ (List.mem_append_left _ (List.mem_of_getElem? (i := 173) rfl))))
set_option maxRecDepth 100000 in
theorem mw_705 : Cond.methodLink RJ0 498 yJ2_charAt_3b067 ∈ lw_tbl := List.mem_append_right _ (List.mem_append_right _ (List.mem_append_right _ (List.mem_append_left _ (List.mem_of_getElem? (i := 172) rfl))))
set_option maxRecDepth 100000 in
theorem mw_706 : Cond.code yJ3_checkIndex_8e157 cJ3_checkIndex_8e157 3 (some .int) ∈ lw_tbl := List.mem_append_right _ (List.mem_append_right _ (List.mem_append_right _ (List.mem_append_left _ (List.mem_of_getElem? (i := 171) rfl))))
set_option maxRecDepth 100000 in
theorem mw_707 : Cond.initialized RJ3 ∈ lw_tbl := List.mem_append_right _ (List.mem_append_left _ (List.mem_of_getElem? (i := 12) rfl))
set_option maxRecDepth 100000 in
theorem mw_708 : Cond.static yJ3_checkIndex_8e157 ∈ lw_tbl := List.mem_append_right _ (List.mem_append_right _ (List.mem_append_right _ (List.mem_append_left _ (List.mem_of_getElem? (i := 170) rfl))))
set_option maxRecDepth 100000 in
theorem mw_709 : Cond.methodLink RJ0 1059 yJ3_checkIndex_8e157 ∈ lw_tbl := List.mem_append_right _ (List.mem_append_right _ (List.mem_append_right _ (List.mem_append_left _ (List.mem_of_getElem? (i := 169) rfl))))
set_option maxRecDepth 100000 in
theorem mw_710 : Cond.fieldLink RJ0 1053 "jdk/internal/util/Preconditions" "SIOOBE_FORMATTER" "Ljava/util/function/BiFunction;" ∈ lw_tbl := List.mem_append_right _ (List.mem_append_right _ (List.mem_append_right _ (List.mem_append_left _ (List.mem_of_getElem? (i := 167) rfl))))
set_option maxRecDepth 100000 in
theorem mw_711 : Cond.code yJ0_checkIndex_df160 cJ0_checkIndex_df160 2 none ∈ lw_tbl := List.mem_append_right _ (List.mem_append_right _ (List.mem_append_right _ (List.mem_append_left _ (List.mem_of_getElem? (i := 166) rfl))))
set_option maxRecDepth 100000 in
theorem mw_712 : Cond.static yJ0_checkIndex_df160 ∈ lw_tbl := List.mem_append_right _ (List.mem_append_right _ (List.mem_append_right _ (List.mem_append_left _ (List.mem_of_getElem? (i := 165) rfl))))
set_option maxRecDepth 100000 in
theorem mw_713 : Cond.methodLink RJ1 9 yJ0_checkIndex_df160 ∈ lw_tbl := List.mem_append_right _ (List.mem_append_right _ (List.mem_append_right _ (List.mem_append_left _ (List.mem_of_getElem? (i := 164) rfl))))
set_option maxRecDepth 100000 in
theorem mw_714 : Cond.code yJ1_charAt_3b067 cJ1_charAt_3b067 2 (some .char) ∈ lw_tbl := List.mem_append_right _ (List.mem_append_right _ (List.mem_append_right _ (List.mem_append_left _ (List.mem_of_getElem? (i := 163) rfl))))
set_option maxRecDepth 100000 in
theorem mw_715 : Cond.initialized RJ1 ∈ lw_tbl := List.mem_append_right _ (List.mem_append_left _ (List.mem_of_getElem? (i := 11) rfl))
set_option maxRecDepth 100000 in
theorem mw_716 : Cond.static yJ1_charAt_3b067 ∈ lw_tbl := List.mem_append_right _ (List.mem_append_right _ (List.mem_append_right _ (List.mem_append_left _ (List.mem_of_getElem? (i := 162) rfl))))
set_option maxRecDepth 100000 in
theorem mw_717 : Cond.methodLink RJ0 495 yJ1_charAt_3b067 ∈ lw_tbl := List.mem_append_right _ (List.mem_append_right _ (List.mem_append_right _ (List.mem_append_left _ (List.mem_of_getElem? (i := 161) rfl))))
set_option maxRecDepth 100000 in
theorem mw_718 : Cond.code yJ0_isLatin1_aae02 cJ0_isLatin1_aae02 1 (some .boolean) ∈ lw_tbl := List.mem_append_right _ (List.mem_append_right _ (List.mem_append_right _ (List.mem_append_left _ (List.mem_of_getElem? (i := 160) rfl))))
set_option maxRecDepth 100000 in
theorem mw_719 : Cond.selects RJ0 yJ0_isLatin1_aae02 yJ0_isLatin1_aae02 ∈ lw_tbl := List.mem_append_right _ (List.mem_append_right _ (List.mem_append_right _ (List.mem_append_left _ (List.mem_of_getElem? (i := 159) rfl))))
set_option maxRecDepth 100000 in
theorem mw_720 : Cond.instanceMethod yJ0_isLatin1_aae02 ∈ lw_tbl := List.mem_append_right _ (List.mem_append_right _ (List.mem_append_right _ (List.mem_append_left _ (List.mem_of_getElem? (i := 158) rfl))))
set_option maxRecDepth 100000 in
theorem mw_721 : Cond.methodLink RJ0 492 yJ0_isLatin1_aae02 ∈ lw_tbl := List.mem_append_right _ (List.mem_append_right _ (List.mem_append_right _ (List.mem_append_left _ (List.mem_of_getElem? (i := 157) rfl))))
set_option maxRecDepth 100000 in
theorem mw_722 : Cond.code yJ0_charAt_5068e cJ0_charAt_5068e 2 (some .char) ∈ lw_tbl := List.mem_append_right _ (List.mem_append_right _ (List.mem_append_right _ (List.mem_append_left _ (List.mem_of_getElem? (i := 156) rfl))))
set_option maxRecDepth 100000 in
theorem mw_723 : Cond.selects RJ0 yJ0_charAt_5068e yJ0_charAt_5068e ∈ lw_tbl := List.mem_append_right _ (List.mem_append_right _ (List.mem_append_right _ (List.mem_append_left _ (List.mem_of_getElem? (i := 155) rfl))))
set_option maxRecDepth 100000 in
theorem mw_724 : Cond.instanceMethod yJ0_charAt_5068e ∈ lw_tbl := List.mem_append_right _ (List.mem_append_right _ (List.mem_append_right _ (List.mem_append_left _ (List.mem_of_getElem? (i := 154) rfl))))
set_option maxRecDepth 100000 in
theorem hmwsX6_read_r4 : ∀ w ∈ wsX6_read_r4, w ∈ lw_tbl := List.forall_mem_cons.mpr ⟨mw_724, List.forall_mem_cons.mpr ⟨mw_723, List.forall_mem_cons.mpr ⟨mw_722, List.forall_mem_cons.mpr ⟨mw_721, List.forall_mem_cons.mpr ⟨mw_720, List.forall_mem_cons.mpr ⟨mw_719, List.forall_mem_cons.mpr ⟨mw_718, List.forall_mem_cons.mpr ⟨mw_717, List.forall_mem_cons.mpr ⟨mw_716, List.forall_mem_cons.mpr ⟨mw_715, List.forall_mem_cons.mpr ⟨mw_714, List.forall_mem_cons.mpr ⟨mw_713, List.forall_mem_cons.mpr ⟨mw_712, List.forall_mem_cons.mpr ⟨mw_711, List.forall_mem_cons.mpr ⟨mw_710, List.forall_mem_cons.mpr ⟨mw_709, List.forall_mem_cons.mpr ⟨mw_708, List.forall_mem_cons.mpr ⟨mw_707, List.forall_mem_cons.mpr ⟨mw_706, List.forall_mem_cons.mpr ⟨mw_705, List.forall_mem_cons.mpr ⟨mw_704, List.forall_mem_cons.mpr ⟨mw_703, List.forall_mem_cons.mpr ⟨mw_702, List.forall_mem_cons.mpr ⟨mw_701, List.forall_mem_nil _⟩⟩⟩⟩⟩⟩⟩⟩⟩⟩⟩⟩⟩⟩⟩⟩⟩⟩⟩⟩⟩⟩⟩⟩
set_option maxRecDepth 100000 in
theorem mw_725 : Cond.instanceMethod yX1_termOr ∈ lw_tbl := List.mem_append_right _ (List.mem_append_right _ (List.mem_append_right _ (List.mem_append_left _ (List.mem_of_getElem? (i := 207) rfl))))
set_option maxRecDepth 100000 in
theorem mw_726 : Cond.methodLink RX6 264 yX1_termOr ∈ lw_tbl := List.mem_append_right _ (List.mem_append_right _ (List.mem_append_right _ (List.mem_append_left _ (List.mem_of_getElem? (i := 206) rfl))))
set_option maxRecDepth 100000 in
theorem mw_727 : Cond.code yX5_place cX5_place 1 (some .int) ∈ lw_tbl := List.mem_append_right _ (List.mem_append_right _ (List.mem_append_right _ (List.mem_append_left _ (List.mem_of_getElem? (i := 205) rfl))))
set_option maxRecDepth 100000 in
theorem mw_728 : Cond.selects RX5 yX5_place yX5_place ∈ lw_tbl := List.mem_append_right _ (List.mem_append_right _ (List.mem_append_right _ (List.mem_append_left _ (List.mem_of_getElem? (i := 204) rfl))))
set_option maxRecDepth 100000 in
theorem mw_729 : Cond.instanceMethod yX5_place ∈ lw_tbl := List.mem_append_right _ (List.mem_append_right _ (List.mem_append_right _ (List.mem_append_left _ (List.mem_of_getElem? (i := 203) rfl))))
set_option maxRecDepth 100000 in
theorem mw_730 : Cond.methodLink RX1 35 yX5_place ∈ lw_tbl := List.mem_append_right _ (List.mem_append_right _ (List.mem_append_right _ (List.mem_append_left _ (List.mem_of_getElem? (i := 202) rfl))))
set_option maxRecDepth 100000 in
theorem mw_731 : Cond.code yX5_number cX5_number 3 (some .int) ∈ lw_tbl := List.mem_append_right _ (List.mem_append_right _ (List.mem_append_right _ (List.mem_append_left _ (List.mem_of_getElem? (i := 199) rfl))))
set_option maxRecDepth 100000 in
theorem mw_732 : Cond.selects RX5 yX5_number yX5_number ∈ lw_tbl := List.mem_append_right _ (List.mem_append_right _ (List.mem_append_right _ (List.mem_append_left _ (List.mem_of_getElem? (i := 198) rfl))))
set_option maxRecDepth 100000 in
theorem mw_733 : Cond.instanceMethod yX5_number ∈ lw_tbl := List.mem_append_right _ (List.mem_append_right _ (List.mem_append_right _ (List.mem_append_left _ (List.mem_of_getElem? (i := 197) rfl))))
set_option maxRecDepth 100000 in
theorem mw_734 : Cond.methodLink RX1 43 yX5_number ∈ lw_tbl := List.mem_append_right _ (List.mem_append_right _ (List.mem_append_right _ (List.mem_append_left _ (List.mem_of_getElem? (i := 196) rfl))))
set_option maxRecDepth 100000 in
theorem mw_735 : Cond.fieldLink RJ2 63 "java/lang/StringUTF16" "LO_BYTE_SHIFT" "I" ∈ lw_tbl := List.mem_append_right _ (List.mem_append_right _ (List.mem_append_right _ (List.mem_append_left _ (List.mem_of_getElem? (i := 189) rfl))))
set_option maxRecDepth 100000 in
theorem mw_736 : Cond.fieldLink RJ2 59 "java/lang/StringUTF16" "HI_BYTE_SHIFT" "I" ∈ lw_tbl := List.mem_append_right _ (List.mem_append_right _ (List.mem_append_right _ (List.mem_append_left _ (List.mem_of_getElem? (i := 187) rfl))))
set_option maxRecDepth 100000 in
theorem mw_737 : Cond.fieldLink RJ2 44 "java/lang/StringUTF16" "$assertionsDisabled" "Z" ∈ lw_tbl := List.mem_append_right _ (List.mem_append_right _ (List.mem_append_right _ (List.mem_append_left _ (List.mem_of_getElem? (i := 185) rfl))))
set_option maxRecDepth 100000 in
theorem mw_738 : Cond.code yJ2_getChar_3b067 cJ2_getChar_3b067 2 (some .char) ∈ lw_tbl := List.mem_append_right _ (List.mem_append_right _ (List.mem_append_right _ (List.mem_append_left _ (List.mem_of_getElem? (i := 184) rfl))))
set_option maxRecDepth 100000 in
theorem mw_739 : Cond.static yJ2_getChar_3b067 ∈ lw_tbl := List.mem_append_right _ (List.mem_append_right _ (List.mem_append_right _ (List.mem_append_left _ (List.mem_of_getElem? (i := 183) rfl))))
set_option maxRecDepth 100000 in
theorem mw_740 : Cond.methodLink RJ2 71 yJ2_getChar_3b067 ∈ lw_tbl := List.mem_append_right _ (List.mem_append_right _ (List.mem_append_right _ (List.mem_append_left _ (List.mem_of_getElem? (i := 182) rfl))))
set_option maxRecDepth 100000 in
theorem mw_741 : Cond.methodLink RJ2 414 yJ0_checkIndex_df160 ∈ lw_tbl := List.mem_append_right _ (List.mem_append_right _ (List.mem_append_right _ (List.mem_append_left _ (List.mem_of_getElem? (i := 181) rfl))))
set_option maxRecDepth 100000 in
theorem mw_742 : Cond.code yJ2_length_9d52b cJ2_length_9d52b 1 (some .int) ∈ lw_tbl := List.mem_append_right _ (List.mem_append_right _ (List.mem_append_right _ (List.mem_append_left _ (List.mem_of_getElem? (i := 180) rfl))))
set_option maxRecDepth 100000 in
theorem mw_743 : Cond.static yJ2_length_9d52b ∈ lw_tbl := List.mem_append_right _ (List.mem_append_right _ (List.mem_append_right _ (List.mem_append_left _ (List.mem_of_getElem? (i := 179) rfl))))
set_option maxRecDepth 100000 in
theorem mw_744 : Cond.methodLink RJ2 48 yJ2_length_9d52b ∈ lw_tbl := List.mem_append_right _ (List.mem_append_right _ (List.mem_append_right _ (List.mem_append_left _ (List.mem_of_getElem? (i := 178) rfl))))
set_option maxRecDepth 100000 in
theorem mw_745 : Cond.code yJ2_checkIndex_2214a cJ2_checkIndex_2214a 2 none ∈ lw_tbl := List.mem_append_right _ (List.mem_append_right _ (List.mem_append_right _ (List.mem_append_left _ (List.mem_of_getElem? (i := 177) rfl))))
set_option maxRecDepth 100000 in
theorem mw_746 : Cond.static yJ2_checkIndex_2214a ∈ lw_tbl := List.mem_append_right _ (List.mem_append_right _ (List.mem_append_right _ (List.mem_append_left _ (List.mem_of_getElem? (i := 176) rfl))))
set_option maxRecDepth 100000 in
theorem hmwsX6_read_r5 : ∀ w ∈ wsX6_read_r5, w ∈ lw_tbl := List.forall_mem_cons.mpr ⟨mw_746, List.forall_mem_cons.mpr ⟨mw_745, List.forall_mem_cons.mpr ⟨mw_744, List.forall_mem_cons.mpr ⟨mw_743, List.forall_mem_cons.mpr ⟨mw_742, List.forall_mem_cons.mpr ⟨mw_741, List.forall_mem_cons.mpr ⟨mw_740, List.forall_mem_cons.mpr ⟨mw_739, List.forall_mem_cons.mpr ⟨mw_738, List.forall_mem_cons.mpr ⟨mw_737, List.forall_mem_cons.mpr ⟨mw_736, List.forall_mem_cons.mpr ⟨mw_735, List.forall_mem_cons.mpr ⟨mw_734, List.forall_mem_cons.mpr ⟨mw_733, List.forall_mem_cons.mpr ⟨mw_732, List.forall_mem_cons.mpr ⟨mw_731, List.forall_mem_cons.mpr ⟨mw_252, List.forall_mem_cons.mpr ⟨mw_251, List.forall_mem_cons.mpr ⟨mw_730, List.forall_mem_cons.mpr ⟨mw_729, List.forall_mem_cons.mpr ⟨mw_728, List.forall_mem_cons.mpr ⟨mw_727, List.forall_mem_cons.mpr ⟨mw_726, List.forall_mem_cons.mpr ⟨mw_725, List.forall_mem_nil _⟩⟩⟩⟩⟩⟩⟩⟩⟩⟩⟩⟩⟩⟩⟩⟩⟩⟩⟩⟩⟩⟩⟩⟩
set_option maxRecDepth 100000 in
theorem mw_747 : Cond.code yX1_termOr cX1_termOr 4 (some .int) ∈ lw_tbl := List.mem_append_right _ (List.mem_append_right _ (List.mem_append_right _ (List.mem_append_left _ (List.mem_of_getElem? (i := 209) rfl))))
set_option maxRecDepth 100000 in
theorem mw_748 : Cond.selects RX1 yX1_termOr yX1_termOr ∈ lw_tbl := List.mem_append_right _ (List.mem_append_right _ (List.mem_append_right _ (List.mem_append_left _ (List.mem_of_getElem? (i := 208) rfl))))
set_option maxRecDepth 100000 in
theorem hmwsX6_read_r6 : ∀ w ∈ wsX6_read_r6, w ∈ lw_tbl := List.forall_mem_cons.mpr ⟨mw_748, List.forall_mem_cons.mpr ⟨mw_747, List.forall_mem_cons.mpr ⟨mw_172, List.forall_mem_cons.mpr ⟨mw_171, List.forall_mem_cons.mpr ⟨mw_170, List.forall_mem_cons.mpr ⟨mw_40, List.forall_mem_cons.mpr ⟨mw_169, List.forall_mem_cons.mpr ⟨mw_63, List.forall_mem_cons.mpr ⟨mw_65, List.forall_mem_cons.mpr ⟨mw_161, List.forall_mem_cons.mpr ⟨mw_160, List.forall_mem_cons.mpr ⟨mw_159, List.forall_mem_cons.mpr ⟨mw_158, List.forall_mem_cons.mpr ⟨mw_62, List.forall_mem_nil _⟩⟩⟩⟩⟩⟩⟩⟩⟩⟩⟩⟩⟩⟩
set_option maxRecDepth 100000 in
theorem hmwsX6_read : ∀ w ∈ wsX6_read, w ∈ lw_tbl := List.forall_mem_cons.mpr ⟨mw_644, List.forall_mem_append.mpr ⟨List.forall_mem_append.mpr ⟨List.forall_mem_append.mpr ⟨List.forall_mem_append.mpr ⟨List.forall_mem_append.mpr ⟨List.forall_mem_append.mpr ⟨hmwsX6_read_r1, List.forall_mem_append.mpr ⟨hmwsX6_read_r2, List.forall_mem_append.mpr ⟨hmwsX6_read_r3, List.forall_mem_append.mpr ⟨hmwsX6_read_r4, List.forall_mem_append.mpr ⟨hmwsX6_read_r5, hmwsX6_read_r6⟩⟩⟩⟩⟩, inX6⟩, inX1⟩, inX0⟩, inX5⟩, inX4⟩⟩
set_option maxRecDepth 100000 in
theorem mw_749 : Cond.methodLink RL 107 yX6_read ∈ lw_tbl := List.mem_append_right _ (List.mem_append_right _ (List.mem_append_right _ (List.mem_append_left _ (List.mem_of_getElem? (i := 101) rfl))))
set_option maxRecDepth 100000 in
theorem mw_750 : Cond.instanceMethod yX6_read ∈ lw_tbl := List.mem_append_right _ (List.mem_append_right _ (List.mem_append_right _ (List.mem_append_left _ (List.mem_of_getElem? (i := 102) rfl))))
set_option maxRecDepth 100000 in
theorem mw_751 : Cond.selects RX6 yX6_read yX6_read ∈ lw_tbl := List.mem_append_right _ (List.mem_append_right _ (List.mem_append_right _ (List.mem_append_left _ (List.mem_of_getElem? (i := 103) rfl))))
set_option maxRecDepth 100000 in
theorem glX6_read : GoodIn lw_tbl (wsV RL 107 RX6 yX6_read wsX6_read) := goodIn_sub (List.forall_mem_append.mpr ⟨List.forall_mem_cons.mpr ⟨mw_749, List.forall_mem_cons.mpr ⟨mw_750, List.forall_mem_cons.mpr ⟨mw_751, List.forall_mem_cons.mpr ⟨mw_91, List.forall_mem_nil _⟩⟩⟩⟩, hmwsX6_read⟩) (by decide +kernel)
set_option maxRecDepth 100000 in
theorem ckL_X6_read : CkV lw_tbl RL 107 yX6_read wsX6_read cX6_read 4 (some .int) 1 6 := ⟨RX6, TX6, 8, _, rfl, glX6_read, rfl, hdX6_read⟩
set_option maxRecDepth 100000 in
theorem mw_752 : Cond.code yX7_read cX7_read 5 (some .int) ∈ lw_tbl := List.mem_append_right _ (List.mem_append_right _ (List.mem_append_right _ (List.mem_append_right _ (List.mem_append_right _ (List.mem_of_getElem? (i := 96) rfl)))))
set_option maxRecDepth 100000 in
theorem mw_753 : Cond.methodLink RX7 171 yX7_isGood ∈ lw_tbl := List.mem_append_right _ (List.mem_append_right _ (List.mem_append_right _ (List.mem_append_right _ (List.mem_append_right _ (List.mem_of_getElem? (i := 107) rfl)))))
set_option maxRecDepth 100000 in
theorem mw_754 : Cond.code yX7_isDigit cX7_isDigit 1 (some .boolean) ∈ lw_tbl := List.mem_append_right _ (List.mem_append_right _ (List.mem_append_right _ (List.mem_append_right _ (List.mem_append_right _ (List.mem_of_getElem? (i := 106) rfl)))))
set_option maxRecDepth 100000 in
theorem mw_755 : Cond.static yX7_isDigit ∈ lw_tbl := List.mem_append_right _ (List.mem_append_right _ (List.mem_append_right _ (List.mem_append_right _ (List.mem_append_right _ (List.mem_of_getElem? (i := 105) rfl)))))
set_option maxRecDepth 100000 in
theorem mw_756 : Cond.methodLink RX7 165 yX7_isDigit ∈ lw_tbl := List.mem_append_right _ (List.mem_append_right _ (List.mem_append_right _ (List.mem_append_right _ (List.mem_append_right _ (List.mem_of_getElem? (i := 104) rfl)))))
set_option maxRecDepth 100000 in
theorem mw_757 : Cond.code yX7_isLetter cX7_isLetter 1 (some .boolean) ∈ lw_tbl := List.mem_append_right _ (List.mem_append_right _ (List.mem_append_right _ (List.mem_append_right _ (List.mem_append_right _ (List.mem_of_getElem? (i := 103) rfl)))))
set_option maxRecDepth 100000 in
theorem mw_758 : Cond.static yX7_isLetter ∈ lw_tbl := List.mem_append_right _ (List.mem_append_right _ (List.mem_append_right _ (List.mem_append_right _ (List.mem_append_right _ (List.mem_of_getElem? (i := 102) rfl)))))
set_option maxRecDepth 100000 in
theorem mw_759 : Cond.methodLink RX7 162 yX7_isLetter ∈ lw_tbl := List.mem_append_right _ (List.mem_append_right _ (List.mem_append_right _ (List.mem_append_right _ (List.mem_append_right _ (List.mem_of_getElem? (i := 101) rfl)))))
set_option maxRecDepth 100000 in
theorem mw_760 : Cond.fieldLink RX7 156 "EmptyBoxesModel" "tokenValue" "I" ∈ lw_tbl := List.mem_append_right _ (List.mem_append_right _ (List.mem_append_right _ (List.mem_append_right _ (List.mem_append_left _ (List.mem_of_getElem? (i := 100) rfl)))))
set_option maxRecDepth 100000 in
theorem mw_761 : Cond.fieldLink RX7 153 "EmptyBoxesModel" "tokenAt" "I" ∈ lw_tbl := List.mem_append_right _ (List.mem_append_right _ (List.mem_append_right _ (List.mem_append_right _ (List.mem_append_left _ (List.mem_of_getElem? (i := 98) rfl)))))
set_option maxRecDepth 100000 in
theorem mw_762 : Cond.code yX7_advance cX7_advance 2 none ∈ lw_tbl := List.mem_append_right _ (List.mem_append_right _ (List.mem_append_right _ (List.mem_append_right _ (List.mem_append_right _ (List.mem_of_getElem? (i := 100) rfl)))))
set_option maxRecDepth 100000 in
theorem mw_763 : Cond.selects RX7 yX7_advance yX7_advance ∈ lw_tbl := List.mem_append_left _ (List.mem_map.mpr ⟨(⟨"EmptyBoxesModel", "advance", "()V"⟩, 28), List.mem_append_right _ (List.mem_append_right _ (List.mem_append_right _ (List.mem_append_left _ (List.mem_of_getElem? (i := 15) rfl)))), rfl⟩)
set_option maxRecDepth 100000 in
theorem mw_764 : Cond.instanceMethod yX7_advance ∈ lw_tbl := List.mem_append_right _ (List.mem_append_right _ (List.mem_append_right _ (List.mem_append_right _ (List.mem_append_right _ (List.mem_of_getElem? (i := 99) rfl)))))
set_option maxRecDepth 100000 in
theorem mw_765 : Cond.methodLink RX7 175 yX7_advance ∈ lw_tbl := List.mem_append_right _ (List.mem_append_right _ (List.mem_append_right _ (List.mem_append_right _ (List.mem_append_right _ (List.mem_of_getElem? (i := 97) rfl)))))
set_option maxRecDepth 100000 in
theorem mw_766 : Cond.fieldLink RX7 159 "EmptyBoxesModel" "tokenKind" "I" ∈ lw_tbl := List.mem_append_right _ (List.mem_append_right _ (List.mem_append_right _ (List.mem_append_right _ (List.mem_append_left _ (List.mem_of_getElem? (i := 97) rfl)))))
set_option maxRecDepth 100000 in
theorem mw_767 : Cond.fieldLink RX7 150 "EmptyBoxesModel" "tokenEnd" "I" ∈ lw_tbl := List.mem_append_right _ (List.mem_append_right _ (List.mem_append_right _ (List.mem_append_right _ (List.mem_append_left _ (List.mem_of_getElem? (i := 99) rfl)))))
set_option maxRecDepth 100000 in
theorem mw_768 : Cond.fieldLink RX7 184 "EmptyBoxesModel" "seen" "I" ∈ lw_tbl := List.mem_append_right _ (List.mem_append_right _ (List.mem_append_right _ (List.mem_append_right _ (List.mem_append_left _ (List.mem_of_getElem? (i := 102) rfl)))))
set_option maxRecDepth 100000 in
theorem mw_769 : Cond.fieldLink RX7 168 "EmptyBoxesModel" "fault" "I" ∈ lw_tbl := List.mem_append_right _ (List.mem_append_right _ (List.mem_append_right _ (List.mem_append_right _ (List.mem_append_left _ (List.mem_of_getElem? (i := 101) rfl)))))
set_option maxRecDepth 100000 in
theorem hmwsX7_read_r1 : ∀ w ∈ wsX7_read_r1, w ∈ lw_tbl := List.forall_mem_cons.mpr ⟨mw_640, List.forall_mem_cons.mpr ⟨mw_103, List.forall_mem_cons.mpr ⟨mw_769, List.forall_mem_cons.mpr ⟨mw_768, List.forall_mem_cons.mpr ⟨mw_767, List.forall_mem_cons.mpr ⟨mw_766, List.forall_mem_cons.mpr ⟨mw_126, List.forall_mem_cons.mpr ⟨mw_125, List.forall_mem_cons.mpr ⟨mw_114, List.forall_mem_cons.mpr ⟨mw_124, List.forall_mem_cons.mpr ⟨mw_765, List.forall_mem_cons.mpr ⟨mw_764, List.forall_mem_cons.mpr ⟨mw_763, List.forall_mem_cons.mpr ⟨mw_762, List.forall_mem_cons.mpr ⟨mw_94, List.forall_mem_cons.mpr ⟨mw_761, List.forall_mem_cons.mpr ⟨mw_760, List.forall_mem_cons.mpr ⟨mw_759, List.forall_mem_cons.mpr ⟨mw_758, List.forall_mem_cons.mpr ⟨mw_757, List.forall_mem_cons.mpr ⟨mw_756, List.forall_mem_cons.mpr ⟨mw_755, List.forall_mem_cons.mpr ⟨mw_754, List.forall_mem_cons.mpr ⟨mw_753, List.forall_mem_nil _⟩⟩⟩⟩⟩⟩⟩⟩⟩⟩⟩⟩⟩⟩⟩⟩⟩⟩⟩⟩⟩⟩⟩⟩
set_option maxRecDepth 100000 in
theorem mw_770 : Cond.code yX7_wantNumber cX7_wantNumber 3 (some .int) ∈ lw_tbl := List.mem_append_right _ (List.mem_append_right _ (List.mem_append_right _ (List.mem_append_right _ (List.mem_append_right _ (List.mem_of_getElem? (i := 126) rfl)))))
set_option maxRecDepth 100000 in
theorem mw_771 : Cond.selects RX7 yX7_wantNumber yX7_wantNumber ∈ lw_tbl := List.mem_append_left _ (List.mem_map.mpr ⟨(⟨"EmptyBoxesModel", "wantNumber", "(I)I"⟩, 28), List.mem_append_right _ (List.mem_append_right _ (List.mem_append_right _ (List.mem_append_right _ (List.mem_of_getElem? (i := 4) rfl)))), rfl⟩)
set_option maxRecDepth 100000 in
theorem mw_772 : Cond.instanceMethod yX7_wantNumber ∈ lw_tbl := List.mem_append_right _ (List.mem_append_right _ (List.mem_append_right _ (List.mem_append_right _ (List.mem_append_right _ (List.mem_of_getElem? (i := 125) rfl)))))
set_option maxRecDepth 100000 in
theorem mw_773 : Cond.methodLink RX7 187 yX7_wantNumber ∈ lw_tbl := List.mem_append_right _ (List.mem_append_right _ (List.mem_append_right _ (List.mem_append_right _ (List.mem_append_right _ (List.mem_of_getElem? (i := 123) rfl)))))
set_option maxRecDepth 100000 in
theorem mw_774 : Cond.code yX7_wrong cX7_wrong 1 none ∈ lw_tbl := List.mem_append_right _ (List.mem_append_right _ (List.mem_append_right _ (List.mem_append_right _ (List.mem_append_right _ (List.mem_of_getElem? (i := 122) rfl)))))
set_option maxRecDepth 100000 in
theorem mw_775 : Cond.selects RX7 yX7_wrong yX7_wrong ∈ lw_tbl := List.mem_append_left _ (List.mem_map.mpr ⟨(⟨"EmptyBoxesModel", "wrong", "()V"⟩, 28), List.mem_append_right _ (List.mem_append_right _ (List.mem_append_right _ (List.mem_append_right _ (List.mem_of_getElem? (i := 3) rfl)))), rfl⟩)
set_option maxRecDepth 100000 in
theorem mw_776 : Cond.instanceMethod yX7_wrong ∈ lw_tbl := List.mem_append_right _ (List.mem_append_right _ (List.mem_append_right _ (List.mem_append_right _ (List.mem_append_right _ (List.mem_of_getElem? (i := 121) rfl)))))
set_option maxRecDepth 100000 in
theorem mw_777 : Cond.methodLink RX7 178 yX7_wrong ∈ lw_tbl := List.mem_append_right _ (List.mem_append_right _ (List.mem_append_right _ (List.mem_append_right _ (List.mem_append_right _ (List.mem_of_getElem? (i := 119) rfl)))))
set_option maxRecDepth 100000 in
theorem mw_778 : Cond.code yX7_kindOf cX7_kindOf 1 (some .int) ∈ lw_tbl := List.mem_append_right _ (List.mem_append_right _ (List.mem_append_right _ (List.mem_append_right _ (List.mem_append_right _ (List.mem_of_getElem? (i := 118) rfl)))))
set_option maxRecDepth 100000 in
theorem mw_779 : Cond.selects RX7 yX7_kindOf yX7_kindOf ∈ lw_tbl := List.mem_append_left _ (List.mem_map.mpr ⟨(⟨"EmptyBoxesModel", "kindOf", "()I"⟩, 28), List.mem_append_right _ (List.mem_append_right _ (List.mem_append_right _ (List.mem_append_right _ (List.mem_of_getElem? (i := 2) rfl)))), rfl⟩)
set_option maxRecDepth 100000 in
theorem mw_780 : Cond.instanceMethod yX7_kindOf ∈ lw_tbl := List.mem_append_right _ (List.mem_append_right _ (List.mem_append_right _ (List.mem_append_right _ (List.mem_append_right _ (List.mem_of_getElem? (i := 117) rfl)))))
set_option maxRecDepth 100000 in
theorem mw_781 : Cond.methodLink RX7 181 yX7_kindOf ∈ lw_tbl := List.mem_append_right _ (List.mem_append_right _ (List.mem_append_right _ (List.mem_append_right _ (List.mem_append_right _ (List.mem_of_getElem? (i := 115) rfl)))))
set_option maxRecDepth 100000 in
theorem mw_782 : Cond.code yX7_wantClause cX7_wantClause 3 none ∈ lw_tbl := List.mem_append_right _ (List.mem_append_right _ (List.mem_append_right _ (List.mem_append_right _ (List.mem_append_right _ (List.mem_of_getElem? (i := 114) rfl)))))
set_option maxRecDepth 100000 in
theorem mw_783 : Cond.selects RX7 yX7_wantClause yX7_wantClause ∈ lw_tbl := List.mem_append_left _ (List.mem_map.mpr ⟨(⟨"EmptyBoxesModel", "wantClause", "()V"⟩, 28), List.mem_append_right _ (List.mem_append_right _ (List.mem_append_right _ (List.mem_append_right _ (List.mem_of_getElem? (i := 1) rfl)))), rfl⟩)
set_option maxRecDepth 100000 in
theorem mw_784 : Cond.instanceMethod yX7_wantClause ∈ lw_tbl := List.mem_append_right _ (List.mem_append_right _ (List.mem_append_right _ (List.mem_append_right _ (List.mem_append_right _ (List.mem_of_getElem? (i := 113) rfl)))))
set_option maxRecDepth 100000 in
theorem mw_785 : Cond.methodLink RX7 190 yX7_wantClause ∈ lw_tbl := List.mem_append_right _ (List.mem_append_right _ (List.mem_append_right _ (List.mem_append_right _ (List.mem_append_right _ (List.mem_of_getElem? (i := 111) rfl)))))
set_option maxRecDepth 100000 in
theorem mw_786 : Cond.code yX7_isGood cX7_isGood 1 (some .boolean) ∈ lw_tbl := List.mem_append_right _ (List.mem_append_right _ (List.mem_append_right _ (List.mem_append_right _ (List.mem_append_right _ (List.mem_of_getElem? (i := 110) rfl)))))
set_option maxRecDepth 100000 in
theorem mw_787 : Cond.selects RX7 yX7_isGood yX7_isGood ∈ lw_tbl := List.mem_append_left _ (List.mem_map.mpr ⟨(⟨"EmptyBoxesModel", "isGood", "()Z"⟩, 28), List.mem_append_right _ (List.mem_append_right _ (List.mem_append_right _ (List.mem_append_right _ (List.mem_of_getElem? (i := 0) rfl)))), rfl⟩)
set_option maxRecDepth 100000 in
theorem mw_788 : Cond.instanceMethod yX7_isGood ∈ lw_tbl := List.mem_append_right _ (List.mem_append_right _ (List.mem_append_right _ (List.mem_append_right _ (List.mem_append_right _ (List.mem_of_getElem? (i := 109) rfl)))))
set_option maxRecDepth 100000 in
theorem hmwsX7_read_r2 : ∀ w ∈ wsX7_read_r2, w ∈ lw_tbl := List.forall_mem_cons.mpr ⟨mw_788, List.forall_mem_cons.mpr ⟨mw_787, List.forall_mem_cons.mpr ⟨mw_786, List.forall_mem_cons.mpr ⟨mw_785, List.forall_mem_cons.mpr ⟨mw_784, List.forall_mem_cons.mpr ⟨mw_783, List.forall_mem_cons.mpr ⟨mw_782, List.forall_mem_cons.mpr ⟨mw_781, List.forall_mem_cons.mpr ⟨mw_780, List.forall_mem_cons.mpr ⟨mw_779, List.forall_mem_cons.mpr ⟨mw_778, List.forall_mem_cons.mpr ⟨mw_777, List.forall_mem_cons.mpr ⟨mw_776, List.forall_mem_cons.mpr ⟨mw_775, List.forall_mem_cons.mpr ⟨mw_774, List.forall_mem_cons.mpr ⟨mw_773, List.forall_mem_cons.mpr ⟨mw_772, List.forall_mem_cons.mpr ⟨mw_771, List.forall_mem_cons.mpr ⟨mw_770, List.forall_mem_nil _⟩⟩⟩⟩⟩⟩⟩⟩⟩⟩⟩⟩⟩⟩⟩⟩⟩⟩⟩
set_option maxRecDepth 100000 in
theorem hmwsX7_read : ∀ w ∈ wsX7_read, w ∈ lw_tbl := List.forall_mem_cons.mpr ⟨mw_752, List.forall_mem_append.mpr ⟨List.forall_mem_append.mpr ⟨hmwsX7_read_r1, hmwsX7_read_r2⟩, inX7⟩⟩
set_option maxRecDepth 100000 in
theorem mw_789 : Cond.methodLink RL 110 yX7_read ∈ lw_tbl := List.mem_append_right _ (List.mem_append_right _ (List.mem_append_right _ (List.mem_append_right _ (List.mem_append_right _ (List.mem_of_getElem? (i := 93) rfl)))))
set_option maxRecDepth 100000 in
theorem mw_790 : Cond.instanceMethod yX7_read ∈ lw_tbl := List.mem_append_right _ (List.mem_append_right _ (List.mem_append_right _ (List.mem_append_right _ (List.mem_append_right _ (List.mem_of_getElem? (i := 94) rfl)))))
set_option maxRecDepth 100000 in
theorem mw_791 : Cond.selects RX7 yX7_read yX7_read ∈ lw_tbl := List.mem_append_right _ (List.mem_append_right _ (List.mem_append_right _ (List.mem_append_right _ (List.mem_append_right _ (List.mem_of_getElem? (i := 95) rfl)))))
set_option maxRecDepth 100000 in
theorem glX7_read : GoodIn lw_tbl (wsV RL 110 RX7 yX7_read wsX7_read) := goodIn_sub (List.forall_mem_append.mpr ⟨List.forall_mem_cons.mpr ⟨mw_789, List.forall_mem_cons.mpr ⟨mw_790, List.forall_mem_cons.mpr ⟨mw_791, List.forall_mem_cons.mpr ⟨mw_114, List.forall_mem_nil _⟩⟩⟩⟩, hmwsX7_read⟩) (by decide +kernel)
set_option maxRecDepth 100000 in
theorem ckL_X7_read : CkV lw_tbl RL 110 yX7_read wsX7_read cX7_read 5 (some .int) 1 7 := ⟨RX7, TX7, 28, _, rfl, glX7_read, rfl, hdX7_read⟩
set_option maxRecDepth 100000 in
theorem mw_792 : Cond.code yX6_lease cX6_lease 4 (some .int) ∈ lw_tbl := List.mem_append_right _ (List.mem_append_right _ (List.mem_append_right _ (List.mem_append_left _ (List.mem_of_getElem? (i := 214) rfl))))
set_option maxRecDepth 100000 in
theorem mw_793 : Cond.code yX6_askedTerm cX6_askedTerm 1 (some .int) ∈ lw_tbl := List.mem_append_right _ (List.mem_append_right _ (List.mem_append_right _ (List.mem_append_left _ (List.mem_of_getElem? (i := 217) rfl))))
set_option maxRecDepth 100000 in
theorem mw_794 : Cond.static yX6_askedTerm ∈ lw_tbl := List.mem_append_right _ (List.mem_append_right _ (List.mem_append_right _ (List.mem_append_left _ (List.mem_of_getElem? (i := 216) rfl))))
set_option maxRecDepth 100000 in
theorem mw_795 : Cond.methodLink RX6 270 yX6_askedTerm ∈ lw_tbl := List.mem_append_right _ (List.mem_append_right _ (List.mem_append_right _ (List.mem_append_left _ (List.mem_of_getElem? (i := 215) rfl))))
set_option maxRecDepth 100000 in
theorem hmwsX6_lease_r1 : ∀ w ∈ wsX6_lease_r1, w ∈ lw_tbl := List.forall_mem_cons.mpr ⟨mw_18, List.forall_mem_cons.mpr ⟨mw_153, List.forall_mem_cons.mpr ⟨mw_795, List.forall_mem_cons.mpr ⟨mw_794, List.forall_mem_cons.mpr ⟨mw_91, List.forall_mem_cons.mpr ⟨mw_793, List.forall_mem_cons.mpr ⟨mw_118, List.forall_mem_cons.mpr ⟨mw_117, List.forall_mem_cons.mpr ⟨mw_116, List.forall_mem_cons.mpr ⟨mw_138, List.forall_mem_cons.mpr ⟨mw_137, List.forall_mem_cons.mpr ⟨mw_136, List.forall_mem_cons.mpr ⟨mw_157, List.forall_mem_cons.mpr ⟨mw_156, List.forall_mem_cons.mpr ⟨mw_155, List.forall_mem_cons.mpr ⟨mw_154, List.forall_mem_cons.mpr ⟨mw_165, List.forall_mem_cons.mpr ⟨mw_164, List.forall_mem_cons.mpr ⟨mw_163, List.forall_mem_cons.mpr ⟨mw_40, List.forall_mem_cons.mpr ⟨mw_162, List.forall_mem_cons.mpr ⟨mw_63, List.forall_mem_cons.mpr ⟨mw_65, List.forall_mem_cons.mpr ⟨mw_161, List.forall_mem_nil _⟩⟩⟩⟩⟩⟩⟩⟩⟩⟩⟩⟩⟩⟩⟩⟩⟩⟩⟩⟩⟩⟩⟩⟩
set_option maxRecDepth 100000 in
theorem hmwsX6_lease_r2 : ∀ w ∈ wsX6_lease_r2, w ∈ lw_tbl := List.forall_mem_cons.mpr ⟨mw_160, List.forall_mem_cons.mpr ⟨mw_159, List.forall_mem_cons.mpr ⟨mw_158, List.forall_mem_cons.mpr ⟨mw_62, List.forall_mem_nil _⟩⟩⟩⟩
set_option maxRecDepth 100000 in
theorem hmwsX6_lease : ∀ w ∈ wsX6_lease, w ∈ lw_tbl := List.forall_mem_cons.mpr ⟨mw_792, List.forall_mem_append.mpr ⟨List.forall_mem_append.mpr ⟨List.forall_mem_append.mpr ⟨List.forall_mem_append.mpr ⟨hmwsX6_lease_r1, hmwsX6_lease_r2⟩, inX6⟩, inX0⟩, inX4⟩⟩
set_option maxRecDepth 100000 in
theorem mw_796 : Cond.methodLink RL 111 yX6_lease ∈ lw_tbl := List.mem_append_right _ (List.mem_append_right _ (List.mem_append_right _ (List.mem_append_left _ (List.mem_of_getElem? (i := 211) rfl))))
set_option maxRecDepth 100000 in
theorem mw_797 : Cond.instanceMethod yX6_lease ∈ lw_tbl := List.mem_append_right _ (List.mem_append_right _ (List.mem_append_right _ (List.mem_append_left _ (List.mem_of_getElem? (i := 212) rfl))))
set_option maxRecDepth 100000 in
theorem mw_798 : Cond.selects RX6 yX6_lease yX6_lease ∈ lw_tbl := List.mem_append_right _ (List.mem_append_right _ (List.mem_append_right _ (List.mem_append_left _ (List.mem_of_getElem? (i := 213) rfl))))
set_option maxRecDepth 100000 in
theorem glX6_lease : GoodIn lw_tbl (wsV RL 111 RX6 yX6_lease wsX6_lease) := goodIn_sub (List.forall_mem_append.mpr ⟨List.forall_mem_cons.mpr ⟨mw_796, List.forall_mem_cons.mpr ⟨mw_797, List.forall_mem_cons.mpr ⟨mw_798, List.forall_mem_cons.mpr ⟨mw_91, List.forall_mem_nil _⟩⟩⟩⟩, hmwsX6_lease⟩) (by decide +kernel)
set_option maxRecDepth 100000 in
theorem ckL_X6_lease : CkV lw_tbl RL 111 yX6_lease wsX6_lease cX6_lease 4 (some .int) 2 6 := ⟨RX6, TX6, 8, _, rfl, glX6_lease, rfl, hdX6_lease⟩
set_option maxRecDepth 100000 in
theorem mw_799 : Cond.code yX7_lease cX7_lease 3 (some .int) ∈ lw_tbl := List.mem_append_right _ (List.mem_append_right _ (List.mem_append_right _ (List.mem_append_right _ (List.mem_append_right _ (List.mem_of_getElem? (i := 130) rfl)))))
set_option maxRecDepth 100000 in
theorem hmwsX7_lease : ∀ w ∈ wsX7_lease, w ∈ lw_tbl := List.forall_mem_cons.mpr ⟨mw_799, List.forall_mem_append.mpr ⟨List.forall_mem_cons.mpr ⟨mw_103, List.forall_mem_cons.mpr ⟨mw_126, List.forall_mem_cons.mpr ⟨mw_125, List.forall_mem_cons.mpr ⟨mw_114, List.forall_mem_cons.mpr ⟨mw_124, List.forall_mem_nil _⟩⟩⟩⟩⟩, inX7⟩⟩
set_option maxRecDepth 100000 in
theorem mw_800 : Cond.methodLink RL 114 yX7_lease ∈ lw_tbl := List.mem_append_right _ (List.mem_append_right _ (List.mem_append_right _ (List.mem_append_right _ (List.mem_append_right _ (List.mem_of_getElem? (i := 127) rfl)))))
set_option maxRecDepth 100000 in
theorem mw_801 : Cond.instanceMethod yX7_lease ∈ lw_tbl := List.mem_append_right _ (List.mem_append_right _ (List.mem_append_right _ (List.mem_append_right _ (List.mem_append_right _ (List.mem_of_getElem? (i := 128) rfl)))))
set_option maxRecDepth 100000 in
theorem mw_802 : Cond.selects RX7 yX7_lease yX7_lease ∈ lw_tbl := List.mem_append_right _ (List.mem_append_right _ (List.mem_append_right _ (List.mem_append_right _ (List.mem_append_right _ (List.mem_of_getElem? (i := 129) rfl)))))
set_option maxRecDepth 100000 in
theorem glX7_lease : GoodIn lw_tbl (wsV RL 114 RX7 yX7_lease wsX7_lease) := goodIn_sub (List.forall_mem_append.mpr ⟨List.forall_mem_cons.mpr ⟨mw_800, List.forall_mem_cons.mpr ⟨mw_801, List.forall_mem_cons.mpr ⟨mw_802, List.forall_mem_cons.mpr ⟨mw_114, List.forall_mem_nil _⟩⟩⟩⟩, hmwsX7_lease⟩) (by decide +kernel)
set_option maxRecDepth 100000 in
theorem ckL_X7_lease : CkV lw_tbl RL 114 yX7_lease wsX7_lease cX7_lease 3 (some .int) 2 7 := ⟨RX7, TX7, 28, _, rfl, glX7_lease, rfl, hdX7_lease⟩
set_option maxRecDepth 100000 in
theorem mw_803 : Cond.code yX6_giveBack cX6_giveBack 6 (some .int) ∈ lw_tbl := List.mem_append_right _ (List.mem_append_right _ (List.mem_append_right _ (List.mem_append_left _ (List.mem_of_getElem? (i := 221) rfl))))
set_option maxRecDepth 100000 in
theorem hmwsX6_giveBack_r1 : ∀ w ∈ wsX6_giveBack_r1, w ∈ lw_tbl := List.forall_mem_cons.mpr ⟨mw_18, List.forall_mem_cons.mpr ⟨mw_148, List.forall_mem_cons.mpr ⟨mw_119, List.forall_mem_cons.mpr ⟨mw_153, List.forall_mem_cons.mpr ⟨mw_235, List.forall_mem_cons.mpr ⟨mw_234, List.forall_mem_cons.mpr ⟨mw_233, List.forall_mem_cons.mpr ⟨mw_40, List.forall_mem_cons.mpr ⟨mw_232, List.forall_mem_cons.mpr ⟨mw_62, List.forall_mem_cons.mpr ⟨mw_118, List.forall_mem_cons.mpr ⟨mw_117, List.forall_mem_cons.mpr ⟨mw_91, List.forall_mem_cons.mpr ⟨mw_116, List.forall_mem_cons.mpr ⟨mw_278, List.forall_mem_cons.mpr ⟨mw_277, List.forall_mem_cons.mpr ⟨mw_276, List.forall_mem_cons.mpr ⟨mw_275, List.forall_mem_cons.mpr ⟨mw_258, List.forall_mem_cons.mpr ⟨mw_290, List.forall_mem_cons.mpr ⟨mw_289, List.forall_mem_cons.mpr ⟨mw_288, List.forall_mem_cons.mpr ⟨mw_287, List.forall_mem_cons.mpr ⟨mw_131, List.forall_mem_nil _⟩⟩⟩⟩⟩⟩⟩⟩⟩⟩⟩⟩⟩⟩⟩⟩⟩⟩⟩⟩⟩⟩⟩⟩
set_option maxRecDepth 100000 in
theorem mw_804 : Cond.selects RX6 yX6_isUnderLease yX6_isUnderLease ∈ lw_tbl := List.mem_append_left _ (List.mem_map.mpr ⟨(⟨"EmptyBoxes", "isUnderLease", "(I)Z"⟩, 8), List.mem_append_right _ (List.mem_append_right _ (List.mem_append_left _ (List.mem_of_getElem? (i := 4) rfl))), rfl⟩)
set_option maxRecDepth 100000 in
theorem mw_805 : Cond.instanceMethod yX6_isUnderLease ∈ lw_tbl := List.mem_append_right _ (List.mem_append_right _ (List.mem_append_right _ (List.mem_append_left _ (List.mem_of_getElem? (i := 224) rfl))))
set_option maxRecDepth 100000 in
theorem mw_806 : Cond.methodLink RX6 273 yX6_isUnderLease ∈ lw_tbl := List.mem_append_right _ (List.mem_append_right _ (List.mem_append_right _ (List.mem_append_left _ (List.mem_of_getElem? (i := 222) rfl))))
set_option maxRecDepth 100000 in
theorem hmwsX6_giveBack_r2 : ∀ w ∈ wsX6_giveBack_r2, w ∈ lw_tbl := List.forall_mem_cons.mpr ⟨mw_168, List.forall_mem_cons.mpr ⟨mw_167, List.forall_mem_cons.mpr ⟨mw_166, List.forall_mem_cons.mpr ⟨mw_165, List.forall_mem_cons.mpr ⟨mw_164, List.forall_mem_cons.mpr ⟨mw_163, List.forall_mem_cons.mpr ⟨mw_162, List.forall_mem_cons.mpr ⟨mw_63, List.forall_mem_cons.mpr ⟨mw_65, List.forall_mem_cons.mpr ⟨mw_161, List.forall_mem_cons.mpr ⟨mw_160, List.forall_mem_cons.mpr ⟨mw_159, List.forall_mem_cons.mpr ⟨mw_158, List.forall_mem_cons.mpr ⟨mw_286, List.forall_mem_cons.mpr ⟨mw_285, List.forall_mem_cons.mpr ⟨mw_284, List.forall_mem_cons.mpr ⟨mw_283, List.forall_mem_cons.mpr ⟨mw_282, List.forall_mem_cons.mpr ⟨mw_293, List.forall_mem_cons.mpr ⟨mw_292, List.forall_mem_cons.mpr ⟨mw_291, List.forall_mem_cons.mpr ⟨mw_806, List.forall_mem_cons.mpr ⟨mw_805, List.forall_mem_cons.mpr ⟨mw_804, List.forall_mem_nil _⟩⟩⟩⟩⟩⟩⟩⟩⟩⟩⟩⟩⟩⟩⟩⟩⟩⟩⟩⟩⟩⟩⟩⟩
set_option maxRecDepth 100000 in
theorem mw_807 : Cond.methodLink RX6 285 Lib.Math.max.name ∈ lw_tbl := List.mem_append_right _ (List.mem_append_right _ (List.mem_append_right _ (List.mem_append_left _ (List.mem_of_getElem? (i := 234) rfl))))
set_option maxRecDepth 100000 in
theorem mw_808 : Cond.code yX6_dayBill cX6_dayBill 5 (some .int) ∈ lw_tbl := List.mem_append_right _ (List.mem_append_right _ (List.mem_append_right _ (List.mem_append_left _ (List.mem_of_getElem? (i := 233) rfl))))
set_option maxRecDepth 100000 in
theorem mw_809 : Cond.selects RX6 yX6_dayBill yX6_dayBill ∈ lw_tbl := List.mem_append_left _ (List.mem_map.mpr ⟨(⟨"EmptyBoxes", "dayBill", "(I)I"⟩, 8), List.mem_append_right _ (List.mem_append_right _ (List.mem_append_left _ (List.mem_of_getElem? (i := 6) rfl))), rfl⟩)
set_option maxRecDepth 100000 in
theorem mw_810 : Cond.instanceMethod yX6_dayBill ∈ lw_tbl := List.mem_append_right _ (List.mem_append_right _ (List.mem_append_right _ (List.mem_append_left _ (List.mem_of_getElem? (i := 232) rfl))))
set_option maxRecDepth 100000 in
theorem mw_811 : Cond.methodLink RX6 279 yX6_dayBill ∈ lw_tbl := List.mem_append_right _ (List.mem_append_right _ (List.mem_append_right _ (List.mem_append_left _ (List.mem_of_getElem? (i := 230) rfl))))
set_option maxRecDepth 100000 in
theorem mw_812 : Cond.code yX6_givenBackThisWeek cX6_givenBackThisWeek 5 (some .int) ∈ lw_tbl := List.mem_append_right _ (List.mem_append_right _ (List.mem_append_right _ (List.mem_append_left _ (List.mem_of_getElem? (i := 229) rfl))))
set_option maxRecDepth 100000 in
theorem mw_813 : Cond.selects RX6 yX6_givenBackThisWeek yX6_givenBackThisWeek ∈ lw_tbl := List.mem_append_left _ (List.mem_map.mpr ⟨(⟨"EmptyBoxes", "givenBackThisWeek", "(II)I"⟩, 8), List.mem_append_right _ (List.mem_append_right _ (List.mem_append_left _ (List.mem_of_getElem? (i := 5) rfl))), rfl⟩)
set_option maxRecDepth 100000 in
theorem mw_814 : Cond.instanceMethod yX6_givenBackThisWeek ∈ lw_tbl := List.mem_append_right _ (List.mem_append_right _ (List.mem_append_right _ (List.mem_append_left _ (List.mem_of_getElem? (i := 228) rfl))))
set_option maxRecDepth 100000 in
theorem mw_815 : Cond.methodLink RX6 276 yX6_givenBackThisWeek ∈ lw_tbl := List.mem_append_right _ (List.mem_append_right _ (List.mem_append_right _ (List.mem_append_left _ (List.mem_of_getElem? (i := 226) rfl))))
set_option maxRecDepth 100000 in
theorem mw_816 : Cond.code yX6_isUnderLease cX6_isUnderLease 2 (some .boolean) ∈ lw_tbl := List.mem_append_right _ (List.mem_append_right _ (List.mem_append_right _ (List.mem_append_left _ (List.mem_of_getElem? (i := 225) rfl))))
set_option maxRecDepth 100000 in
theorem hmwsX6_giveBack_r3 : ∀ w ∈ wsX6_giveBack_r3, w ∈ lw_tbl := List.forall_mem_cons.mpr ⟨mw_816, List.forall_mem_cons.mpr ⟨mw_250, List.forall_mem_cons.mpr ⟨mw_249, List.forall_mem_cons.mpr ⟨mw_248, List.forall_mem_cons.mpr ⟨mw_259, List.forall_mem_cons.mpr ⟨mw_253, List.forall_mem_cons.mpr ⟨mw_252, List.forall_mem_cons.mpr ⟨mw_251, List.forall_mem_cons.mpr ⟨mw_815, List.forall_mem_cons.mpr ⟨mw_814, List.forall_mem_cons.mpr ⟨mw_813, List.forall_mem_cons.mpr ⟨mw_812, List.forall_mem_cons.mpr ⟨mw_811, List.forall_mem_cons.mpr ⟨mw_810, List.forall_mem_cons.mpr ⟨mw_809, List.forall_mem_cons.mpr ⟨mw_808, List.forall_mem_cons.mpr ⟨mw_807, List.forall_mem_cons.mpr ⟨mw_69, List.forall_mem_cons.mpr ⟨mw_68, List.forall_mem_cons.mpr ⟨mw_67, List.forall_mem_cons.mpr ⟨mw_172, List.forall_mem_cons.mpr ⟨mw_171, List.forall_mem_cons.mpr ⟨mw_170, List.forall_mem_cons.mpr ⟨mw_169, List.forall_mem_nil _⟩⟩⟩⟩⟩⟩⟩⟩⟩⟩⟩⟩⟩⟩⟩⟩⟩⟩⟩⟩⟩⟩⟩⟩
set_option maxRecDepth 100000 in
theorem mw_817 : Cond.code yX6_endLease cX6_endLease 4 (some .int) ∈ lw_tbl := List.mem_append_right _ (List.mem_append_right _ (List.mem_append_right _ (List.mem_append_left _ (List.mem_of_getElem? (i := 238) rfl))))
set_option maxRecDepth 100000 in
theorem mw_818 : Cond.selects RX6 yX6_endLease yX6_endLease ∈ lw_tbl := List.mem_append_left _ (List.mem_map.mpr ⟨(⟨"EmptyBoxes", "endLease", "(III)I"⟩, 8), List.mem_append_right _ (List.mem_append_right _ (List.mem_append_left _ (List.mem_of_getElem? (i := 7) rfl))), rfl⟩)
set_option maxRecDepth 100000 in
theorem mw_819 : Cond.instanceMethod yX6_endLease ∈ lw_tbl := List.mem_append_right _ (List.mem_append_right _ (List.mem_append_right _ (List.mem_append_left _ (List.mem_of_getElem? (i := 237) rfl))))
set_option maxRecDepth 100000 in
theorem mw_820 : Cond.methodLink RX6 282 yX6_endLease ∈ lw_tbl := List.mem_append_right _ (List.mem_append_right _ (List.mem_append_right _ (List.mem_append_left _ (List.mem_of_getElem? (i := 235) rfl))))
set_option maxRecDepth 100000 in
theorem hmwsX6_giveBack_r4 : ∀ w ∈ wsX6_giveBack_r4, w ∈ lw_tbl := List.forall_mem_cons.mpr ⟨mw_820, List.forall_mem_cons.mpr ⟨mw_819, List.forall_mem_cons.mpr ⟨mw_818, List.forall_mem_cons.mpr ⟨mw_817, List.forall_mem_nil _⟩⟩⟩⟩
set_option maxRecDepth 100000 in
theorem hmwsX6_giveBack : ∀ w ∈ wsX6_giveBack, w ∈ lw_tbl := List.forall_mem_cons.mpr ⟨mw_803, List.forall_mem_append.mpr ⟨List.forall_mem_append.mpr ⟨List.forall_mem_append.mpr ⟨List.forall_mem_append.mpr ⟨hmwsX6_giveBack_r1, List.forall_mem_append.mpr ⟨hmwsX6_giveBack_r2, List.forall_mem_append.mpr ⟨hmwsX6_giveBack_r3, hmwsX6_giveBack_r4⟩⟩⟩, inX6⟩, inX0⟩, inX4⟩⟩
set_option maxRecDepth 100000 in
theorem mw_821 : Cond.methodLink RL 115 yX6_giveBack ∈ lw_tbl := List.mem_append_right _ (List.mem_append_right _ (List.mem_append_right _ (List.mem_append_left _ (List.mem_of_getElem? (i := 218) rfl))))
set_option maxRecDepth 100000 in
theorem mw_822 : Cond.instanceMethod yX6_giveBack ∈ lw_tbl := List.mem_append_right _ (List.mem_append_right _ (List.mem_append_right _ (List.mem_append_left _ (List.mem_of_getElem? (i := 219) rfl))))
set_option maxRecDepth 100000 in
theorem mw_823 : Cond.selects RX6 yX6_giveBack yX6_giveBack ∈ lw_tbl := List.mem_append_right _ (List.mem_append_right _ (List.mem_append_right _ (List.mem_append_left _ (List.mem_of_getElem? (i := 220) rfl))))
set_option maxRecDepth 100000 in
theorem glX6_giveBack : GoodIn lw_tbl (wsV RL 115 RX6 yX6_giveBack wsX6_giveBack) := goodIn_sub (List.forall_mem_append.mpr ⟨List.forall_mem_cons.mpr ⟨mw_821, List.forall_mem_cons.mpr ⟨mw_822, List.forall_mem_cons.mpr ⟨mw_823, List.forall_mem_cons.mpr ⟨mw_91, List.forall_mem_nil _⟩⟩⟩⟩, hmwsX6_giveBack⟩) (by decide +kernel)
set_option maxRecDepth 100000 in
theorem ckL_X6_giveBack : CkV lw_tbl RL 115 yX6_giveBack wsX6_giveBack cX6_giveBack 6 (some .int) 2 6 := ⟨RX6, TX6, 8, _, rfl, glX6_giveBack, rfl, hdX6_giveBack⟩
set_option maxRecDepth 100000 in
theorem mw_824 : Cond.code yX7_giveBack cX7_giveBack 9 (some .int) ∈ lw_tbl := List.mem_append_right _ (List.mem_append_right _ (List.mem_append_right _ (List.mem_append_right _ (List.mem_append_right _ (List.mem_of_getElem? (i := 134) rfl)))))
set_option maxRecDepth 100000 in
theorem hmwsX7_giveBack_r1 : ∀ w ∈ wsX7_giveBack_r1, w ∈ lw_tbl := List.forall_mem_cons.mpr ⟨mw_110, List.forall_mem_cons.mpr ⟨mw_103, List.forall_mem_cons.mpr ⟨mw_109, List.forall_mem_cons.mpr ⟨mw_243, List.forall_mem_cons.mpr ⟨mw_242, List.forall_mem_cons.mpr ⟨mw_241, List.forall_mem_cons.mpr ⟨mw_114, List.forall_mem_cons.mpr ⟨mw_240, List.forall_mem_cons.mpr ⟨mw_126, List.forall_mem_cons.mpr ⟨mw_125, List.forall_mem_cons.mpr ⟨mw_124, List.forall_mem_cons.mpr ⟨mw_304, List.forall_mem_cons.mpr ⟨mw_303, List.forall_mem_cons.mpr ⟨mw_302, List.forall_mem_cons.mpr ⟨mw_301, List.forall_mem_cons.mpr ⟨mw_108, List.forall_mem_cons.mpr ⟨mw_300, List.forall_mem_cons.mpr ⟨mw_299, List.forall_mem_cons.mpr ⟨mw_298, List.forall_mem_cons.mpr ⟨mw_308, List.forall_mem_cons.mpr ⟨mw_185, List.forall_mem_cons.mpr ⟨mw_184, List.forall_mem_cons.mpr ⟨mw_183, List.forall_mem_cons.mpr ⟨mw_182, List.forall_mem_nil _⟩⟩⟩⟩⟩⟩⟩⟩⟩⟩⟩⟩⟩⟩⟩⟩⟩⟩⟩⟩⟩⟩⟩⟩
set_option maxRecDepth 100000 in
theorem mw_825 : Cond.code yX7_ends cX7_ends 4 (some .int) ∈ lw_tbl := List.mem_append_right _ (List.mem_append_right _ (List.mem_append_right _ (List.mem_append_right _ (List.mem_append_right _ (List.mem_of_getElem? (i := 142) rfl)))))
set_option maxRecDepth 100000 in
theorem mw_826 : Cond.selects RX7 yX7_ends yX7_ends ∈ lw_tbl := List.mem_append_left _ (List.mem_map.mpr ⟨(⟨"EmptyBoxesModel", "ends", "(III)I"⟩, 28), List.mem_append_right _ (List.mem_append_right _ (List.mem_append_right _ (List.mem_append_right _ (List.mem_of_getElem? (i := 6) rfl)))), rfl⟩)
set_option maxRecDepth 100000 in
theorem mw_827 : Cond.instanceMethod yX7_ends ∈ lw_tbl := List.mem_append_right _ (List.mem_append_right _ (List.mem_append_right _ (List.mem_append_right _ (List.mem_append_right _ (List.mem_of_getElem? (i := 141) rfl)))))
set_option maxRecDepth 100000 in
theorem mw_828 : Cond.methodLink RX7 196 yX7_ends ∈ lw_tbl := List.mem_append_right _ (List.mem_append_right _ (List.mem_append_right _ (List.mem_append_right _ (List.mem_append_right _ (List.mem_of_getElem? (i := 139) rfl)))))
set_option maxRecDepth 100000 in
theorem mw_829 : Cond.code yX7_daysCost cX7_daysCost 4 (some .int) ∈ lw_tbl := List.mem_append_right _ (List.mem_append_right _ (List.mem_append_right _ (List.mem_append_right _ (List.mem_append_right _ (List.mem_of_getElem? (i := 138) rfl)))))
set_option maxRecDepth 100000 in
theorem mw_830 : Cond.selects RX7 yX7_daysCost yX7_daysCost ∈ lw_tbl := List.mem_append_left _ (List.mem_map.mpr ⟨(⟨"EmptyBoxesModel", "daysCost", "(I)I"⟩, 28), List.mem_append_right _ (List.mem_append_right _ (List.mem_append_right _ (List.mem_append_right _ (List.mem_of_getElem? (i := 5) rfl)))), rfl⟩)
set_option maxRecDepth 100000 in
theorem mw_831 : Cond.instanceMethod yX7_daysCost ∈ lw_tbl := List.mem_append_right _ (List.mem_append_right _ (List.mem_append_right _ (List.mem_append_right _ (List.mem_append_right _ (List.mem_of_getElem? (i := 137) rfl)))))
set_option maxRecDepth 100000 in
theorem mw_832 : Cond.methodLink RX7 193 yX7_daysCost ∈ lw_tbl := List.mem_append_right _ (List.mem_append_right _ (List.mem_append_right _ (List.mem_append_right _ (List.mem_append_right _ (List.mem_of_getElem? (i := 135) rfl)))))
set_option maxRecDepth 100000 in
theorem hmwsX7_giveBack_r2 : ∀ w ∈ wsX7_giveBack_r2, w ∈ lw_tbl := List.forall_mem_cons.mpr ⟨mw_266, List.forall_mem_cons.mpr ⟨mw_265, List.forall_mem_cons.mpr ⟨mw_264, List.forall_mem_cons.mpr ⟨mw_832, List.forall_mem_cons.mpr ⟨mw_831, List.forall_mem_cons.mpr ⟨mw_830, List.forall_mem_cons.mpr ⟨mw_829, List.forall_mem_cons.mpr ⟨mw_828, List.forall_mem_cons.mpr ⟨mw_827, List.forall_mem_cons.mpr ⟨mw_826, List.forall_mem_cons.mpr ⟨mw_825, List.forall_mem_nil _⟩⟩⟩⟩⟩⟩⟩⟩⟩⟩⟩
set_option maxRecDepth 100000 in
theorem hmwsX7_giveBack : ∀ w ∈ wsX7_giveBack, w ∈ lw_tbl := List.forall_mem_cons.mpr ⟨mw_824, List.forall_mem_append.mpr ⟨List.forall_mem_append.mpr ⟨hmwsX7_giveBack_r1, hmwsX7_giveBack_r2⟩, inX7⟩⟩
set_option maxRecDepth 100000 in
theorem mw_833 : Cond.methodLink RL 118 yX7_giveBack ∈ lw_tbl := List.mem_append_right _ (List.mem_append_right _ (List.mem_append_right _ (List.mem_append_right _ (List.mem_append_right _ (List.mem_of_getElem? (i := 131) rfl)))))
set_option maxRecDepth 100000 in
theorem mw_834 : Cond.instanceMethod yX7_giveBack ∈ lw_tbl := List.mem_append_right _ (List.mem_append_right _ (List.mem_append_right _ (List.mem_append_right _ (List.mem_append_right _ (List.mem_of_getElem? (i := 132) rfl)))))
set_option maxRecDepth 100000 in
theorem mw_835 : Cond.selects RX7 yX7_giveBack yX7_giveBack ∈ lw_tbl := List.mem_append_right _ (List.mem_append_right _ (List.mem_append_right _ (List.mem_append_right _ (List.mem_append_right _ (List.mem_of_getElem? (i := 133) rfl)))))
set_option maxRecDepth 100000 in
theorem glX7_giveBack : GoodIn lw_tbl (wsV RL 118 RX7 yX7_giveBack wsX7_giveBack) := goodIn_sub (List.forall_mem_append.mpr ⟨List.forall_mem_cons.mpr ⟨mw_833, List.forall_mem_cons.mpr ⟨mw_834, List.forall_mem_cons.mpr ⟨mw_835, List.forall_mem_cons.mpr ⟨mw_114, List.forall_mem_nil _⟩⟩⟩⟩, hmwsX7_giveBack⟩) (by decide +kernel)
set_option maxRecDepth 100000 in
theorem ckL_X7_giveBack : CkV lw_tbl RL 118 yX7_giveBack wsX7_giveBack cX7_giveBack 9 (some .int) 2 7 := ⟨RX7, TX7, 28, _, rfl, glX7_giveBack, rfl, hdX7_giveBack⟩
set_option maxRecDepth 100000 in
theorem mw_836 : Cond.code yX6_writeOff cX6_writeOff 4 (some .int) ∈ lw_tbl := List.mem_append_right _ (List.mem_append_right _ (List.mem_append_right _ (List.mem_append_right _ (List.mem_append_left _ (List.mem_of_getElem? (i := 2) rfl)))))
set_option maxRecDepth 100000 in
theorem hmwsX6_writeOff_r1 : ∀ w ∈ wsX6_writeOff_r1, w ∈ lw_tbl := List.forall_mem_cons.mpr ⟨mw_18, List.forall_mem_cons.mpr ⟨mw_148, List.forall_mem_cons.mpr ⟨mw_119, List.forall_mem_cons.mpr ⟨mw_153, List.forall_mem_cons.mpr ⟨mw_235, List.forall_mem_cons.mpr ⟨mw_234, List.forall_mem_cons.mpr ⟨mw_233, List.forall_mem_cons.mpr ⟨mw_40, List.forall_mem_cons.mpr ⟨mw_232, List.forall_mem_cons.mpr ⟨mw_62, List.forall_mem_cons.mpr ⟨mw_278, List.forall_mem_cons.mpr ⟨mw_277, List.forall_mem_cons.mpr ⟨mw_276, List.forall_mem_cons.mpr ⟨mw_91, List.forall_mem_cons.mpr ⟨mw_275, List.forall_mem_cons.mpr ⟨mw_258, List.forall_mem_cons.mpr ⟨mw_290, List.forall_mem_cons.mpr ⟨mw_289, List.forall_mem_cons.mpr ⟨mw_288, List.forall_mem_cons.mpr ⟨mw_287, List.forall_mem_cons.mpr ⟨mw_131, List.forall_mem_cons.mpr ⟨mw_168, List.forall_mem_cons.mpr ⟨mw_167, List.forall_mem_cons.mpr ⟨mw_166, List.forall_mem_nil _⟩⟩⟩⟩⟩⟩⟩⟩⟩⟩⟩⟩⟩⟩⟩⟩⟩⟩⟩⟩⟩⟩⟩⟩
set_option maxRecDepth 100000 in
theorem hmwsX6_writeOff_r2 : ∀ w ∈ wsX6_writeOff_r2, w ∈ lw_tbl := List.forall_mem_cons.mpr ⟨mw_165, List.forall_mem_cons.mpr ⟨mw_164, List.forall_mem_cons.mpr ⟨mw_163, List.forall_mem_cons.mpr ⟨mw_162, List.forall_mem_cons.mpr ⟨mw_63, List.forall_mem_cons.mpr ⟨mw_65, List.forall_mem_cons.mpr ⟨mw_161, List.forall_mem_cons.mpr ⟨mw_160, List.forall_mem_cons.mpr ⟨mw_159, List.forall_mem_cons.mpr ⟨mw_158, List.forall_mem_cons.mpr ⟨mw_286, List.forall_mem_cons.mpr ⟨mw_285, List.forall_mem_cons.mpr ⟨mw_284, List.forall_mem_cons.mpr ⟨mw_283, List.forall_mem_cons.mpr ⟨mw_282, List.forall_mem_cons.mpr ⟨mw_293, List.forall_mem_cons.mpr ⟨mw_292, List.forall_mem_cons.mpr ⟨mw_291, List.forall_mem_cons.mpr ⟨mw_806, List.forall_mem_cons.mpr ⟨mw_805, List.forall_mem_cons.mpr ⟨mw_804, List.forall_mem_cons.mpr ⟨mw_816, List.forall_mem_cons.mpr ⟨mw_250, List.forall_mem_cons.mpr ⟨mw_249, List.forall_mem_nil _⟩⟩⟩⟩⟩⟩⟩⟩⟩⟩⟩⟩⟩⟩⟩⟩⟩⟩⟩⟩⟩⟩⟩⟩
set_option maxRecDepth 100000 in
theorem hmwsX6_writeOff_r3 : ∀ w ∈ wsX6_writeOff_r3, w ∈ lw_tbl := List.forall_mem_cons.mpr ⟨mw_248, List.forall_mem_cons.mpr ⟨mw_259, List.forall_mem_cons.mpr ⟨mw_348, List.forall_mem_cons.mpr ⟨mw_347, List.forall_mem_cons.mpr ⟨mw_346, List.forall_mem_cons.mpr ⟨mw_345, List.forall_mem_cons.mpr ⟨mw_811, List.forall_mem_cons.mpr ⟨mw_810, List.forall_mem_cons.mpr ⟨mw_809, List.forall_mem_cons.mpr ⟨mw_808, List.forall_mem_cons.mpr ⟨mw_807, List.forall_mem_cons.mpr ⟨mw_69, List.forall_mem_cons.mpr ⟨mw_68, List.forall_mem_cons.mpr ⟨mw_67, List.forall_mem_cons.mpr ⟨mw_820, List.forall_mem_cons.mpr ⟨mw_819, List.forall_mem_cons.mpr ⟨mw_818, List.forall_mem_cons.mpr ⟨mw_817, List.forall_mem_cons.mpr ⟨mw_172, List.forall_mem_cons.mpr ⟨mw_171, List.forall_mem_cons.mpr ⟨mw_170, List.forall_mem_cons.mpr ⟨mw_169, List.forall_mem_nil _⟩⟩⟩⟩⟩⟩⟩⟩⟩⟩⟩⟩⟩⟩⟩⟩⟩⟩⟩⟩⟩⟩
set_option maxRecDepth 100000 in
theorem hmwsX6_writeOff : ∀ w ∈ wsX6_writeOff, w ∈ lw_tbl := List.forall_mem_cons.mpr ⟨mw_836, List.forall_mem_append.mpr ⟨List.forall_mem_append.mpr ⟨List.forall_mem_append.mpr ⟨List.forall_mem_append.mpr ⟨hmwsX6_writeOff_r1, List.forall_mem_append.mpr ⟨hmwsX6_writeOff_r2, hmwsX6_writeOff_r3⟩⟩, inX6⟩, inX0⟩, inX4⟩⟩
set_option maxRecDepth 100000 in
theorem mw_837 : Cond.methodLink RL 119 yX6_writeOff ∈ lw_tbl := List.mem_append_right _ (List.mem_append_right _ (List.mem_append_right _ (List.mem_append_left _ (List.mem_of_getElem? (i := 239) rfl))))
set_option maxRecDepth 100000 in
theorem mw_838 : Cond.instanceMethod yX6_writeOff ∈ lw_tbl := List.mem_append_right _ (List.mem_append_right _ (List.mem_append_right _ (List.mem_append_right _ (List.mem_append_left _ (List.mem_of_getElem? (i := 0) rfl)))))
set_option maxRecDepth 100000 in
theorem mw_839 : Cond.selects RX6 yX6_writeOff yX6_writeOff ∈ lw_tbl := List.mem_append_right _ (List.mem_append_right _ (List.mem_append_right _ (List.mem_append_right _ (List.mem_append_left _ (List.mem_of_getElem? (i := 1) rfl)))))
set_option maxRecDepth 100000 in
theorem glX6_writeOff : GoodIn lw_tbl (wsV RL 119 RX6 yX6_writeOff wsX6_writeOff) := goodIn_sub (List.forall_mem_append.mpr ⟨List.forall_mem_cons.mpr ⟨mw_837, List.forall_mem_cons.mpr ⟨mw_838, List.forall_mem_cons.mpr ⟨mw_839, List.forall_mem_cons.mpr ⟨mw_91, List.forall_mem_nil _⟩⟩⟩⟩, hmwsX6_writeOff⟩) (by decide +kernel)
set_option maxRecDepth 100000 in
theorem ckL_X6_writeOff : CkV lw_tbl RL 119 yX6_writeOff wsX6_writeOff cX6_writeOff 4 (some .int) 1 6 := ⟨RX6, TX6, 8, _, rfl, glX6_writeOff, rfl, hdX6_writeOff⟩
set_option maxRecDepth 100000 in
theorem mw_840 : Cond.code yX7_writeOff cX7_writeOff 4 (some .int) ∈ lw_tbl := List.mem_append_right _ (List.mem_append_right _ (List.mem_append_right _ (List.mem_append_right _ (List.mem_append_right _ (List.mem_of_getElem? (i := 146) rfl)))))
set_option maxRecDepth 100000 in
theorem hmwsX7_writeOff_r1 : ∀ w ∈ wsX7_writeOff_r1, w ∈ lw_tbl := List.forall_mem_cons.mpr ⟨mw_110, List.forall_mem_cons.mpr ⟨mw_103, List.forall_mem_cons.mpr ⟨mw_243, List.forall_mem_cons.mpr ⟨mw_242, List.forall_mem_cons.mpr ⟨mw_241, List.forall_mem_cons.mpr ⟨mw_114, List.forall_mem_cons.mpr ⟨mw_240, List.forall_mem_cons.mpr ⟨mw_126, List.forall_mem_cons.mpr ⟨mw_125, List.forall_mem_cons.mpr ⟨mw_124, List.forall_mem_cons.mpr ⟨mw_358, List.forall_mem_cons.mpr ⟨mw_357, List.forall_mem_cons.mpr ⟨mw_360, List.forall_mem_cons.mpr ⟨mw_359, List.forall_mem_cons.mpr ⟨mw_108, List.forall_mem_cons.mpr ⟨mw_300, List.forall_mem_cons.mpr ⟨mw_299, List.forall_mem_cons.mpr ⟨mw_298, List.forall_mem_cons.mpr ⟨mw_308, List.forall_mem_cons.mpr ⟨mw_185, List.forall_mem_cons.mpr ⟨mw_184, List.forall_mem_cons.mpr ⟨mw_183, List.forall_mem_cons.mpr ⟨mw_182, List.forall_mem_cons.mpr ⟨mw_109, List.forall_mem_nil _⟩⟩⟩⟩⟩⟩⟩⟩⟩⟩⟩⟩⟩⟩⟩⟩⟩⟩⟩⟩⟩⟩⟩⟩
set_option maxRecDepth 100000 in
theorem hmwsX7_writeOff_r2 : ∀ w ∈ wsX7_writeOff_r2, w ∈ lw_tbl := List.forall_mem_cons.mpr ⟨mw_832, List.forall_mem_cons.mpr ⟨mw_831, List.forall_mem_cons.mpr ⟨mw_830, List.forall_mem_cons.mpr ⟨mw_829, List.forall_mem_cons.mpr ⟨mw_828, List.forall_mem_cons.mpr ⟨mw_827, List.forall_mem_cons.mpr ⟨mw_826, List.forall_mem_cons.mpr ⟨mw_825, List.forall_mem_nil _⟩⟩⟩⟩⟩⟩⟩⟩
set_option maxRecDepth 100000 in
theorem hmwsX7_writeOff : ∀ w ∈ wsX7_writeOff, w ∈ lw_tbl := List.forall_mem_cons.mpr ⟨mw_840, List.forall_mem_append.mpr ⟨List.forall_mem_append.mpr ⟨hmwsX7_writeOff_r1, hmwsX7_writeOff_r2⟩, inX7⟩⟩
set_option maxRecDepth 100000 in
theorem mw_841 : Cond.methodLink RL 122 yX7_writeOff ∈ lw_tbl := List.mem_append_right _ (List.mem_append_right _ (List.mem_append_right _ (List.mem_append_right _ (List.mem_append_right _ (List.mem_of_getElem? (i := 143) rfl)))))
set_option maxRecDepth 100000 in
theorem mw_842 : Cond.instanceMethod yX7_writeOff ∈ lw_tbl := List.mem_append_right _ (List.mem_append_right _ (List.mem_append_right _ (List.mem_append_right _ (List.mem_append_right _ (List.mem_of_getElem? (i := 144) rfl)))))
set_option maxRecDepth 100000 in
theorem mw_843 : Cond.selects RX7 yX7_writeOff yX7_writeOff ∈ lw_tbl := List.mem_append_right _ (List.mem_append_right _ (List.mem_append_right _ (List.mem_append_right _ (List.mem_append_right _ (List.mem_of_getElem? (i := 145) rfl)))))
set_option maxRecDepth 100000 in
theorem glX7_writeOff : GoodIn lw_tbl (wsV RL 122 RX7 yX7_writeOff wsX7_writeOff) := goodIn_sub (List.forall_mem_append.mpr ⟨List.forall_mem_cons.mpr ⟨mw_841, List.forall_mem_cons.mpr ⟨mw_842, List.forall_mem_cons.mpr ⟨mw_843, List.forall_mem_cons.mpr ⟨mw_114, List.forall_mem_nil _⟩⟩⟩⟩, hmwsX7_writeOff⟩) (by decide +kernel)
set_option maxRecDepth 100000 in
theorem ckL_X7_writeOff : CkV lw_tbl RL 122 yX7_writeOff wsX7_writeOff cX7_writeOff 4 (some .int) 1 7 := ⟨RX7, TX7, 28, _, rfl, glX7_writeOff, rfl, hdX7_writeOff⟩
set_option maxRecDepth 100000 in
theorem mw_844 : Cond.code yX6_rate cX6_rate 4 (some .int) ∈ lw_tbl := List.mem_append_right _ (List.mem_append_right _ (List.mem_append_right _ (List.mem_append_right _ (List.mem_append_left _ (List.mem_of_getElem? (i := 6) rfl)))))
set_option maxRecDepth 100000 in
theorem mw_845 : Cond.fieldLink RX6 291 "EmptyBoxes$Desk" "freeDays" "I" ∈ lw_tbl := List.mem_append_right _ (List.mem_append_left _ (List.mem_of_getElem? (i := 84) rfl))
set_option maxRecDepth 100000 in
theorem mw_846 : Cond.fieldLink RX6 288 "EmptyBoxes$Desk" "dayRate" "I" ∈ lw_tbl := List.mem_append_right _ (List.mem_append_left _ (List.mem_of_getElem? (i := 82) rfl))
set_option maxRecDepth 100000 in
theorem hmwsX6_rate : ∀ w ∈ wsX6_rate, w ∈ lw_tbl := List.forall_mem_cons.mpr ⟨mw_844, List.forall_mem_append.mpr ⟨List.forall_mem_append.mpr ⟨List.forall_mem_cons.mpr ⟨mw_18, List.forall_mem_cons.mpr ⟨mw_846, List.forall_mem_cons.mpr ⟨mw_845, List.forall_mem_cons.mpr ⟨mw_118, List.forall_mem_cons.mpr ⟨mw_117, List.forall_mem_cons.mpr ⟨mw_91, List.forall_mem_cons.mpr ⟨mw_116, List.forall_mem_nil _⟩⟩⟩⟩⟩⟩⟩, inX6⟩, inX0⟩⟩
set_option maxRecDepth 100000 in
theorem mw_847 : Cond.methodLink RL 123 yX6_rate ∈ lw_tbl := List.mem_append_right _ (List.mem_append_right _ (List.mem_append_right _ (List.mem_append_right _ (List.mem_append_left _ (List.mem_of_getElem? (i := 3) rfl)))))
set_option maxRecDepth 100000 in
theorem mw_848 : Cond.instanceMethod yX6_rate ∈ lw_tbl := List.mem_append_right _ (List.mem_append_right _ (List.mem_append_right _ (List.mem_append_right _ (List.mem_append_left _ (List.mem_of_getElem? (i := 4) rfl)))))
set_option maxRecDepth 100000 in
theorem mw_849 : Cond.selects RX6 yX6_rate yX6_rate ∈ lw_tbl := List.mem_append_right _ (List.mem_append_right _ (List.mem_append_right _ (List.mem_append_right _ (List.mem_append_left _ (List.mem_of_getElem? (i := 5) rfl)))))
set_option maxRecDepth 100000 in
theorem glX6_rate : GoodIn lw_tbl (wsV RL 123 RX6 yX6_rate wsX6_rate) := goodIn_sub (List.forall_mem_append.mpr ⟨List.forall_mem_cons.mpr ⟨mw_847, List.forall_mem_cons.mpr ⟨mw_848, List.forall_mem_cons.mpr ⟨mw_849, List.forall_mem_cons.mpr ⟨mw_91, List.forall_mem_nil _⟩⟩⟩⟩, hmwsX6_rate⟩) (by decide +kernel)
set_option maxRecDepth 100000 in
theorem ckL_X6_rate : CkV lw_tbl RL 123 yX6_rate wsX6_rate cX6_rate 4 (some .int) 2 6 := ⟨RX6, TX6, 8, _, rfl, glX6_rate, rfl, hdX6_rate⟩
set_option maxRecDepth 100000 in
theorem mw_850 : Cond.code yX7_rate cX7_rate 4 (some .int) ∈ lw_tbl := List.mem_append_right _ (List.mem_append_right _ (List.mem_append_right _ (List.mem_append_right _ (List.mem_append_right _ (List.mem_of_getElem? (i := 150) rfl)))))
set_option maxRecDepth 100000 in
theorem hmwsX7_rate : ∀ w ∈ wsX7_rate, w ∈ lw_tbl := List.forall_mem_cons.mpr ⟨mw_850, List.forall_mem_append.mpr ⟨List.forall_mem_cons.mpr ⟨mw_110, List.forall_mem_cons.mpr ⟨mw_126, List.forall_mem_cons.mpr ⟨mw_125, List.forall_mem_cons.mpr ⟨mw_114, List.forall_mem_cons.mpr ⟨mw_124, List.forall_mem_nil _⟩⟩⟩⟩⟩, inX7⟩⟩
set_option maxRecDepth 100000 in
theorem mw_851 : Cond.methodLink RL 126 yX7_rate ∈ lw_tbl := List.mem_append_right _ (List.mem_append_right _ (List.mem_append_right _ (List.mem_append_right _ (List.mem_append_right _ (List.mem_of_getElem? (i := 147) rfl)))))
set_option maxRecDepth 100000 in
theorem mw_852 : Cond.instanceMethod yX7_rate ∈ lw_tbl := List.mem_append_right _ (List.mem_append_right _ (List.mem_append_right _ (List.mem_append_right _ (List.mem_append_right _ (List.mem_of_getElem? (i := 148) rfl)))))
set_option maxRecDepth 100000 in
theorem mw_853 : Cond.selects RX7 yX7_rate yX7_rate ∈ lw_tbl := List.mem_append_right _ (List.mem_append_right _ (List.mem_append_right _ (List.mem_append_right _ (List.mem_append_right _ (List.mem_of_getElem? (i := 149) rfl)))))
set_option maxRecDepth 100000 in
theorem glX7_rate : GoodIn lw_tbl (wsV RL 126 RX7 yX7_rate wsX7_rate) := goodIn_sub (List.forall_mem_append.mpr ⟨List.forall_mem_cons.mpr ⟨mw_851, List.forall_mem_cons.mpr ⟨mw_852, List.forall_mem_cons.mpr ⟨mw_853, List.forall_mem_cons.mpr ⟨mw_114, List.forall_mem_nil _⟩⟩⟩⟩, hmwsX7_rate⟩) (by decide +kernel)
set_option maxRecDepth 100000 in
theorem ckL_X7_rate : CkV lw_tbl RL 126 yX7_rate wsX7_rate cX7_rate 4 (some .int) 2 7 := ⟨RX7, TX7, 28, _, rfl, glX7_rate, rfl, hdX7_rate⟩
set_option maxRecDepth 100000 in
theorem mw_854 : Cond.code yX6_use cX6_use 6 (some .int) ∈ lw_tbl := List.mem_append_right _ (List.mem_append_right _ (List.mem_append_right _ (List.mem_append_right _ (List.mem_append_left _ (List.mem_of_getElem? (i := 10) rfl)))))
set_option maxRecDepth 100000 in
theorem mw_855 : Cond.fieldLink RX6 294 "EmptyBoxes$Desk" "uses" "LEmptyBoxes$Table;" ∈ lw_tbl := List.mem_append_right _ (List.mem_append_left _ (List.mem_of_getElem? (i := 75) rfl))
set_option maxRecDepth 100000 in
theorem hmwsX6_use_r1 : ∀ w ∈ wsX6_use_r1, w ∈ lw_tbl := List.forall_mem_cons.mpr ⟨mw_18, List.forall_mem_cons.mpr ⟨mw_148, List.forall_mem_cons.mpr ⟨mw_855, List.forall_mem_cons.mpr ⟨mw_119, List.forall_mem_cons.mpr ⟨mw_235, List.forall_mem_cons.mpr ⟨mw_234, List.forall_mem_cons.mpr ⟨mw_233, List.forall_mem_cons.mpr ⟨mw_40, List.forall_mem_cons.mpr ⟨mw_232, List.forall_mem_cons.mpr ⟨mw_62, List.forall_mem_cons.mpr ⟨mw_141, List.forall_mem_cons.mpr ⟨mw_140, List.forall_mem_cons.mpr ⟨mw_91, List.forall_mem_cons.mpr ⟨mw_139, List.forall_mem_cons.mpr ⟨mw_118, List.forall_mem_cons.mpr ⟨mw_117, List.forall_mem_cons.mpr ⟨mw_116, List.forall_mem_cons.mpr ⟨mw_257, List.forall_mem_cons.mpr ⟨mw_256, List.forall_mem_cons.mpr ⟨mw_255, List.forall_mem_cons.mpr ⟨mw_254, List.forall_mem_cons.mpr ⟨mw_165, List.forall_mem_cons.mpr ⟨mw_164, List.forall_mem_cons.mpr ⟨mw_163, List.forall_mem_nil _⟩⟩⟩⟩⟩⟩⟩⟩⟩⟩⟩⟩⟩⟩⟩⟩⟩⟩⟩⟩⟩⟩⟩⟩
set_option maxRecDepth 100000 in
theorem hmwsX6_use_r2 : ∀ w ∈ wsX6_use_r2, w ∈ lw_tbl := List.forall_mem_cons.mpr ⟨mw_162, List.forall_mem_cons.mpr ⟨mw_63, List.forall_mem_cons.mpr ⟨mw_65, List.forall_mem_cons.mpr ⟨mw_161, List.forall_mem_cons.mpr ⟨mw_160, List.forall_mem_cons.mpr ⟨mw_159, List.forall_mem_cons.mpr ⟨mw_158, List.forall_mem_cons.mpr ⟨mw_152, List.forall_mem_cons.mpr ⟨mw_151, List.forall_mem_cons.mpr ⟨mw_150, List.forall_mem_cons.mpr ⟨mw_149, List.forall_mem_cons.mpr ⟨mw_66, List.forall_mem_cons.mpr ⟨mw_177, List.forall_mem_cons.mpr ⟨mw_176, List.forall_mem_cons.mpr ⟨mw_175, List.forall_mem_cons.mpr ⟨mw_174, List.forall_mem_cons.mpr ⟨mw_173, List.forall_mem_cons.mpr ⟨mw_172, List.forall_mem_cons.mpr ⟨mw_171, List.forall_mem_cons.mpr ⟨mw_170, List.forall_mem_cons.mpr ⟨mw_169, List.forall_mem_nil _⟩⟩⟩⟩⟩⟩⟩⟩⟩⟩⟩⟩⟩⟩⟩⟩⟩⟩⟩⟩⟩
set_option maxRecDepth 100000 in
theorem hmwsX6_use : ∀ w ∈ wsX6_use, w ∈ lw_tbl := List.forall_mem_cons.mpr ⟨mw_854, List.forall_mem_append.mpr ⟨List.forall_mem_append.mpr ⟨List.forall_mem_append.mpr ⟨List.forall_mem_append.mpr ⟨hmwsX6_use_r1, hmwsX6_use_r2⟩, inX6⟩, inX0⟩, inX4⟩⟩
set_option maxRecDepth 100000 in
theorem mw_856 : Cond.methodLink RL 127 yX6_use ∈ lw_tbl := List.mem_append_right _ (List.mem_append_right _ (List.mem_append_right _ (List.mem_append_right _ (List.mem_append_left _ (List.mem_of_getElem? (i := 7) rfl)))))
set_option maxRecDepth 100000 in
theorem mw_857 : Cond.instanceMethod yX6_use ∈ lw_tbl := List.mem_append_right _ (List.mem_append_right _ (List.mem_append_right _ (List.mem_append_right _ (List.mem_append_left _ (List.mem_of_getElem? (i := 8) rfl)))))
set_option maxRecDepth 100000 in
theorem mw_858 : Cond.selects RX6 yX6_use yX6_use ∈ lw_tbl := List.mem_append_right _ (List.mem_append_right _ (List.mem_append_right _ (List.mem_append_right _ (List.mem_append_left _ (List.mem_of_getElem? (i := 9) rfl)))))
set_option maxRecDepth 100000 in
theorem glX6_use : GoodIn lw_tbl (wsV RL 127 RX6 yX6_use wsX6_use) := goodIn_sub (List.forall_mem_append.mpr ⟨List.forall_mem_cons.mpr ⟨mw_856, List.forall_mem_cons.mpr ⟨mw_857, List.forall_mem_cons.mpr ⟨mw_858, List.forall_mem_cons.mpr ⟨mw_91, List.forall_mem_nil _⟩⟩⟩⟩, hmwsX6_use⟩) (by decide +kernel)
set_option maxRecDepth 100000 in
theorem ckL_X6_use : CkV lw_tbl RL 127 yX6_use wsX6_use cX6_use 6 (some .int) 4 6 := ⟨RX6, TX6, 8, _, rfl, glX6_use, rfl, hdX6_use⟩
set_option maxRecDepth 100000 in
theorem mw_859 : Cond.code yX7_use cX7_use 6 (some .int) ∈ lw_tbl := List.mem_append_right _ (List.mem_append_right _ (List.mem_append_right _ (List.mem_append_right _ (List.mem_append_right _ (List.mem_of_getElem? (i := 154) rfl)))))
set_option maxRecDepth 100000 in
theorem hmwsX7_use : ∀ w ∈ wsX7_use, w ∈ lw_tbl := List.forall_mem_cons.mpr ⟨mw_859, List.forall_mem_append.mpr ⟨List.forall_mem_cons.mpr ⟨mw_110, List.forall_mem_cons.mpr ⟨mw_102, List.forall_mem_cons.mpr ⟨mw_243, List.forall_mem_cons.mpr ⟨mw_242, List.forall_mem_cons.mpr ⟨mw_241, List.forall_mem_cons.mpr ⟨mw_114, List.forall_mem_cons.mpr ⟨mw_240, List.forall_mem_cons.mpr ⟨mw_126, List.forall_mem_cons.mpr ⟨mw_125, List.forall_mem_cons.mpr ⟨mw_124, List.forall_mem_cons.mpr ⟨mw_192, List.forall_mem_cons.mpr ⟨mw_191, List.forall_mem_cons.mpr ⟨mw_190, List.forall_mem_cons.mpr ⟨mw_270, List.forall_mem_cons.mpr ⟨mw_269, List.forall_mem_cons.mpr ⟨mw_268, List.forall_mem_cons.mpr ⟨mw_267, List.forall_mem_cons.mpr ⟨mw_185, List.forall_mem_cons.mpr ⟨mw_184, List.forall_mem_cons.mpr ⟨mw_183, List.forall_mem_cons.mpr ⟨mw_182, List.forall_mem_cons.mpr ⟨mw_109, List.forall_mem_nil _⟩⟩⟩⟩⟩⟩⟩⟩⟩⟩⟩⟩⟩⟩⟩⟩⟩⟩⟩⟩⟩⟩, inX7⟩⟩
set_option maxRecDepth 100000 in
theorem mw_860 : Cond.methodLink RL 130 yX7_use ∈ lw_tbl := List.mem_append_right _ (List.mem_append_right _ (List.mem_append_right _ (List.mem_append_right _ (List.mem_append_right _ (List.mem_of_getElem? (i := 151) rfl)))))
set_option maxRecDepth 100000 in
theorem mw_861 : Cond.instanceMethod yX7_use ∈ lw_tbl := List.mem_append_right _ (List.mem_append_right _ (List.mem_append_right _ (List.mem_append_right _ (List.mem_append_right _ (List.mem_of_getElem? (i := 152) rfl)))))
set_option maxRecDepth 100000 in
theorem mw_862 : Cond.selects RX7 yX7_use yX7_use ∈ lw_tbl := List.mem_append_right _ (List.mem_append_right _ (List.mem_append_right _ (List.mem_append_right _ (List.mem_append_right _ (List.mem_of_getElem? (i := 153) rfl)))))
set_option maxRecDepth 100000 in
theorem glX7_use : GoodIn lw_tbl (wsV RL 130 RX7 yX7_use wsX7_use) := goodIn_sub (List.forall_mem_append.mpr ⟨List.forall_mem_cons.mpr ⟨mw_860, List.forall_mem_cons.mpr ⟨mw_861, List.forall_mem_cons.mpr ⟨mw_862, List.forall_mem_cons.mpr ⟨mw_114, List.forall_mem_nil _⟩⟩⟩⟩, hmwsX7_use⟩) (by decide +kernel)
set_option maxRecDepth 100000 in
theorem ckL_X7_use : CkV lw_tbl RL 130 yX7_use wsX7_use cX7_use 6 (some .int) 4 7 := ⟨RX7, TX7, 28, _, rfl, glX7_use, rfl, hdX7_use⟩
set_option maxRecDepth 100000 in
theorem mw_863 : Cond.code yX6_strike cX6_strike 2 (some .int) ∈ lw_tbl := List.mem_append_right _ (List.mem_append_right _ (List.mem_append_right _ (List.mem_append_right _ (List.mem_append_left _ (List.mem_of_getElem? (i := 14) rfl)))))
set_option maxRecDepth 100000 in
theorem mw_864 : Cond.methodLink RX6 297 yX6_useWorth ∈ lw_tbl := List.mem_append_right _ (List.mem_append_right _ (List.mem_append_right _ (List.mem_append_right _ (List.mem_append_left _ (List.mem_of_getElem? (i := 15) rfl)))))
set_option maxRecDepth 100000 in
theorem hmwsX6_strike_r1 : ∀ w ∈ wsX6_strike_r1, w ∈ lw_tbl := List.forall_mem_cons.mpr ⟨mw_18, List.forall_mem_cons.mpr ⟨mw_855, List.forall_mem_cons.mpr ⟨mw_119, List.forall_mem_cons.mpr ⟨mw_235, List.forall_mem_cons.mpr ⟨mw_234, List.forall_mem_cons.mpr ⟨mw_233, List.forall_mem_cons.mpr ⟨mw_40, List.forall_mem_cons.mpr ⟨mw_232, List.forall_mem_cons.mpr ⟨mw_62, List.forall_mem_cons.mpr ⟨mw_165, List.forall_mem_cons.mpr ⟨mw_164, List.forall_mem_cons.mpr ⟨mw_163, List.forall_mem_cons.mpr ⟨mw_162, List.forall_mem_cons.mpr ⟨mw_63, List.forall_mem_cons.mpr ⟨mw_65, List.forall_mem_cons.mpr ⟨mw_161, List.forall_mem_cons.mpr ⟨mw_160, List.forall_mem_cons.mpr ⟨mw_159, List.forall_mem_cons.mpr ⟨mw_158, List.forall_mem_cons.mpr ⟨mw_172, List.forall_mem_cons.mpr ⟨mw_171, List.forall_mem_cons.mpr ⟨mw_170, List.forall_mem_cons.mpr ⟨mw_169, List.forall_mem_cons.mpr ⟨mw_864, List.forall_mem_nil _⟩⟩⟩⟩⟩⟩⟩⟩⟩⟩⟩⟩⟩⟩⟩⟩⟩⟩⟩⟩⟩⟩⟩⟩
set_option maxRecDepth 100000 in
theorem mw_865 : Cond.code yX6_useWorth cX6_useWorth 3 (some .int) ∈ lw_tbl := List.mem_append_right _ (List.mem_append_right _ (List.mem_append_right _ (List.mem_append_right _ (List.mem_append_left _ (List.mem_of_getElem? (i := 18) rfl)))))
set_option maxRecDepth 100000 in
theorem mw_866 : Cond.selects RX6 yX6_useWorth yX6_useWorth ∈ lw_tbl := List.mem_append_left _ (List.mem_map.mpr ⟨(⟨"EmptyBoxes", "useWorth", "(I)I"⟩, 8), List.mem_append_right _ (List.mem_append_right _ (List.mem_append_left _ (List.mem_of_getElem? (i := 8) rfl))), rfl⟩)
set_option maxRecDepth 100000 in
theorem mw_867 : Cond.instanceMethod yX6_useWorth ∈ lw_tbl := List.mem_append_right _ (List.mem_append_right _ (List.mem_append_right _ (List.mem_append_right _ (List.mem_append_left _ (List.mem_of_getElem? (i := 17) rfl)))))
set_option maxRecDepth 100000 in
theorem hmwsX6_strike_r2 : ∀ w ∈ wsX6_strike_r2, w ∈ lw_tbl := List.forall_mem_cons.mpr ⟨mw_867, List.forall_mem_cons.mpr ⟨mw_866, List.forall_mem_cons.mpr ⟨mw_91, List.forall_mem_cons.mpr ⟨mw_865, List.forall_mem_cons.mpr ⟨mw_845, List.forall_mem_cons.mpr ⟨mw_807, List.forall_mem_cons.mpr ⟨mw_69, List.forall_mem_cons.mpr ⟨mw_68, List.forall_mem_cons.mpr ⟨mw_67, List.forall_mem_cons.mpr ⟨mw_846, List.forall_mem_nil _⟩⟩⟩⟩⟩⟩⟩⟩⟩⟩
set_option maxRecDepth 100000 in
theorem hmwsX6_strike : ∀ w ∈ wsX6_strike, w ∈ lw_tbl := List.forall_mem_cons.mpr ⟨mw_863, List.forall_mem_append.mpr ⟨List.forall_mem_append.mpr ⟨List.forall_mem_append.mpr ⟨List.forall_mem_append.mpr ⟨hmwsX6_strike_r1, hmwsX6_strike_r2⟩, inX6⟩, inX0⟩, inX4⟩⟩
set_option maxRecDepth 100000 in
theorem mw_868 : Cond.methodLink RL 131 yX6_strike ∈ lw_tbl := List.mem_append_right _ (List.mem_append_right _ (List.mem_append_right _ (List.mem_append_right _ (List.mem_append_left _ (List.mem_of_getElem? (i := 11) rfl)))))
set_option maxRecDepth 100000 in
theorem mw_869 : Cond.instanceMethod yX6_strike ∈ lw_tbl := List.mem_append_right _ (List.mem_append_right _ (List.mem_append_right _ (List.mem_append_right _ (List.mem_append_left _ (List.mem_of_getElem? (i := 12) rfl)))))
set_option maxRecDepth 100000 in
theorem mw_870 : Cond.selects RX6 yX6_strike yX6_strike ∈ lw_tbl := List.mem_append_right _ (List.mem_append_right _ (List.mem_append_right _ (List.mem_append_right _ (List.mem_append_left _ (List.mem_of_getElem? (i := 13) rfl)))))
set_option maxRecDepth 100000 in
theorem glX6_strike : GoodIn lw_tbl (wsV RL 131 RX6 yX6_strike wsX6_strike) := goodIn_sub (List.forall_mem_append.mpr ⟨List.forall_mem_cons.mpr ⟨mw_868, List.forall_mem_cons.mpr ⟨mw_869, List.forall_mem_cons.mpr ⟨mw_870, List.forall_mem_cons.mpr ⟨mw_91, List.forall_mem_nil _⟩⟩⟩⟩, hmwsX6_strike⟩) (by decide +kernel)
set_option maxRecDepth 100000 in
theorem ckL_X6_strike : CkV lw_tbl RL 131 yX6_strike wsX6_strike cX6_strike 2 (some .int) 1 6 := ⟨RX6, TX6, 8, _, rfl, glX6_strike, rfl, hdX6_strike⟩
set_option maxRecDepth 100000 in
theorem mw_871 : Cond.code yX7_strike cX7_strike 2 (some .int) ∈ lw_tbl := List.mem_append_right _ (List.mem_append_right _ (List.mem_append_right _ (List.mem_append_right _ (List.mem_append_right _ (List.mem_of_getElem? (i := 158) rfl)))))
set_option maxRecDepth 100000 in
theorem mw_872 : Cond.code yX7_worthOf cX7_worthOf 3 (some .int) ∈ lw_tbl := List.mem_append_right _ (List.mem_append_right _ (List.mem_append_right _ (List.mem_append_right _ (List.mem_append_right _ (List.mem_of_getElem? (i := 162) rfl)))))
set_option maxRecDepth 100000 in
theorem mw_873 : Cond.selects RX7 yX7_worthOf yX7_worthOf ∈ lw_tbl := List.mem_append_left _ (List.mem_map.mpr ⟨(⟨"EmptyBoxesModel", "worthOf", "(I)I"⟩, 28), List.mem_append_right _ (List.mem_append_right _ (List.mem_append_right _ (List.mem_append_right _ (List.mem_of_getElem? (i := 7) rfl)))), rfl⟩)
set_option maxRecDepth 100000 in
theorem mw_874 : Cond.instanceMethod yX7_worthOf ∈ lw_tbl := List.mem_append_right _ (List.mem_append_right _ (List.mem_append_right _ (List.mem_append_right _ (List.mem_append_right _ (List.mem_of_getElem? (i := 161) rfl)))))
set_option maxRecDepth 100000 in
theorem mw_875 : Cond.methodLink RX7 199 yX7_worthOf ∈ lw_tbl := List.mem_append_right _ (List.mem_append_right _ (List.mem_append_right _ (List.mem_append_right _ (List.mem_append_right _ (List.mem_of_getElem? (i := 159) rfl)))))
set_option maxRecDepth 100000 in
theorem hmwsX7_strike : ∀ w ∈ wsX7_strike, w ∈ lw_tbl := List.forall_mem_cons.mpr ⟨mw_871, List.forall_mem_append.mpr ⟨List.forall_mem_cons.mpr ⟨mw_110, List.forall_mem_cons.mpr ⟨mw_102, List.forall_mem_cons.mpr ⟨mw_126, List.forall_mem_cons.mpr ⟨mw_125, List.forall_mem_cons.mpr ⟨mw_114, List.forall_mem_cons.mpr ⟨mw_124, List.forall_mem_cons.mpr ⟨mw_875, List.forall_mem_cons.mpr ⟨mw_874, List.forall_mem_cons.mpr ⟨mw_873, List.forall_mem_cons.mpr ⟨mw_872, List.forall_mem_nil _⟩⟩⟩⟩⟩⟩⟩⟩⟩⟩, inX7⟩⟩
set_option maxRecDepth 100000 in
theorem mw_876 : Cond.methodLink RL 134 yX7_strike ∈ lw_tbl := List.mem_append_right _ (List.mem_append_right _ (List.mem_append_right _ (List.mem_append_right _ (List.mem_append_right _ (List.mem_of_getElem? (i := 155) rfl)))))
set_option maxRecDepth 100000 in
theorem mw_877 : Cond.instanceMethod yX7_strike ∈ lw_tbl := List.mem_append_right _ (List.mem_append_right _ (List.mem_append_right _ (List.mem_append_right _ (List.mem_append_right _ (List.mem_of_getElem? (i := 156) rfl)))))
set_option maxRecDepth 100000 in
theorem mw_878 : Cond.selects RX7 yX7_strike yX7_strike ∈ lw_tbl := List.mem_append_right _ (List.mem_append_right _ (List.mem_append_right _ (List.mem_append_right _ (List.mem_append_right _ (List.mem_of_getElem? (i := 157) rfl)))))
set_option maxRecDepth 100000 in
theorem glX7_strike : GoodIn lw_tbl (wsV RL 134 RX7 yX7_strike wsX7_strike) := goodIn_sub (List.forall_mem_append.mpr ⟨List.forall_mem_cons.mpr ⟨mw_876, List.forall_mem_cons.mpr ⟨mw_877, List.forall_mem_cons.mpr ⟨mw_878, List.forall_mem_cons.mpr ⟨mw_114, List.forall_mem_nil _⟩⟩⟩⟩, hmwsX7_strike⟩) (by decide +kernel)
set_option maxRecDepth 100000 in
theorem ckL_X7_strike : CkV lw_tbl RL 134 yX7_strike wsX7_strike cX7_strike 2 (some .int) 1 7 := ⟨RX7, TX7, 28, _, rfl, glX7_strike, rfl, hdX7_strike⟩
set_option maxRecDepth 100000 in
theorem mw_879 : Cond.code yX6_net cX6_net 5 (some .int) ∈ lw_tbl := List.mem_append_right _ (List.mem_append_right _ (List.mem_append_right _ (List.mem_append_right _ (List.mem_append_left _ (List.mem_of_getElem? (i := 22) rfl)))))
set_option maxRecDepth 100000 in
theorem mw_880 : Cond.code yX6_debt cX6_debt 7 (some .int) ∈ lw_tbl := List.mem_append_right _ (List.mem_append_right _ (List.mem_append_right _ (List.mem_append_right _ (List.mem_append_left _ (List.mem_of_getElem? (i := 27) rfl)))))
set_option maxRecDepth 100000 in
theorem mw_881 : Cond.selects RX6 yX6_debt yX6_debt ∈ lw_tbl := List.mem_append_left _ (List.mem_map.mpr ⟨(⟨"EmptyBoxes", "debt", "(III)I"⟩, 8), List.mem_append_right _ (List.mem_append_right _ (List.mem_append_left _ (List.mem_of_getElem? (i := 9) rfl))), rfl⟩)
set_option maxRecDepth 100000 in
theorem mw_882 : Cond.instanceMethod yX6_debt ∈ lw_tbl := List.mem_append_right _ (List.mem_append_right _ (List.mem_append_right _ (List.mem_append_right _ (List.mem_append_left _ (List.mem_of_getElem? (i := 26) rfl)))))
set_option maxRecDepth 100000 in
theorem mw_883 : Cond.methodLink RX6 301 yX6_debt ∈ lw_tbl := List.mem_append_right _ (List.mem_append_right _ (List.mem_append_right _ (List.mem_append_right _ (List.mem_append_left _ (List.mem_of_getElem? (i := 24) rfl)))))
set_option maxRecDepth 100000 in
theorem mw_884 : Cond.constant RX6 300 (1000000) ∈ lw_tbl := List.mem_append_right _ (List.mem_append_right _ (List.mem_append_right _ (List.mem_append_right _ (List.mem_append_left _ (List.mem_of_getElem? (i := 23) rfl)))))
set_option maxRecDepth 100000 in
theorem hmwsX6_net_r1 : ∀ w ∈ wsX6_net_r1, w ∈ lw_tbl := List.forall_mem_cons.mpr ⟨mw_884, List.forall_mem_cons.mpr ⟨mw_141, List.forall_mem_cons.mpr ⟨mw_140, List.forall_mem_cons.mpr ⟨mw_91, List.forall_mem_cons.mpr ⟨mw_139, List.forall_mem_cons.mpr ⟨mw_118, List.forall_mem_cons.mpr ⟨mw_117, List.forall_mem_cons.mpr ⟨mw_116, List.forall_mem_cons.mpr ⟨mw_257, List.forall_mem_cons.mpr ⟨mw_256, List.forall_mem_cons.mpr ⟨mw_255, List.forall_mem_cons.mpr ⟨mw_254, List.forall_mem_cons.mpr ⟨mw_18, List.forall_mem_cons.mpr ⟨mw_119, List.forall_mem_cons.mpr ⟨mw_883, List.forall_mem_cons.mpr ⟨mw_882, List.forall_mem_cons.mpr ⟨mw_881, List.forall_mem_cons.mpr ⟨mw_880, List.forall_mem_cons.mpr ⟨mw_855, List.forall_mem_cons.mpr ⟨mw_148, List.forall_mem_cons.mpr ⟨mw_131, List.forall_mem_cons.mpr ⟨mw_168, List.forall_mem_cons.mpr ⟨mw_167, List.forall_mem_cons.mpr ⟨mw_40, List.forall_mem_nil _⟩⟩⟩⟩⟩⟩⟩⟩⟩⟩⟩⟩⟩⟩⟩⟩⟩⟩⟩⟩⟩⟩⟩⟩
set_option maxRecDepth 100000 in
theorem mw_885 : Cond.code yX6_isUseKnown cX6_isUseKnown 3 (some .boolean) ∈ lw_tbl := List.mem_append_right _ (List.mem_append_right _ (List.mem_append_right _ (List.mem_append_right _ (List.mem_append_left _ (List.mem_of_getElem? (i := 31) rfl)))))
set_option maxRecDepth 100000 in
theorem mw_886 : Cond.selects RX6 yX6_isUseKnown yX6_isUseKnown ∈ lw_tbl := List.mem_append_left _ (List.mem_map.mpr ⟨(⟨"EmptyBoxes", "isUseKnown", "(II)Z"⟩, 8), List.mem_append_right _ (List.mem_append_right _ (List.mem_append_left _ (List.mem_of_getElem? (i := 10) rfl))), rfl⟩)
set_option maxRecDepth 100000 in
theorem mw_887 : Cond.instanceMethod yX6_isUseKnown ∈ lw_tbl := List.mem_append_right _ (List.mem_append_right _ (List.mem_append_right _ (List.mem_append_right _ (List.mem_append_left _ (List.mem_of_getElem? (i := 30) rfl)))))
set_option maxRecDepth 100000 in
theorem mw_888 : Cond.methodLink RX6 313 yX6_isUseKnown ∈ lw_tbl := List.mem_append_right _ (List.mem_append_right _ (List.mem_append_right _ (List.mem_append_right _ (List.mem_append_left _ (List.mem_of_getElem? (i := 28) rfl)))))
set_option maxRecDepth 100000 in
theorem hmwsX6_net_r2 : ∀ w ∈ wsX6_net_r2, w ∈ lw_tbl := List.forall_mem_cons.mpr ⟨mw_166, List.forall_mem_cons.mpr ⟨mw_62, List.forall_mem_cons.mpr ⟨mw_165, List.forall_mem_cons.mpr ⟨mw_164, List.forall_mem_cons.mpr ⟨mw_163, List.forall_mem_cons.mpr ⟨mw_162, List.forall_mem_cons.mpr ⟨mw_63, List.forall_mem_cons.mpr ⟨mw_65, List.forall_mem_cons.mpr ⟨mw_161, List.forall_mem_cons.mpr ⟨mw_160, List.forall_mem_cons.mpr ⟨mw_159, List.forall_mem_cons.mpr ⟨mw_158, List.forall_mem_cons.mpr ⟨mw_888, List.forall_mem_cons.mpr ⟨mw_887, List.forall_mem_cons.mpr ⟨mw_886, List.forall_mem_cons.mpr ⟨mw_885, List.forall_mem_cons.mpr ⟨mw_864, List.forall_mem_cons.mpr ⟨mw_867, List.forall_mem_cons.mpr ⟨mw_866, List.forall_mem_cons.mpr ⟨mw_865, List.forall_mem_cons.mpr ⟨mw_845, List.forall_mem_cons.mpr ⟨mw_807, List.forall_mem_cons.mpr ⟨mw_69, List.forall_mem_cons.mpr ⟨mw_68, List.forall_mem_nil _⟩⟩⟩⟩⟩⟩⟩⟩⟩⟩⟩⟩⟩⟩⟩⟩⟩⟩⟩⟩⟩⟩⟩⟩
set_option maxRecDepth 100000 in
theorem hmwsX6_net_r3 : ∀ w ∈ wsX6_net_r3, w ∈ lw_tbl := List.forall_mem_cons.mpr ⟨mw_67, List.forall_mem_cons.mpr ⟨mw_846, List.forall_mem_nil _⟩⟩
set_option maxRecDepth 100000 in
theorem hmwsX6_net : ∀ w ∈ wsX6_net, w ∈ lw_tbl := List.forall_mem_cons.mpr ⟨mw_879, List.forall_mem_append.mpr ⟨List.forall_mem_append.mpr ⟨List.forall_mem_append.mpr ⟨List.forall_mem_append.mpr ⟨hmwsX6_net_r1, List.forall_mem_append.mpr ⟨hmwsX6_net_r2, hmwsX6_net_r3⟩⟩, inX6⟩, inX0⟩, inX4⟩⟩
set_option maxRecDepth 100000 in
theorem mw_889 : Cond.methodLink RL 135 yX6_net ∈ lw_tbl := List.mem_append_right _ (List.mem_append_right _ (List.mem_append_right _ (List.mem_append_right _ (List.mem_append_left _ (List.mem_of_getElem? (i := 19) rfl)))))
set_option maxRecDepth 100000 in
theorem mw_890 : Cond.instanceMethod yX6_net ∈ lw_tbl := List.mem_append_right _ (List.mem_append_right _ (List.mem_append_right _ (List.mem_append_right _ (List.mem_append_left _ (List.mem_of_getElem? (i := 20) rfl)))))
set_option maxRecDepth 100000 in
theorem mw_891 : Cond.selects RX6 yX6_net yX6_net ∈ lw_tbl := List.mem_append_right _ (List.mem_append_right _ (List.mem_append_right _ (List.mem_append_right _ (List.mem_append_left _ (List.mem_of_getElem? (i := 21) rfl)))))
set_option maxRecDepth 100000 in
theorem glX6_net : GoodIn lw_tbl (wsV RL 135 RX6 yX6_net wsX6_net) := goodIn_sub (List.forall_mem_append.mpr ⟨List.forall_mem_cons.mpr ⟨mw_889, List.forall_mem_cons.mpr ⟨mw_890, List.forall_mem_cons.mpr ⟨mw_891, List.forall_mem_cons.mpr ⟨mw_91, List.forall_mem_nil _⟩⟩⟩⟩, hmwsX6_net⟩) (by decide +kernel)
set_option maxRecDepth 100000 in
theorem ckL_X6_net : CkV lw_tbl RL 135 yX6_net wsX6_net cX6_net 5 (some .int) 2 6 := ⟨RX6, TX6, 8, _, rfl, glX6_net, rfl, hdX6_net⟩
set_option maxRecDepth 100000 in
theorem mw_892 : Cond.code yX7_net cX7_net 5 (some .int) ∈ lw_tbl := List.mem_append_right _ (List.mem_append_right _ (List.mem_append_right _ (List.mem_append_right _ (List.mem_append_right _ (List.mem_of_getElem? (i := 166) rfl)))))
set_option maxRecDepth 100000 in
theorem mw_893 : Cond.code yX7_owesOf cX7_owesOf 8 (some .int) ∈ lw_tbl := List.mem_append_right _ (List.mem_append_right _ (List.mem_append_right _ (List.mem_append_right _ (List.mem_append_right _ (List.mem_of_getElem? (i := 170) rfl)))))
set_option maxRecDepth 100000 in
theorem mw_894 : Cond.selects RX7 yX7_owesOf yX7_owesOf ∈ lw_tbl := List.mem_append_left _ (List.mem_map.mpr ⟨(⟨"EmptyBoxesModel", "owesOf", "(III)I"⟩, 28), List.mem_append_right _ (List.mem_append_right _ (List.mem_append_right _ (List.mem_append_right _ (List.mem_of_getElem? (i := 8) rfl)))), rfl⟩)
set_option maxRecDepth 100000 in
theorem mw_895 : Cond.instanceMethod yX7_owesOf ∈ lw_tbl := List.mem_append_right _ (List.mem_append_right _ (List.mem_append_right _ (List.mem_append_right _ (List.mem_append_right _ (List.mem_of_getElem? (i := 169) rfl)))))
set_option maxRecDepth 100000 in
theorem mw_896 : Cond.methodLink RX7 202 yX7_owesOf ∈ lw_tbl := List.mem_append_right _ (List.mem_append_right _ (List.mem_append_right _ (List.mem_append_right _ (List.mem_append_right _ (List.mem_of_getElem? (i := 167) rfl)))))
set_option maxRecDepth 100000 in
theorem hmwsX7_net_r1 : ∀ w ∈ wsX7_net_r1, w ∈ lw_tbl := List.forall_mem_cons.mpr ⟨mw_473, List.forall_mem_cons.mpr ⟨mw_192, List.forall_mem_cons.mpr ⟨mw_191, List.forall_mem_cons.mpr ⟨mw_114, List.forall_mem_cons.mpr ⟨mw_190, List.forall_mem_cons.mpr ⟨mw_126, List.forall_mem_cons.mpr ⟨mw_125, List.forall_mem_cons.mpr ⟨mw_124, List.forall_mem_cons.mpr ⟨mw_270, List.forall_mem_cons.mpr ⟨mw_269, List.forall_mem_cons.mpr ⟨mw_268, List.forall_mem_cons.mpr ⟨mw_267, List.forall_mem_cons.mpr ⟨mw_110, List.forall_mem_cons.mpr ⟨mw_896, List.forall_mem_cons.mpr ⟨mw_895, List.forall_mem_cons.mpr ⟨mw_894, List.forall_mem_cons.mpr ⟨mw_893, List.forall_mem_cons.mpr ⟨mw_102, List.forall_mem_cons.mpr ⟨mw_185, List.forall_mem_cons.mpr ⟨mw_184, List.forall_mem_cons.mpr ⟨mw_183, List.forall_mem_cons.mpr ⟨mw_182, List.forall_mem_cons.mpr ⟨mw_109, List.forall_mem_cons.mpr ⟨mw_875, List.forall_mem_nil _⟩⟩⟩⟩⟩⟩⟩⟩⟩⟩⟩⟩⟩⟩⟩⟩⟩⟩⟩⟩⟩⟩⟩⟩
set_option maxRecDepth 100000 in
theorem hmwsX7_net_r2 : ∀ w ∈ wsX7_net_r2, w ∈ lw_tbl := List.forall_mem_cons.mpr ⟨mw_874, List.forall_mem_cons.mpr ⟨mw_873, List.forall_mem_cons.mpr ⟨mw_872, List.forall_mem_nil _⟩⟩⟩
set_option maxRecDepth 100000 in
theorem hmwsX7_net : ∀ w ∈ wsX7_net, w ∈ lw_tbl := List.forall_mem_cons.mpr ⟨mw_892, List.forall_mem_append.mpr ⟨List.forall_mem_append.mpr ⟨hmwsX7_net_r1, hmwsX7_net_r2⟩, inX7⟩⟩
set_option maxRecDepth 100000 in
theorem mw_897 : Cond.methodLink RL 138 yX7_net ∈ lw_tbl := List.mem_append_right _ (List.mem_append_right _ (List.mem_append_right _ (List.mem_append_right _ (List.mem_append_right _ (List.mem_of_getElem? (i := 163) rfl)))))
set_option maxRecDepth 100000 in
theorem mw_898 : Cond.instanceMethod yX7_net ∈ lw_tbl := List.mem_append_right _ (List.mem_append_right _ (List.mem_append_right _ (List.mem_append_right _ (List.mem_append_right _ (List.mem_of_getElem? (i := 164) rfl)))))
set_option maxRecDepth 100000 in
theorem mw_899 : Cond.selects RX7 yX7_net yX7_net ∈ lw_tbl := List.mem_append_right _ (List.mem_append_right _ (List.mem_append_right _ (List.mem_append_right _ (List.mem_append_right _ (List.mem_of_getElem? (i := 165) rfl)))))
set_option maxRecDepth 100000 in
theorem glX7_net : GoodIn lw_tbl (wsV RL 138 RX7 yX7_net wsX7_net) := goodIn_sub (List.forall_mem_append.mpr ⟨List.forall_mem_cons.mpr ⟨mw_897, List.forall_mem_cons.mpr ⟨mw_898, List.forall_mem_cons.mpr ⟨mw_899, List.forall_mem_cons.mpr ⟨mw_114, List.forall_mem_nil _⟩⟩⟩⟩, hmwsX7_net⟩) (by decide +kernel)
set_option maxRecDepth 100000 in
theorem ckL_X7_net : CkV lw_tbl RL 138 yX7_net wsX7_net cX7_net 5 (some .int) 2 7 := ⟨RX7, TX7, 28, _, rfl, glX7_net, rfl, hdX7_net⟩
set_option maxRecDepth 100000 in
theorem mw_900 : Cond.code yX6_owes cX6_owes 4 (some .int) ∈ lw_tbl := List.mem_append_right _ (List.mem_append_right _ (List.mem_append_right _ (List.mem_append_right _ (List.mem_append_left _ (List.mem_of_getElem? (i := 35) rfl)))))
set_option maxRecDepth 100000 in
theorem hmwsX6_owes_r1 : ∀ w ∈ wsX6_owes_r1, w ∈ lw_tbl := List.forall_mem_cons.mpr ⟨mw_141, List.forall_mem_cons.mpr ⟨mw_140, List.forall_mem_cons.mpr ⟨mw_91, List.forall_mem_cons.mpr ⟨mw_139, List.forall_mem_cons.mpr ⟨mw_118, List.forall_mem_cons.mpr ⟨mw_117, List.forall_mem_cons.mpr ⟨mw_116, List.forall_mem_cons.mpr ⟨mw_257, List.forall_mem_cons.mpr ⟨mw_256, List.forall_mem_cons.mpr ⟨mw_255, List.forall_mem_cons.mpr ⟨mw_254, List.forall_mem_cons.mpr ⟨mw_18, List.forall_mem_cons.mpr ⟨mw_119, List.forall_mem_cons.mpr ⟨mw_883, List.forall_mem_cons.mpr ⟨mw_882, List.forall_mem_cons.mpr ⟨mw_881, List.forall_mem_cons.mpr ⟨mw_880, List.forall_mem_cons.mpr ⟨mw_855, List.forall_mem_cons.mpr ⟨mw_148, List.forall_mem_cons.mpr ⟨mw_131, List.forall_mem_cons.mpr ⟨mw_168, List.forall_mem_cons.mpr ⟨mw_167, List.forall_mem_cons.mpr ⟨mw_40, List.forall_mem_cons.mpr ⟨mw_166, List.forall_mem_nil _⟩⟩⟩⟩⟩⟩⟩⟩⟩⟩⟩⟩⟩⟩⟩⟩⟩⟩⟩⟩⟩⟩⟩⟩
set_option maxRecDepth 100000 in
theorem hmwsX6_owes_r2 : ∀ w ∈ wsX6_owes_r2, w ∈ lw_tbl := List.forall_mem_cons.mpr ⟨mw_62, List.forall_mem_cons.mpr ⟨mw_165, List.forall_mem_cons.mpr ⟨mw_164, List.forall_mem_cons.mpr ⟨mw_163, List.forall_mem_cons.mpr ⟨mw_162, List.forall_mem_cons.mpr ⟨mw_63, List.forall_mem_cons.mpr ⟨mw_65, List.forall_mem_cons.mpr ⟨mw_161, List.forall_mem_cons.mpr ⟨mw_160, List.forall_mem_cons.mpr ⟨mw_159, List.forall_mem_cons.mpr ⟨mw_158, List.forall_mem_cons.mpr ⟨mw_888, List.forall_mem_cons.mpr ⟨mw_887, List.forall_mem_cons.mpr ⟨mw_886, List.forall_mem_cons.mpr ⟨mw_885, List.forall_mem_cons.mpr ⟨mw_864, List.forall_mem_cons.mpr ⟨mw_867, List.forall_mem_cons.mpr ⟨mw_866, List.forall_mem_cons.mpr ⟨mw_865, List.forall_mem_cons.mpr ⟨mw_845, List.forall_mem_cons.mpr ⟨mw_807, List.forall_mem_cons.mpr ⟨mw_69, List.forall_mem_cons.mpr ⟨mw_68, List.forall_mem_cons.mpr ⟨mw_67, List.forall_mem_nil _⟩⟩⟩⟩⟩⟩⟩⟩⟩⟩⟩⟩⟩⟩⟩⟩⟩⟩⟩⟩⟩⟩⟩⟩
set_option maxRecDepth 100000 in
theorem hmwsX6_owes_r3 : ∀ w ∈ wsX6_owes_r3, w ∈ lw_tbl := List.forall_mem_cons.mpr ⟨mw_846, List.forall_mem_nil _⟩
set_option maxRecDepth 100000 in
theorem hmwsX6_owes : ∀ w ∈ wsX6_owes, w ∈ lw_tbl := List.forall_mem_cons.mpr ⟨mw_900, List.forall_mem_append.mpr ⟨List.forall_mem_append.mpr ⟨List.forall_mem_append.mpr ⟨List.forall_mem_append.mpr ⟨hmwsX6_owes_r1, List.forall_mem_append.mpr ⟨hmwsX6_owes_r2, hmwsX6_owes_r3⟩⟩, inX6⟩, inX0⟩, inX4⟩⟩
set_option maxRecDepth 100000 in
theorem mw_901 : Cond.methodLink RL 139 yX6_owes ∈ lw_tbl := List.mem_append_right _ (List.mem_append_right _ (List.mem_append_right _ (List.mem_append_right _ (List.mem_append_left _ (List.mem_of_getElem? (i := 32) rfl)))))
set_option maxRecDepth 100000 in
theorem mw_902 : Cond.instanceMethod yX6_owes ∈ lw_tbl := List.mem_append_right _ (List.mem_append_right _ (List.mem_append_right _ (List.mem_append_right _ (List.mem_append_left _ (List.mem_of_getElem? (i := 33) rfl)))))
set_option maxRecDepth 100000 in
theorem mw_903 : Cond.selects RX6 yX6_owes yX6_owes ∈ lw_tbl := List.mem_append_right _ (List.mem_append_right _ (List.mem_append_right _ (List.mem_append_right _ (List.mem_append_left _ (List.mem_of_getElem? (i := 34) rfl)))))
set_option maxRecDepth 100000 in
theorem glX6_owes : GoodIn lw_tbl (wsV RL 139 RX6 yX6_owes wsX6_owes) := goodIn_sub (List.forall_mem_append.mpr ⟨List.forall_mem_cons.mpr ⟨mw_901, List.forall_mem_cons.mpr ⟨mw_902, List.forall_mem_cons.mpr ⟨mw_903, List.forall_mem_cons.mpr ⟨mw_91, List.forall_mem_nil _⟩⟩⟩⟩, hmwsX6_owes⟩) (by decide +kernel)
set_option maxRecDepth 100000 in
theorem ckL_X6_owes : CkV lw_tbl RL 139 yX6_owes wsX6_owes cX6_owes 4 (some .int) 3 6 := ⟨RX6, TX6, 8, _, rfl, glX6_owes, rfl, hdX6_owes⟩
set_option maxRecDepth 100000 in
theorem mw_904 : Cond.code yX7_owes cX7_owes 4 (some .int) ∈ lw_tbl := List.mem_append_right _ (List.mem_append_right _ (List.mem_append_right _ (List.mem_append_right _ (List.mem_append_right _ (List.mem_of_getElem? (i := 174) rfl)))))
set_option maxRecDepth 100000 in
theorem hmwsX7_owes_r1 : ∀ w ∈ wsX7_owes_r1, w ∈ lw_tbl := List.forall_mem_cons.mpr ⟨mw_192, List.forall_mem_cons.mpr ⟨mw_191, List.forall_mem_cons.mpr ⟨mw_114, List.forall_mem_cons.mpr ⟨mw_190, List.forall_mem_cons.mpr ⟨mw_126, List.forall_mem_cons.mpr ⟨mw_125, List.forall_mem_cons.mpr ⟨mw_124, List.forall_mem_cons.mpr ⟨mw_270, List.forall_mem_cons.mpr ⟨mw_269, List.forall_mem_cons.mpr ⟨mw_268, List.forall_mem_cons.mpr ⟨mw_267, List.forall_mem_cons.mpr ⟨mw_110, List.forall_mem_cons.mpr ⟨mw_896, List.forall_mem_cons.mpr ⟨mw_895, List.forall_mem_cons.mpr ⟨mw_894, List.forall_mem_cons.mpr ⟨mw_893, List.forall_mem_cons.mpr ⟨mw_102, List.forall_mem_cons.mpr ⟨mw_185, List.forall_mem_cons.mpr ⟨mw_184, List.forall_mem_cons.mpr ⟨mw_183, List.forall_mem_cons.mpr ⟨mw_182, List.forall_mem_cons.mpr ⟨mw_109, List.forall_mem_cons.mpr ⟨mw_875, List.forall_mem_cons.mpr ⟨mw_874, List.forall_mem_nil _⟩⟩⟩⟩⟩⟩⟩⟩⟩⟩⟩⟩⟩⟩⟩⟩⟩⟩⟩⟩⟩⟩⟩⟩
set_option maxRecDepth 100000 in
theorem hmwsX7_owes_r2 : ∀ w ∈ wsX7_owes_r2, w ∈ lw_tbl := List.forall_mem_cons.mpr ⟨mw_873, List.forall_mem_cons.mpr ⟨mw_872, List.forall_mem_nil _⟩⟩
set_option maxRecDepth 100000 in
theorem hmwsX7_owes : ∀ w ∈ wsX7_owes, w ∈ lw_tbl := List.forall_mem_cons.mpr ⟨mw_904, List.forall_mem_append.mpr ⟨List.forall_mem_append.mpr ⟨hmwsX7_owes_r1, hmwsX7_owes_r2⟩, inX7⟩⟩
set_option maxRecDepth 100000 in
theorem mw_905 : Cond.methodLink RL 142 yX7_owes ∈ lw_tbl := List.mem_append_right _ (List.mem_append_right _ (List.mem_append_right _ (List.mem_append_right _ (List.mem_append_right _ (List.mem_of_getElem? (i := 171) rfl)))))
set_option maxRecDepth 100000 in
theorem mw_906 : Cond.instanceMethod yX7_owes ∈ lw_tbl := List.mem_append_right _ (List.mem_append_right _ (List.mem_append_right _ (List.mem_append_right _ (List.mem_append_right _ (List.mem_of_getElem? (i := 172) rfl)))))
set_option maxRecDepth 100000 in
theorem mw_907 : Cond.selects RX7 yX7_owes yX7_owes ∈ lw_tbl := List.mem_append_right _ (List.mem_append_right _ (List.mem_append_right _ (List.mem_append_right _ (List.mem_append_right _ (List.mem_of_getElem? (i := 173) rfl)))))
set_option maxRecDepth 100000 in
theorem glX7_owes : GoodIn lw_tbl (wsV RL 142 RX7 yX7_owes wsX7_owes) := goodIn_sub (List.forall_mem_append.mpr ⟨List.forall_mem_cons.mpr ⟨mw_905, List.forall_mem_cons.mpr ⟨mw_906, List.forall_mem_cons.mpr ⟨mw_907, List.forall_mem_cons.mpr ⟨mw_114, List.forall_mem_nil _⟩⟩⟩⟩, hmwsX7_owes⟩) (by decide +kernel)
set_option maxRecDepth 100000 in
theorem ckL_X7_owes : CkV lw_tbl RL 142 yX7_owes wsX7_owes cX7_owes 4 (some .int) 3 7 := ⟨RX7, TX7, 28, _, rfl, glX7_owes, rfl, hdX7_owes⟩
set_option maxRecDepth 100000 in
theorem mw_908 : Cond.code yX6_many cX6_many 2 (some .int) ∈ lw_tbl := List.mem_append_right _ (List.mem_append_right _ (List.mem_append_right _ (List.mem_append_right _ (List.mem_append_left _ (List.mem_of_getElem? (i := 39) rfl)))))
set_option maxRecDepth 100000 in
theorem mw_909 : Cond.code yX6_leasesRead cX6_leasesRead 3 (some .int) ∈ lw_tbl := List.mem_append_right _ (List.mem_append_right _ (List.mem_append_right _ (List.mem_append_right _ (List.mem_append_left _ (List.mem_of_getElem? (i := 43) rfl)))))
set_option maxRecDepth 100000 in
theorem mw_910 : Cond.selects RX6 yX6_leasesRead yX6_leasesRead ∈ lw_tbl := List.mem_append_left _ (List.mem_map.mpr ⟨(⟨"EmptyBoxes", "leasesRead", "()I"⟩, 8), List.mem_append_right _ (List.mem_append_right _ (List.mem_append_left _ (List.mem_of_getElem? (i := 11) rfl))), rfl⟩)
set_option maxRecDepth 100000 in
theorem mw_911 : Cond.instanceMethod yX6_leasesRead ∈ lw_tbl := List.mem_append_right _ (List.mem_append_right _ (List.mem_append_right _ (List.mem_append_right _ (List.mem_append_left _ (List.mem_of_getElem? (i := 42) rfl)))))
set_option maxRecDepth 100000 in
theorem mw_912 : Cond.methodLink RX6 304 yX6_leasesRead ∈ lw_tbl := List.mem_append_right _ (List.mem_append_right _ (List.mem_append_right _ (List.mem_append_right _ (List.mem_append_left _ (List.mem_of_getElem? (i := 40) rfl)))))
set_option maxRecDepth 100000 in
theorem hmwsX6_many_r1 : ∀ w ∈ wsX6_many_r1, w ∈ lw_tbl := List.forall_mem_cons.mpr ⟨mw_18, List.forall_mem_cons.mpr ⟨mw_148, List.forall_mem_cons.mpr ⟨mw_258, List.forall_mem_cons.mpr ⟨mw_380, List.forall_mem_cons.mpr ⟨mw_492, List.forall_mem_cons.mpr ⟨mw_493, List.forall_mem_cons.mpr ⟨mw_855, List.forall_mem_cons.mpr ⟨mw_13, List.forall_mem_cons.mpr ⟨mw_119, List.forall_mem_cons.mpr ⟨mw_131, List.forall_mem_cons.mpr ⟨mw_168, List.forall_mem_cons.mpr ⟨mw_167, List.forall_mem_cons.mpr ⟨mw_40, List.forall_mem_cons.mpr ⟨mw_166, List.forall_mem_cons.mpr ⟨mw_62, List.forall_mem_cons.mpr ⟨mw_912, List.forall_mem_cons.mpr ⟨mw_911, List.forall_mem_cons.mpr ⟨mw_910, List.forall_mem_cons.mpr ⟨mw_91, List.forall_mem_cons.mpr ⟨mw_909, List.forall_mem_cons.mpr ⟨mw_157, List.forall_mem_cons.mpr ⟨mw_156, List.forall_mem_cons.mpr ⟨mw_155, List.forall_mem_cons.mpr ⟨mw_154, List.forall_mem_nil _⟩⟩⟩⟩⟩⟩⟩⟩⟩⟩⟩⟩⟩⟩⟩⟩⟩⟩⟩⟩⟩⟩⟩⟩
set_option maxRecDepth 100000 in
theorem mw_913 : Cond.selects RX6 yX6_allBills yX6_allBills ∈ lw_tbl := List.mem_append_left _ (List.mem_map.mpr ⟨(⟨"EmptyBoxes", "allBills", "()I"⟩, 8), List.mem_append_right _ (List.mem_append_right _ (List.mem_append_left _ (List.mem_of_getElem? (i := 13) rfl))), rfl⟩)
set_option maxRecDepth 100000 in
theorem mw_914 : Cond.instanceMethod yX6_allBills ∈ lw_tbl := List.mem_append_right _ (List.mem_append_right _ (List.mem_append_right _ (List.mem_append_right _ (List.mem_append_left _ (List.mem_of_getElem? (i := 50) rfl)))))
set_option maxRecDepth 100000 in
theorem mw_915 : Cond.methodLink RX6 310 yX6_allBills ∈ lw_tbl := List.mem_append_right _ (List.mem_append_right _ (List.mem_append_right _ (List.mem_append_right _ (List.mem_append_left _ (List.mem_of_getElem? (i := 48) rfl)))))
set_option maxRecDepth 100000 in
theorem mw_916 : Cond.code yX6_boxesOfFate cX6_boxesOfFate 4 (some .int) ∈ lw_tbl := List.mem_append_right _ (List.mem_append_right _ (List.mem_append_right _ (List.mem_append_right _ (List.mem_append_left _ (List.mem_of_getElem? (i := 47) rfl)))))
set_option maxRecDepth 100000 in
theorem mw_917 : Cond.selects RX6 yX6_boxesOfFate yX6_boxesOfFate ∈ lw_tbl := List.mem_append_left _ (List.mem_map.mpr ⟨(⟨"EmptyBoxes", "boxesOfFate", "(I)I"⟩, 8), List.mem_append_right _ (List.mem_append_right _ (List.mem_append_left _ (List.mem_of_getElem? (i := 12) rfl))), rfl⟩)
set_option maxRecDepth 100000 in
theorem mw_918 : Cond.instanceMethod yX6_boxesOfFate ∈ lw_tbl := List.mem_append_right _ (List.mem_append_right _ (List.mem_append_right _ (List.mem_append_right _ (List.mem_append_left _ (List.mem_of_getElem? (i := 46) rfl)))))
set_option maxRecDepth 100000 in
theorem mw_919 : Cond.methodLink RX6 307 yX6_boxesOfFate ∈ lw_tbl := List.mem_append_right _ (List.mem_append_right _ (List.mem_append_right _ (List.mem_append_right _ (List.mem_append_left _ (List.mem_of_getElem? (i := 44) rfl)))))
set_option maxRecDepth 100000 in
theorem hmwsX6_many_r2 : ∀ w ∈ wsX6_many_r2, w ∈ lw_tbl := List.forall_mem_cons.mpr ⟨mw_153, List.forall_mem_cons.mpr ⟨mw_165, List.forall_mem_cons.mpr ⟨mw_164, List.forall_mem_cons.mpr ⟨mw_163, List.forall_mem_cons.mpr ⟨mw_162, List.forall_mem_cons.mpr ⟨mw_63, List.forall_mem_cons.mpr ⟨mw_65, List.forall_mem_cons.mpr ⟨mw_161, List.forall_mem_cons.mpr ⟨mw_160, List.forall_mem_cons.mpr ⟨mw_159, List.forall_mem_cons.mpr ⟨mw_158, List.forall_mem_cons.mpr ⟨mw_634, List.forall_mem_cons.mpr ⟨mw_633, List.forall_mem_cons.mpr ⟨mw_632, List.forall_mem_cons.mpr ⟨mw_14, List.forall_mem_cons.mpr ⟨mw_631, List.forall_mem_cons.mpr ⟨mw_630, List.forall_mem_cons.mpr ⟨mw_919, List.forall_mem_cons.mpr ⟨mw_918, List.forall_mem_cons.mpr ⟨mw_917, List.forall_mem_cons.mpr ⟨mw_916, List.forall_mem_cons.mpr ⟨mw_915, List.forall_mem_cons.mpr ⟨mw_914, List.forall_mem_cons.mpr ⟨mw_913, List.forall_mem_nil _⟩⟩⟩⟩⟩⟩⟩⟩⟩⟩⟩⟩⟩⟩⟩⟩⟩⟩⟩⟩⟩⟩⟩⟩
set_option maxRecDepth 100000 in
theorem mw_920 : Cond.code yX6_allBills cX6_allBills 3 (some .int) ∈ lw_tbl := List.mem_append_right _ (List.mem_append_right _ (List.mem_append_right _ (List.mem_append_right _ (List.mem_append_left _ (List.mem_of_getElem? (i := 51) rfl)))))
set_option maxRecDepth 100000 in
theorem hmwsX6_many_r3 : ∀ w ∈ wsX6_many_r3, w ∈ lw_tbl := List.forall_mem_cons.mpr ⟨mw_920, List.forall_mem_cons.mpr ⟨mw_807, List.forall_mem_cons.mpr ⟨mw_69, List.forall_mem_cons.mpr ⟨mw_68, List.forall_mem_cons.mpr ⟨mw_67, List.forall_mem_nil _⟩⟩⟩⟩⟩
set_option maxRecDepth 100000 in
theorem hmwsX6_many : ∀ w ∈ wsX6_many, w ∈ lw_tbl := List.forall_mem_cons.mpr ⟨mw_908, List.forall_mem_append.mpr ⟨List.forall_mem_append.mpr ⟨List.forall_mem_append.mpr ⟨List.forall_mem_append.mpr ⟨List.forall_mem_append.mpr ⟨hmwsX6_many_r1, List.forall_mem_append.mpr ⟨hmwsX6_many_r2, hmwsX6_many_r3⟩⟩, inX6⟩, inX0⟩, inX4⟩, inX5⟩⟩
set_option maxRecDepth 100000 in
theorem mw_921 : Cond.methodLink RL 143 yX6_many ∈ lw_tbl := List.mem_append_right _ (List.mem_append_right _ (List.mem_append_right _ (List.mem_append_right _ (List.mem_append_left _ (List.mem_of_getElem? (i := 36) rfl)))))
set_option maxRecDepth 100000 in
theorem mw_922 : Cond.instanceMethod yX6_many ∈ lw_tbl := List.mem_append_right _ (List.mem_append_right _ (List.mem_append_right _ (List.mem_append_right _ (List.mem_append_left _ (List.mem_of_getElem? (i := 37) rfl)))))
set_option maxRecDepth 100000 in
theorem mw_923 : Cond.selects RX6 yX6_many yX6_many ∈ lw_tbl := List.mem_append_right _ (List.mem_append_right _ (List.mem_append_right _ (List.mem_append_right _ (List.mem_append_left _ (List.mem_of_getElem? (i := 38) rfl)))))
set_option maxRecDepth 100000 in
theorem glX6_many : GoodIn lw_tbl (wsV RL 143 RX6 yX6_many wsX6_many) := goodIn_sub (List.forall_mem_append.mpr ⟨List.forall_mem_cons.mpr ⟨mw_921, List.forall_mem_cons.mpr ⟨mw_922, List.forall_mem_cons.mpr ⟨mw_923, List.forall_mem_cons.mpr ⟨mw_91, List.forall_mem_nil _⟩⟩⟩⟩, hmwsX6_many⟩) (by decide +kernel)
set_option maxRecDepth 100000 in
theorem ckL_X6_many : CkV lw_tbl RL 143 yX6_many wsX6_many cX6_many 2 (some .int) 1 6 := ⟨RX6, TX6, 8, _, rfl, glX6_many, rfl, hdX6_many⟩
set_option maxRecDepth 100000 in
theorem mw_924 : Cond.code yX7_many cX7_many 4 (some .int) ∈ lw_tbl := List.mem_append_right _ (List.mem_append_right _ (List.mem_append_right _ (List.mem_append_right _ (List.mem_append_right _ (List.mem_of_getElem? (i := 178) rfl)))))
set_option maxRecDepth 100000 in
theorem hmwsX7_many : ∀ w ∈ wsX7_many, w ∈ lw_tbl := List.forall_mem_cons.mpr ⟨mw_924, List.forall_mem_append.mpr ⟨List.forall_mem_cons.mpr ⟨mw_110, List.forall_mem_cons.mpr ⟨mw_103, List.forall_mem_cons.mpr ⟨mw_640, List.forall_mem_cons.mpr ⟨mw_185, List.forall_mem_cons.mpr ⟨mw_184, List.forall_mem_cons.mpr ⟨mw_183, List.forall_mem_cons.mpr ⟨mw_114, List.forall_mem_cons.mpr ⟨mw_182, List.forall_mem_cons.mpr ⟨mw_109, List.forall_mem_nil _⟩⟩⟩⟩⟩⟩⟩⟩⟩, inX7⟩⟩
set_option maxRecDepth 100000 in
theorem mw_925 : Cond.methodLink RL 146 yX7_many ∈ lw_tbl := List.mem_append_right _ (List.mem_append_right _ (List.mem_append_right _ (List.mem_append_right _ (List.mem_append_right _ (List.mem_of_getElem? (i := 175) rfl)))))
set_option maxRecDepth 100000 in
theorem mw_926 : Cond.instanceMethod yX7_many ∈ lw_tbl := List.mem_append_right _ (List.mem_append_right _ (List.mem_append_right _ (List.mem_append_right _ (List.mem_append_right _ (List.mem_of_getElem? (i := 176) rfl)))))
set_option maxRecDepth 100000 in
theorem mw_927 : Cond.selects RX7 yX7_many yX7_many ∈ lw_tbl := List.mem_append_right _ (List.mem_append_right _ (List.mem_append_right _ (List.mem_append_right _ (List.mem_append_right _ (List.mem_of_getElem? (i := 177) rfl)))))
set_option maxRecDepth 100000 in
theorem glX7_many : GoodIn lw_tbl (wsV RL 146 RX7 yX7_many wsX7_many) := goodIn_sub (List.forall_mem_append.mpr ⟨List.forall_mem_cons.mpr ⟨mw_925, List.forall_mem_cons.mpr ⟨mw_926, List.forall_mem_cons.mpr ⟨mw_927, List.forall_mem_cons.mpr ⟨mw_114, List.forall_mem_nil _⟩⟩⟩⟩, hmwsX7_many⟩) (by decide +kernel)
set_option maxRecDepth 100000 in
theorem ckL_X7_many : CkV lw_tbl RL 146 yX7_many wsX7_many cX7_many 4 (some .int) 1 7 := ⟨RX7, TX7, 28, _, rfl, glX7_many, rfl, hdX7_many⟩
set_option maxRecDepth 100000 in
theorem mw_928 : Cond.code yX6_keep cX6_keep 1 (some .int) ∈ lw_tbl := List.mem_append_right _ (List.mem_append_right _ (List.mem_append_right _ (List.mem_append_right _ (List.mem_append_left _ (List.mem_of_getElem? (i := 55) rfl)))))
set_option maxRecDepth 100000 in
theorem mw_929 : Cond.selects RX4 yX4_become yX4_become ∈ lw_tbl := List.mem_append_right _ (List.mem_append_right _ (List.mem_append_right _ (List.mem_append_right _ (List.mem_append_left _ (List.mem_of_getElem? (i := 62) rfl)))))
set_option maxRecDepth 100000 in
theorem mw_930 : Cond.instanceMethod yX4_become ∈ lw_tbl := List.mem_append_right _ (List.mem_append_right _ (List.mem_append_right _ (List.mem_append_right _ (List.mem_append_left _ (List.mem_of_getElem? (i := 61) rfl)))))
set_option maxRecDepth 100000 in
theorem mw_931 : Cond.methodLink RX0 60 yX4_become ∈ lw_tbl := List.mem_append_right _ (List.mem_append_right _ (List.mem_append_right _ (List.mem_append_right _ (List.mem_append_left _ (List.mem_of_getElem? (i := 60) rfl)))))
set_option maxRecDepth 100000 in
theorem mw_932 : Cond.code yX0_become cX0_become 2 none ∈ lw_tbl := List.mem_append_right _ (List.mem_append_right _ (List.mem_append_right _ (List.mem_append_right _ (List.mem_append_left _ (List.mem_of_getElem? (i := 59) rfl)))))
set_option maxRecDepth 100000 in
theorem mw_933 : Cond.selects RX0 yX0_become yX0_become ∈ lw_tbl := List.mem_append_right _ (List.mem_append_right _ (List.mem_append_right _ (List.mem_append_right _ (List.mem_append_left _ (List.mem_of_getElem? (i := 58) rfl)))))
set_option maxRecDepth 100000 in
theorem mw_934 : Cond.instanceMethod yX0_become ∈ lw_tbl := List.mem_append_right _ (List.mem_append_right _ (List.mem_append_right _ (List.mem_append_right _ (List.mem_append_left _ (List.mem_of_getElem? (i := 57) rfl)))))
set_option maxRecDepth 100000 in
theorem mw_935 : Cond.methodLink RX6 316 yX0_become ∈ lw_tbl := List.mem_append_right _ (List.mem_append_right _ (List.mem_append_right _ (List.mem_append_right _ (List.mem_append_left _ (List.mem_of_getElem? (i := 56) rfl)))))
set_option maxRecDepth 100000 in
theorem hmwsX6_keep_r1 : ∀ w ∈ wsX6_keep_r1, w ∈ lw_tbl := List.forall_mem_cons.mpr ⟨mw_17, List.forall_mem_cons.mpr ⟨mw_18, List.forall_mem_cons.mpr ⟨mw_48, List.forall_mem_cons.mpr ⟨mw_935, List.forall_mem_cons.mpr ⟨mw_934, List.forall_mem_cons.mpr ⟨mw_933, List.forall_mem_cons.mpr ⟨mw_19, List.forall_mem_cons.mpr ⟨mw_932, List.forall_mem_cons.mpr ⟨mw_39, List.forall_mem_cons.mpr ⟨mw_38, List.forall_mem_cons.mpr ⟨mw_37, List.forall_mem_cons.mpr ⟨mw_36, List.forall_mem_cons.mpr ⟨mw_35, List.forall_mem_cons.mpr ⟨mw_34, List.forall_mem_cons.mpr ⟨mw_33, List.forall_mem_cons.mpr ⟨mw_32, List.forall_mem_cons.mpr ⟨mw_31, List.forall_mem_cons.mpr ⟨mw_30, List.forall_mem_cons.mpr ⟨mw_29, List.forall_mem_cons.mpr ⟨mw_28, List.forall_mem_cons.mpr ⟨mw_27, List.forall_mem_cons.mpr ⟨mw_931, List.forall_mem_cons.mpr ⟨mw_930, List.forall_mem_cons.mpr ⟨mw_929, List.forall_mem_nil _⟩⟩⟩⟩⟩⟩⟩⟩⟩⟩⟩⟩⟩⟩⟩⟩⟩⟩⟩⟩⟩⟩⟩⟩
set_option maxRecDepth 100000 in
theorem mw_936 : Cond.initialized "java/lang/System" ∈ lw_tbl := List.mem_append_right _ (List.mem_append_left _ (List.mem_of_getElem? (i := 14) rfl))
set_option maxRecDepth 100000 in
theorem mw_937 : Cond.static arraycopyName ∈ lw_tbl := List.mem_append_right _ (List.mem_append_right _ (List.mem_append_right _ (List.mem_append_right _ (List.mem_append_left _ (List.mem_of_getElem? (i := 66) rfl)))))
set_option maxRecDepth 100000 in
theorem mw_938 : Cond.native arraycopyName ∈ lw_tbl := List.mem_append_right _ (List.mem_append_right _ (List.mem_append_right _ (List.mem_append_right _ (List.mem_append_left _ (List.mem_of_getElem? (i := 67) rfl)))))
set_option maxRecDepth 100000 in
theorem mw_939 : Cond.methodLink RX4 42 arraycopyName ∈ lw_tbl := List.mem_append_right _ (List.mem_append_right _ (List.mem_append_right _ (List.mem_append_right _ (List.mem_append_left _ (List.mem_of_getElem? (i := 65) rfl)))))
set_option maxRecDepth 100000 in
theorem mw_940 : Cond.methodLink RX4 39 Lib.Math.min.name ∈ lw_tbl := List.mem_append_right _ (List.mem_append_right _ (List.mem_append_right _ (List.mem_append_right _ (List.mem_append_left _ (List.mem_of_getElem? (i := 64) rfl)))))
set_option maxRecDepth 100000 in
theorem mw_941 : Cond.code yX4_become cX4_become 2 none ∈ lw_tbl := List.mem_append_right _ (List.mem_append_right _ (List.mem_append_right _ (List.mem_append_right _ (List.mem_append_left _ (List.mem_of_getElem? (i := 63) rfl)))))
set_option maxRecDepth 100000 in
theorem hmwsX6_keep_r2 : ∀ w ∈ wsX6_keep_r2, w ∈ lw_tbl := List.forall_mem_cons.mpr ⟨mw_40, List.forall_mem_cons.mpr ⟨mw_941, List.forall_mem_cons.mpr ⟨mw_62, List.forall_mem_cons.mpr ⟨mw_66, List.forall_mem_cons.mpr ⟨mw_940, List.forall_mem_cons.mpr ⟨mw_439, List.forall_mem_cons.mpr ⟨mw_68, List.forall_mem_cons.mpr ⟨mw_438, List.forall_mem_cons.mpr ⟨mw_63, List.forall_mem_cons.mpr ⟨mw_939, List.forall_mem_cons.mpr ⟨mw_938, List.forall_mem_cons.mpr ⟨mw_937, List.forall_mem_cons.mpr ⟨mw_936, List.forall_mem_nil _⟩⟩⟩⟩⟩⟩⟩⟩⟩⟩⟩⟩⟩
set_option maxRecDepth 100000 in
theorem hmwsX6_keep : ∀ w ∈ wsX6_keep, w ∈ lw_tbl := List.forall_mem_cons.mpr ⟨mw_928, List.forall_mem_append.mpr ⟨List.forall_mem_append.mpr ⟨List.forall_mem_append.mpr ⟨List.forall_mem_append.mpr ⟨hmwsX6_keep_r1, hmwsX6_keep_r2⟩, inX6⟩, inX0⟩, inX4⟩⟩
set_option maxRecDepth 100000 in
theorem mw_942 : Cond.methodLink RL 147 yX6_keep ∈ lw_tbl := List.mem_append_right _ (List.mem_append_right _ (List.mem_append_right _ (List.mem_append_right _ (List.mem_append_left _ (List.mem_of_getElem? (i := 52) rfl)))))
set_option maxRecDepth 100000 in
theorem mw_943 : Cond.instanceMethod yX6_keep ∈ lw_tbl := List.mem_append_right _ (List.mem_append_right _ (List.mem_append_right _ (List.mem_append_right _ (List.mem_append_left _ (List.mem_of_getElem? (i := 53) rfl)))))
set_option maxRecDepth 100000 in
theorem mw_944 : Cond.selects RX6 yX6_keep yX6_keep ∈ lw_tbl := List.mem_append_right _ (List.mem_append_right _ (List.mem_append_right _ (List.mem_append_right _ (List.mem_append_left _ (List.mem_of_getElem? (i := 54) rfl)))))
set_option maxRecDepth 100000 in
theorem glX6_keep : GoodIn lw_tbl (wsV RL 147 RX6 yX6_keep wsX6_keep) := goodIn_sub (List.forall_mem_append.mpr ⟨List.forall_mem_cons.mpr ⟨mw_942, List.forall_mem_cons.mpr ⟨mw_943, List.forall_mem_cons.mpr ⟨mw_944, List.forall_mem_cons.mpr ⟨mw_91, List.forall_mem_nil _⟩⟩⟩⟩, hmwsX6_keep⟩) (by decide +kernel)
set_option maxRecDepth 100000 in
theorem ckL_X6_keep : CkV lw_tbl RL 147 yX6_keep wsX6_keep cX6_keep 1 (some .int) 0 6 := ⟨RX6, TX6, 8, _, rfl, glX6_keep, rfl, hdX6_keep⟩
set_option maxRecDepth 100000 in
theorem mw_945 : Cond.code yX7_keep cX7_keep 1 (some .int) ∈ lw_tbl := List.mem_append_right _ (List.mem_append_right _ (List.mem_append_right _ (List.mem_append_right _ (List.mem_append_right _ (List.mem_of_getElem? (i := 182) rfl)))))
set_option maxRecDepth 100000 in
theorem mw_946 : Cond.code yX7_move cX7_move 5 none ∈ lw_tbl := List.mem_append_right _ (List.mem_append_right _ (List.mem_append_right _ (List.mem_append_right _ (List.mem_append_right _ (List.mem_of_getElem? (i := 190) rfl)))))
set_option maxRecDepth 100000 in
theorem mw_947 : Cond.selects RX7 yX7_move yX7_move ∈ lw_tbl := List.mem_append_left _ (List.mem_map.mpr ⟨(⟨"EmptyBoxesModel", "move", "([IIZ)V"⟩, 28), List.mem_append_right _ (List.mem_append_right _ (List.mem_append_right _ (List.mem_append_right _ (List.mem_of_getElem? (i := 10) rfl)))), rfl⟩)
set_option maxRecDepth 100000 in
theorem mw_948 : Cond.instanceMethod yX7_move ∈ lw_tbl := List.mem_append_right _ (List.mem_append_right _ (List.mem_append_right _ (List.mem_append_right _ (List.mem_append_right _ (List.mem_of_getElem? (i := 189) rfl)))))
set_option maxRecDepth 100000 in
theorem mw_949 : Cond.methodLink RX7 208 yX7_move ∈ lw_tbl := List.mem_append_right _ (List.mem_append_right _ (List.mem_append_right _ (List.mem_append_right _ (List.mem_append_right _ (List.mem_of_getElem? (i := 187) rfl)))))
set_option maxRecDepth 100000 in
theorem mw_950 : Cond.fieldLink RX7 205 "EmptyBoxesModel" "place" "I" ∈ lw_tbl := List.mem_append_right _ (List.mem_append_right _ (List.mem_append_right _ (List.mem_append_right _ (List.mem_append_left _ (List.mem_of_getElem? (i := 105) rfl)))))
set_option maxRecDepth 100000 in
theorem mw_951 : Cond.code yX7_moveAll cX7_moveAll 2 none ∈ lw_tbl := List.mem_append_right _ (List.mem_append_right _ (List.mem_append_right _ (List.mem_append_right _ (List.mem_append_right _ (List.mem_of_getElem? (i := 186) rfl)))))
set_option maxRecDepth 100000 in
theorem mw_952 : Cond.selects RX7 yX7_moveAll yX7_moveAll ∈ lw_tbl := List.mem_append_left _ (List.mem_map.mpr ⟨(⟨"EmptyBoxesModel", "moveAll", "(Z)V"⟩, 28), List.mem_append_right _ (List.mem_append_right _ (List.mem_append_right _ (List.mem_append_right _ (List.mem_of_getElem? (i := 9) rfl)))), rfl⟩)
set_option maxRecDepth 100000 in
theorem mw_953 : Cond.instanceMethod yX7_moveAll ∈ lw_tbl := List.mem_append_right _ (List.mem_append_right _ (List.mem_append_right _ (List.mem_append_right _ (List.mem_append_right _ (List.mem_of_getElem? (i := 185) rfl)))))
set_option maxRecDepth 100000 in
theorem mw_954 : Cond.methodLink RX7 212 yX7_moveAll ∈ lw_tbl := List.mem_append_right _ (List.mem_append_right _ (List.mem_append_right _ (List.mem_append_right _ (List.mem_append_right _ (List.mem_of_getElem? (i := 183) rfl)))))
set_option maxRecDepth 100000 in
theorem mw_955 : Cond.fieldLink RX7 216 "EmptyBoxesModel" "isKept" "Z" ∈ lw_tbl := List.mem_append_right _ (List.mem_append_right _ (List.mem_append_right _ (List.mem_append_right _ (List.mem_append_left _ (List.mem_of_getElem? (i := 103) rfl)))))
set_option maxRecDepth 100000 in
theorem hmwsX7_keep : ∀ w ∈ wsX7_keep, w ∈ lw_tbl := List.forall_mem_cons.mpr ⟨mw_945, List.forall_mem_append.mpr ⟨List.forall_mem_cons.mpr ⟨mw_955, List.forall_mem_cons.mpr ⟨mw_954, List.forall_mem_cons.mpr ⟨mw_953, List.forall_mem_cons.mpr ⟨mw_952, List.forall_mem_cons.mpr ⟨mw_114, List.forall_mem_cons.mpr ⟨mw_951, List.forall_mem_cons.mpr ⟨mw_950, List.forall_mem_cons.mpr ⟨mw_110, List.forall_mem_cons.mpr ⟨mw_109, List.forall_mem_cons.mpr ⟨mw_108, List.forall_mem_cons.mpr ⟨mw_107, List.forall_mem_cons.mpr ⟨mw_106, List.forall_mem_cons.mpr ⟨mw_105, List.forall_mem_cons.mpr ⟨mw_104, List.forall_mem_cons.mpr ⟨mw_103, List.forall_mem_cons.mpr ⟨mw_102, List.forall_mem_cons.mpr ⟨mw_949, List.forall_mem_cons.mpr ⟨mw_948, List.forall_mem_cons.mpr ⟨mw_947, List.forall_mem_cons.mpr ⟨mw_946, List.forall_mem_cons.mpr ⟨mw_93, List.forall_mem_nil _⟩⟩⟩⟩⟩⟩⟩⟩⟩⟩⟩⟩⟩⟩⟩⟩⟩⟩⟩⟩⟩, inX7⟩⟩
set_option maxRecDepth 100000 in
theorem mw_956 : Cond.methodLink RL 150 yX7_keep ∈ lw_tbl := List.mem_append_right _ (List.mem_append_right _ (List.mem_append_right _ (List.mem_append_right _ (List.mem_append_right _ (List.mem_of_getElem? (i := 179) rfl)))))
set_option maxRecDepth 100000 in
theorem mw_957 : Cond.instanceMethod yX7_keep ∈ lw_tbl := List.mem_append_right _ (List.mem_append_right _ (List.mem_append_right _ (List.mem_append_right _ (List.mem_append_right _ (List.mem_of_getElem? (i := 180) rfl)))))
set_option maxRecDepth 100000 in
theorem mw_958 : Cond.selects RX7 yX7_keep yX7_keep ∈ lw_tbl := List.mem_append_right _ (List.mem_append_right _ (List.mem_append_right _ (List.mem_append_right _ (List.mem_append_right _ (List.mem_of_getElem? (i := 181) rfl)))))
set_option maxRecDepth 100000 in
theorem glX7_keep : GoodIn lw_tbl (wsV RL 150 RX7 yX7_keep wsX7_keep) := goodIn_sub (List.forall_mem_append.mpr ⟨List.forall_mem_cons.mpr ⟨mw_956, List.forall_mem_cons.mpr ⟨mw_957, List.forall_mem_cons.mpr ⟨mw_958, List.forall_mem_cons.mpr ⟨mw_114, List.forall_mem_nil _⟩⟩⟩⟩, hmwsX7_keep⟩) (by decide +kernel)
set_option maxRecDepth 100000 in
theorem ckL_X7_keep : CkV lw_tbl RL 150 yX7_keep wsX7_keep cX7_keep 1 (some .int) 0 7 := ⟨RX7, TX7, 28, _, rfl, glX7_keep, rfl, hdX7_keep⟩
set_option maxRecDepth 100000 in
theorem mw_959 : Cond.code yX6_back cX6_back 1 (some .int) ∈ lw_tbl := List.mem_append_right _ (List.mem_append_right _ (List.mem_append_right _ (List.mem_append_right _ (List.mem_append_left _ (List.mem_of_getElem? (i := 71) rfl)))))
set_option maxRecDepth 100000 in
theorem hmwsX6_back_r1 : ∀ w ∈ wsX6_back_r1, w ∈ lw_tbl := List.forall_mem_cons.mpr ⟨mw_48, List.forall_mem_cons.mpr ⟨mw_18, List.forall_mem_cons.mpr ⟨mw_17, List.forall_mem_cons.mpr ⟨mw_47, List.forall_mem_cons.mpr ⟨mw_935, List.forall_mem_cons.mpr ⟨mw_934, List.forall_mem_cons.mpr ⟨mw_933, List.forall_mem_cons.mpr ⟨mw_19, List.forall_mem_cons.mpr ⟨mw_932, List.forall_mem_cons.mpr ⟨mw_39, List.forall_mem_cons.mpr ⟨mw_38, List.forall_mem_cons.mpr ⟨mw_37, List.forall_mem_cons.mpr ⟨mw_36, List.forall_mem_cons.mpr ⟨mw_35, List.forall_mem_cons.mpr ⟨mw_34, List.forall_mem_cons.mpr ⟨mw_33, List.forall_mem_cons.mpr ⟨mw_32, List.forall_mem_cons.mpr ⟨mw_31, List.forall_mem_cons.mpr ⟨mw_30, List.forall_mem_cons.mpr ⟨mw_29, List.forall_mem_cons.mpr ⟨mw_28, List.forall_mem_cons.mpr ⟨mw_27, List.forall_mem_cons.mpr ⟨mw_931, List.forall_mem_cons.mpr ⟨mw_930, List.forall_mem_nil _⟩⟩⟩⟩⟩⟩⟩⟩⟩⟩⟩⟩⟩⟩⟩⟩⟩⟩⟩⟩⟩⟩⟩⟩
set_option maxRecDepth 100000 in
theorem hmwsX6_back_r2 : ∀ w ∈ wsX6_back_r2, w ∈ lw_tbl := List.forall_mem_cons.mpr ⟨mw_929, List.forall_mem_cons.mpr ⟨mw_40, List.forall_mem_cons.mpr ⟨mw_941, List.forall_mem_cons.mpr ⟨mw_62, List.forall_mem_cons.mpr ⟨mw_66, List.forall_mem_cons.mpr ⟨mw_940, List.forall_mem_cons.mpr ⟨mw_439, List.forall_mem_cons.mpr ⟨mw_68, List.forall_mem_cons.mpr ⟨mw_438, List.forall_mem_cons.mpr ⟨mw_63, List.forall_mem_cons.mpr ⟨mw_939, List.forall_mem_cons.mpr ⟨mw_938, List.forall_mem_cons.mpr ⟨mw_937, List.forall_mem_cons.mpr ⟨mw_936, List.forall_mem_nil _⟩⟩⟩⟩⟩⟩⟩⟩⟩⟩⟩⟩⟩⟩
set_option maxRecDepth 100000 in
theorem hmwsX6_back : ∀ w ∈ wsX6_back, w ∈ lw_tbl := List.forall_mem_cons.mpr ⟨mw_959, List.forall_mem_append.mpr ⟨List.forall_mem_append.mpr ⟨List.forall_mem_append.mpr ⟨List.forall_mem_append.mpr ⟨hmwsX6_back_r1, hmwsX6_back_r2⟩, inX6⟩, inX0⟩, inX4⟩⟩
set_option maxRecDepth 100000 in
theorem mw_960 : Cond.methodLink RL 151 yX6_back ∈ lw_tbl := List.mem_append_right _ (List.mem_append_right _ (List.mem_append_right _ (List.mem_append_right _ (List.mem_append_left _ (List.mem_of_getElem? (i := 68) rfl)))))
set_option maxRecDepth 100000 in
theorem mw_961 : Cond.instanceMethod yX6_back ∈ lw_tbl := List.mem_append_right _ (List.mem_append_right _ (List.mem_append_right _ (List.mem_append_right _ (List.mem_append_left _ (List.mem_of_getElem? (i := 69) rfl)))))
set_option maxRecDepth 100000 in
theorem mw_962 : Cond.selects RX6 yX6_back yX6_back ∈ lw_tbl := List.mem_append_right _ (List.mem_append_right _ (List.mem_append_right _ (List.mem_append_right _ (List.mem_append_left _ (List.mem_of_getElem? (i := 70) rfl)))))
set_option maxRecDepth 100000 in
theorem glX6_back : GoodIn lw_tbl (wsV RL 151 RX6 yX6_back wsX6_back) := goodIn_sub (List.forall_mem_append.mpr ⟨List.forall_mem_cons.mpr ⟨mw_960, List.forall_mem_cons.mpr ⟨mw_961, List.forall_mem_cons.mpr ⟨mw_962, List.forall_mem_cons.mpr ⟨mw_91, List.forall_mem_nil _⟩⟩⟩⟩, hmwsX6_back⟩) (by decide +kernel)
set_option maxRecDepth 100000 in
theorem ckL_X6_back : CkV lw_tbl RL 151 yX6_back wsX6_back cX6_back 1 (some .int) 0 6 := ⟨RX6, TX6, 8, _, rfl, glX6_back, rfl, hdX6_back⟩
set_option maxRecDepth 100000 in
theorem mw_963 : Cond.code yX7_back cX7_back 1 (some .int) ∈ lw_tbl := List.mem_append_right _ (List.mem_append_right _ (List.mem_append_right _ (List.mem_append_right _ (List.mem_append_right _ (List.mem_of_getElem? (i := 194) rfl)))))
set_option maxRecDepth 100000 in
theorem hmwsX7_back : ∀ w ∈ wsX7_back, w ∈ lw_tbl := List.forall_mem_cons.mpr ⟨mw_963, List.forall_mem_append.mpr ⟨List.forall_mem_cons.mpr ⟨mw_955, List.forall_mem_cons.mpr ⟨mw_954, List.forall_mem_cons.mpr ⟨mw_953, List.forall_mem_cons.mpr ⟨mw_952, List.forall_mem_cons.mpr ⟨mw_114, List.forall_mem_cons.mpr ⟨mw_951, List.forall_mem_cons.mpr ⟨mw_950, List.forall_mem_cons.mpr ⟨mw_110, List.forall_mem_cons.mpr ⟨mw_109, List.forall_mem_cons.mpr ⟨mw_108, List.forall_mem_cons.mpr ⟨mw_107, List.forall_mem_cons.mpr ⟨mw_106, List.forall_mem_cons.mpr ⟨mw_105, List.forall_mem_cons.mpr ⟨mw_104, List.forall_mem_cons.mpr ⟨mw_103, List.forall_mem_cons.mpr ⟨mw_102, List.forall_mem_cons.mpr ⟨mw_949, List.forall_mem_cons.mpr ⟨mw_948, List.forall_mem_cons.mpr ⟨mw_947, List.forall_mem_cons.mpr ⟨mw_946, List.forall_mem_cons.mpr ⟨mw_93, List.forall_mem_nil _⟩⟩⟩⟩⟩⟩⟩⟩⟩⟩⟩⟩⟩⟩⟩⟩⟩⟩⟩⟩⟩, inX7⟩⟩
set_option maxRecDepth 100000 in
theorem mw_964 : Cond.methodLink RL 154 yX7_back ∈ lw_tbl := List.mem_append_right _ (List.mem_append_right _ (List.mem_append_right _ (List.mem_append_right _ (List.mem_append_right _ (List.mem_of_getElem? (i := 191) rfl)))))
set_option maxRecDepth 100000 in
theorem mw_965 : Cond.instanceMethod yX7_back ∈ lw_tbl := List.mem_append_right _ (List.mem_append_right _ (List.mem_append_right _ (List.mem_append_right _ (List.mem_append_right _ (List.mem_of_getElem? (i := 192) rfl)))))
set_option maxRecDepth 100000 in
theorem mw_966 : Cond.selects RX7 yX7_back yX7_back ∈ lw_tbl := List.mem_append_right _ (List.mem_append_right _ (List.mem_append_right _ (List.mem_append_right _ (List.mem_append_right _ (List.mem_of_getElem? (i := 193) rfl)))))
set_option maxRecDepth 100000 in
theorem glX7_back : GoodIn lw_tbl (wsV RL 154 RX7 yX7_back wsX7_back) := goodIn_sub (List.forall_mem_append.mpr ⟨List.forall_mem_cons.mpr ⟨mw_964, List.forall_mem_cons.mpr ⟨mw_965, List.forall_mem_cons.mpr ⟨mw_966, List.forall_mem_cons.mpr ⟨mw_114, List.forall_mem_nil _⟩⟩⟩⟩, hmwsX7_back⟩) (by decide +kernel)
set_option maxRecDepth 100000 in
theorem ckL_X7_back : CkV lw_tbl RL 154 yX7_back wsX7_back cX7_back 1 (some .int) 0 7 := ⟨RX7, TX7, 28, _, rfl, glX7_back, rfl, hdX7_back⟩
set_option maxRecDepth 100000 in
theorem mw_967 : Cond.classLink RL 7 RX6 ∈ lw_tbl := List.mem_append_right _ (List.mem_append_left _ (List.mem_of_getElem? (i := 15) rfl))
set_option maxRecDepth 100000 in
theorem mw_968 : Cond.instantiable RX6 8 ∈ lw_tbl := List.mem_append_right _ (List.mem_append_left _ (List.mem_of_getElem? (i := 16) rfl))
set_option maxRecDepth 100000 in
theorem nwL_X6 : CkNew lw_tbl RL 7 6 8 [.null, .null, .null, .null, .null, .null, .int 0, .int 0] := ⟨RX6, TX6, tyX6, rfl, inX6, tyX6_ok, mw_967, mw_968, mw_91, fun j hj => by rcases (show j = 0 ∨ j = 1 ∨ j = 2 ∨ j = 3 ∨ j = 4 ∨ j = 5 ∨ j = 6 ∨ j = 7 by omega) with rfl | rfl | rfl | rfl | rfl | rfl | rfl | rfl <;> rfl⟩
set_option maxRecDepth 100000 in
theorem mw_969 : Cond.classLink RL 10 RX7 ∈ lw_tbl := List.mem_append_right _ (List.mem_append_right _ (List.mem_append_right _ (List.mem_append_right _ (List.mem_append_left _ (List.mem_of_getElem? (i := 72) rfl)))))
set_option maxRecDepth 100000 in
theorem mw_970 : Cond.instantiable RX7 28 ∈ lw_tbl := List.mem_append_right _ (List.mem_append_right _ (List.mem_append_right _ (List.mem_append_right _ (List.mem_append_left _ (List.mem_of_getElem? (i := 73) rfl)))))
set_option maxRecDepth 100000 in
theorem nwL_X7 : CkNew lw_tbl RL 10 7 28 [.null, .null, .null, .null, .null, .null, .null, .null, .null, .null, .null, .null, .null, .int 0, .null, .null, .null, .null, .int 0, .int 0, .int 0, .int 0, .int 0, .int 0, .int 0, .int 0, .null, .int 0] := ⟨RX7, TX7, tyX7, rfl, inX7, tyX7_ok, mw_969, mw_970, mw_114, fun j hj => by rcases (show j = 0 ∨ j = 1 ∨ j = 2 ∨ j = 3 ∨ j = 4 ∨ j = 5 ∨ j = 6 ∨ j = 7 ∨ j = 8 ∨ j = 9 ∨ j = 10 ∨ j = 11 ∨ j = 12 ∨ j = 13 ∨ j = 14 ∨ j = 15 ∨ j = 16 ∨ j = 17 ∨ j = 18 ∨ j = 19 ∨ j = 20 ∨ j = 21 ∨ j = 22 ∨ j = 23 ∨ j = 24 ∨ j = 25 ∨ j = 26 ∨ j = 27 by omega) with rfl | rfl | rfl | rfl | rfl | rfl | rfl | rfl | rfl | rfl | rfl | rfl | rfl | rfl | rfl | rfl | rfl | rfl | rfl | rfl | rfl | rfl | rfl | rfl | rfl | rfl | rfl | rfl <;> rfl⟩
set_option maxRecDepth 100000 in
theorem mw_971 : Cond.constantLong RL 100 4294967295 ∈ lw_tbl := List.mem_append_right _ (List.mem_append_right _ (List.mem_append_right _ (List.mem_append_right _ (List.mem_append_right _ (List.mem_of_getElem? (i := 195) rfl)))))
set_option maxRecDepth 100000 in
theorem cwL_100 : Cond.constantLong RL 100 4294967295 ∈ lw_tbl := by exact mw_971
set_option maxRecDepth 100000 in
theorem mw_972 : Cond.methodLinkNest "EmptyBoxes" 21 ⟨"EmptyBoxes$Tape", "<init>", "()V"⟩ "EmptyBoxes" ∈ lw_tbl := List.mem_append_right _ (List.mem_append_left _ (List.mem_of_getElem? (i := 114) rfl))
set_option maxRecDepth 100000 in
theorem nsL_0 : Cond.methodLinkNest "EmptyBoxes" 21 ⟨"EmptyBoxes$Tape", "<init>", "()V"⟩ "EmptyBoxes" ∈ lw_tbl := mw_972
set_option maxRecDepth 100000 in
theorem mw_973 : Cond.methodLinkNest "EmptyBoxes" 28 ⟨"EmptyBoxes$LeaseText", "<init>", "()V"⟩ "EmptyBoxes" ∈ lw_tbl := List.mem_append_right _ (List.mem_append_left _ (List.mem_of_getElem? (i := 133) rfl))
set_option maxRecDepth 100000 in
theorem nsL_1 : Cond.methodLinkNest "EmptyBoxes" 28 ⟨"EmptyBoxes$LeaseText", "<init>", "()V"⟩ "EmptyBoxes" ∈ lw_tbl := mw_973
set_option maxRecDepth 100000 in
theorem mw_974 : Cond.methodLinkNest "EmptyBoxes" 35 ⟨"EmptyBoxes$Plan", "<init>", "()V"⟩ "EmptyBoxes" ∈ lw_tbl := List.mem_append_right _ (List.mem_append_left _ (List.mem_of_getElem? (i := 151) rfl))
set_option maxRecDepth 100000 in
theorem nsL_2 : Cond.methodLinkNest "EmptyBoxes" 35 ⟨"EmptyBoxes$Plan", "<init>", "()V"⟩ "EmptyBoxes" ∈ lw_tbl := mw_974
set_option maxRecDepth 100000 in
theorem mw_975 : Cond.methodLinkNest "EmptyBoxes" 42 ⟨"EmptyBoxes$Matching", "<init>", "()V"⟩ "EmptyBoxes" ∈ lw_tbl := List.mem_append_right _ (List.mem_append_left _ (List.mem_of_getElem? (i := 192) rfl))
set_option maxRecDepth 100000 in
theorem nsL_3 : Cond.methodLinkNest "EmptyBoxes" 42 ⟨"EmptyBoxes$Matching", "<init>", "()V"⟩ "EmptyBoxes" ∈ lw_tbl := mw_975
set_option maxRecDepth 100000 in
theorem mw_976 : Cond.methodLinkNest "EmptyBoxes$Plan" 97 ⟨"EmptyBoxes", "knotOf", "(II)I"⟩ "EmptyBoxes" ∈ lw_tbl := List.mem_append_right _ (List.mem_append_right _ (List.mem_append_left _ (List.mem_of_getElem? (i := 203) rfl)))
set_option maxRecDepth 100000 in
theorem nsL_4 : Cond.methodLinkNest "EmptyBoxes$Plan" 97 ⟨"EmptyBoxes", "knotOf", "(II)I"⟩ "EmptyBoxes" ∈ lw_tbl := mw_976
set_option maxRecDepth 100000 in
theorem mw_977 : Cond.methodLinkNest "EmptyBoxes$Plan" 40 ⟨"EmptyBoxes", "isWithin", "(III)Z"⟩ "EmptyBoxes" ∈ lw_tbl := List.mem_append_right _ (List.mem_append_right _ (List.mem_append_left _ (List.mem_of_getElem? (i := 211) rfl)))
set_option maxRecDepth 100000 in
theorem nsL_5 : Cond.methodLinkNest "EmptyBoxes$Plan" 40 ⟨"EmptyBoxes", "isWithin", "(III)Z"⟩ "EmptyBoxes" ∈ lw_tbl := mw_977
set_option maxRecDepth 100000 in
theorem mw_978 : Cond.methodLinkNest "EmptyBoxes$Matching" 37 ⟨"EmptyBoxes", "isWithin", "(III)Z"⟩ "EmptyBoxes" ∈ lw_tbl := List.mem_append_right _ (List.mem_append_right _ (List.mem_append_right _ (List.mem_append_left _ (List.mem_of_getElem? (i := 56) rfl))))
set_option maxRecDepth 100000 in
theorem nsL_6 : Cond.methodLinkNest "EmptyBoxes$Matching" 37 ⟨"EmptyBoxes", "isWithin", "(III)Z"⟩ "EmptyBoxes" ∈ lw_tbl := mw_978
set_option maxRecDepth 100000 in
theorem mw_979 : Cond.methodLinkNest "EmptyBoxes$LeaseText" 46 ⟨"EmptyBoxes", "isPlace", "(I)Z"⟩ "EmptyBoxes" ∈ lw_tbl := List.mem_append_right _ (List.mem_append_right _ (List.mem_append_right _ (List.mem_append_left _ (List.mem_of_getElem? (i := 200) rfl))))
set_option maxRecDepth 100000 in
theorem nsL_7 : Cond.methodLinkNest "EmptyBoxes$LeaseText" 46 ⟨"EmptyBoxes", "isPlace", "(I)Z"⟩ "EmptyBoxes" ∈ lw_tbl := mw_979
set_option maxRecDepth 100000 in
theorem mw_980 : Cond.stringRef "EmptyBoxes$LeaseText" 56 "free" ∈ lw_tbl := List.mem_append_right _ (List.mem_append_right _ (List.mem_append_right _ (List.mem_append_left _ (List.mem_of_getElem? (i := 138) rfl))))
set_option maxRecDepth 100000 in
theorem srL_0 : Cond.stringRef "EmptyBoxes$LeaseText" 56 "free" ∈ lw_tbl := mw_980
set_option maxRecDepth 100000 in
theorem mw_981 : Cond.stringRef "EmptyBoxes$LeaseText" 58 "day" ∈ lw_tbl := List.mem_append_right _ (List.mem_append_right _ (List.mem_append_right _ (List.mem_append_left _ (List.mem_of_getElem? (i := 191) rfl))))
set_option maxRecDepth 100000 in
theorem srL_1 : Cond.stringRef "EmptyBoxes$LeaseText" 58 "day" ∈ lw_tbl := mw_981
set_option maxRecDepth 100000 in
theorem mw_982 : Cond.stringRef "EmptyBoxes$LeaseText" 60 "worn" ∈ lw_tbl := List.mem_append_right _ (List.mem_append_right _ (List.mem_append_right _ (List.mem_append_left _ (List.mem_of_getElem? (i := 192) rfl))))
set_option maxRecDepth 100000 in
theorem srL_2 : Cond.stringRef "EmptyBoxes$LeaseText" 60 "worn" ∈ lw_tbl := mw_982
set_option maxRecDepth 100000 in
theorem mw_983 : Cond.stringRef "EmptyBoxes$LeaseText" 62 "lost" ∈ lw_tbl := List.mem_append_right _ (List.mem_append_right _ (List.mem_append_right _ (List.mem_append_left _ (List.mem_of_getElem? (i := 193) rfl))))
set_option maxRecDepth 100000 in
theorem srL_3 : Cond.stringRef "EmptyBoxes$LeaseText" 62 "lost" ∈ lw_tbl := mw_983
set_option maxRecDepth 100000 in
theorem mw_984 : Cond.stringRef "EmptyBoxes$LeaseText" 64 "drop" ∈ lw_tbl := List.mem_append_right _ (List.mem_append_right _ (List.mem_append_right _ (List.mem_append_left _ (List.mem_of_getElem? (i := 194) rfl))))
set_option maxRecDepth 100000 in
theorem srL_4 : Cond.stringRef "EmptyBoxes$LeaseText" 64 "drop" ∈ lw_tbl := mw_984
set_option maxRecDepth 100000 in
theorem mw_985 : Cond.stringRef "EmptyBoxes$LeaseText" 66 "room" ∈ lw_tbl := List.mem_append_right _ (List.mem_append_right _ (List.mem_append_right _ (List.mem_append_left _ (List.mem_of_getElem? (i := 195) rfl))))
set_option maxRecDepth 100000 in
theorem srL_5 : Cond.stringRef "EmptyBoxes$LeaseText" 66 "room" ∈ lw_tbl := mw_985
set_option maxRecDepth 100000 in
theorem mw_986 : Cond.stringRef "EmptyBoxes$LeaseText" 50 ";" ∈ lw_tbl := List.mem_append_right _ (List.mem_append_right _ (List.mem_append_right _ (List.mem_append_left _ (List.mem_of_getElem? (i := 201) rfl))))
set_option maxRecDepth 100000 in
theorem srL_6 : Cond.stringRef "EmptyBoxes$LeaseText" 50 ";" ∈ lw_tbl := mw_986
set_option maxRecDepth 100000 in
theorem mw_987 : Cond.laysStatic "java/lang/String" "COMPACT_STRINGS" "Z" ∈ lw_tbl := List.mem_append_right _ (List.mem_append_right _ (List.mem_append_right _ (List.mem_append_left _ (List.mem_of_getElem? (i := 152) rfl))))
set_option maxRecDepth 100000 in
theorem lsL_0 : Cond.laysStatic "java/lang/String" "COMPACT_STRINGS" "Z" ∈ lw_tbl := by exact mw_987
set_option maxRecDepth 100000 in
theorem mw_988 : Cond.laysStatic "jdk/internal/util/Preconditions" "SIOOBE_FORMATTER" "Ljava/util/function/BiFunction;" ∈ lw_tbl := List.mem_append_right _ (List.mem_append_right _ (List.mem_append_right _ (List.mem_append_left _ (List.mem_of_getElem? (i := 168) rfl))))
set_option maxRecDepth 100000 in
theorem lsL_1 : Cond.laysStatic "jdk/internal/util/Preconditions" "SIOOBE_FORMATTER" "Ljava/util/function/BiFunction;" ∈ lw_tbl := by exact mw_988
set_option maxRecDepth 100000 in
theorem inL_0 : Cond.initialized "java/lang/String" ∈ lw_tbl := by exact mw_686
set_option maxRecDepth 100000 in
theorem inL_1 : Cond.initialized "jdk/internal/util/Preconditions" ∈ lw_tbl := by exact mw_707
set_option maxRecDepth 100000 in
theorem acL : Cond.arrayClass .int ∈ lw_tbl := by exact mw_64
set_option maxRecDepth 100000 in
theorem isL_X0 : Cond.instantiable RX0 13 ∈ lw_tbl := by exact mw_20
set_option maxRecDepth 100000 in
theorem isL_X1 : Cond.instantiable RX1 3 ∈ lw_tbl := by exact mw_11
set_option maxRecDepth 100000 in
theorem isL_X2 : Cond.instantiable RX2 7 ∈ lw_tbl := by exact mw_3
set_option maxRecDepth 100000 in
theorem isL_X3 : Cond.instantiable RX3 11 ∈ lw_tbl := by exact mw_7
set_option maxRecDepth 100000 in
theorem isL_X4 : Cond.instantiable RX4 4 ∈ lw_tbl := by exact mw_41
set_option maxRecDepth 100000 in
theorem isL_X5 : Cond.instantiable RX5 4 ∈ lw_tbl := by exact mw_15
set_option maxRecDepth 100000 in
theorem isL_X6 : Cond.instantiable RX6 8 ∈ lw_tbl := by exact mw_968
set_option maxRecDepth 100000 in
theorem isL_X7 : Cond.instantiable RX7 28 ∈ lw_tbl := by exact mw_970
