set_option maxRecDepth 100000 in
theorem inG0 : ∀ w ∈ u_ws RX0 TX0 2, w ∈ gw := fun w h => gw_of ((by decide +kernel : ∀ w ∈ u_ws RX0 TX0 2, w ∈ lw_tbl) w h) ((by decide +kernel : ∀ w ∈ u_ws RX0 TX0 2, goodWord w = true) w h)
theorem cf0 : CF 0 RX0 TX0 2 tyX0 := ⟨rfl, inG0, tyX0_ok, nmX0⟩
set_option maxRecDepth 100000 in
theorem inG1 : ∀ w ∈ u_ws RX1 TX1 2, w ∈ gw := fun w h => gw_of ((by decide +kernel : ∀ w ∈ u_ws RX1 TX1 2, w ∈ lw_tbl) w h) ((by decide +kernel : ∀ w ∈ u_ws RX1 TX1 2, goodWord w = true) w h)
theorem cf1 : CF 1 RX1 TX1 2 tyX1 := ⟨rfl, inG1, tyX1_ok, nmX1⟩
set_option maxRecDepth 100000 in
theorem inG2 : ∀ w ∈ u_ws RX2 TX2 2, w ∈ gw := fun w h => gw_of ((by decide +kernel : ∀ w ∈ u_ws RX2 TX2 2, w ∈ lw_tbl) w h) ((by decide +kernel : ∀ w ∈ u_ws RX2 TX2 2, goodWord w = true) w h)
theorem cf2 : CF 2 RX2 TX2 2 tyX2 := ⟨rfl, inG2, tyX2_ok, nmX2⟩
set_option maxRecDepth 100000 in
theorem inG3 : ∀ w ∈ u_ws RX3 TX3 5, w ∈ gw := fun w h => gw_of ((by decide +kernel : ∀ w ∈ u_ws RX3 TX3 5, w ∈ lw_tbl) w h) ((by decide +kernel : ∀ w ∈ u_ws RX3 TX3 5, goodWord w = true) w h)
theorem cf3 : CF 3 RX3 TX3 5 tyX3 := ⟨rfl, inG3, tyX3_ok, nmX3⟩
set_option maxRecDepth 100000 in
theorem inG4 : ∀ w ∈ u_ws RX4 TX4 3, w ∈ gw := fun w h => gw_of ((by decide +kernel : ∀ w ∈ u_ws RX4 TX4 3, w ∈ lw_tbl) w h) ((by decide +kernel : ∀ w ∈ u_ws RX4 TX4 3, goodWord w = true) w h)
theorem cf4 : CF 4 RX4 TX4 3 tyX4 := ⟨rfl, inG4, tyX4_ok, nmX4⟩
set_option maxRecDepth 100000 in
theorem inG5 : ∀ w ∈ u_ws RX5 TX5 8, w ∈ gw := fun w h => gw_of ((by decide +kernel : ∀ w ∈ u_ws RX5 TX5 8, w ∈ lw_tbl) w h) ((by decide +kernel : ∀ w ∈ u_ws RX5 TX5 8, goodWord w = true) w h)
theorem cf5 : CF 5 RX5 TX5 8 tyX5 := ⟨rfl, inG5, tyX5_ok, nmX5⟩
set_option maxRecDepth 100000 in
theorem inG6 : ∀ w ∈ u_ws RX6 TX6 4, w ∈ gw := fun w h => gw_of ((by decide +kernel : ∀ w ∈ u_ws RX6 TX6 4, w ∈ lw_tbl) w h) ((by decide +kernel : ∀ w ∈ u_ws RX6 TX6 4, goodWord w = true) w h)
theorem cf6 : CF 6 RX6 TX6 4 tyX6 := ⟨rfl, inG6, tyX6_ok, nmX6⟩
set_option maxRecDepth 100000 in
theorem inG7 : ∀ w ∈ u_ws RX7 TX7 2, w ∈ gw := fun w h => gw_of ((by decide +kernel : ∀ w ∈ u_ws RX7 TX7 2, w ∈ lw_tbl) w h) ((by decide +kernel : ∀ w ∈ u_ws RX7 TX7 2, goodWord w = true) w h)
theorem cf7 : CF 7 RX7 TX7 2 tyX7 := ⟨rfl, inG7, tyX7_ok, nmX7⟩
set_option maxRecDepth 100000 in
theorem inG8 : ∀ w ∈ u_ws RX8 TX8 7, w ∈ gw := fun w h => gw_of ((by decide +kernel : ∀ w ∈ u_ws RX8 TX8 7, w ∈ lw_tbl) w h) ((by decide +kernel : ∀ w ∈ u_ws RX8 TX8 7, goodWord w = true) w h)
theorem cf8 : CF 8 RX8 TX8 7 tyX8 := ⟨rfl, inG8, tyX8_ok, nmX8⟩
set_option maxRecDepth 100000 in
theorem inG9 : ∀ w ∈ u_ws RX9 TX9 43, w ∈ gw := fun w h => gw_of ((by decide +kernel : ∀ w ∈ u_ws RX9 TX9 43, w ∈ lw_tbl) w h) ((by decide +kernel : ∀ w ∈ u_ws RX9 TX9 43, goodWord w = true) w h)
theorem cf9 : CF 9 RX9 TX9 43 tyX9 := ⟨rfl, inG9, tyX9_ok, nmX9⟩
