set_option maxRecDepth 20000 in
theorem yi_X0_init : YI yX0_init cX0_init 2 1 := ⟨gc1 66 rfl rfl, gc1 3 rfl rfl, gc1 67 rfl rfl, rfl, by decide, by decide, by decide +kernel⟩
set_option maxRecDepth 20000 in
theorem yi_X1_init : YI yX1_init cX1_init 1 0 := ⟨gc1 140 rfl rfl, gc1 8 rfl rfl, gc1 141 rfl rfl, rfl, by decide, by decide, by decide +kernel⟩
set_option maxRecDepth 20000 in
theorem yi_X2_init : YI yX2_init cX2_init 1 0 := ⟨gc1 201 rfl rfl, gc1 9 rfl rfl, gc1 202 rfl rfl, rfl, by decide, by decide, by decide +kernel⟩
set_option maxRecDepth 20000 in
theorem yi_X3_init : YI yX3_init cX3_init 1 0 := ⟨gc1 82 rfl rfl, gc1 4 rfl rfl, gc1 83 rfl rfl, rfl, by decide, by decide, by decide +kernel⟩
set_option maxRecDepth 20000 in
theorem yi_X4_init : YI yX4_init cX4_init 3 2 := ⟨gc1 104 rfl rfl, gc1 5 rfl rfl, gc1 105 rfl rfl, rfl, by decide, by decide, by decide +kernel⟩
set_option maxRecDepth 20000 in
theorem yi_X5_init : YI yX5_init cX5_init 2 1 := ⟨gc2 55 rfl rfl, gc1 6 rfl rfl, gc2 56 rfl rfl, rfl, by decide, by decide, by decide +kernel⟩
set_option maxRecDepth 20000 in
theorem yi_X6_init : YI yX6_init cX6_init 2 0 := ⟨gc1 131 rfl rfl, gc1 7 rfl rfl, gc1 132 rfl rfl, rfl, by decide, by decide, by decide +kernel⟩
set_option maxRecDepth 20000 in
theorem yi_X7_init : YI yX7_init cX7_init 2 1 := ⟨gc2 98 rfl rfl, gc1 11 rfl rfl, gc2 99 rfl rfl, rfl, by decide, by decide, by decide +kernel⟩
set_option maxRecDepth 20000 in
theorem yi_X8_init : YI yX8_init cX8_init 1 0 := ⟨gc1 33 rfl rfl, gc1 2 rfl rfl, gc1 34 rfl rfl, rfl, by decide, by decide, by decide +kernel⟩
set_option maxRecDepth 20000 in
theorem yi_X9_init : YI yX9_init cX9_init 4 2 := ⟨gc2 91 rfl rfl, gc1 10 rfl rfl, gc2 92 rfl rfl, rfl, by decide, by decide, by decide +kernel⟩
set_option maxRecDepth 20000 in
theorem yi_X10_init : YI yX10_init cX10_init 2 1 := ⟨gc2 190 rfl rfl, gc1 12 rfl rfl, gc2 191 rfl rfl, rfl, by decide, by decide, by decide +kernel⟩
set_option maxRecDepth 20000 in
theorem yi_X11_init : YI yX11_init cX11_init 2 0 := ⟨gc1 25 rfl rfl, gc1 1 rfl rfl, gc1 26 rfl rfl, rfl, by decide, by decide, by decide +kernel⟩
set_option maxRecDepth 20000 in
theorem yi_X12_init : YI yX12_init cX12_init 1 0 := ⟨gc6 233 rfl rfl, gc1 13 rfl rfl, gc6 234 rfl rfl, rfl, by decide, by decide, by decide +kernel⟩
set_option maxRecDepth 20000 in
theorem fl_X7_18 : Cond.fieldLink RX7 18 (TX7 0).1 (TX7 0).2.1 (TX7 0).2.2.1 ∈ gtbl := gc2 101 rfl rfl
set_option maxRecDepth 20000 in
theorem fl_X12_145 : Cond.fieldLink RX12 145 (TX12 59).1 (TX12 59).2.1 (TX12 59).2.2.1 ∈ gtbl := gc7 55 rfl rfl
theorem lim1 {s : State} {b0 cells slots n mc : Nat} {G G0 : Lay} (hc : Ct s b0 (gN G0) (gZ G0) cells slots G) (h : gN G + n ≤ gN G0 + mc) : cells + n ≤ mc := by
  have := hc.2.1
  omega
theorem lim2 {s : State} {b0 cells slots n ms : Nat} {G G0 : Lay} (hc : Ct s b0 (gN G0) (gZ G0) cells slots G) (h : gZ G + n ≤ gZ G0 + ms) : slots + n ≤ ms := by
  have := hc.2.2
  omega
