/-! ===== the classes: their words among the tables' ===== -/
set_option maxRecDepth 20000 in
theorem ck_w0 : ∀ w ∈ u_ws RX0 TX0 8, w ∈ lw_tbl ∧ ai_mv w = true := by decide +kernel
theorem ck0 : ai_ck 0 RX0 TX0 8 tyX0 := ⟨rfl, tyX0_ok, nmX0, ck_w0⟩
set_option maxRecDepth 20000 in
theorem ck_w1 : ∀ w ∈ u_ws RX1 TX1 3, w ∈ lw_tbl ∧ ai_mv w = true := by decide +kernel
theorem ck1 : ai_ck 1 RX1 TX1 3 tyX1 := ⟨rfl, tyX1_ok, nmX1, ck_w1⟩
set_option maxRecDepth 20000 in
theorem ck_w2 : ∀ w ∈ u_ws RX2 TX2 8, w ∈ lw_tbl ∧ ai_mv w = true := by decide +kernel
theorem ck2 : ai_ck 2 RX2 TX2 8 tyX2 := ⟨rfl, tyX2_ok, nmX2, ck_w2⟩
set_option maxRecDepth 20000 in
theorem ck_w3 : ∀ w ∈ u_ws RX3 TX3 5, w ∈ lw_tbl ∧ ai_mv w = true := by decide +kernel
theorem ck3 : ai_ck 3 RX3 TX3 5 tyX3 := ⟨rfl, tyX3_ok, nmX3, ck_w3⟩
set_option maxRecDepth 20000 in
theorem ck_w4 : ∀ w ∈ u_ws RX4 TX4 9, w ∈ lw_tbl ∧ ai_mv w = true := by decide +kernel
theorem ck4 : ai_ck 4 RX4 TX4 9 tyX4 := ⟨rfl, tyX4_ok, nmX4, ck_w4⟩
set_option maxRecDepth 20000 in
theorem ck_w5 : ∀ w ∈ u_ws RX5 TX5 9, w ∈ lw_tbl ∧ ai_mv w = true := by decide +kernel
theorem ck5 : ai_ck 5 RX5 TX5 9 tyX5 := ⟨rfl, tyX5_ok, nmX5, ck_w5⟩
set_option maxRecDepth 20000 in
theorem ck_w6 : ∀ w ∈ u_ws RX6 TX6 5, w ∈ lw_tbl ∧ ai_mv w = true := by decide +kernel
theorem ck6 : ai_ck 6 RX6 TX6 5 tyX6 := ⟨rfl, tyX6_ok, nmX6, ck_w6⟩
set_option maxRecDepth 20000 in
theorem ck_w7 : ∀ w ∈ u_ws RX7 TX7 7, w ∈ lw_tbl ∧ ai_mv w = true := by decide +kernel
theorem ck7 : ai_ck 7 RX7 TX7 7 tyX7 := ⟨rfl, tyX7_ok, nmX7, ck_w7⟩
set_option maxRecDepth 20000 in
theorem ck_w8 : ∀ w ∈ u_ws RX8 TX8 10, w ∈ lw_tbl ∧ ai_mv w = true := by decide +kernel
theorem ck8 : ai_ck 8 RX8 TX8 10 tyX8 := ⟨rfl, tyX8_ok, nmX8, ck_w8⟩
set_option maxRecDepth 20000 in
theorem ck_w9 : ∀ w ∈ u_ws RX9 TX9 7, w ∈ lw_tbl ∧ ai_mv w = true := by decide +kernel
theorem ck9 : ai_ck 9 RX9 TX9 7 tyX9 := ⟨rfl, tyX9_ok, nmX9, ck_w9⟩
set_option maxRecDepth 20000 in
theorem ck_w10 : ∀ w ∈ u_ws RX10 TX10 15, w ∈ lw_tbl ∧ ai_mv w = true := by decide +kernel
theorem ck10 : ai_ck 10 RX10 TX10 15 tyX10 := ⟨rfl, tyX10_ok, nmX10, ck_w10⟩
set_option maxRecDepth 20000 in
theorem ck_w11 : ∀ w ∈ u_ws RX11 TX11 96, w ∈ lw_tbl ∧ ai_mv w = true := by decide +kernel
theorem ck11 : ai_ck 11 RX11 TX11 96 tyX11 := ⟨rfl, tyX11_ok, nmX11, ck_w11⟩
