/-! fields -/
theorem x_lay0 : ∀ w ∈ u_ws RX0 TX0 9, w ∈ xW := by decide +kernel
theorem x_lay1 : ∀ w ∈ u_ws RX1 TX1 8, w ∈ xW := by decide +kernel
theorem x_lay2 : ∀ w ∈ u_ws RX2 TX2 7, w ∈ xW := by decide +kernel
theorem x_lay3 : ∀ w ∈ u_ws RX3 TX3 4, w ∈ xW := by decide +kernel
theorem x_lay4 : ∀ w ∈ u_ws RX4 TX4 9, w ∈ xW := by decide +kernel
theorem x_lay5 : ∀ w ∈ u_ws RX5 TX5 7, w ∈ xW := by decide +kernel
theorem x_lay6 : ∀ w ∈ u_ws RX6 TX6 5, w ∈ xW := by decide +kernel
theorem x_lay7 : ∀ w ∈ u_ws RX7 TX7 9, w ∈ xW := by decide +kernel
theorem x_lay8 : ∀ w ∈ u_ws RX8 TX8 7, w ∈ xW := by decide +kernel
theorem x_lay9 : ∀ w ∈ u_ws RX9 TX9 2, w ∈ xW := by decide +kernel
theorem x_lay10 : ∀ w ∈ u_ws RX10 TX10 6, w ∈ xW := by decide +kernel
theorem x_lay11 : ∀ w ∈ u_ws RX11 TX11 13, w ∈ xW := by decide +kernel
theorem x_lay12 : ∀ w ∈ u_ws RX12 TX12 63, w ∈ xW := by decide +kernel
