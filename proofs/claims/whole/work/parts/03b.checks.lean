set_option maxRecDepth 100000 in
set_option maxHeartbeats 4000000 in
theorem ax_c56 : ((List.range 8).map (· + 56)).all ax_okM = true := by decide +kernel
set_option maxRecDepth 100000 in
set_option maxHeartbeats 4000000 in
theorem ax_c64 : ((List.range 8).map (· + 64)).all ax_okM = true := by decide +kernel
set_option maxRecDepth 100000 in
set_option maxHeartbeats 4000000 in
theorem ax_c72 : ((List.range 8).map (· + 72)).all ax_okM = true := by decide +kernel
set_option maxRecDepth 100000 in
set_option maxHeartbeats 4000000 in
theorem ax_c80 : ((List.range 8).map (· + 80)).all ax_okM = true := by decide +kernel
set_option maxRecDepth 100000 in
set_option maxHeartbeats 4000000 in
theorem ax_c88 : ((List.range 8).map (· + 88)).all ax_okM = true := by decide +kernel
set_option maxRecDepth 100000 in
set_option maxHeartbeats 4000000 in
theorem ax_c96 : ((List.range 8).map (· + 96)).all ax_okM = true := by decide +kernel
set_option maxRecDepth 100000 in
set_option maxHeartbeats 4000000 in
theorem ax_c104 : ((List.range 8).map (· + 104)).all ax_okM = true := by decide +kernel
