set_option maxRecDepth 100000 in
set_option maxHeartbeats 4000000 in
theorem ax_c0 : ((List.range 8).map (· + 0)).all ax_okM = true := by decide +kernel
set_option maxRecDepth 100000 in
set_option maxHeartbeats 4000000 in
theorem ax_c8 : ((List.range 8).map (· + 8)).all ax_okM = true := by decide +kernel
set_option maxRecDepth 100000 in
set_option maxHeartbeats 4000000 in
theorem ax_c16 : ((List.range 8).map (· + 16)).all ax_okM = true := by decide +kernel
set_option maxRecDepth 100000 in
set_option maxHeartbeats 4000000 in
theorem ax_c24 : ((List.range 8).map (· + 24)).all ax_okM = true := by decide +kernel
set_option maxRecDepth 100000 in
set_option maxHeartbeats 4000000 in
theorem ax_c32 : ((List.range 8).map (· + 32)).all ax_okM = true := by decide +kernel
set_option maxRecDepth 100000 in
set_option maxHeartbeats 4000000 in
theorem ax_c40 : ((List.range 8).map (· + 40)).all ax_okM = true := by decide +kernel
set_option maxRecDepth 100000 in
set_option maxHeartbeats 4000000 in
theorem ax_c48 : ((List.range 8).map (· + 48)).all ax_okM = true := by decide +kernel
