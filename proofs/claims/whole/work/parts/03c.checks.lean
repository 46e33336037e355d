set_option maxRecDepth 100000 in
set_option maxHeartbeats 4000000 in
theorem ax_c112 : ((List.range 8).map (· + 112)).all ax_okM = true := by decide +kernel
set_option maxRecDepth 100000 in
set_option maxHeartbeats 4000000 in
theorem ax_c120 : ((List.range 8).map (· + 120)).all ax_okM = true := by decide +kernel
set_option maxRecDepth 100000 in
set_option maxHeartbeats 4000000 in
theorem ax_c128 : ((List.range 8).map (· + 128)).all ax_okM = true := by decide +kernel
set_option maxRecDepth 100000 in
set_option maxHeartbeats 4000000 in
theorem ax_c136 : ((List.range 8).map (· + 136)).all ax_okM = true := by decide +kernel
set_option maxRecDepth 100000 in
set_option maxHeartbeats 4000000 in
theorem ax_c144 : ((List.range 8).map (· + 144)).all ax_okM = true := by decide +kernel
set_option maxRecDepth 100000 in
set_option maxHeartbeats 4000000 in
theorem ax_c152 : ((List.range 8).map (· + 152)).all ax_okM = true := by decide +kernel
set_option maxRecDepth 100000 in
set_option maxHeartbeats 4000000 in
theorem ax_c160 : ((List.range 8).map (· + 160)).all ax_okM = true := by decide +kernel
