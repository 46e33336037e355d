set_option maxRecDepth 100000 in
set_option maxHeartbeats 4000000 in
theorem ax_c168 : ((List.range 8).map (· + 168)).all ax_okM = true := by decide +kernel
set_option maxRecDepth 100000 in
set_option maxHeartbeats 4000000 in
theorem ax_c176 : ((List.range 8).map (· + 176)).all ax_okM = true := by decide +kernel
set_option maxRecDepth 100000 in
set_option maxHeartbeats 4000000 in
theorem ax_c184 : ((List.range 8).map (· + 184)).all ax_okM = true := by decide +kernel
set_option maxRecDepth 100000 in
set_option maxHeartbeats 4000000 in
theorem ax_c192 : ((List.range 1).map (· + 192)).all ax_okM = true := by decide +kernel
