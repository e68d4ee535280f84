/-! methods checked, piece 0 -/
set_option maxRecDepth 100000 in
set_option maxHeartbeats 4000000 in
theorem jmk_0 : (List.range 25).all (fun i => decide (0 + i = 0) || decide (0 + i = 200) || jmok (0 + i)) = true := by decide +kernel
set_option maxRecDepth 100000 in
set_option maxHeartbeats 4000000 in
theorem jmk_1 : (List.range 25).all (fun i => decide (25 + i = 0) || decide (25 + i = 200) || jmok (25 + i)) = true := by decide +kernel
set_option maxRecDepth 100000 in
set_option maxHeartbeats 4000000 in
theorem jmk_2 : (List.range 25).all (fun i => decide (50 + i = 0) || decide (50 + i = 200) || jmok (50 + i)) = true := by decide +kernel
set_option maxRecDepth 100000 in
set_option maxHeartbeats 4000000 in
theorem jmk_3 : (List.range 25).all (fun i => decide (75 + i = 0) || decide (75 + i = 200) || jmok (75 + i)) = true := by decide +kernel
set_option maxRecDepth 100000 in
set_option maxHeartbeats 4000000 in
theorem jmk_4 : (List.range 25).all (fun i => decide (100 + i = 0) || decide (100 + i = 200) || jmok (100 + i)) = true := by decide +kernel
