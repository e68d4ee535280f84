/-! methods checked, piece 1 -/
set_option maxRecDepth 100000 in
set_option maxHeartbeats 4000000 in
theorem jmk_5 : (List.range 25).all (fun i => decide (125 + i = 0) || decide (125 + i = 200) || jmok (125 + i)) = true := by decide +kernel
set_option maxRecDepth 100000 in
set_option maxHeartbeats 4000000 in
theorem jmk_6 : (List.range 25).all (fun i => decide (150 + i = 0) || decide (150 + i = 200) || jmok (150 + i)) = true := by decide +kernel
set_option maxRecDepth 100000 in
set_option maxHeartbeats 4000000 in
theorem jmk_7 : (List.range 25).all (fun i => decide (175 + i = 0) || decide (175 + i = 200) || jmok (175 + i)) = true := by decide +kernel
set_option maxRecDepth 100000 in
set_option maxHeartbeats 4000000 in
theorem jmk_8 : (List.range 25).all (fun i => decide (200 + i = 0) || decide (200 + i = 200) || jmok (200 + i)) = true := by decide +kernel
set_option maxRecDepth 100000 in
set_option maxHeartbeats 4000000 in
theorem jmk_9 : (List.range 25).all (fun i => decide (225 + i = 0) || decide (225 + i = 200) || jmok (225 + i)) = true := by decide +kernel
