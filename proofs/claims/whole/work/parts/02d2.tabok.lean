/-! methods checked, piece 2 -/
set_option maxRecDepth 100000 in
set_option maxHeartbeats 4000000 in
theorem jmk_10 : (List.range 25).all (fun i => decide (250 + i = 0) || decide (250 + i = 200) || jmok (250 + i)) = true := by decide +kernel
set_option maxRecDepth 100000 in
set_option maxHeartbeats 4000000 in
theorem jmk_11 : (List.range 25).all (fun i => decide (275 + i = 0) || decide (275 + i = 200) || jmok (275 + i)) = true := by decide +kernel
set_option maxRecDepth 100000 in
set_option maxHeartbeats 4000000 in
theorem jmk_12 : (List.range 25).all (fun i => decide (300 + i = 0) || decide (300 + i = 200) || jmok (300 + i)) = true := by decide +kernel
set_option maxRecDepth 100000 in
set_option maxHeartbeats 4000000 in
theorem jmk_13 : (List.range 25).all (fun i => decide (325 + i = 0) || decide (325 + i = 200) || jmok (325 + i)) = true := by decide +kernel
set_option maxRecDepth 100000 in
set_option maxHeartbeats 4000000 in
theorem jmk_14 : (List.range 22).all (fun i => decide (350 + i = 0) || decide (350 + i = 200) || jmok (350 + i)) = true := by decide +kernel
def jAll : Nat → List (List jRow) → Prop
  | _, [] => True
  | k, t :: r => t.all (jrok k) = true ∧ jAll (k + 1) r
