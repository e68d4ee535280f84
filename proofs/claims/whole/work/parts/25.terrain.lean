/-! the terrain after both constructors -/
def jL_0 : List (Nat × Nat) := [(99, 0), (11, 20), (20, 1600), (20, 547), (20, 7), (20, 48), (6, 13), (2, 5), (20, 1600), (20, 160), (20, 64), (2, 5), (20, 1600), (20, 160), (20, 64), (20, 40), (20, 40), (20, 40), (4, 12), (6, 13), (2, 5), (20, 1600), (20, 160), (20, 64), (2, 5)]
def jL_1 : List (Nat × Nat) := [(20, 1600), (20, 160), (20, 64), (20, 40), (20, 40), (20, 40), (2, 5), (20, 1600), (20, 160), (20, 64), (20, 0), (9, 15), (0, 5), (20, 512), (20, 512), (1, 4), (20, 512), (20, 512), (7, 7), (20, 32), (20, 32), (20, 32), (20, 32), (10, 7), (20, 8)]
def jL_2 : List (Nat × Nat) := [(20, 8), (20, 40), (20, 40), (20, 40), (20, 16), (20, 16), (20, 4), (9, 15), (0, 5), (20, 512), (20, 512), (1, 4), (20, 512), (20, 512), (7, 7), (20, 32), (20, 32), (20, 32), (20, 32), (10, 7), (20, 8), (20, 8), (20, 40), (20, 40), (20, 40)]
def jL_3 : List (Nat × Nat) := [(20, 16), (20, 16), (20, 4), (24, 20), (5, 5), (8, 8), (3, 10), (20, 16), (20, 4), (20, 513), (20, 16016), (9, 15), (0, 5), (20, 512), (20, 512), (1, 4), (20, 512), (20, 512), (7, 7), (20, 32), (20, 32), (20, 32), (20, 32), (10, 7), (20, 8)]
def jL_4 : List (Nat × Nat) := [(20, 8), (20, 40), (20, 40), (20, 40), (20, 16), (20, 16), (20, 4), (9, 15), (0, 5), (20, 512), (20, 512), (1, 4), (20, 512), (20, 512), (7, 7), (20, 32), (20, 32), (20, 32), (20, 32), (10, 7), (20, 8), (20, 8), (20, 40), (20, 40), (20, 40)]
def jL_5 : List (Nat × Nat) := [(20, 16), (20, 16), (20, 4), (9, 15), (0, 5), (20, 512), (20, 512), (1, 4), (20, 512), (20, 512), (7, 7), (20, 32), (20, 32), (20, 32), (20, 32), (10, 7), (20, 8), (20, 8), (20, 40), (20, 40), (20, 40), (20, 16), (20, 16), (20, 4), (9, 15)]
def jL_6 : List (Nat × Nat) := [(0, 5), (20, 512), (20, 512), (1, 4), (20, 512), (20, 512), (7, 7), (20, 32), (20, 32), (20, 32), (20, 32), (10, 7), (20, 8), (20, 8), (20, 40), (20, 40), (20, 40), (20, 16), (20, 16), (20, 4), (9, 15), (0, 5), (20, 512), (20, 512), (1, 4)]
def jL_7 : List (Nat × Nat) := [(20, 512), (20, 512), (7, 7), (20, 32), (20, 32), (20, 32), (20, 32), (10, 7), (20, 8), (20, 8), (20, 40), (20, 40), (20, 40), (20, 16), (20, 16), (20, 4), (9, 15), (0, 5), (20, 512), (20, 512), (1, 4), (20, 512), (20, 512), (7, 7), (20, 32)]
def jL_8 : List (Nat × Nat) := [(20, 32), (20, 32), (20, 32), (10, 7), (20, 8), (20, 8), (20, 40), (20, 40), (20, 40), (20, 16), (20, 16), (20, 4), (9, 15), (0, 5), (20, 512), (20, 512), (1, 4), (20, 512), (20, 512), (7, 7), (20, 32), (20, 32), (20, 32), (20, 32), (10, 7)]
def jL_9 : List (Nat × Nat) := [(20, 8), (20, 8), (20, 40), (20, 40), (20, 40), (20, 16), (20, 16), (20, 4), (9, 15), (0, 5), (20, 512), (20, 512), (1, 4), (20, 512), (20, 512), (7, 7), (20, 32), (20, 32), (20, 32), (20, 32), (10, 7), (20, 8), (20, 8), (20, 40), (20, 40)]
def jL_10 : List (Nat × Nat) := [(20, 40), (20, 16), (20, 16), (20, 4), (9, 15), (0, 5), (20, 512), (20, 512), (1, 4), (20, 512), (20, 512), (7, 7), (20, 32), (20, 32), (20, 32), (20, 32), (10, 7), (20, 8), (20, 8), (20, 40), (20, 40), (20, 40), (20, 16), (20, 16), (20, 4)]
def jL_11 : List (Nat × Nat) := [(9, 15), (0, 5), (20, 512), (20, 512), (1, 4), (20, 512), (20, 512), (7, 7), (20, 32), (20, 32), (20, 32), (20, 32), (10, 7), (20, 8), (20, 8), (20, 40), (20, 40), (20, 40), (20, 16), (20, 16), (20, 4), (9, 15), (0, 5), (20, 512), (20, 512)]
def jL_12 : List (Nat × Nat) := [(1, 4), (20, 512), (20, 512), (7, 7), (20, 32), (20, 32), (20, 32), (20, 32), (10, 7), (20, 8), (20, 8), (20, 40), (20, 40), (20, 40), (20, 16), (20, 16), (20, 4), (9, 15), (0, 5), (20, 512), (20, 512), (1, 4), (20, 512), (20, 512), (7, 7)]
def jL_13 : List (Nat × Nat) := [(20, 32), (20, 32), (20, 32), (20, 32), (10, 7), (20, 8), (20, 8), (20, 40), (20, 40), (20, 40), (20, 16), (20, 16), (20, 4), (9, 15), (0, 5), (20, 512), (20, 512), (1, 4), (20, 512), (20, 512), (7, 7), (20, 32), (20, 32), (20, 32), (20, 32)]
def jL_14 : List (Nat × Nat) := [(10, 7), (20, 8), (20, 8), (20, 40), (20, 40), (20, 40), (20, 16), (20, 16), (20, 4), (9, 15), (0, 5), (20, 512), (20, 512), (1, 4), (20, 512), (20, 512), (7, 7), (20, 32), (20, 32), (20, 32), (20, 32), (10, 7), (20, 8), (20, 8), (20, 40)]
def jL_15 : List (Nat × Nat) := [(20, 40), (20, 40), (20, 16), (20, 16), (20, 4), (9, 15), (0, 5), (20, 512), (20, 512), (1, 4), (20, 512), (20, 512), (7, 7), (20, 32), (20, 32), (20, 32), (20, 32), (10, 7), (20, 8), (20, 8), (20, 40), (20, 40), (20, 40), (20, 16), (20, 16)]
def jL_16 : List (Nat × Nat) := [(20, 4), (9, 15), (0, 5), (20, 512), (20, 512), (1, 4), (20, 512), (20, 512), (7, 7), (20, 32), (20, 32), (20, 32), (20, 32), (10, 7), (20, 8), (20, 8), (20, 40), (20, 40), (20, 40), (20, 16), (20, 16), (20, 4), (9, 15), (0, 5), (20, 512)]
def jL_17 : List (Nat × Nat) := [(20, 512), (1, 4), (20, 512), (20, 512), (7, 7), (20, 32), (20, 32), (20, 32), (20, 32), (10, 7), (20, 8), (20, 8), (20, 40), (20, 40), (20, 40), (20, 16), (20, 16), (20, 4), (9, 15), (0, 5), (20, 512), (20, 512), (1, 4), (20, 512), (20, 512)]
def jL_18 : List (Nat × Nat) := [(7, 7), (20, 32), (20, 32), (20, 32), (20, 32), (10, 7), (20, 8), (20, 8), (20, 40), (20, 40), (20, 40), (20, 16), (20, 16), (20, 4), (9, 15), (0, 5), (20, 512), (20, 512), (1, 4), (20, 512), (20, 512), (7, 7), (20, 32), (20, 32), (20, 32)]
def jL_19 : List (Nat × Nat) := [(20, 32), (10, 7), (20, 8), (20, 8), (20, 40), (20, 40), (20, 40), (20, 16), (20, 16), (20, 4), (9, 15), (0, 5), (20, 512), (20, 512), (1, 4), (20, 512), (20, 512), (7, 7), (20, 32), (20, 32), (20, 32), (20, 32), (10, 7), (20, 8), (20, 8)]
def jL_20 : List (Nat × Nat) := [(20, 40), (20, 40), (20, 40), (20, 16), (20, 16), (20, 4), (12, 110), (20, 1600), (20, 7), (23, 7), (23, 6), (23, 5), (23, 3), (23, 4), (23, 6), (23, 5), (23, 5), (23, 4), (23, 7), (23, 7), (23, 3), (23, 7), (23, 6), (23, 6), (23, 5)]
def jL_21 : List (Nat × Nat) := [(23, 6), (23, 5), (23, 5), (23, 2), (23, 3), (23, 3), (23, 3), (23, 3), (23, 3), (20, 10), (20, 120), (20, 4), (20, 4), (20, 3200), (20, 2365), (20, 64), (20, 2244), (20, 2244), (20, 128), (20, 32), (22, 513), (20, 8208), (20, 1001), (20, 47300), (23, 5)]
def jL_22 : List (Nat × Nat) := [(23, 4), (23, 5), (23, 5), (23, 4), (23, 5), (23, 3), (23, 3), (23, 2), (23, 3), (23, 3), (23, 3), (23, 4), (23, 7), (23, 7), (23, 3), (23, 7), (23, 6), (23, 6), (23, 6), (23, 5), (23, 5), (20, 1700), (20, 1700), (21, 1700), (20, 547)]
def jL : List (Nat × Nat) := jL_0 ++ (jL_1 ++ (jL_2 ++ (jL_3 ++ (jL_4 ++ (jL_5 ++ (jL_6 ++ (jL_7 ++ (jL_8 ++ (jL_9 ++ (jL_10 ++ (jL_11 ++ (jL_12 ++ (jL_13 ++ (jL_14 ++ (jL_15 ++ (jL_16 ++ (jL_17 ++ (jL_18 ++ (jL_19 ++ (jL_20 ++ (jL_21 ++ (jL_22))))))))))))))))))))))
def jR : Nat → Nat → Nat := KR_12 (KR_11 (fun _ _ => 0) 1) 506
def jHi : jH := H_12 (H_11 (fun _ _ => 0) 1) 506
set_option maxRecDepth 100000 in
set_option maxHeartbeats 4000000 in
theorem jL_eq : KL_12 (KL_11 ([(99, 0)] ++ [(11, 20)]) ++ [(12, 110)]) = jL := by decide +kernel
set_option maxRecDepth 100000 in
set_option maxHeartbeats 4000000 in
theorem jL_x : KL_11 ([(99, 0)] ++ [(11, 20)]) = jL.take 506 := by decide +kernel
set_option maxRecDepth 100000 in
set_option maxHeartbeats 4000000 in
theorem jX11 : isX11 (jL, jR) 1 := by
  unfold isX11 isX9 isX0 isX1 isX7 isX10 isX4 isX2 isX5 isX8 isX3
  repeat' apply And.intro
  all_goals decide +kernel
set_option maxRecDepth 100000 in
set_option maxHeartbeats 4000000 in
theorem jX12 : isX12 (jL, jR) 506 := by
  unfold isX12
  repeat' apply And.intro
  all_goals decide +kernel
set_option maxRecDepth 100000 in
set_option maxHeartbeats 4000000 in
theorem jXp_0 : jR 78 0 = 86 ∧ isX9 (jL, jR) 86 := by
  unfold isX9 isX0 isX1 isX7 isX10
  repeat' apply And.intro
  all_goals decide +kernel
set_option maxRecDepth 100000 in
set_option maxHeartbeats 4000000 in
theorem jXp_1 : jR 78 1 = 107 ∧ isX9 (jL, jR) 107 := by
  unfold isX9 isX0 isX1 isX7 isX10
  repeat' apply And.intro
  all_goals decide +kernel
set_option maxRecDepth 100000 in
set_option maxHeartbeats 4000000 in
theorem jXp_2 : jR 78 2 = 128 ∧ isX9 (jL, jR) 128 := by
  unfold isX9 isX0 isX1 isX7 isX10
  repeat' apply And.intro
  all_goals decide +kernel
set_option maxRecDepth 100000 in
set_option maxHeartbeats 4000000 in
theorem jXp_3 : jR 78 3 = 149 ∧ isX9 (jL, jR) 149 := by
  unfold isX9 isX0 isX1 isX7 isX10
  repeat' apply And.intro
  all_goals decide +kernel
set_option maxRecDepth 100000 in
set_option maxHeartbeats 4000000 in
theorem jXp_4 : jR 78 4 = 170 ∧ isX9 (jL, jR) 170 := by
  unfold isX9 isX0 isX1 isX7 isX10
  repeat' apply And.intro
  all_goals decide +kernel
set_option maxRecDepth 100000 in
set_option maxHeartbeats 4000000 in
theorem jXp_5 : jR 78 5 = 191 ∧ isX9 (jL, jR) 191 := by
  unfold isX9 isX0 isX1 isX7 isX10
  repeat' apply And.intro
  all_goals decide +kernel
set_option maxRecDepth 100000 in
set_option maxHeartbeats 4000000 in
theorem jXp_6 : jR 78 6 = 212 ∧ isX9 (jL, jR) 212 := by
  unfold isX9 isX0 isX1 isX7 isX10
  repeat' apply And.intro
  all_goals decide +kernel
set_option maxRecDepth 100000 in
set_option maxHeartbeats 4000000 in
theorem jXp_7 : jR 78 7 = 233 ∧ isX9 (jL, jR) 233 := by
  unfold isX9 isX0 isX1 isX7 isX10
  repeat' apply And.intro
  all_goals decide +kernel
set_option maxRecDepth 100000 in
set_option maxHeartbeats 4000000 in
theorem jXp_8 : jR 78 8 = 254 ∧ isX9 (jL, jR) 254 := by
  unfold isX9 isX0 isX1 isX7 isX10
  repeat' apply And.intro
  all_goals decide +kernel
set_option maxRecDepth 100000 in
set_option maxHeartbeats 4000000 in
theorem jXp_9 : jR 78 9 = 275 ∧ isX9 (jL, jR) 275 := by
  unfold isX9 isX0 isX1 isX7 isX10
  repeat' apply And.intro
  all_goals decide +kernel
set_option maxRecDepth 100000 in
set_option maxHeartbeats 4000000 in
theorem jXp_10 : jR 78 10 = 296 ∧ isX9 (jL, jR) 296 := by
  unfold isX9 isX0 isX1 isX7 isX10
  repeat' apply And.intro
  all_goals decide +kernel
set_option maxRecDepth 100000 in
set_option maxHeartbeats 4000000 in
theorem jXp_11 : jR 78 11 = 317 ∧ isX9 (jL, jR) 317 := by
  unfold isX9 isX0 isX1 isX7 isX10
  repeat' apply And.intro
  all_goals decide +kernel
set_option maxRecDepth 100000 in
set_option maxHeartbeats 4000000 in
theorem jXp_12 : jR 78 12 = 338 ∧ isX9 (jL, jR) 338 := by
  unfold isX9 isX0 isX1 isX7 isX10
  repeat' apply And.intro
  all_goals decide +kernel
set_option maxRecDepth 100000 in
set_option maxHeartbeats 4000000 in
theorem jXp_13 : jR 78 13 = 359 ∧ isX9 (jL, jR) 359 := by
  unfold isX9 isX0 isX1 isX7 isX10
  repeat' apply And.intro
  all_goals decide +kernel
set_option maxRecDepth 100000 in
set_option maxHeartbeats 4000000 in
theorem jXp_14 : jR 78 14 = 380 ∧ isX9 (jL, jR) 380 := by
  unfold isX9 isX0 isX1 isX7 isX10
  repeat' apply And.intro
  all_goals decide +kernel
set_option maxRecDepth 100000 in
set_option maxHeartbeats 4000000 in
theorem jXp_15 : jR 78 15 = 401 ∧ isX9 (jL, jR) 401 := by
  unfold isX9 isX0 isX1 isX7 isX10
  repeat' apply And.intro
  all_goals decide +kernel
set_option maxRecDepth 100000 in
set_option maxHeartbeats 4000000 in
theorem jXp_16 : jR 78 16 = 422 ∧ isX9 (jL, jR) 422 := by
  unfold isX9 isX0 isX1 isX7 isX10
  repeat' apply And.intro
  all_goals decide +kernel
set_option maxRecDepth 100000 in
set_option maxHeartbeats 4000000 in
theorem jXp_17 : jR 78 17 = 443 ∧ isX9 (jL, jR) 443 := by
  unfold isX9 isX0 isX1 isX7 isX10
  repeat' apply And.intro
  all_goals decide +kernel
set_option maxRecDepth 100000 in
set_option maxHeartbeats 4000000 in
theorem jXp_18 : jR 78 18 = 464 ∧ isX9 (jL, jR) 464 := by
  unfold isX9 isX0 isX1 isX7 isX10
  repeat' apply And.intro
  all_goals decide +kernel
set_option maxRecDepth 100000 in
set_option maxHeartbeats 4000000 in
theorem jXp_19 : jR 78 19 = 485 ∧ isX9 (jL, jR) 485 := by
  unfold isX9 isX0 isX1 isX7 isX10
  repeat' apply And.intro
  all_goals decide +kernel
theorem jXp : ∀ i, i < 20 → jR 78 i = 86 + 21 * i ∧ isX9 (jL, jR) (86 + 21 * i) := fun i hi => match i, hi with
  | 0, _ => jXp_0
  | 1, _ => jXp_1
  | 2, _ => jXp_2
  | 3, _ => jXp_3
  | 4, _ => jXp_4
  | 5, _ => jXp_5
  | 6, _ => jXp_6
  | 7, _ => jXp_7
  | 8, _ => jXp_8
  | 9, _ => jXp_9
  | 10, _ => jXp_10
  | 11, _ => jXp_11
  | 12, _ => jXp_12
  | 13, _ => jXp_13
  | 14, _ => jXp_14
  | 15, _ => jXp_15
  | 16, _ => jXp_16
  | 17, _ => jXp_17
  | 18, _ => jXp_18
  | 19, _ => jXp_19
  | n + 20, h => absurd h (by omega)
