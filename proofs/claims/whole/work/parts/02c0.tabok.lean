/-! rows checked, piece 0 -/
/-! every row and every method, checked -/
set_option maxRecDepth 100000 in
set_option maxHeartbeats 4000000 in
theorem jrk_0_0 : jT_0_0.all (jrok 0) = true := by decide +kernel
set_option maxRecDepth 100000 in
set_option maxHeartbeats 4000000 in
theorem jrk_0_1 : jT_0_1.all (jrok 0) = true := by decide +kernel
set_option maxRecDepth 100000 in
set_option maxHeartbeats 4000000 in
theorem jrk_0_2 : jT_0_2.all (jrok 0) = true := by decide +kernel
set_option maxRecDepth 100000 in
set_option maxHeartbeats 4000000 in
theorem jrk_0_3 : jT_0_3.all (jrok 0) = true := by decide +kernel
set_option maxRecDepth 100000 in
set_option maxHeartbeats 4000000 in
theorem jrk_0_4 : jT_0_4.all (jrok 0) = true := by decide +kernel
set_option maxRecDepth 100000 in
set_option maxHeartbeats 4000000 in
theorem jrk_0_5 : jT_0_5.all (jrok 0) = true := by decide +kernel
set_option maxRecDepth 100000 in
set_option maxHeartbeats 4000000 in
theorem jrk_0_6 : jT_0_6.all (jrok 0) = true := by decide +kernel
set_option maxRecDepth 100000 in
set_option maxHeartbeats 4000000 in
theorem jrk_0_7 : jT_0_7.all (jrok 0) = true := by decide +kernel
set_option maxRecDepth 100000 in
set_option maxHeartbeats 4000000 in
theorem jrk_0_8 : jT_0_8.all (jrok 0) = true := by decide +kernel
set_option maxRecDepth 100000 in
set_option maxHeartbeats 4000000 in
theorem jrk_0_9 : jT_0_9.all (jrok 0) = true := by decide +kernel
set_option maxRecDepth 100000 in
set_option maxHeartbeats 4000000 in
theorem jrk_0_10 : jT_0_10.all (jrok 0) = true := by decide +kernel
set_option maxRecDepth 100000 in
set_option maxHeartbeats 4000000 in
theorem jrk_0_11 : jT_0_11.all (jrok 0) = true := by decide +kernel
set_option maxRecDepth 100000 in
set_option maxHeartbeats 4000000 in
theorem jrk_0_12 : jT_0_12.all (jrok 0) = true := by decide +kernel
set_option maxRecDepth 100000 in
set_option maxHeartbeats 4000000 in
theorem jrk_0_13 : jT_0_13.all (jrok 0) = true := by decide +kernel
set_option maxRecDepth 100000 in
set_option maxHeartbeats 4000000 in
theorem jrk_0_14 : jT_0_14.all (jrok 0) = true := by decide +kernel
set_option maxRecDepth 100000 in
set_option maxHeartbeats 4000000 in
theorem jrk_0_15 : jT_0_15.all (jrok 0) = true := by decide +kernel
set_option maxRecDepth 100000 in
set_option maxHeartbeats 4000000 in
theorem jrk_0_16 : jT_0_16.all (jrok 0) = true := by decide +kernel
theorem jrk_0 : jT_0.all (jrok 0) = true := by
  unfold jT_0
  simp only [List.all_append, jrk_0_0, jrk_0_1, jrk_0_2, jrk_0_3, jrk_0_4, jrk_0_5, jrk_0_6, jrk_0_7, jrk_0_8, jrk_0_9, jrk_0_10, jrk_0_11, jrk_0_12, jrk_0_13, jrk_0_14, jrk_0_15, jrk_0_16, Bool.and_self]
set_option maxRecDepth 100000 in
set_option maxHeartbeats 4000000 in
theorem jrk_1_0 : jT_1_0.all (jrok 1) = true := by decide +kernel
theorem jrk_1 : jT_1.all (jrok 1) = true := by
  exact jrk_1_0
set_option maxRecDepth 100000 in
set_option maxHeartbeats 4000000 in
theorem jrk_2_0 : jT_2_0.all (jrok 2) = true := by decide +kernel
theorem jrk_2 : jT_2.all (jrok 2) = true := by
  exact jrk_2_0
set_option maxRecDepth 100000 in
set_option maxHeartbeats 4000000 in
theorem jrk_3_0 : jT_3_0.all (jrok 3) = true := by decide +kernel
set_option maxRecDepth 100000 in
set_option maxHeartbeats 4000000 in
theorem jrk_3_1 : jT_3_1.all (jrok 3) = true := by decide +kernel
theorem jrk_3 : jT_3.all (jrok 3) = true := by
  unfold jT_3
  simp only [List.all_append, jrk_3_0, jrk_3_1, Bool.and_self]
set_option maxRecDepth 100000 in
set_option maxHeartbeats 4000000 in
theorem jrk_4_0 : jT_4_0.all (jrok 4) = true := by decide +kernel
theorem jrk_4 : jT_4.all (jrok 4) = true := by
  exact jrk_4_0
set_option maxRecDepth 100000 in
set_option maxHeartbeats 4000000 in
theorem jrk_5_0 : jT_5_0.all (jrok 5) = true := by decide +kernel
set_option maxRecDepth 100000 in
set_option maxHeartbeats 4000000 in
theorem jrk_5_1 : jT_5_1.all (jrok 5) = true := by decide +kernel
theorem jrk_5 : jT_5.all (jrok 5) = true := by
  unfold jT_5
  simp only [List.all_append, jrk_5_0, jrk_5_1, Bool.and_self]
set_option maxRecDepth 100000 in
set_option maxHeartbeats 4000000 in
theorem jrk_6_0 : jT_6_0.all (jrok 6) = true := by decide +kernel
theorem jrk_6 : jT_6.all (jrok 6) = true := by
  exact jrk_6_0
set_option maxRecDepth 100000 in
set_option maxHeartbeats 4000000 in
theorem jrk_7_0 : jT_7_0.all (jrok 7) = true := by decide +kernel
theorem jrk_7 : jT_7.all (jrok 7) = true := by
  exact jrk_7_0
set_option maxRecDepth 100000 in
set_option maxHeartbeats 4000000 in
theorem jrk_8_0 : jT_8_0.all (jrok 8) = true := by decide +kernel
theorem jrk_8 : jT_8.all (jrok 8) = true := by
  exact jrk_8_0
set_option maxRecDepth 100000 in
set_option maxHeartbeats 4000000 in
theorem jrk_9_0 : jT_9_0.all (jrok 9) = true := by decide +kernel
theorem jrk_9 : jT_9.all (jrok 9) = true := by
  exact jrk_9_0
set_option maxRecDepth 100000 in
set_option maxHeartbeats 4000000 in
theorem jrk_10_0 : jT_10_0.all (jrok 10) = true := by decide +kernel
theorem jrk_10 : jT_10.all (jrok 10) = true := by
  exact jrk_10_0
set_option maxRecDepth 100000 in
set_option maxHeartbeats 4000000 in
theorem jrk_11_0 : jT_11_0.all (jrok 11) = true := by decide +kernel
theorem jrk_11 : jT_11.all (jrok 11) = true := by
  exact jrk_11_0
set_option maxRecDepth 100000 in
set_option maxHeartbeats 4000000 in
theorem jrk_12_0 : jT_12_0.all (jrok 12) = true := by decide +kernel
theorem jrk_12 : jT_12.all (jrok 12) = true := by
  exact jrk_12_0
set_option maxRecDepth 100000 in
set_option maxHeartbeats 4000000 in
theorem jrk_13_0 : jT_13_0.all (jrok 13) = true := by decide +kernel
set_option maxRecDepth 100000 in
set_option maxHeartbeats 4000000 in
theorem jrk_13_1 : jT_13_1.all (jrok 13) = true := by decide +kernel
theorem jrk_13 : jT_13.all (jrok 13) = true := by
  unfold jT_13
  simp only [List.all_append, jrk_13_0, jrk_13_1, Bool.and_self]
set_option maxRecDepth 100000 in
set_option maxHeartbeats 4000000 in
theorem jrk_14_0 : jT_14_0.all (jrok 14) = true := by decide +kernel
theorem jrk_14 : jT_14.all (jrok 14) = true := by
  exact jrk_14_0
set_option maxRecDepth 100000 in
set_option maxHeartbeats 4000000 in
theorem jrk_15_0 : jT_15_0.all (jrok 15) = true := by decide +kernel
theorem jrk_15 : jT_15.all (jrok 15) = true := by
  exact jrk_15_0
set_option maxRecDepth 100000 in
set_option maxHeartbeats 4000000 in
theorem jrk_16_0 : jT_16_0.all (jrok 16) = true := by decide +kernel
theorem jrk_16 : jT_16.all (jrok 16) = true := by
  exact jrk_16_0
set_option maxRecDepth 100000 in
set_option maxHeartbeats 4000000 in
theorem jrk_17_0 : jT_17_0.all (jrok 17) = true := by decide +kernel
theorem jrk_17 : jT_17.all (jrok 17) = true := by
  exact jrk_17_0
set_option maxRecDepth 100000 in
set_option maxHeartbeats 4000000 in
theorem jrk_18_0 : jT_18_0.all (jrok 18) = true := by decide +kernel
theorem jrk_18 : jT_18.all (jrok 18) = true := by
  exact jrk_18_0
set_option maxRecDepth 100000 in
set_option maxHeartbeats 4000000 in
theorem jrk_19_0 : jT_19_0.all (jrok 19) = true := by decide +kernel
theorem jrk_19 : jT_19.all (jrok 19) = true := by
  exact jrk_19_0
set_option maxRecDepth 100000 in
set_option maxHeartbeats 4000000 in
theorem jrk_20_0 : jT_20_0.all (jrok 20) = true := by decide +kernel
theorem jrk_20 : jT_20.all (jrok 20) = true := by
  exact jrk_20_0
set_option maxRecDepth 100000 in
set_option maxHeartbeats 4000000 in
theorem jrk_21_0 : jT_21_0.all (jrok 21) = true := by decide +kernel
theorem jrk_21 : jT_21.all (jrok 21) = true := by
  exact jrk_21_0
set_option maxRecDepth 100000 in
set_option maxHeartbeats 4000000 in
theorem jrk_22_0 : jT_22_0.all (jrok 22) = true := by decide +kernel
theorem jrk_22 : jT_22.all (jrok 22) = true := by
  exact jrk_22_0
set_option maxRecDepth 100000 in
set_option maxHeartbeats 4000000 in
theorem jrk_23_0 : jT_23_0.all (jrok 23) = true := by decide +kernel
theorem jrk_23 : jT_23.all (jrok 23) = true := by
  exact jrk_23_0
set_option maxRecDepth 100000 in
set_option maxHeartbeats 4000000 in
theorem jrk_24_0 : jT_24_0.all (jrok 24) = true := by decide +kernel
theorem jrk_24 : jT_24.all (jrok 24) = true := by
  exact jrk_24_0
set_option maxRecDepth 100000 in
set_option maxHeartbeats 4000000 in
theorem jrk_25_0 : jT_25_0.all (jrok 25) = true := by decide +kernel
theorem jrk_25 : jT_25.all (jrok 25) = true := by
  exact jrk_25_0
set_option maxRecDepth 100000 in
set_option maxHeartbeats 4000000 in
theorem jrk_26_0 : jT_26_0.all (jrok 26) = true := by decide +kernel
theorem jrk_26 : jT_26.all (jrok 26) = true := by
  exact jrk_26_0
set_option maxRecDepth 100000 in
set_option maxHeartbeats 4000000 in
theorem jrk_27_0 : jT_27_0.all (jrok 27) = true := by decide +kernel
theorem jrk_27 : jT_27.all (jrok 27) = true := by
  exact jrk_27_0
set_option maxRecDepth 100000 in
set_option maxHeartbeats 4000000 in
theorem jrk_28_0 : jT_28_0.all (jrok 28) = true := by decide +kernel
theorem jrk_28 : jT_28.all (jrok 28) = true := by
  exact jrk_28_0
set_option maxRecDepth 100000 in
set_option maxHeartbeats 4000000 in
theorem jrk_29_0 : jT_29_0.all (jrok 29) = true := by decide +kernel
theorem jrk_29 : jT_29.all (jrok 29) = true := by
  exact jrk_29_0
set_option maxRecDepth 100000 in
set_option maxHeartbeats 4000000 in
theorem jrk_30_0 : jT_30_0.all (jrok 30) = true := by decide +kernel
theorem jrk_30 : jT_30.all (jrok 30) = true := by
  exact jrk_30_0
set_option maxRecDepth 100000 in
set_option maxHeartbeats 4000000 in
theorem jrk_31_0 : jT_31_0.all (jrok 31) = true := by decide +kernel
set_option maxRecDepth 100000 in
set_option maxHeartbeats 4000000 in
theorem jrk_31_1 : jT_31_1.all (jrok 31) = true := by decide +kernel
theorem jrk_31 : jT_31.all (jrok 31) = true := by
  unfold jT_31
  simp only [List.all_append, jrk_31_0, jrk_31_1, Bool.and_self]
set_option maxRecDepth 100000 in
set_option maxHeartbeats 4000000 in
theorem jrk_32_0 : jT_32_0.all (jrok 32) = true := by decide +kernel
theorem jrk_32 : jT_32.all (jrok 32) = true := by
  exact jrk_32_0
set_option maxRecDepth 100000 in
set_option maxHeartbeats 4000000 in
theorem jrk_33_0 : jT_33_0.all (jrok 33) = true := by decide +kernel
theorem jrk_33 : jT_33.all (jrok 33) = true := by
  exact jrk_33_0
set_option maxRecDepth 100000 in
set_option maxHeartbeats 4000000 in
theorem jrk_34_0 : jT_34_0.all (jrok 34) = true := by decide +kernel
theorem jrk_34 : jT_34.all (jrok 34) = true := by
  exact jrk_34_0
set_option maxRecDepth 100000 in
set_option maxHeartbeats 4000000 in
theorem jrk_35_0 : jT_35_0.all (jrok 35) = true := by decide +kernel
set_option maxRecDepth 100000 in
set_option maxHeartbeats 4000000 in
theorem jrk_35_1 : jT_35_1.all (jrok 35) = true := by decide +kernel
theorem jrk_35 : jT_35.all (jrok 35) = true := by
  unfold jT_35
  simp only [List.all_append, jrk_35_0, jrk_35_1, Bool.and_self]
set_option maxRecDepth 100000 in
set_option maxHeartbeats 4000000 in
theorem jrk_36_0 : jT_36_0.all (jrok 36) = true := by decide +kernel
theorem jrk_36 : jT_36.all (jrok 36) = true := by
  exact jrk_36_0
set_option maxRecDepth 100000 in
set_option maxHeartbeats 4000000 in
theorem jrk_37_0 : jT_37_0.all (jrok 37) = true := by decide +kernel
theorem jrk_37 : jT_37.all (jrok 37) = true := by
  exact jrk_37_0
set_option maxRecDepth 100000 in
set_option maxHeartbeats 4000000 in
theorem jrk_38_0 : jT_38_0.all (jrok 38) = true := by decide +kernel
theorem jrk_38 : jT_38.all (jrok 38) = true := by
  exact jrk_38_0
set_option maxRecDepth 100000 in
set_option maxHeartbeats 4000000 in
theorem jrk_39_0 : jT_39_0.all (jrok 39) = true := by decide +kernel
theorem jrk_39 : jT_39.all (jrok 39) = true := by
  exact jrk_39_0
set_option maxRecDepth 100000 in
set_option maxHeartbeats 4000000 in
theorem jrk_40_0 : jT_40_0.all (jrok 40) = true := by decide +kernel
theorem jrk_40 : jT_40.all (jrok 40) = true := by
  exact jrk_40_0
set_option maxRecDepth 100000 in
set_option maxHeartbeats 4000000 in
theorem jrk_41_0 : jT_41_0.all (jrok 41) = true := by decide +kernel
set_option maxRecDepth 100000 in
set_option maxHeartbeats 4000000 in
theorem jrk_41_1 : jT_41_1.all (jrok 41) = true := by decide +kernel
set_option maxRecDepth 100000 in
set_option maxHeartbeats 4000000 in
theorem jrk_41_2 : jT_41_2.all (jrok 41) = true := by decide +kernel
theorem jrk_41 : jT_41.all (jrok 41) = true := by
  unfold jT_41
  simp only [List.all_append, jrk_41_0, jrk_41_1, jrk_41_2, Bool.and_self]
set_option maxRecDepth 100000 in
set_option maxHeartbeats 4000000 in
theorem jrk_42_0 : jT_42_0.all (jrok 42) = true := by decide +kernel
theorem jrk_42 : jT_42.all (jrok 42) = true := by
  exact jrk_42_0
set_option maxRecDepth 100000 in
set_option maxHeartbeats 4000000 in
theorem jrk_43_0 : jT_43_0.all (jrok 43) = true := by decide +kernel
theorem jrk_43 : jT_43.all (jrok 43) = true := by
  exact jrk_43_0
set_option maxRecDepth 100000 in
set_option maxHeartbeats 4000000 in
theorem jrk_44_0 : jT_44_0.all (jrok 44) = true := by decide +kernel
theorem jrk_44 : jT_44.all (jrok 44) = true := by
  exact jrk_44_0
