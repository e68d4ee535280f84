/-! every row and every method, checked -/
set_option maxRecDepth 100000 in
set_option maxHeartbeats 4000000 in
theorem jrk_0_0 : jT_0_0.all (jrok 0) = true := by decide +kernel
set_option maxRecDepth 100000 in
set_option maxHeartbeats 4000000 in
theorem jrk_0_1 : jT_0_1.all (jrok 0) = true := by decide +kernel
set_option maxRecDepth 100000 in
set_option maxHeartbeats 4000000 in
theorem jrk_0_2 : jT_0_2.all (jrok 0) = true := by decide +kernel
set_option maxRecDepth 100000 in
set_option maxHeartbeats 4000000 in
theorem jrk_0_3 : jT_0_3.all (jrok 0) = true := by decide +kernel
set_option maxRecDepth 100000 in
set_option maxHeartbeats 4000000 in
theorem jrk_0_4 : jT_0_4.all (jrok 0) = true := by decide +kernel
set_option maxRecDepth 100000 in
set_option maxHeartbeats 4000000 in
theorem jrk_0_5 : jT_0_5.all (jrok 0) = true := by decide +kernel
set_option maxRecDepth 100000 in
set_option maxHeartbeats 4000000 in
theorem jrk_0_6 : jT_0_6.all (jrok 0) = true := by decide +kernel
set_option maxRecDepth 100000 in
set_option maxHeartbeats 4000000 in
theorem jrk_0_7 : jT_0_7.all (jrok 0) = true := by decide +kernel
set_option maxRecDepth 100000 in
set_option maxHeartbeats 4000000 in
theorem jrk_0_8 : jT_0_8.all (jrok 0) = true := by decide +kernel
set_option maxRecDepth 100000 in
set_option maxHeartbeats 4000000 in
theorem jrk_0_9 : jT_0_9.all (jrok 0) = true := by decide +kernel
set_option maxRecDepth 100000 in
set_option maxHeartbeats 4000000 in
theorem jrk_0_10 : jT_0_10.all (jrok 0) = true := by decide +kernel
set_option maxRecDepth 100000 in
set_option maxHeartbeats 4000000 in
theorem jrk_0_11 : jT_0_11.all (jrok 0) = true := by decide +kernel
set_option maxRecDepth 100000 in
set_option maxHeartbeats 4000000 in
theorem jrk_0_12 : jT_0_12.all (jrok 0) = true := by decide +kernel
set_option maxRecDepth 100000 in
set_option maxHeartbeats 4000000 in
theorem jrk_0_13 : jT_0_13.all (jrok 0) = true := by decide +kernel
set_option maxRecDepth 100000 in
set_option maxHeartbeats 4000000 in
theorem jrk_0_14 : jT_0_14.all (jrok 0) = true := by decide +kernel
set_option maxRecDepth 100000 in
set_option maxHeartbeats 4000000 in
theorem jrk_0_15 : jT_0_15.all (jrok 0) = true := by decide +kernel
set_option maxRecDepth 100000 in
set_option maxHeartbeats 4000000 in
theorem jrk_0_16 : jT_0_16.all (jrok 0) = true := by decide +kernel
theorem jrk_0 : jT_0.all (jrok 0) = true := by
  unfold jT_0
  simp only [List.all_append, jrk_0_0, jrk_0_1, jrk_0_2, jrk_0_3, jrk_0_4, jrk_0_5, jrk_0_6, jrk_0_7, jrk_0_8, jrk_0_9, jrk_0_10, jrk_0_11, jrk_0_12, jrk_0_13, jrk_0_14, jrk_0_15, jrk_0_16, Bool.and_self]
set_option maxRecDepth 100000 in
set_option maxHeartbeats 4000000 in
theorem jrk_1_0 : jT_1_0.all (jrok 1) = true := by decide +kernel
theorem jrk_1 : jT_1.all (jrok 1) = true := by
  exact jrk_1_0
set_option maxRecDepth 100000 in
set_option maxHeartbeats 4000000 in
theorem jrk_2_0 : jT_2_0.all (jrok 2) = true := by decide +kernel
theorem jrk_2 : jT_2.all (jrok 2) = true := by
  exact jrk_2_0
set_option maxRecDepth 100000 in
set_option maxHeartbeats 4000000 in
theorem jrk_3_0 : jT_3_0.all (jrok 3) = true := by decide +kernel
set_option maxRecDepth 100000 in
set_option maxHeartbeats 4000000 in
theorem jrk_3_1 : jT_3_1.all (jrok 3) = true := by decide +kernel
theorem jrk_3 : jT_3.all (jrok 3) = true := by
  unfold jT_3
  simp only [List.all_append, jrk_3_0, jrk_3_1, Bool.and_self]
set_option maxRecDepth 100000 in
set_option maxHeartbeats 4000000 in
theorem jrk_4_0 : jT_4_0.all (jrok 4) = true := by decide +kernel
theorem jrk_4 : jT_4.all (jrok 4) = true := by
  exact jrk_4_0
set_option maxRecDepth 100000 in
set_option maxHeartbeats 4000000 in
theorem jrk_5_0 : jT_5_0.all (jrok 5) = true := by decide +kernel
set_option maxRecDepth 100000 in
set_option maxHeartbeats 4000000 in
theorem jrk_5_1 : jT_5_1.all (jrok 5) = true := by decide +kernel
theorem jrk_5 : jT_5.all (jrok 5) = true := by
  unfold jT_5
  simp only [List.all_append, jrk_5_0, jrk_5_1, Bool.and_self]
set_option maxRecDepth 100000 in
set_option maxHeartbeats 4000000 in
theorem jrk_6_0 : jT_6_0.all (jrok 6) = true := by decide +kernel
theorem jrk_6 : jT_6.all (jrok 6) = true := by
  exact jrk_6_0
set_option maxRecDepth 100000 in
set_option maxHeartbeats 4000000 in
theorem jrk_7_0 : jT_7_0.all (jrok 7) = true := by decide +kernel
theorem jrk_7 : jT_7.all (jrok 7) = true := by
  exact jrk_7_0
set_option maxRecDepth 100000 in
set_option maxHeartbeats 4000000 in
theorem jrk_8_0 : jT_8_0.all (jrok 8) = true := by decide +kernel
theorem jrk_8 : jT_8.all (jrok 8) = true := by
  exact jrk_8_0
set_option maxRecDepth 100000 in
set_option maxHeartbeats 4000000 in
theorem jrk_9_0 : jT_9_0.all (jrok 9) = true := by decide +kernel
theorem jrk_9 : jT_9.all (jrok 9) = true := by
  exact jrk_9_0
set_option maxRecDepth 100000 in
set_option maxHeartbeats 4000000 in
theorem jrk_10_0 : jT_10_0.all (jrok 10) = true := by decide +kernel
theorem jrk_10 : jT_10.all (jrok 10) = true := by
  exact jrk_10_0
set_option maxRecDepth 100000 in
set_option maxHeartbeats 4000000 in
theorem jrk_11_0 : jT_11_0.all (jrok 11) = true := by decide +kernel
theorem jrk_11 : jT_11.all (jrok 11) = true := by
  exact jrk_11_0
set_option maxRecDepth 100000 in
set_option maxHeartbeats 4000000 in
theorem jrk_12_0 : jT_12_0.all (jrok 12) = true := by decide +kernel
theorem jrk_12 : jT_12.all (jrok 12) = true := by
  exact jrk_12_0
set_option maxRecDepth 100000 in
set_option maxHeartbeats 4000000 in
theorem jrk_13_0 : jT_13_0.all (jrok 13) = true := by decide +kernel
set_option maxRecDepth 100000 in
set_option maxHeartbeats 4000000 in
theorem jrk_13_1 : jT_13_1.all (jrok 13) = true := by decide +kernel
theorem jrk_13 : jT_13.all (jrok 13) = true := by
  unfold jT_13
  simp only [List.all_append, jrk_13_0, jrk_13_1, Bool.and_self]
set_option maxRecDepth 100000 in
set_option maxHeartbeats 4000000 in
theorem jrk_14_0 : jT_14_0.all (jrok 14) = true := by decide +kernel
theorem jrk_14 : jT_14.all (jrok 14) = true := by
  exact jrk_14_0
set_option maxRecDepth 100000 in
set_option maxHeartbeats 4000000 in
theorem jrk_15_0 : jT_15_0.all (jrok 15) = true := by decide +kernel
theorem jrk_15 : jT_15.all (jrok 15) = true := by
  exact jrk_15_0
set_option maxRecDepth 100000 in
set_option maxHeartbeats 4000000 in
theorem jrk_16_0 : jT_16_0.all (jrok 16) = true := by decide +kernel
theorem jrk_16 : jT_16.all (jrok 16) = true := by
  exact jrk_16_0
set_option maxRecDepth 100000 in
set_option maxHeartbeats 4000000 in
theorem jrk_17_0 : jT_17_0.all (jrok 17) = true := by decide +kernel
theorem jrk_17 : jT_17.all (jrok 17) = true := by
  exact jrk_17_0
set_option maxRecDepth 100000 in
set_option maxHeartbeats 4000000 in
theorem jrk_18_0 : jT_18_0.all (jrok 18) = true := by decide +kernel
theorem jrk_18 : jT_18.all (jrok 18) = true := by
  exact jrk_18_0
set_option maxRecDepth 100000 in
set_option maxHeartbeats 4000000 in
theorem jrk_19_0 : jT_19_0.all (jrok 19) = true := by decide +kernel
theorem jrk_19 : jT_19.all (jrok 19) = true := by
  exact jrk_19_0
set_option maxRecDepth 100000 in
set_option maxHeartbeats 4000000 in
theorem jrk_20_0 : jT_20_0.all (jrok 20) = true := by decide +kernel
theorem jrk_20 : jT_20.all (jrok 20) = true := by
  exact jrk_20_0
set_option maxRecDepth 100000 in
set_option maxHeartbeats 4000000 in
theorem jrk_21_0 : jT_21_0.all (jrok 21) = true := by decide +kernel
theorem jrk_21 : jT_21.all (jrok 21) = true := by
  exact jrk_21_0
set_option maxRecDepth 100000 in
set_option maxHeartbeats 4000000 in
theorem jrk_22_0 : jT_22_0.all (jrok 22) = true := by decide +kernel
theorem jrk_22 : jT_22.all (jrok 22) = true := by
  exact jrk_22_0
set_option maxRecDepth 100000 in
set_option maxHeartbeats 4000000 in
theorem jrk_23_0 : jT_23_0.all (jrok 23) = true := by decide +kernel
theorem jrk_23 : jT_23.all (jrok 23) = true := by
  exact jrk_23_0
set_option maxRecDepth 100000 in
set_option maxHeartbeats 4000000 in
theorem jrk_24_0 : jT_24_0.all (jrok 24) = true := by decide +kernel
theorem jrk_24 : jT_24.all (jrok 24) = true := by
  exact jrk_24_0
set_option maxRecDepth 100000 in
set_option maxHeartbeats 4000000 in
theorem jrk_25_0 : jT_25_0.all (jrok 25) = true := by decide +kernel
theorem jrk_25 : jT_25.all (jrok 25) = true := by
  exact jrk_25_0
set_option maxRecDepth 100000 in
set_option maxHeartbeats 4000000 in
theorem jrk_26_0 : jT_26_0.all (jrok 26) = true := by decide +kernel
theorem jrk_26 : jT_26.all (jrok 26) = true := by
  exact jrk_26_0
set_option maxRecDepth 100000 in
set_option maxHeartbeats 4000000 in
theorem jrk_27_0 : jT_27_0.all (jrok 27) = true := by decide +kernel
theorem jrk_27 : jT_27.all (jrok 27) = true := by
  exact jrk_27_0
set_option maxRecDepth 100000 in
set_option maxHeartbeats 4000000 in
theorem jrk_28_0 : jT_28_0.all (jrok 28) = true := by decide +kernel
theorem jrk_28 : jT_28.all (jrok 28) = true := by
  exact jrk_28_0
set_option maxRecDepth 100000 in
set_option maxHeartbeats 4000000 in
theorem jrk_29_0 : jT_29_0.all (jrok 29) = true := by decide +kernel
theorem jrk_29 : jT_29.all (jrok 29) = true := by
  exact jrk_29_0
set_option maxRecDepth 100000 in
set_option maxHeartbeats 4000000 in
theorem jrk_30_0 : jT_30_0.all (jrok 30) = true := by decide +kernel
theorem jrk_30 : jT_30.all (jrok 30) = true := by
  exact jrk_30_0
set_option maxRecDepth 100000 in
set_option maxHeartbeats 4000000 in
theorem jrk_31_0 : jT_31_0.all (jrok 31) = true := by decide +kernel
set_option maxRecDepth 100000 in
set_option maxHeartbeats 4000000 in
theorem jrk_31_1 : jT_31_1.all (jrok 31) = true := by decide +kernel
theorem jrk_31 : jT_31.all (jrok 31) = true := by
  unfold jT_31
  simp only [List.all_append, jrk_31_0, jrk_31_1, Bool.and_self]
set_option maxRecDepth 100000 in
set_option maxHeartbeats 4000000 in
theorem jrk_32_0 : jT_32_0.all (jrok 32) = true := by decide +kernel
theorem jrk_32 : jT_32.all (jrok 32) = true := by
  exact jrk_32_0
set_option maxRecDepth 100000 in
set_option maxHeartbeats 4000000 in
theorem jrk_33_0 : jT_33_0.all (jrok 33) = true := by decide +kernel
theorem jrk_33 : jT_33.all (jrok 33) = true := by
  exact jrk_33_0
set_option maxRecDepth 100000 in
set_option maxHeartbeats 4000000 in
theorem jrk_34_0 : jT_34_0.all (jrok 34) = true := by decide +kernel
theorem jrk_34 : jT_34.all (jrok 34) = true := by
  exact jrk_34_0
set_option maxRecDepth 100000 in
set_option maxHeartbeats 4000000 in
theorem jrk_35_0 : jT_35_0.all (jrok 35) = true := by decide +kernel
set_option maxRecDepth 100000 in
set_option maxHeartbeats 4000000 in
theorem jrk_35_1 : jT_35_1.all (jrok 35) = true := by decide +kernel
theorem jrk_35 : jT_35.all (jrok 35) = true := by
  unfold jT_35
  simp only [List.all_append, jrk_35_0, jrk_35_1, Bool.and_self]
set_option maxRecDepth 100000 in
set_option maxHeartbeats 4000000 in
theorem jrk_36_0 : jT_36_0.all (jrok 36) = true := by decide +kernel
theorem jrk_36 : jT_36.all (jrok 36) = true := by
  exact jrk_36_0
set_option maxRecDepth 100000 in
set_option maxHeartbeats 4000000 in
theorem jrk_37_0 : jT_37_0.all (jrok 37) = true := by decide +kernel
theorem jrk_37 : jT_37.all (jrok 37) = true := by
  exact jrk_37_0
set_option maxRecDepth 100000 in
set_option maxHeartbeats 4000000 in
theorem jrk_38_0 : jT_38_0.all (jrok 38) = true := by decide +kernel
theorem jrk_38 : jT_38.all (jrok 38) = true := by
  exact jrk_38_0
set_option maxRecDepth 100000 in
set_option maxHeartbeats 4000000 in
theorem jrk_39_0 : jT_39_0.all (jrok 39) = true := by decide +kernel
theorem jrk_39 : jT_39.all (jrok 39) = true := by
  exact jrk_39_0
set_option maxRecDepth 100000 in
set_option maxHeartbeats 4000000 in
theorem jrk_40_0 : jT_40_0.all (jrok 40) = true := by decide +kernel
theorem jrk_40 : jT_40.all (jrok 40) = true := by
  exact jrk_40_0
set_option maxRecDepth 100000 in
set_option maxHeartbeats 4000000 in
theorem jrk_41_0 : jT_41_0.all (jrok 41) = true := by decide +kernel
set_option maxRecDepth 100000 in
set_option maxHeartbeats 4000000 in
theorem jrk_41_1 : jT_41_1.all (jrok 41) = true := by decide +kernel
set_option maxRecDepth 100000 in
set_option maxHeartbeats 4000000 in
theorem jrk_41_2 : jT_41_2.all (jrok 41) = true := by decide +kernel
theorem jrk_41 : jT_41.all (jrok 41) = true := by
  unfold jT_41
  simp only [List.all_append, jrk_41_0, jrk_41_1, jrk_41_2, Bool.and_self]
set_option maxRecDepth 100000 in
set_option maxHeartbeats 4000000 in
theorem jrk_42_0 : jT_42_0.all (jrok 42) = true := by decide +kernel
theorem jrk_42 : jT_42.all (jrok 42) = true := by
  exact jrk_42_0
set_option maxRecDepth 100000 in
set_option maxHeartbeats 4000000 in
theorem jrk_43_0 : jT_43_0.all (jrok 43) = true := by decide +kernel
theorem jrk_43 : jT_43.all (jrok 43) = true := by
  exact jrk_43_0
set_option maxRecDepth 100000 in
set_option maxHeartbeats 4000000 in
theorem jrk_44_0 : jT_44_0.all (jrok 44) = true := by decide +kernel
theorem jrk_44 : jT_44.all (jrok 44) = true := by
  exact jrk_44_0
set_option maxRecDepth 100000 in
set_option maxHeartbeats 4000000 in
theorem jrk_45_0 : jT_45_0.all (jrok 45) = true := by decide +kernel
theorem jrk_45 : jT_45.all (jrok 45) = true := by
  exact jrk_45_0
set_option maxRecDepth 100000 in
set_option maxHeartbeats 4000000 in
theorem jrk_46_0 : jT_46_0.all (jrok 46) = true := by decide +kernel
theorem jrk_46 : jT_46.all (jrok 46) = true := by
  exact jrk_46_0
set_option maxRecDepth 100000 in
set_option maxHeartbeats 4000000 in
theorem jrk_47_0 : jT_47_0.all (jrok 47) = true := by decide +kernel
theorem jrk_47 : jT_47.all (jrok 47) = true := by
  exact jrk_47_0
set_option maxRecDepth 100000 in
set_option maxHeartbeats 4000000 in
theorem jrk_48_0 : jT_48_0.all (jrok 48) = true := by decide +kernel
set_option maxRecDepth 100000 in
set_option maxHeartbeats 4000000 in
theorem jrk_48_1 : jT_48_1.all (jrok 48) = true := by decide +kernel
theorem jrk_48 : jT_48.all (jrok 48) = true := by
  unfold jT_48
  simp only [List.all_append, jrk_48_0, jrk_48_1, Bool.and_self]
set_option maxRecDepth 100000 in
set_option maxHeartbeats 4000000 in
theorem jrk_49_0 : jT_49_0.all (jrok 49) = true := by decide +kernel
theorem jrk_49 : jT_49.all (jrok 49) = true := by
  exact jrk_49_0
set_option maxRecDepth 100000 in
set_option maxHeartbeats 4000000 in
theorem jrk_50_0 : jT_50_0.all (jrok 50) = true := by decide +kernel
set_option maxRecDepth 100000 in
set_option maxHeartbeats 4000000 in
theorem jrk_50_1 : jT_50_1.all (jrok 50) = true := by decide +kernel
theorem jrk_50 : jT_50.all (jrok 50) = true := by
  unfold jT_50
  simp only [List.all_append, jrk_50_0, jrk_50_1, Bool.and_self]
set_option maxRecDepth 100000 in
set_option maxHeartbeats 4000000 in
theorem jrk_51_0 : jT_51_0.all (jrok 51) = true := by decide +kernel
theorem jrk_51 : jT_51.all (jrok 51) = true := by
  exact jrk_51_0
set_option maxRecDepth 100000 in
set_option maxHeartbeats 4000000 in
theorem jrk_52_0 : jT_52_0.all (jrok 52) = true := by decide +kernel
set_option maxRecDepth 100000 in
set_option maxHeartbeats 4000000 in
theorem jrk_52_1 : jT_52_1.all (jrok 52) = true := by decide +kernel
theorem jrk_52 : jT_52.all (jrok 52) = true := by
  unfold jT_52
  simp only [List.all_append, jrk_52_0, jrk_52_1, Bool.and_self]
set_option maxRecDepth 100000 in
set_option maxHeartbeats 4000000 in
theorem jrk_53_0 : jT_53_0.all (jrok 53) = true := by decide +kernel
set_option maxRecDepth 100000 in
set_option maxHeartbeats 4000000 in
theorem jrk_53_1 : jT_53_1.all (jrok 53) = true := by decide +kernel
theorem jrk_53 : jT_53.all (jrok 53) = true := by
  unfold jT_53
  simp only [List.all_append, jrk_53_0, jrk_53_1, Bool.and_self]
set_option maxRecDepth 100000 in
set_option maxHeartbeats 4000000 in
theorem jrk_54_0 : jT_54_0.all (jrok 54) = true := by decide +kernel
theorem jrk_54 : jT_54.all (jrok 54) = true := by
  exact jrk_54_0
set_option maxRecDepth 100000 in
set_option maxHeartbeats 4000000 in
theorem jrk_55_0 : jT_55_0.all (jrok 55) = true := by decide +kernel
theorem jrk_55 : jT_55.all (jrok 55) = true := by
  exact jrk_55_0
set_option maxRecDepth 100000 in
set_option maxHeartbeats 4000000 in
theorem jrk_56_0 : jT_56_0.all (jrok 56) = true := by decide +kernel
set_option maxRecDepth 100000 in
set_option maxHeartbeats 4000000 in
theorem jrk_56_1 : jT_56_1.all (jrok 56) = true := by decide +kernel
theorem jrk_56 : jT_56.all (jrok 56) = true := by
  unfold jT_56
  simp only [List.all_append, jrk_56_0, jrk_56_1, Bool.and_self]
set_option maxRecDepth 100000 in
set_option maxHeartbeats 4000000 in
theorem jrk_57_0 : jT_57_0.all (jrok 57) = true := by decide +kernel
theorem jrk_57 : jT_57.all (jrok 57) = true := by
  exact jrk_57_0
set_option maxRecDepth 100000 in
set_option maxHeartbeats 4000000 in
theorem jrk_58_0 : jT_58_0.all (jrok 58) = true := by decide +kernel
theorem jrk_58 : jT_58.all (jrok 58) = true := by
  exact jrk_58_0
set_option maxRecDepth 100000 in
set_option maxHeartbeats 4000000 in
theorem jrk_59_0 : jT_59_0.all (jrok 59) = true := by decide +kernel
theorem jrk_59 : jT_59.all (jrok 59) = true := by
  exact jrk_59_0
set_option maxRecDepth 100000 in
set_option maxHeartbeats 4000000 in
theorem jrk_60_0 : jT_60_0.all (jrok 60) = true := by decide +kernel
set_option maxRecDepth 100000 in
set_option maxHeartbeats 4000000 in
theorem jrk_60_1 : jT_60_1.all (jrok 60) = true := by decide +kernel
theorem jrk_60 : jT_60.all (jrok 60) = true := by
  unfold jT_60
  simp only [List.all_append, jrk_60_0, jrk_60_1, Bool.and_self]
set_option maxRecDepth 100000 in
set_option maxHeartbeats 4000000 in
theorem jrk_61_0 : jT_61_0.all (jrok 61) = true := by decide +kernel
theorem jrk_61 : jT_61.all (jrok 61) = true := by
  exact jrk_61_0
set_option maxRecDepth 100000 in
set_option maxHeartbeats 4000000 in
theorem jrk_62_0 : jT_62_0.all (jrok 62) = true := by decide +kernel
theorem jrk_62 : jT_62.all (jrok 62) = true := by
  exact jrk_62_0
set_option maxRecDepth 100000 in
set_option maxHeartbeats 4000000 in
theorem jrk_63_0 : jT_63_0.all (jrok 63) = true := by decide +kernel
theorem jrk_63 : jT_63.all (jrok 63) = true := by
  exact jrk_63_0
set_option maxRecDepth 100000 in
set_option maxHeartbeats 4000000 in
theorem jrk_64_0 : jT_64_0.all (jrok 64) = true := by decide +kernel
theorem jrk_64 : jT_64.all (jrok 64) = true := by
  exact jrk_64_0
set_option maxRecDepth 100000 in
set_option maxHeartbeats 4000000 in
theorem jrk_65_0 : jT_65_0.all (jrok 65) = true := by decide +kernel
set_option maxRecDepth 100000 in
set_option maxHeartbeats 4000000 in
theorem jrk_65_1 : jT_65_1.all (jrok 65) = true := by decide +kernel
theorem jrk_65 : jT_65.all (jrok 65) = true := by
  unfold jT_65
  simp only [List.all_append, jrk_65_0, jrk_65_1, Bool.and_self]
set_option maxRecDepth 100000 in
set_option maxHeartbeats 4000000 in
theorem jrk_66_0 : jT_66_0.all (jrok 66) = true := by decide +kernel
theorem jrk_66 : jT_66.all (jrok 66) = true := by
  exact jrk_66_0
set_option maxRecDepth 100000 in
set_option maxHeartbeats 4000000 in
theorem jrk_67_0 : jT_67_0.all (jrok 67) = true := by decide +kernel
theorem jrk_67 : jT_67.all (jrok 67) = true := by
  exact jrk_67_0
set_option maxRecDepth 100000 in
set_option maxHeartbeats 4000000 in
theorem jrk_68_0 : jT_68_0.all (jrok 68) = true := by decide +kernel
theorem jrk_68 : jT_68.all (jrok 68) = true := by
  exact jrk_68_0
set_option maxRecDepth 100000 in
set_option maxHeartbeats 4000000 in
theorem jrk_69_0 : jT_69_0.all (jrok 69) = true := by decide +kernel
theorem jrk_69 : jT_69.all (jrok 69) = true := by
  exact jrk_69_0
set_option maxRecDepth 100000 in
set_option maxHeartbeats 4000000 in
theorem jrk_70_0 : jT_70_0.all (jrok 70) = true := by decide +kernel
theorem jrk_70 : jT_70.all (jrok 70) = true := by
  exact jrk_70_0
set_option maxRecDepth 100000 in
set_option maxHeartbeats 4000000 in
theorem jrk_71_0 : jT_71_0.all (jrok 71) = true := by decide +kernel
set_option maxRecDepth 100000 in
set_option maxHeartbeats 4000000 in
theorem jrk_71_1 : jT_71_1.all (jrok 71) = true := by decide +kernel
set_option maxRecDepth 100000 in
set_option maxHeartbeats 4000000 in
theorem jrk_71_2 : jT_71_2.all (jrok 71) = true := by decide +kernel
theorem jrk_71 : jT_71.all (jrok 71) = true := by
  unfold jT_71
  simp only [List.all_append, jrk_71_0, jrk_71_1, jrk_71_2, Bool.and_self]
set_option maxRecDepth 100000 in
set_option maxHeartbeats 4000000 in
theorem jrk_72_0 : jT_72_0.all (jrok 72) = true := by decide +kernel
theorem jrk_72 : jT_72.all (jrok 72) = true := by
  exact jrk_72_0
set_option maxRecDepth 100000 in
set_option maxHeartbeats 4000000 in
theorem jrk_73_0 : jT_73_0.all (jrok 73) = true := by decide +kernel
theorem jrk_73 : jT_73.all (jrok 73) = true := by
  exact jrk_73_0
set_option maxRecDepth 100000 in
set_option maxHeartbeats 4000000 in
theorem jrk_74_0 : jT_74_0.all (jrok 74) = true := by decide +kernel
set_option maxRecDepth 100000 in
set_option maxHeartbeats 4000000 in
theorem jrk_74_1 : jT_74_1.all (jrok 74) = true := by decide +kernel
theorem jrk_74 : jT_74.all (jrok 74) = true := by
  unfold jT_74
  simp only [List.all_append, jrk_74_0, jrk_74_1, Bool.and_self]
set_option maxRecDepth 100000 in
set_option maxHeartbeats 4000000 in
theorem jrk_75_0 : jT_75_0.all (jrok 75) = true := by decide +kernel
set_option maxRecDepth 100000 in
set_option maxHeartbeats 4000000 in
theorem jrk_75_1 : jT_75_1.all (jrok 75) = true := by decide +kernel
theorem jrk_75 : jT_75.all (jrok 75) = true := by
  unfold jT_75
  simp only [List.all_append, jrk_75_0, jrk_75_1, Bool.and_self]
set_option maxRecDepth 100000 in
set_option maxHeartbeats 4000000 in
theorem jrk_76_0 : jT_76_0.all (jrok 76) = true := by decide +kernel
theorem jrk_76 : jT_76.all (jrok 76) = true := by
  exact jrk_76_0
set_option maxRecDepth 100000 in
set_option maxHeartbeats 4000000 in
theorem jrk_77_0 : jT_77_0.all (jrok 77) = true := by decide +kernel
theorem jrk_77 : jT_77.all (jrok 77) = true := by
  exact jrk_77_0
set_option maxRecDepth 100000 in
set_option maxHeartbeats 4000000 in
theorem jrk_78_0 : jT_78_0.all (jrok 78) = true := by decide +kernel
theorem jrk_78 : jT_78.all (jrok 78) = true := by
  exact jrk_78_0
set_option maxRecDepth 100000 in
set_option maxHeartbeats 4000000 in
theorem jrk_79_0 : jT_79_0.all (jrok 79) = true := by decide +kernel
theorem jrk_79 : jT_79.all (jrok 79) = true := by
  exact jrk_79_0
set_option maxRecDepth 100000 in
set_option maxHeartbeats 4000000 in
theorem jrk_80_0 : jT_80_0.all (jrok 80) = true := by decide +kernel
set_option maxRecDepth 100000 in
set_option maxHeartbeats 4000000 in
theorem jrk_80_1 : jT_80_1.all (jrok 80) = true := by decide +kernel
theorem jrk_80 : jT_80.all (jrok 80) = true := by
  unfold jT_80
  simp only [List.all_append, jrk_80_0, jrk_80_1, Bool.and_self]
set_option maxRecDepth 100000 in
set_option maxHeartbeats 4000000 in
theorem jrk_81_0 : jT_81_0.all (jrok 81) = true := by decide +kernel
theorem jrk_81 : jT_81.all (jrok 81) = true := by
  exact jrk_81_0
set_option maxRecDepth 100000 in
set_option maxHeartbeats 4000000 in
theorem jrk_82_0 : jT_82_0.all (jrok 82) = true := by decide +kernel
set_option maxRecDepth 100000 in
set_option maxHeartbeats 4000000 in
theorem jrk_82_1 : jT_82_1.all (jrok 82) = true := by decide +kernel
theorem jrk_82 : jT_82.all (jrok 82) = true := by
  unfold jT_82
  simp only [List.all_append, jrk_82_0, jrk_82_1, Bool.and_self]
set_option maxRecDepth 100000 in
set_option maxHeartbeats 4000000 in
theorem jrk_83_0 : jT_83_0.all (jrok 83) = true := by decide +kernel
set_option maxRecDepth 100000 in
set_option maxHeartbeats 4000000 in
theorem jrk_83_1 : jT_83_1.all (jrok 83) = true := by decide +kernel
theorem jrk_83 : jT_83.all (jrok 83) = true := by
  unfold jT_83
  simp only [List.all_append, jrk_83_0, jrk_83_1, Bool.and_self]
set_option maxRecDepth 100000 in
set_option maxHeartbeats 4000000 in
theorem jrk_84_0 : jT_84_0.all (jrok 84) = true := by decide +kernel
set_option maxRecDepth 100000 in
set_option maxHeartbeats 4000000 in
theorem jrk_84_1 : jT_84_1.all (jrok 84) = true := by decide +kernel
set_option maxRecDepth 100000 in
set_option maxHeartbeats 4000000 in
theorem jrk_84_2 : jT_84_2.all (jrok 84) = true := by decide +kernel
theorem jrk_84 : jT_84.all (jrok 84) = true := by
  unfold jT_84
  simp only [List.all_append, jrk_84_0, jrk_84_1, jrk_84_2, Bool.and_self]
set_option maxRecDepth 100000 in
set_option maxHeartbeats 4000000 in
theorem jrk_85_0 : jT_85_0.all (jrok 85) = true := by decide +kernel
set_option maxRecDepth 100000 in
set_option maxHeartbeats 4000000 in
theorem jrk_85_1 : jT_85_1.all (jrok 85) = true := by decide +kernel
theorem jrk_85 : jT_85.all (jrok 85) = true := by
  unfold jT_85
  simp only [List.all_append, jrk_85_0, jrk_85_1, Bool.and_self]
set_option maxRecDepth 100000 in
set_option maxHeartbeats 4000000 in
theorem jrk_86_0 : jT_86_0.all (jrok 86) = true := by decide +kernel
theorem jrk_86 : jT_86.all (jrok 86) = true := by
  exact jrk_86_0
set_option maxRecDepth 100000 in
set_option maxHeartbeats 4000000 in
theorem jrk_87_0 : jT_87_0.all (jrok 87) = true := by decide +kernel
theorem jrk_87 : jT_87.all (jrok 87) = true := by
  exact jrk_87_0
set_option maxRecDepth 100000 in
set_option maxHeartbeats 4000000 in
theorem jrk_88_0 : jT_88_0.all (jrok 88) = true := by decide +kernel
theorem jrk_88 : jT_88.all (jrok 88) = true := by
  exact jrk_88_0
set_option maxRecDepth 100000 in
set_option maxHeartbeats 4000000 in
theorem jrk_89_0 : jT_89_0.all (jrok 89) = true := by decide +kernel
theorem jrk_89 : jT_89.all (jrok 89) = true := by
  exact jrk_89_0
set_option maxRecDepth 100000 in
set_option maxHeartbeats 4000000 in
theorem jrk_90_0 : jT_90_0.all (jrok 90) = true := by decide +kernel
theorem jrk_90 : jT_90.all (jrok 90) = true := by
  exact jrk_90_0
set_option maxRecDepth 100000 in
set_option maxHeartbeats 4000000 in
theorem jrk_91_0 : jT_91_0.all (jrok 91) = true := by decide +kernel
theorem jrk_91 : jT_91.all (jrok 91) = true := by
  exact jrk_91_0
set_option maxRecDepth 100000 in
set_option maxHeartbeats 4000000 in
theorem jrk_92_0 : jT_92_0.all (jrok 92) = true := by decide +kernel
theorem jrk_92 : jT_92.all (jrok 92) = true := by
  exact jrk_92_0
set_option maxRecDepth 100000 in
set_option maxHeartbeats 4000000 in
theorem jrk_93_0 : jT_93_0.all (jrok 93) = true := by decide +kernel
theorem jrk_93 : jT_93.all (jrok 93) = true := by
  exact jrk_93_0
set_option maxRecDepth 100000 in
set_option maxHeartbeats 4000000 in
theorem jrk_94_0 : jT_94_0.all (jrok 94) = true := by decide +kernel
theorem jrk_94 : jT_94.all (jrok 94) = true := by
  exact jrk_94_0
set_option maxRecDepth 100000 in
set_option maxHeartbeats 4000000 in
theorem jrk_95_0 : jT_95_0.all (jrok 95) = true := by decide +kernel
theorem jrk_95 : jT_95.all (jrok 95) = true := by
  exact jrk_95_0
set_option maxRecDepth 100000 in
set_option maxHeartbeats 4000000 in
theorem jrk_96_0 : jT_96_0.all (jrok 96) = true := by decide +kernel
theorem jrk_96 : jT_96.all (jrok 96) = true := by
  exact jrk_96_0
set_option maxRecDepth 100000 in
set_option maxHeartbeats 4000000 in
theorem jrk_97_0 : jT_97_0.all (jrok 97) = true := by decide +kernel
set_option maxRecDepth 100000 in
set_option maxHeartbeats 4000000 in
theorem jrk_97_1 : jT_97_1.all (jrok 97) = true := by decide +kernel
theorem jrk_97 : jT_97.all (jrok 97) = true := by
  unfold jT_97
  simp only [List.all_append, jrk_97_0, jrk_97_1, Bool.and_self]
set_option maxRecDepth 100000 in
set_option maxHeartbeats 4000000 in
theorem jrk_98_0 : jT_98_0.all (jrok 98) = true := by decide +kernel
theorem jrk_98 : jT_98.all (jrok 98) = true := by
  exact jrk_98_0
set_option maxRecDepth 100000 in
set_option maxHeartbeats 4000000 in
theorem jrk_99_0 : jT_99_0.all (jrok 99) = true := by decide +kernel
theorem jrk_99 : jT_99.all (jrok 99) = true := by
  exact jrk_99_0
set_option maxRecDepth 100000 in
set_option maxHeartbeats 4000000 in
theorem jrk_100_0 : jT_100_0.all (jrok 100) = true := by decide +kernel
theorem jrk_100 : jT_100.all (jrok 100) = true := by
  exact jrk_100_0
set_option maxRecDepth 100000 in
set_option maxHeartbeats 4000000 in
theorem jrk_101_0 : jT_101_0.all (jrok 101) = true := by decide +kernel
theorem jrk_101 : jT_101.all (jrok 101) = true := by
  exact jrk_101_0
set_option maxRecDepth 100000 in
set_option maxHeartbeats 4000000 in
theorem jrk_102_0 : jT_102_0.all (jrok 102) = true := by decide +kernel
set_option maxRecDepth 100000 in
set_option maxHeartbeats 4000000 in
theorem jrk_102_1 : jT_102_1.all (jrok 102) = true := by decide +kernel
theorem jrk_102 : jT_102.all (jrok 102) = true := by
  unfold jT_102
  simp only [List.all_append, jrk_102_0, jrk_102_1, Bool.and_self]
set_option maxRecDepth 100000 in
set_option maxHeartbeats 4000000 in
theorem jrk_103_0 : jT_103_0.all (jrok 103) = true := by decide +kernel
theorem jrk_103 : jT_103.all (jrok 103) = true := by
  exact jrk_103_0
set_option maxRecDepth 100000 in
set_option maxHeartbeats 4000000 in
theorem jrk_104_0 : jT_104_0.all (jrok 104) = true := by decide +kernel
set_option maxRecDepth 100000 in
set_option maxHeartbeats 4000000 in
theorem jrk_104_1 : jT_104_1.all (jrok 104) = true := by decide +kernel
theorem jrk_104 : jT_104.all (jrok 104) = true := by
  unfold jT_104
  simp only [List.all_append, jrk_104_0, jrk_104_1, Bool.and_self]
set_option maxRecDepth 100000 in
set_option maxHeartbeats 4000000 in
theorem jrk_105_0 : jT_105_0.all (jrok 105) = true := by decide +kernel
theorem jrk_105 : jT_105.all (jrok 105) = true := by
  exact jrk_105_0
set_option maxRecDepth 100000 in
set_option maxHeartbeats 4000000 in
theorem jrk_106_0 : jT_106_0.all (jrok 106) = true := by decide +kernel
theorem jrk_106 : jT_106.all (jrok 106) = true := by
  exact jrk_106_0
set_option maxRecDepth 100000 in
set_option maxHeartbeats 4000000 in
theorem jrk_107_0 : jT_107_0.all (jrok 107) = true := by decide +kernel
theorem jrk_107 : jT_107.all (jrok 107) = true := by
  exact jrk_107_0
set_option maxRecDepth 100000 in
set_option maxHeartbeats 4000000 in
theorem jrk_108_0 : jT_108_0.all (jrok 108) = true := by decide +kernel
theorem jrk_108 : jT_108.all (jrok 108) = true := by
  exact jrk_108_0
set_option maxRecDepth 100000 in
set_option maxHeartbeats 4000000 in
theorem jrk_109_0 : jT_109_0.all (jrok 109) = true := by decide +kernel
theorem jrk_109 : jT_109.all (jrok 109) = true := by
  exact jrk_109_0
set_option maxRecDepth 100000 in
set_option maxHeartbeats 4000000 in
theorem jrk_110_0 : jT_110_0.all (jrok 110) = true := by decide +kernel
theorem jrk_110 : jT_110.all (jrok 110) = true := by
  exact jrk_110_0
set_option maxRecDepth 100000 in
set_option maxHeartbeats 4000000 in
theorem jrk_111_0 : jT_111_0.all (jrok 111) = true := by decide +kernel
theorem jrk_111 : jT_111.all (jrok 111) = true := by
  exact jrk_111_0
set_option maxRecDepth 100000 in
set_option maxHeartbeats 4000000 in
theorem jrk_112_0 : jT_112_0.all (jrok 112) = true := by decide +kernel
theorem jrk_112 : jT_112.all (jrok 112) = true := by
  exact jrk_112_0
set_option maxRecDepth 100000 in
set_option maxHeartbeats 4000000 in
theorem jrk_113_0 : jT_113_0.all (jrok 113) = true := by decide +kernel
theorem jrk_113 : jT_113.all (jrok 113) = true := by
  exact jrk_113_0
set_option maxRecDepth 100000 in
set_option maxHeartbeats 4000000 in
theorem jrk_114_0 : jT_114_0.all (jrok 114) = true := by decide +kernel
set_option maxRecDepth 100000 in
set_option maxHeartbeats 4000000 in
theorem jrk_114_1 : jT_114_1.all (jrok 114) = true := by decide +kernel
theorem jrk_114 : jT_114.all (jrok 114) = true := by
  unfold jT_114
  simp only [List.all_append, jrk_114_0, jrk_114_1, Bool.and_self]
set_option maxRecDepth 100000 in
set_option maxHeartbeats 4000000 in
theorem jrk_115_0 : jT_115_0.all (jrok 115) = true := by decide +kernel
set_option maxRecDepth 100000 in
set_option maxHeartbeats 4000000 in
theorem jrk_115_1 : jT_115_1.all (jrok 115) = true := by decide +kernel
theorem jrk_115 : jT_115.all (jrok 115) = true := by
  unfold jT_115
  simp only [List.all_append, jrk_115_0, jrk_115_1, Bool.and_self]
set_option maxRecDepth 100000 in
set_option maxHeartbeats 4000000 in
theorem jrk_116_0 : jT_116_0.all (jrok 116) = true := by decide +kernel
set_option maxRecDepth 100000 in
set_option maxHeartbeats 4000000 in
theorem jrk_116_1 : jT_116_1.all (jrok 116) = true := by decide +kernel
theorem jrk_116 : jT_116.all (jrok 116) = true := by
  unfold jT_116
  simp only [List.all_append, jrk_116_0, jrk_116_1, Bool.and_self]
set_option maxRecDepth 100000 in
set_option maxHeartbeats 4000000 in
theorem jrk_117_0 : jT_117_0.all (jrok 117) = true := by decide +kernel
theorem jrk_117 : jT_117.all (jrok 117) = true := by
  exact jrk_117_0
set_option maxRecDepth 100000 in
set_option maxHeartbeats 4000000 in
theorem jrk_118_0 : jT_118_0.all (jrok 118) = true := by decide +kernel
theorem jrk_118 : jT_118.all (jrok 118) = true := by
  exact jrk_118_0
set_option maxRecDepth 100000 in
set_option maxHeartbeats 4000000 in
theorem jrk_119_0 : jT_119_0.all (jrok 119) = true := by decide +kernel
theorem jrk_119 : jT_119.all (jrok 119) = true := by
  exact jrk_119_0
set_option maxRecDepth 100000 in
set_option maxHeartbeats 4000000 in
theorem jrk_120_0 : jT_120_0.all (jrok 120) = true := by decide +kernel
theorem jrk_120 : jT_120.all (jrok 120) = true := by
  exact jrk_120_0
set_option maxRecDepth 100000 in
set_option maxHeartbeats 4000000 in
theorem jrk_121_0 : jT_121_0.all (jrok 121) = true := by decide +kernel
theorem jrk_121 : jT_121.all (jrok 121) = true := by
  exact jrk_121_0
set_option maxRecDepth 100000 in
set_option maxHeartbeats 4000000 in
theorem jrk_122_0 : jT_122_0.all (jrok 122) = true := by decide +kernel
set_option maxRecDepth 100000 in
set_option maxHeartbeats 4000000 in
theorem jrk_122_1 : jT_122_1.all (jrok 122) = true := by decide +kernel
theorem jrk_122 : jT_122.all (jrok 122) = true := by
  unfold jT_122
  simp only [List.all_append, jrk_122_0, jrk_122_1, Bool.and_self]
set_option maxRecDepth 100000 in
set_option maxHeartbeats 4000000 in
theorem jrk_123_0 : jT_123_0.all (jrok 123) = true := by decide +kernel
set_option maxRecDepth 100000 in
set_option maxHeartbeats 4000000 in
theorem jrk_123_1 : jT_123_1.all (jrok 123) = true := by decide +kernel
theorem jrk_123 : jT_123.all (jrok 123) = true := by
  unfold jT_123
  simp only [List.all_append, jrk_123_0, jrk_123_1, Bool.and_self]
set_option maxRecDepth 100000 in
set_option maxHeartbeats 4000000 in
theorem jrk_124_0 : jT_124_0.all (jrok 124) = true := by decide +kernel
theorem jrk_124 : jT_124.all (jrok 124) = true := by
  exact jrk_124_0
set_option maxRecDepth 100000 in
set_option maxHeartbeats 4000000 in
theorem jrk_125_0 : jT_125_0.all (jrok 125) = true := by decide +kernel
theorem jrk_125 : jT_125.all (jrok 125) = true := by
  exact jrk_125_0
set_option maxRecDepth 100000 in
set_option maxHeartbeats 4000000 in
theorem jrk_126_0 : jT_126_0.all (jrok 126) = true := by decide +kernel
theorem jrk_126 : jT_126.all (jrok 126) = true := by
  exact jrk_126_0
set_option maxRecDepth 100000 in
set_option maxHeartbeats 4000000 in
theorem jrk_127_0 : jT_127_0.all (jrok 127) = true := by decide +kernel
theorem jrk_127 : jT_127.all (jrok 127) = true := by
  exact jrk_127_0
set_option maxRecDepth 100000 in
set_option maxHeartbeats 4000000 in
theorem jrk_128_0 : jT_128_0.all (jrok 128) = true := by decide +kernel
theorem jrk_128 : jT_128.all (jrok 128) = true := by
  exact jrk_128_0
set_option maxRecDepth 100000 in
set_option maxHeartbeats 4000000 in
theorem jrk_129_0 : jT_129_0.all (jrok 129) = true := by decide +kernel
theorem jrk_129 : jT_129.all (jrok 129) = true := by
  exact jrk_129_0
set_option maxRecDepth 100000 in
set_option maxHeartbeats 4000000 in
theorem jrk_130_0 : jT_130_0.all (jrok 130) = true := by decide +kernel
theorem jrk_130 : jT_130.all (jrok 130) = true := by
  exact jrk_130_0
set_option maxRecDepth 100000 in
set_option maxHeartbeats 4000000 in
theorem jrk_131_0 : jT_131_0.all (jrok 131) = true := by decide +kernel
set_option maxRecDepth 100000 in
set_option maxHeartbeats 4000000 in
theorem jrk_131_1 : jT_131_1.all (jrok 131) = true := by decide +kernel
theorem jrk_131 : jT_131.all (jrok 131) = true := by
  unfold jT_131
  simp only [List.all_append, jrk_131_0, jrk_131_1, Bool.and_self]
set_option maxRecDepth 100000 in
set_option maxHeartbeats 4000000 in
theorem jrk_132_0 : jT_132_0.all (jrok 132) = true := by decide +kernel
theorem jrk_132 : jT_132.all (jrok 132) = true := by
  exact jrk_132_0
set_option maxRecDepth 100000 in
set_option maxHeartbeats 4000000 in
theorem jrk_133_0 : jT_133_0.all (jrok 133) = true := by decide +kernel
theorem jrk_133 : jT_133.all (jrok 133) = true := by
  exact jrk_133_0
set_option maxRecDepth 100000 in
set_option maxHeartbeats 4000000 in
theorem jrk_134_0 : jT_134_0.all (jrok 134) = true := by decide +kernel
set_option maxRecDepth 100000 in
set_option maxHeartbeats 4000000 in
theorem jrk_134_1 : jT_134_1.all (jrok 134) = true := by decide +kernel
theorem jrk_134 : jT_134.all (jrok 134) = true := by
  unfold jT_134
  simp only [List.all_append, jrk_134_0, jrk_134_1, Bool.and_self]
set_option maxRecDepth 100000 in
set_option maxHeartbeats 4000000 in
theorem jrk_135_0 : jT_135_0.all (jrok 135) = true := by decide +kernel
theorem jrk_135 : jT_135.all (jrok 135) = true := by
  exact jrk_135_0
set_option maxRecDepth 100000 in
set_option maxHeartbeats 4000000 in
theorem jrk_136_0 : jT_136_0.all (jrok 136) = true := by decide +kernel
theorem jrk_136 : jT_136.all (jrok 136) = true := by
  exact jrk_136_0
set_option maxRecDepth 100000 in
set_option maxHeartbeats 4000000 in
theorem jrk_137_0 : jT_137_0.all (jrok 137) = true := by decide +kernel
theorem jrk_137 : jT_137.all (jrok 137) = true := by
  exact jrk_137_0
set_option maxRecDepth 100000 in
set_option maxHeartbeats 4000000 in
theorem jrk_138_0 : jT_138_0.all (jrok 138) = true := by decide +kernel
theorem jrk_138 : jT_138.all (jrok 138) = true := by
  exact jrk_138_0
set_option maxRecDepth 100000 in
set_option maxHeartbeats 4000000 in
theorem jrk_139_0 : jT_139_0.all (jrok 139) = true := by decide +kernel
theorem jrk_139 : jT_139.all (jrok 139) = true := by
  exact jrk_139_0
set_option maxRecDepth 100000 in
set_option maxHeartbeats 4000000 in
theorem jrk_140_0 : jT_140_0.all (jrok 140) = true := by decide +kernel
theorem jrk_140 : jT_140.all (jrok 140) = true := by
  exact jrk_140_0
set_option maxRecDepth 100000 in
set_option maxHeartbeats 4000000 in
theorem jrk_141_0 : jT_141_0.all (jrok 141) = true := by decide +kernel
theorem jrk_141 : jT_141.all (jrok 141) = true := by
  exact jrk_141_0
set_option maxRecDepth 100000 in
set_option maxHeartbeats 4000000 in
theorem jrk_142_0 : jT_142_0.all (jrok 142) = true := by decide +kernel
theorem jrk_142 : jT_142.all (jrok 142) = true := by
  exact jrk_142_0
set_option maxRecDepth 100000 in
set_option maxHeartbeats 4000000 in
theorem jrk_143_0 : jT_143_0.all (jrok 143) = true := by decide +kernel
theorem jrk_143 : jT_143.all (jrok 143) = true := by
  exact jrk_143_0
set_option maxRecDepth 100000 in
set_option maxHeartbeats 4000000 in
theorem jrk_144_0 : jT_144_0.all (jrok 144) = true := by decide +kernel
set_option maxRecDepth 100000 in
set_option maxHeartbeats 4000000 in
theorem jrk_144_1 : jT_144_1.all (jrok 144) = true := by decide +kernel
theorem jrk_144 : jT_144.all (jrok 144) = true := by
  unfold jT_144
  simp only [List.all_append, jrk_144_0, jrk_144_1, Bool.and_self]
set_option maxRecDepth 100000 in
set_option maxHeartbeats 4000000 in
theorem jrk_145_0 : jT_145_0.all (jrok 145) = true := by decide +kernel
theorem jrk_145 : jT_145.all (jrok 145) = true := by
  exact jrk_145_0
set_option maxRecDepth 100000 in
set_option maxHeartbeats 4000000 in
theorem jrk_146_0 : jT_146_0.all (jrok 146) = true := by decide +kernel
theorem jrk_146 : jT_146.all (jrok 146) = true := by
  exact jrk_146_0
set_option maxRecDepth 100000 in
set_option maxHeartbeats 4000000 in
theorem jrk_147_0 : jT_147_0.all (jrok 147) = true := by decide +kernel
set_option maxRecDepth 100000 in
set_option maxHeartbeats 4000000 in
theorem jrk_147_1 : jT_147_1.all (jrok 147) = true := by decide +kernel
theorem jrk_147 : jT_147.all (jrok 147) = true := by
  unfold jT_147
  simp only [List.all_append, jrk_147_0, jrk_147_1, Bool.and_self]
set_option maxRecDepth 100000 in
set_option maxHeartbeats 4000000 in
theorem jrk_148_0 : jT_148_0.all (jrok 148) = true := by decide +kernel
set_option maxRecDepth 100000 in
set_option maxHeartbeats 4000000 in
theorem jrk_148_1 : jT_148_1.all (jrok 148) = true := by decide +kernel
theorem jrk_148 : jT_148.all (jrok 148) = true := by
  unfold jT_148
  simp only [List.all_append, jrk_148_0, jrk_148_1, Bool.and_self]
set_option maxRecDepth 100000 in
set_option maxHeartbeats 4000000 in
theorem jrk_149_0 : jT_149_0.all (jrok 149) = true := by decide +kernel
set_option maxRecDepth 100000 in
set_option maxHeartbeats 4000000 in
theorem jrk_149_1 : jT_149_1.all (jrok 149) = true := by decide +kernel
theorem jrk_149 : jT_149.all (jrok 149) = true := by
  unfold jT_149
  simp only [List.all_append, jrk_149_0, jrk_149_1, Bool.and_self]
set_option maxRecDepth 100000 in
set_option maxHeartbeats 4000000 in
theorem jrk_150_0 : jT_150_0.all (jrok 150) = true := by decide +kernel
theorem jrk_150 : jT_150.all (jrok 150) = true := by
  exact jrk_150_0
set_option maxRecDepth 100000 in
set_option maxHeartbeats 4000000 in
theorem jrk_151_0 : jT_151_0.all (jrok 151) = true := by decide +kernel
theorem jrk_151 : jT_151.all (jrok 151) = true := by
  exact jrk_151_0
set_option maxRecDepth 100000 in
set_option maxHeartbeats 4000000 in
theorem jrk_152_0 : jT_152_0.all (jrok 152) = true := by decide +kernel
theorem jrk_152 : jT_152.all (jrok 152) = true := by
  exact jrk_152_0
set_option maxRecDepth 100000 in
set_option maxHeartbeats 4000000 in
theorem jrk_153_0 : jT_153_0.all (jrok 153) = true := by decide +kernel
theorem jrk_153 : jT_153.all (jrok 153) = true := by
  exact jrk_153_0
set_option maxRecDepth 100000 in
set_option maxHeartbeats 4000000 in
theorem jrk_154_0 : jT_154_0.all (jrok 154) = true := by decide +kernel
theorem jrk_154 : jT_154.all (jrok 154) = true := by
  exact jrk_154_0
set_option maxRecDepth 100000 in
set_option maxHeartbeats 4000000 in
theorem jrk_155_0 : jT_155_0.all (jrok 155) = true := by decide +kernel
theorem jrk_155 : jT_155.all (jrok 155) = true := by
  exact jrk_155_0
set_option maxRecDepth 100000 in
set_option maxHeartbeats 4000000 in
theorem jrk_156_0 : jT_156_0.all (jrok 156) = true := by decide +kernel
theorem jrk_156 : jT_156.all (jrok 156) = true := by
  exact jrk_156_0
set_option maxRecDepth 100000 in
set_option maxHeartbeats 4000000 in
theorem jrk_157_0 : jT_157_0.all (jrok 157) = true := by decide +kernel
theorem jrk_157 : jT_157.all (jrok 157) = true := by
  exact jrk_157_0
set_option maxRecDepth 100000 in
set_option maxHeartbeats 4000000 in
theorem jrk_158_0 : jT_158_0.all (jrok 158) = true := by decide +kernel
set_option maxRecDepth 100000 in
set_option maxHeartbeats 4000000 in
theorem jrk_158_1 : jT_158_1.all (jrok 158) = true := by decide +kernel
theorem jrk_158 : jT_158.all (jrok 158) = true := by
  unfold jT_158
  simp only [List.all_append, jrk_158_0, jrk_158_1, Bool.and_self]
set_option maxRecDepth 100000 in
set_option maxHeartbeats 4000000 in
theorem jrk_159_0 : jT_159_0.all (jrok 159) = true := by decide +kernel
theorem jrk_159 : jT_159.all (jrok 159) = true := by
  exact jrk_159_0
set_option maxRecDepth 100000 in
set_option maxHeartbeats 4000000 in
theorem jrk_160_0 : jT_160_0.all (jrok 160) = true := by decide +kernel
theorem jrk_160 : jT_160.all (jrok 160) = true := by
  exact jrk_160_0
set_option maxRecDepth 100000 in
set_option maxHeartbeats 4000000 in
theorem jrk_161_0 : jT_161_0.all (jrok 161) = true := by decide +kernel
theorem jrk_161 : jT_161.all (jrok 161) = true := by
  exact jrk_161_0
set_option maxRecDepth 100000 in
set_option maxHeartbeats 4000000 in
theorem jrk_162_0 : jT_162_0.all (jrok 162) = true := by decide +kernel
theorem jrk_162 : jT_162.all (jrok 162) = true := by
  exact jrk_162_0
set_option maxRecDepth 100000 in
set_option maxHeartbeats 4000000 in
theorem jrk_163_0 : jT_163_0.all (jrok 163) = true := by decide +kernel
set_option maxRecDepth 100000 in
set_option maxHeartbeats 4000000 in
theorem jrk_163_1 : jT_163_1.all (jrok 163) = true := by decide +kernel
theorem jrk_163 : jT_163.all (jrok 163) = true := by
  unfold jT_163
  simp only [List.all_append, jrk_163_0, jrk_163_1, Bool.and_self]
set_option maxRecDepth 100000 in
set_option maxHeartbeats 4000000 in
theorem jrk_164_0 : jT_164_0.all (jrok 164) = true := by decide +kernel
theorem jrk_164 : jT_164.all (jrok 164) = true := by
  exact jrk_164_0
set_option maxRecDepth 100000 in
set_option maxHeartbeats 4000000 in
theorem jrk_165_0 : jT_165_0.all (jrok 165) = true := by decide +kernel
theorem jrk_165 : jT_165.all (jrok 165) = true := by
  exact jrk_165_0
set_option maxRecDepth 100000 in
set_option maxHeartbeats 4000000 in
theorem jrk_166_0 : jT_166_0.all (jrok 166) = true := by decide +kernel
set_option maxRecDepth 100000 in
set_option maxHeartbeats 4000000 in
theorem jrk_166_1 : jT_166_1.all (jrok 166) = true := by decide +kernel
theorem jrk_166 : jT_166.all (jrok 166) = true := by
  unfold jT_166
  simp only [List.all_append, jrk_166_0, jrk_166_1, Bool.and_self]
set_option maxRecDepth 100000 in
set_option maxHeartbeats 4000000 in
theorem jrk_167_0 : jT_167_0.all (jrok 167) = true := by decide +kernel
set_option maxRecDepth 100000 in
set_option maxHeartbeats 4000000 in
theorem jrk_167_1 : jT_167_1.all (jrok 167) = true := by decide +kernel
theorem jrk_167 : jT_167.all (jrok 167) = true := by
  unfold jT_167
  simp only [List.all_append, jrk_167_0, jrk_167_1, Bool.and_self]
set_option maxRecDepth 100000 in
set_option maxHeartbeats 4000000 in
theorem jrk_168_0 : jT_168_0.all (jrok 168) = true := by decide +kernel
theorem jrk_168 : jT_168.all (jrok 168) = true := by
  exact jrk_168_0
set_option maxRecDepth 100000 in
set_option maxHeartbeats 4000000 in
theorem jrk_169_0 : jT_169_0.all (jrok 169) = true := by decide +kernel
theorem jrk_169 : jT_169.all (jrok 169) = true := by
  exact jrk_169_0
set_option maxRecDepth 100000 in
set_option maxHeartbeats 4000000 in
theorem jrk_170_0 : jT_170_0.all (jrok 170) = true := by decide +kernel
theorem jrk_170 : jT_170.all (jrok 170) = true := by
  exact jrk_170_0
set_option maxRecDepth 100000 in
set_option maxHeartbeats 4000000 in
theorem jrk_171_0 : jT_171_0.all (jrok 171) = true := by decide +kernel
theorem jrk_171 : jT_171.all (jrok 171) = true := by
  exact jrk_171_0
set_option maxRecDepth 100000 in
set_option maxHeartbeats 4000000 in
theorem jrk_172_0 : jT_172_0.all (jrok 172) = true := by decide +kernel
set_option maxRecDepth 100000 in
set_option maxHeartbeats 4000000 in
theorem jrk_172_1 : jT_172_1.all (jrok 172) = true := by decide +kernel
theorem jrk_172 : jT_172.all (jrok 172) = true := by
  unfold jT_172
  simp only [List.all_append, jrk_172_0, jrk_172_1, Bool.and_self]
set_option maxRecDepth 100000 in
set_option maxHeartbeats 4000000 in
theorem jrk_173_0 : jT_173_0.all (jrok 173) = true := by decide +kernel
theorem jrk_173 : jT_173.all (jrok 173) = true := by
  exact jrk_173_0
set_option maxRecDepth 100000 in
set_option maxHeartbeats 4000000 in
theorem jrk_174_0 : jT_174_0.all (jrok 174) = true := by decide +kernel
theorem jrk_174 : jT_174.all (jrok 174) = true := by
  exact jrk_174_0
set_option maxRecDepth 100000 in
set_option maxHeartbeats 4000000 in
theorem jrk_175_0 : jT_175_0.all (jrok 175) = true := by decide +kernel
theorem jrk_175 : jT_175.all (jrok 175) = true := by
  exact jrk_175_0
set_option maxRecDepth 100000 in
set_option maxHeartbeats 4000000 in
theorem jrk_176_0 : jT_176_0.all (jrok 176) = true := by decide +kernel
theorem jrk_176 : jT_176.all (jrok 176) = true := by
  exact jrk_176_0
set_option maxRecDepth 100000 in
set_option maxHeartbeats 4000000 in
theorem jrk_177_0 : jT_177_0.all (jrok 177) = true := by decide +kernel
theorem jrk_177 : jT_177.all (jrok 177) = true := by
  exact jrk_177_0
set_option maxRecDepth 100000 in
set_option maxHeartbeats 4000000 in
theorem jrk_178_0 : jT_178_0.all (jrok 178) = true := by decide +kernel
theorem jrk_178 : jT_178.all (jrok 178) = true := by
  exact jrk_178_0
set_option maxRecDepth 100000 in
set_option maxHeartbeats 4000000 in
theorem jrk_179_0 : jT_179_0.all (jrok 179) = true := by decide +kernel
theorem jrk_179 : jT_179.all (jrok 179) = true := by
  exact jrk_179_0
set_option maxRecDepth 100000 in
set_option maxHeartbeats 4000000 in
theorem jrk_180_0 : jT_180_0.all (jrok 180) = true := by decide +kernel
theorem jrk_180 : jT_180.all (jrok 180) = true := by
  exact jrk_180_0
set_option maxRecDepth 100000 in
set_option maxHeartbeats 4000000 in
theorem jrk_181_0 : jT_181_0.all (jrok 181) = true := by decide +kernel
theorem jrk_181 : jT_181.all (jrok 181) = true := by
  exact jrk_181_0
set_option maxRecDepth 100000 in
set_option maxHeartbeats 4000000 in
theorem jrk_182_0 : jT_182_0.all (jrok 182) = true := by decide +kernel
set_option maxRecDepth 100000 in
set_option maxHeartbeats 4000000 in
theorem jrk_182_1 : jT_182_1.all (jrok 182) = true := by decide +kernel
theorem jrk_182 : jT_182.all (jrok 182) = true := by
  unfold jT_182
  simp only [List.all_append, jrk_182_0, jrk_182_1, Bool.and_self]
set_option maxRecDepth 100000 in
set_option maxHeartbeats 4000000 in
theorem jrk_183_0 : jT_183_0.all (jrok 183) = true := by decide +kernel
theorem jrk_183 : jT_183.all (jrok 183) = true := by
  exact jrk_183_0
set_option maxRecDepth 100000 in
set_option maxHeartbeats 4000000 in
theorem jrk_184_0 : jT_184_0.all (jrok 184) = true := by decide +kernel
theorem jrk_184 : jT_184.all (jrok 184) = true := by
  exact jrk_184_0
set_option maxRecDepth 100000 in
set_option maxHeartbeats 4000000 in
theorem jrk_185_0 : jT_185_0.all (jrok 185) = true := by decide +kernel
theorem jrk_185 : jT_185.all (jrok 185) = true := by
  exact jrk_185_0
set_option maxRecDepth 100000 in
set_option maxHeartbeats 4000000 in
theorem jrk_186_0 : jT_186_0.all (jrok 186) = true := by decide +kernel
theorem jrk_186 : jT_186.all (jrok 186) = true := by
  exact jrk_186_0
set_option maxRecDepth 100000 in
set_option maxHeartbeats 4000000 in
theorem jrk_187_0 : jT_187_0.all (jrok 187) = true := by decide +kernel
theorem jrk_187 : jT_187.all (jrok 187) = true := by
  exact jrk_187_0
set_option maxRecDepth 100000 in
set_option maxHeartbeats 4000000 in
theorem jrk_188_0 : jT_188_0.all (jrok 188) = true := by decide +kernel
theorem jrk_188 : jT_188.all (jrok 188) = true := by
  exact jrk_188_0
set_option maxRecDepth 100000 in
set_option maxHeartbeats 4000000 in
theorem jrk_189_0 : jT_189_0.all (jrok 189) = true := by decide +kernel
theorem jrk_189 : jT_189.all (jrok 189) = true := by
  exact jrk_189_0
set_option maxRecDepth 100000 in
set_option maxHeartbeats 4000000 in
theorem jrk_190_0 : jT_190_0.all (jrok 190) = true := by decide +kernel
theorem jrk_190 : jT_190.all (jrok 190) = true := by
  exact jrk_190_0
set_option maxRecDepth 100000 in
set_option maxHeartbeats 4000000 in
theorem jrk_191_0 : jT_191_0.all (jrok 191) = true := by decide +kernel
set_option maxRecDepth 100000 in
set_option maxHeartbeats 4000000 in
theorem jrk_191_1 : jT_191_1.all (jrok 191) = true := by decide +kernel
theorem jrk_191 : jT_191.all (jrok 191) = true := by
  unfold jT_191
  simp only [List.all_append, jrk_191_0, jrk_191_1, Bool.and_self]
set_option maxRecDepth 100000 in
set_option maxHeartbeats 4000000 in
theorem jrk_192_0 : jT_192_0.all (jrok 192) = true := by decide +kernel
set_option maxRecDepth 100000 in
set_option maxHeartbeats 4000000 in
theorem jrk_192_1 : jT_192_1.all (jrok 192) = true := by decide +kernel
theorem jrk_192 : jT_192.all (jrok 192) = true := by
  unfold jT_192
  simp only [List.all_append, jrk_192_0, jrk_192_1, Bool.and_self]
set_option maxRecDepth 100000 in
set_option maxHeartbeats 4000000 in
theorem jrk_193_0 : jT_193_0.all (jrok 193) = true := by decide +kernel
set_option maxRecDepth 100000 in
set_option maxHeartbeats 4000000 in
theorem jrk_193_1 : jT_193_1.all (jrok 193) = true := by decide +kernel
theorem jrk_193 : jT_193.all (jrok 193) = true := by
  unfold jT_193
  simp only [List.all_append, jrk_193_0, jrk_193_1, Bool.and_self]
set_option maxRecDepth 100000 in
set_option maxHeartbeats 4000000 in
theorem jrk_194_0 : jT_194_0.all (jrok 194) = true := by decide +kernel
theorem jrk_194 : jT_194.all (jrok 194) = true := by
  exact jrk_194_0
set_option maxRecDepth 100000 in
set_option maxHeartbeats 4000000 in
theorem jrk_195_0 : jT_195_0.all (jrok 195) = true := by decide +kernel
theorem jrk_195 : jT_195.all (jrok 195) = true := by
  exact jrk_195_0
set_option maxRecDepth 100000 in
set_option maxHeartbeats 4000000 in
theorem jrk_196_0 : jT_196_0.all (jrok 196) = true := by decide +kernel
theorem jrk_196 : jT_196.all (jrok 196) = true := by
  exact jrk_196_0
set_option maxRecDepth 100000 in
set_option maxHeartbeats 4000000 in
theorem jrk_197_0 : jT_197_0.all (jrok 197) = true := by decide +kernel
set_option maxRecDepth 100000 in
set_option maxHeartbeats 4000000 in
theorem jrk_197_1 : jT_197_1.all (jrok 197) = true := by decide +kernel
theorem jrk_197 : jT_197.all (jrok 197) = true := by
  unfold jT_197
  simp only [List.all_append, jrk_197_0, jrk_197_1, Bool.and_self]
set_option maxRecDepth 100000 in
set_option maxHeartbeats 4000000 in
theorem jrk_198_0 : jT_198_0.all (jrok 198) = true := by decide +kernel
set_option maxRecDepth 100000 in
set_option maxHeartbeats 4000000 in
theorem jrk_198_1 : jT_198_1.all (jrok 198) = true := by decide +kernel
theorem jrk_198 : jT_198.all (jrok 198) = true := by
  unfold jT_198
  simp only [List.all_append, jrk_198_0, jrk_198_1, Bool.and_self]
set_option maxRecDepth 100000 in
set_option maxHeartbeats 4000000 in
theorem jrk_199_0 : jT_199_0.all (jrok 199) = true := by decide +kernel
theorem jrk_199 : jT_199.all (jrok 199) = true := by
  exact jrk_199_0
set_option maxRecDepth 100000 in
set_option maxHeartbeats 4000000 in
theorem jrk_200_0 : jT_200_0.all (jrok 200) = true := by decide +kernel
set_option maxRecDepth 100000 in
set_option maxHeartbeats 4000000 in
theorem jrk_200_1 : jT_200_1.all (jrok 200) = true := by decide +kernel
set_option maxRecDepth 100000 in
set_option maxHeartbeats 4000000 in
theorem jrk_200_2 : jT_200_2.all (jrok 200) = true := by decide +kernel
set_option maxRecDepth 100000 in
set_option maxHeartbeats 4000000 in
theorem jrk_200_3 : jT_200_3.all (jrok 200) = true := by decide +kernel
set_option maxRecDepth 100000 in
set_option maxHeartbeats 4000000 in
theorem jrk_200_4 : jT_200_4.all (jrok 200) = true := by decide +kernel
set_option maxRecDepth 100000 in
set_option maxHeartbeats 4000000 in
theorem jrk_200_5 : jT_200_5.all (jrok 200) = true := by decide +kernel
set_option maxRecDepth 100000 in
set_option maxHeartbeats 4000000 in
theorem jrk_200_6 : jT_200_6.all (jrok 200) = true := by decide +kernel
set_option maxRecDepth 100000 in
set_option maxHeartbeats 4000000 in
theorem jrk_200_7 : jT_200_7.all (jrok 200) = true := by decide +kernel
set_option maxRecDepth 100000 in
set_option maxHeartbeats 4000000 in
theorem jrk_200_8 : jT_200_8.all (jrok 200) = true := by decide +kernel
set_option maxRecDepth 100000 in
set_option maxHeartbeats 4000000 in
theorem jrk_200_9 : jT_200_9.all (jrok 200) = true := by decide +kernel
set_option maxRecDepth 100000 in
set_option maxHeartbeats 4000000 in
theorem jrk_200_10 : jT_200_10.all (jrok 200) = true := by decide +kernel
set_option maxRecDepth 100000 in
set_option maxHeartbeats 4000000 in
theorem jrk_200_11 : jT_200_11.all (jrok 200) = true := by decide +kernel
set_option maxRecDepth 100000 in
set_option maxHeartbeats 4000000 in
theorem jrk_200_12 : jT_200_12.all (jrok 200) = true := by decide +kernel
set_option maxRecDepth 100000 in
set_option maxHeartbeats 4000000 in
theorem jrk_200_13 : jT_200_13.all (jrok 200) = true := by decide +kernel
set_option maxRecDepth 100000 in
set_option maxHeartbeats 4000000 in
theorem jrk_200_14 : jT_200_14.all (jrok 200) = true := by decide +kernel
set_option maxRecDepth 100000 in
set_option maxHeartbeats 4000000 in
theorem jrk_200_15 : jT_200_15.all (jrok 200) = true := by decide +kernel
set_option maxRecDepth 100000 in
set_option maxHeartbeats 4000000 in
theorem jrk_200_16 : jT_200_16.all (jrok 200) = true := by decide +kernel
set_option maxRecDepth 100000 in
set_option maxHeartbeats 4000000 in
theorem jrk_200_17 : jT_200_17.all (jrok 200) = true := by decide +kernel
set_option maxRecDepth 100000 in
set_option maxHeartbeats 4000000 in
theorem jrk_200_18 : jT_200_18.all (jrok 200) = true := by decide +kernel
set_option maxRecDepth 100000 in
set_option maxHeartbeats 4000000 in
theorem jrk_200_19 : jT_200_19.all (jrok 200) = true := by decide +kernel
set_option maxRecDepth 100000 in
set_option maxHeartbeats 4000000 in
theorem jrk_200_20 : jT_200_20.all (jrok 200) = true := by decide +kernel
set_option maxRecDepth 100000 in
set_option maxHeartbeats 4000000 in
theorem jrk_200_21 : jT_200_21.all (jrok 200) = true := by decide +kernel
set_option maxRecDepth 100000 in
set_option maxHeartbeats 4000000 in
theorem jrk_200_22 : jT_200_22.all (jrok 200) = true := by decide +kernel
set_option maxRecDepth 100000 in
set_option maxHeartbeats 4000000 in
theorem jrk_200_23 : jT_200_23.all (jrok 200) = true := by decide +kernel
set_option maxRecDepth 100000 in
set_option maxHeartbeats 4000000 in
theorem jrk_200_24 : jT_200_24.all (jrok 200) = true := by decide +kernel
theorem jrk_200 : jT_200.all (jrok 200) = true := by
  unfold jT_200
  simp only [List.all_append, jrk_200_0, jrk_200_1, jrk_200_2, jrk_200_3, jrk_200_4, jrk_200_5, jrk_200_6, jrk_200_7, jrk_200_8, jrk_200_9, jrk_200_10, jrk_200_11, jrk_200_12, jrk_200_13, jrk_200_14, jrk_200_15, jrk_200_16, jrk_200_17, jrk_200_18, jrk_200_19, jrk_200_20, jrk_200_21, jrk_200_22, jrk_200_23, jrk_200_24, Bool.and_self]
set_option maxRecDepth 100000 in
set_option maxHeartbeats 4000000 in
theorem jrk_201_0 : jT_201_0.all (jrok 201) = true := by decide +kernel
set_option maxRecDepth 100000 in
set_option maxHeartbeats 4000000 in
theorem jrk_201_1 : jT_201_1.all (jrok 201) = true := by decide +kernel
theorem jrk_201 : jT_201.all (jrok 201) = true := by
  unfold jT_201
  simp only [List.all_append, jrk_201_0, jrk_201_1, Bool.and_self]
set_option maxRecDepth 100000 in
set_option maxHeartbeats 4000000 in
theorem jrk_202_0 : jT_202_0.all (jrok 202) = true := by decide +kernel
theorem jrk_202 : jT_202.all (jrok 202) = true := by
  exact jrk_202_0
set_option maxRecDepth 100000 in
set_option maxHeartbeats 4000000 in
theorem jrk_203_0 : jT_203_0.all (jrok 203) = true := by decide +kernel
set_option maxRecDepth 100000 in
set_option maxHeartbeats 4000000 in
theorem jrk_203_1 : jT_203_1.all (jrok 203) = true := by decide +kernel
theorem jrk_203 : jT_203.all (jrok 203) = true := by
  unfold jT_203
  simp only [List.all_append, jrk_203_0, jrk_203_1, Bool.and_self]
set_option maxRecDepth 100000 in
set_option maxHeartbeats 4000000 in
theorem jrk_204_0 : jT_204_0.all (jrok 204) = true := by decide +kernel
theorem jrk_204 : jT_204.all (jrok 204) = true := by
  exact jrk_204_0
set_option maxRecDepth 100000 in
set_option maxHeartbeats 4000000 in
theorem jrk_205_0 : jT_205_0.all (jrok 205) = true := by decide +kernel
theorem jrk_205 : jT_205.all (jrok 205) = true := by
  exact jrk_205_0
set_option maxRecDepth 100000 in
set_option maxHeartbeats 4000000 in
theorem jrk_206_0 : jT_206_0.all (jrok 206) = true := by decide +kernel
theorem jrk_206 : jT_206.all (jrok 206) = true := by
  exact jrk_206_0
set_option maxRecDepth 100000 in
set_option maxHeartbeats 4000000 in
theorem jrk_207_0 : jT_207_0.all (jrok 207) = true := by decide +kernel
set_option maxRecDepth 100000 in
set_option maxHeartbeats 4000000 in
theorem jrk_207_1 : jT_207_1.all (jrok 207) = true := by decide +kernel
theorem jrk_207 : jT_207.all (jrok 207) = true := by
  unfold jT_207
  simp only [List.all_append, jrk_207_0, jrk_207_1, Bool.and_self]
set_option maxRecDepth 100000 in
set_option maxHeartbeats 4000000 in
theorem jrk_208_0 : jT_208_0.all (jrok 208) = true := by decide +kernel
theorem jrk_208 : jT_208.all (jrok 208) = true := by
  exact jrk_208_0
set_option maxRecDepth 100000 in
set_option maxHeartbeats 4000000 in
theorem jrk_209_0 : jT_209_0.all (jrok 209) = true := by decide +kernel
theorem jrk_209 : jT_209.all (jrok 209) = true := by
  exact jrk_209_0
set_option maxRecDepth 100000 in
set_option maxHeartbeats 4000000 in
theorem jrk_210_0 : jT_210_0.all (jrok 210) = true := by decide +kernel
theorem jrk_210 : jT_210.all (jrok 210) = true := by
  exact jrk_210_0
set_option maxRecDepth 100000 in
set_option maxHeartbeats 4000000 in
theorem jrk_211_0 : jT_211_0.all (jrok 211) = true := by decide +kernel
set_option maxRecDepth 100000 in
set_option maxHeartbeats 4000000 in
theorem jrk_211_1 : jT_211_1.all (jrok 211) = true := by decide +kernel
theorem jrk_211 : jT_211.all (jrok 211) = true := by
  unfold jT_211
  simp only [List.all_append, jrk_211_0, jrk_211_1, Bool.and_self]
set_option maxRecDepth 100000 in
set_option maxHeartbeats 4000000 in
theorem jrk_212_0 : jT_212_0.all (jrok 212) = true := by decide +kernel
theorem jrk_212 : jT_212.all (jrok 212) = true := by
  exact jrk_212_0
set_option maxRecDepth 100000 in
set_option maxHeartbeats 4000000 in
theorem jrk_213_0 : jT_213_0.all (jrok 213) = true := by decide +kernel
theorem jrk_213 : jT_213.all (jrok 213) = true := by
  exact jrk_213_0
set_option maxRecDepth 100000 in
set_option maxHeartbeats 4000000 in
theorem jrk_214_0 : jT_214_0.all (jrok 214) = true := by decide +kernel
theorem jrk_214 : jT_214.all (jrok 214) = true := by
  exact jrk_214_0
set_option maxRecDepth 100000 in
set_option maxHeartbeats 4000000 in
theorem jrk_215_0 : jT_215_0.all (jrok 215) = true := by decide +kernel
theorem jrk_215 : jT_215.all (jrok 215) = true := by
  exact jrk_215_0
set_option maxRecDepth 100000 in
set_option maxHeartbeats 4000000 in
theorem jrk_216_0 : jT_216_0.all (jrok 216) = true := by decide +kernel
set_option maxRecDepth 100000 in
set_option maxHeartbeats 4000000 in
theorem jrk_216_1 : jT_216_1.all (jrok 216) = true := by decide +kernel
theorem jrk_216 : jT_216.all (jrok 216) = true := by
  unfold jT_216
  simp only [List.all_append, jrk_216_0, jrk_216_1, Bool.and_self]
set_option maxRecDepth 100000 in
set_option maxHeartbeats 4000000 in
theorem jrk_217_0 : jT_217_0.all (jrok 217) = true := by decide +kernel
set_option maxRecDepth 100000 in
set_option maxHeartbeats 4000000 in
theorem jrk_217_1 : jT_217_1.all (jrok 217) = true := by decide +kernel
theorem jrk_217 : jT_217.all (jrok 217) = true := by
  unfold jT_217
  simp only [List.all_append, jrk_217_0, jrk_217_1, Bool.and_self]
set_option maxRecDepth 100000 in
set_option maxHeartbeats 4000000 in
theorem jrk_218_0 : jT_218_0.all (jrok 218) = true := by decide +kernel
set_option maxRecDepth 100000 in
set_option maxHeartbeats 4000000 in
theorem jrk_218_1 : jT_218_1.all (jrok 218) = true := by decide +kernel
theorem jrk_218 : jT_218.all (jrok 218) = true := by
  unfold jT_218
  simp only [List.all_append, jrk_218_0, jrk_218_1, Bool.and_self]
set_option maxRecDepth 100000 in
set_option maxHeartbeats 4000000 in
theorem jrk_219_0 : jT_219_0.all (jrok 219) = true := by decide +kernel
set_option maxRecDepth 100000 in
set_option maxHeartbeats 4000000 in
theorem jrk_219_1 : jT_219_1.all (jrok 219) = true := by decide +kernel
theorem jrk_219 : jT_219.all (jrok 219) = true := by
  unfold jT_219
  simp only [List.all_append, jrk_219_0, jrk_219_1, Bool.and_self]
set_option maxRecDepth 100000 in
set_option maxHeartbeats 4000000 in
theorem jrk_220_0 : jT_220_0.all (jrok 220) = true := by decide +kernel
theorem jrk_220 : jT_220.all (jrok 220) = true := by
  exact jrk_220_0
set_option maxRecDepth 100000 in
set_option maxHeartbeats 4000000 in
theorem jrk_221_0 : jT_221_0.all (jrok 221) = true := by decide +kernel
set_option maxRecDepth 100000 in
set_option maxHeartbeats 4000000 in
theorem jrk_221_1 : jT_221_1.all (jrok 221) = true := by decide +kernel
theorem jrk_221 : jT_221.all (jrok 221) = true := by
  unfold jT_221
  simp only [List.all_append, jrk_221_0, jrk_221_1, Bool.and_self]
set_option maxRecDepth 100000 in
set_option maxHeartbeats 4000000 in
theorem jrk_222_0 : jT_222_0.all (jrok 222) = true := by decide +kernel
theorem jrk_222 : jT_222.all (jrok 222) = true := by
  exact jrk_222_0
set_option maxRecDepth 100000 in
set_option maxHeartbeats 4000000 in
theorem jrk_223_0 : jT_223_0.all (jrok 223) = true := by decide +kernel
theorem jrk_223 : jT_223.all (jrok 223) = true := by
  exact jrk_223_0
set_option maxRecDepth 100000 in
set_option maxHeartbeats 4000000 in
theorem jrk_224_0 : jT_224_0.all (jrok 224) = true := by decide +kernel
set_option maxRecDepth 100000 in
set_option maxHeartbeats 4000000 in
theorem jrk_224_1 : jT_224_1.all (jrok 224) = true := by decide +kernel
set_option maxRecDepth 100000 in
set_option maxHeartbeats 4000000 in
theorem jrk_224_2 : jT_224_2.all (jrok 224) = true := by decide +kernel
theorem jrk_224 : jT_224.all (jrok 224) = true := by
  unfold jT_224
  simp only [List.all_append, jrk_224_0, jrk_224_1, jrk_224_2, Bool.and_self]
set_option maxRecDepth 100000 in
set_option maxHeartbeats 4000000 in
theorem jrk_225_0 : jT_225_0.all (jrok 225) = true := by decide +kernel
theorem jrk_225 : jT_225.all (jrok 225) = true := by
  exact jrk_225_0
set_option maxRecDepth 100000 in
set_option maxHeartbeats 4000000 in
theorem jrk_226_0 : jT_226_0.all (jrok 226) = true := by decide +kernel
set_option maxRecDepth 100000 in
set_option maxHeartbeats 4000000 in
theorem jrk_226_1 : jT_226_1.all (jrok 226) = true := by decide +kernel
theorem jrk_226 : jT_226.all (jrok 226) = true := by
  unfold jT_226
  simp only [List.all_append, jrk_226_0, jrk_226_1, Bool.and_self]
set_option maxRecDepth 100000 in
set_option maxHeartbeats 4000000 in
theorem jrk_227_0 : jT_227_0.all (jrok 227) = true := by decide +kernel
theorem jrk_227 : jT_227.all (jrok 227) = true := by
  exact jrk_227_0
set_option maxRecDepth 100000 in
set_option maxHeartbeats 4000000 in
theorem jrk_228_0 : jT_228_0.all (jrok 228) = true := by decide +kernel
set_option maxRecDepth 100000 in
set_option maxHeartbeats 4000000 in
theorem jrk_228_1 : jT_228_1.all (jrok 228) = true := by decide +kernel
theorem jrk_228 : jT_228.all (jrok 228) = true := by
  unfold jT_228
  simp only [List.all_append, jrk_228_0, jrk_228_1, Bool.and_self]
set_option maxRecDepth 100000 in
set_option maxHeartbeats 4000000 in
theorem jrk_229_0 : jT_229_0.all (jrok 229) = true := by decide +kernel
theorem jrk_229 : jT_229.all (jrok 229) = true := by
  exact jrk_229_0
set_option maxRecDepth 100000 in
set_option maxHeartbeats 4000000 in
theorem jrk_230_0 : jT_230_0.all (jrok 230) = true := by decide +kernel
theorem jrk_230 : jT_230.all (jrok 230) = true := by
  exact jrk_230_0
set_option maxRecDepth 100000 in
set_option maxHeartbeats 4000000 in
theorem jrk_231_0 : jT_231_0.all (jrok 231) = true := by decide +kernel
set_option maxRecDepth 100000 in
set_option maxHeartbeats 4000000 in
theorem jrk_231_1 : jT_231_1.all (jrok 231) = true := by decide +kernel
set_option maxRecDepth 100000 in
set_option maxHeartbeats 4000000 in
theorem jrk_231_2 : jT_231_2.all (jrok 231) = true := by decide +kernel
set_option maxRecDepth 100000 in
set_option maxHeartbeats 4000000 in
theorem jrk_231_3 : jT_231_3.all (jrok 231) = true := by decide +kernel
set_option maxRecDepth 100000 in
set_option maxHeartbeats 4000000 in
theorem jrk_231_4 : jT_231_4.all (jrok 231) = true := by decide +kernel
theorem jrk_231 : jT_231.all (jrok 231) = true := by
  unfold jT_231
  simp only [List.all_append, jrk_231_0, jrk_231_1, jrk_231_2, jrk_231_3, jrk_231_4, Bool.and_self]
set_option maxRecDepth 100000 in
set_option maxHeartbeats 4000000 in
theorem jrk_232_0 : jT_232_0.all (jrok 232) = true := by decide +kernel
theorem jrk_232 : jT_232.all (jrok 232) = true := by
  exact jrk_232_0
set_option maxRecDepth 100000 in
set_option maxHeartbeats 4000000 in
theorem jrk_233_0 : jT_233_0.all (jrok 233) = true := by decide +kernel
theorem jrk_233 : jT_233.all (jrok 233) = true := by
  exact jrk_233_0
set_option maxRecDepth 100000 in
set_option maxHeartbeats 4000000 in
theorem jrk_234_0 : jT_234_0.all (jrok 234) = true := by decide +kernel
theorem jrk_234 : jT_234.all (jrok 234) = true := by
  exact jrk_234_0
set_option maxRecDepth 100000 in
set_option maxHeartbeats 4000000 in
theorem jrk_235_0 : jT_235_0.all (jrok 235) = true := by decide +kernel
theorem jrk_235 : jT_235.all (jrok 235) = true := by
  exact jrk_235_0
set_option maxRecDepth 100000 in
set_option maxHeartbeats 4000000 in
theorem jrk_236_0 : jT_236_0.all (jrok 236) = true := by decide +kernel
theorem jrk_236 : jT_236.all (jrok 236) = true := by
  exact jrk_236_0
set_option maxRecDepth 100000 in
set_option maxHeartbeats 4000000 in
theorem jrk_237_0 : jT_237_0.all (jrok 237) = true := by decide +kernel
set_option maxRecDepth 100000 in
set_option maxHeartbeats 4000000 in
theorem jrk_237_1 : jT_237_1.all (jrok 237) = true := by decide +kernel
set_option maxRecDepth 100000 in
set_option maxHeartbeats 4000000 in
theorem jrk_237_2 : jT_237_2.all (jrok 237) = true := by decide +kernel
theorem jrk_237 : jT_237.all (jrok 237) = true := by
  unfold jT_237
  simp only [List.all_append, jrk_237_0, jrk_237_1, jrk_237_2, Bool.and_self]
set_option maxRecDepth 100000 in
set_option maxHeartbeats 4000000 in
theorem jrk_238_0 : jT_238_0.all (jrok 238) = true := by decide +kernel
theorem jrk_238 : jT_238.all (jrok 238) = true := by
  exact jrk_238_0
set_option maxRecDepth 100000 in
set_option maxHeartbeats 4000000 in
theorem jrk_239_0 : jT_239_0.all (jrok 239) = true := by decide +kernel
theorem jrk_239 : jT_239.all (jrok 239) = true := by
  exact jrk_239_0
set_option maxRecDepth 100000 in
set_option maxHeartbeats 4000000 in
theorem jrk_240_0 : jT_240_0.all (jrok 240) = true := by decide +kernel
set_option maxRecDepth 100000 in
set_option maxHeartbeats 4000000 in
theorem jrk_240_1 : jT_240_1.all (jrok 240) = true := by decide +kernel
set_option maxRecDepth 100000 in
set_option maxHeartbeats 4000000 in
theorem jrk_240_2 : jT_240_2.all (jrok 240) = true := by decide +kernel
set_option maxRecDepth 100000 in
set_option maxHeartbeats 4000000 in
theorem jrk_240_3 : jT_240_3.all (jrok 240) = true := by decide +kernel
theorem jrk_240 : jT_240.all (jrok 240) = true := by
  unfold jT_240
  simp only [List.all_append, jrk_240_0, jrk_240_1, jrk_240_2, jrk_240_3, Bool.and_self]
set_option maxRecDepth 100000 in
set_option maxHeartbeats 4000000 in
theorem jrk_241_0 : jT_241_0.all (jrok 241) = true := by decide +kernel
theorem jrk_241 : jT_241.all (jrok 241) = true := by
  exact jrk_241_0
set_option maxRecDepth 100000 in
set_option maxHeartbeats 4000000 in
theorem jrk_242_0 : jT_242_0.all (jrok 242) = true := by decide +kernel
theorem jrk_242 : jT_242.all (jrok 242) = true := by
  exact jrk_242_0
set_option maxRecDepth 100000 in
set_option maxHeartbeats 4000000 in
theorem jrk_243_0 : jT_243_0.all (jrok 243) = true := by decide +kernel
theorem jrk_243 : jT_243.all (jrok 243) = true := by
  exact jrk_243_0
set_option maxRecDepth 100000 in
set_option maxHeartbeats 4000000 in
theorem jrk_244_0 : jT_244_0.all (jrok 244) = true := by decide +kernel
theorem jrk_244 : jT_244.all (jrok 244) = true := by
  exact jrk_244_0
set_option maxRecDepth 100000 in
set_option maxHeartbeats 4000000 in
theorem jrk_245_0 : jT_245_0.all (jrok 245) = true := by decide +kernel
theorem jrk_245 : jT_245.all (jrok 245) = true := by
  exact jrk_245_0
set_option maxRecDepth 100000 in
set_option maxHeartbeats 4000000 in
theorem jrk_246_0 : jT_246_0.all (jrok 246) = true := by decide +kernel
theorem jrk_246 : jT_246.all (jrok 246) = true := by
  exact jrk_246_0
set_option maxRecDepth 100000 in
set_option maxHeartbeats 4000000 in
theorem jrk_247_0 : jT_247_0.all (jrok 247) = true := by decide +kernel
theorem jrk_247 : jT_247.all (jrok 247) = true := by
  exact jrk_247_0
set_option maxRecDepth 100000 in
set_option maxHeartbeats 4000000 in
theorem jrk_248_0 : jT_248_0.all (jrok 248) = true := by decide +kernel
set_option maxRecDepth 100000 in
set_option maxHeartbeats 4000000 in
theorem jrk_248_1 : jT_248_1.all (jrok 248) = true := by decide +kernel
theorem jrk_248 : jT_248.all (jrok 248) = true := by
  unfold jT_248
  simp only [List.all_append, jrk_248_0, jrk_248_1, Bool.and_self]
set_option maxRecDepth 100000 in
set_option maxHeartbeats 4000000 in
theorem jrk_249_0 : jT_249_0.all (jrok 249) = true := by decide +kernel
theorem jrk_249 : jT_249.all (jrok 249) = true := by
  exact jrk_249_0
set_option maxRecDepth 100000 in
set_option maxHeartbeats 4000000 in
theorem jrk_250_0 : jT_250_0.all (jrok 250) = true := by decide +kernel
theorem jrk_250 : jT_250.all (jrok 250) = true := by
  exact jrk_250_0
set_option maxRecDepth 100000 in
set_option maxHeartbeats 4000000 in
theorem jrk_251_0 : jT_251_0.all (jrok 251) = true := by decide +kernel
set_option maxRecDepth 100000 in
set_option maxHeartbeats 4000000 in
theorem jrk_251_1 : jT_251_1.all (jrok 251) = true := by decide +kernel
theorem jrk_251 : jT_251.all (jrok 251) = true := by
  unfold jT_251
  simp only [List.all_append, jrk_251_0, jrk_251_1, Bool.and_self]
set_option maxRecDepth 100000 in
set_option maxHeartbeats 4000000 in
theorem jrk_252_0 : jT_252_0.all (jrok 252) = true := by decide +kernel
theorem jrk_252 : jT_252.all (jrok 252) = true := by
  exact jrk_252_0
set_option maxRecDepth 100000 in
set_option maxHeartbeats 4000000 in
theorem jrk_253_0 : jT_253_0.all (jrok 253) = true := by decide +kernel
set_option maxRecDepth 100000 in
set_option maxHeartbeats 4000000 in
theorem jrk_253_1 : jT_253_1.all (jrok 253) = true := by decide +kernel
theorem jrk_253 : jT_253.all (jrok 253) = true := by
  unfold jT_253
  simp only [List.all_append, jrk_253_0, jrk_253_1, Bool.and_self]
set_option maxRecDepth 100000 in
set_option maxHeartbeats 4000000 in
theorem jrk_254_0 : jT_254_0.all (jrok 254) = true := by decide +kernel
theorem jrk_254 : jT_254.all (jrok 254) = true := by
  exact jrk_254_0
set_option maxRecDepth 100000 in
set_option maxHeartbeats 4000000 in
theorem jrk_255_0 : jT_255_0.all (jrok 255) = true := by decide +kernel
theorem jrk_255 : jT_255.all (jrok 255) = true := by
  exact jrk_255_0
set_option maxRecDepth 100000 in
set_option maxHeartbeats 4000000 in
theorem jrk_256_0 : jT_256_0.all (jrok 256) = true := by decide +kernel
theorem jrk_256 : jT_256.all (jrok 256) = true := by
  exact jrk_256_0
set_option maxRecDepth 100000 in
set_option maxHeartbeats 4000000 in
theorem jrk_257_0 : jT_257_0.all (jrok 257) = true := by decide +kernel
theorem jrk_257 : jT_257.all (jrok 257) = true := by
  exact jrk_257_0
set_option maxRecDepth 100000 in
set_option maxHeartbeats 4000000 in
theorem jrk_258_0 : jT_258_0.all (jrok 258) = true := by decide +kernel
theorem jrk_258 : jT_258.all (jrok 258) = true := by
  exact jrk_258_0
set_option maxRecDepth 100000 in
set_option maxHeartbeats 4000000 in
theorem jrk_259_0 : jT_259_0.all (jrok 259) = true := by decide +kernel
theorem jrk_259 : jT_259.all (jrok 259) = true := by
  exact jrk_259_0
set_option maxRecDepth 100000 in
set_option maxHeartbeats 4000000 in
theorem jrk_260_0 : jT_260_0.all (jrok 260) = true := by decide +kernel
theorem jrk_260 : jT_260.all (jrok 260) = true := by
  exact jrk_260_0
set_option maxRecDepth 100000 in
set_option maxHeartbeats 4000000 in
theorem jrk_261_0 : jT_261_0.all (jrok 261) = true := by decide +kernel
theorem jrk_261 : jT_261.all (jrok 261) = true := by
  exact jrk_261_0
set_option maxRecDepth 100000 in
set_option maxHeartbeats 4000000 in
theorem jrk_262_0 : jT_262_0.all (jrok 262) = true := by decide +kernel
theorem jrk_262 : jT_262.all (jrok 262) = true := by
  exact jrk_262_0
set_option maxRecDepth 100000 in
set_option maxHeartbeats 4000000 in
theorem jrk_263_0 : jT_263_0.all (jrok 263) = true := by decide +kernel
theorem jrk_263 : jT_263.all (jrok 263) = true := by
  exact jrk_263_0
set_option maxRecDepth 100000 in
set_option maxHeartbeats 4000000 in
theorem jrk_264_0 : jT_264_0.all (jrok 264) = true := by decide +kernel
theorem jrk_264 : jT_264.all (jrok 264) = true := by
  exact jrk_264_0
set_option maxRecDepth 100000 in
set_option maxHeartbeats 4000000 in
theorem jrk_265_0 : jT_265_0.all (jrok 265) = true := by decide +kernel
set_option maxRecDepth 100000 in
set_option maxHeartbeats 4000000 in
theorem jrk_265_1 : jT_265_1.all (jrok 265) = true := by decide +kernel
set_option maxRecDepth 100000 in
set_option maxHeartbeats 4000000 in
theorem jrk_265_2 : jT_265_2.all (jrok 265) = true := by decide +kernel
theorem jrk_265 : jT_265.all (jrok 265) = true := by
  unfold jT_265
  simp only [List.all_append, jrk_265_0, jrk_265_1, jrk_265_2, Bool.and_self]
set_option maxRecDepth 100000 in
set_option maxHeartbeats 4000000 in
theorem jrk_266_0 : jT_266_0.all (jrok 266) = true := by decide +kernel
set_option maxRecDepth 100000 in
set_option maxHeartbeats 4000000 in
theorem jrk_266_1 : jT_266_1.all (jrok 266) = true := by decide +kernel
theorem jrk_266 : jT_266.all (jrok 266) = true := by
  unfold jT_266
  simp only [List.all_append, jrk_266_0, jrk_266_1, Bool.and_self]
set_option maxRecDepth 100000 in
set_option maxHeartbeats 4000000 in
theorem jrk_267_0 : jT_267_0.all (jrok 267) = true := by decide +kernel
theorem jrk_267 : jT_267.all (jrok 267) = true := by
  exact jrk_267_0
set_option maxRecDepth 100000 in
set_option maxHeartbeats 4000000 in
theorem jrk_268_0 : jT_268_0.all (jrok 268) = true := by decide +kernel
set_option maxRecDepth 100000 in
set_option maxHeartbeats 4000000 in
theorem jrk_268_1 : jT_268_1.all (jrok 268) = true := by decide +kernel
theorem jrk_268 : jT_268.all (jrok 268) = true := by
  unfold jT_268
  simp only [List.all_append, jrk_268_0, jrk_268_1, Bool.and_self]
set_option maxRecDepth 100000 in
set_option maxHeartbeats 4000000 in
theorem jrk_269_0 : jT_269_0.all (jrok 269) = true := by decide +kernel
theorem jrk_269 : jT_269.all (jrok 269) = true := by
  exact jrk_269_0
set_option maxRecDepth 100000 in
set_option maxHeartbeats 4000000 in
theorem jrk_270_0 : jT_270_0.all (jrok 270) = true := by decide +kernel
theorem jrk_270 : jT_270.all (jrok 270) = true := by
  exact jrk_270_0
set_option maxRecDepth 100000 in
set_option maxHeartbeats 4000000 in
theorem jrk_271_0 : jT_271_0.all (jrok 271) = true := by decide +kernel
theorem jrk_271 : jT_271.all (jrok 271) = true := by
  exact jrk_271_0
set_option maxRecDepth 100000 in
set_option maxHeartbeats 4000000 in
theorem jrk_272_0 : jT_272_0.all (jrok 272) = true := by decide +kernel
theorem jrk_272 : jT_272.all (jrok 272) = true := by
  exact jrk_272_0
set_option maxRecDepth 100000 in
set_option maxHeartbeats 4000000 in
theorem jrk_273_0 : jT_273_0.all (jrok 273) = true := by decide +kernel
theorem jrk_273 : jT_273.all (jrok 273) = true := by
  exact jrk_273_0
set_option maxRecDepth 100000 in
set_option maxHeartbeats 4000000 in
theorem jrk_274_0 : jT_274_0.all (jrok 274) = true := by decide +kernel
theorem jrk_274 : jT_274.all (jrok 274) = true := by
  exact jrk_274_0
set_option maxRecDepth 100000 in
set_option maxHeartbeats 4000000 in
theorem jrk_275_0 : jT_275_0.all (jrok 275) = true := by decide +kernel
theorem jrk_275 : jT_275.all (jrok 275) = true := by
  exact jrk_275_0
set_option maxRecDepth 100000 in
set_option maxHeartbeats 4000000 in
theorem jrk_276_0 : jT_276_0.all (jrok 276) = true := by decide +kernel
theorem jrk_276 : jT_276.all (jrok 276) = true := by
  exact jrk_276_0
set_option maxRecDepth 100000 in
set_option maxHeartbeats 4000000 in
theorem jrk_277_0 : jT_277_0.all (jrok 277) = true := by decide +kernel
theorem jrk_277 : jT_277.all (jrok 277) = true := by
  exact jrk_277_0
set_option maxRecDepth 100000 in
set_option maxHeartbeats 4000000 in
theorem jrk_278_0 : jT_278_0.all (jrok 278) = true := by decide +kernel
theorem jrk_278 : jT_278.all (jrok 278) = true := by
  exact jrk_278_0
set_option maxRecDepth 100000 in
set_option maxHeartbeats 4000000 in
theorem jrk_279_0 : jT_279_0.all (jrok 279) = true := by decide +kernel
theorem jrk_279 : jT_279.all (jrok 279) = true := by
  exact jrk_279_0
set_option maxRecDepth 100000 in
set_option maxHeartbeats 4000000 in
theorem jrk_280_0 : jT_280_0.all (jrok 280) = true := by decide +kernel
theorem jrk_280 : jT_280.all (jrok 280) = true := by
  exact jrk_280_0
set_option maxRecDepth 100000 in
set_option maxHeartbeats 4000000 in
theorem jrk_281_0 : jT_281_0.all (jrok 281) = true := by decide +kernel
theorem jrk_281 : jT_281.all (jrok 281) = true := by
  exact jrk_281_0
set_option maxRecDepth 100000 in
set_option maxHeartbeats 4000000 in
theorem jrk_282_0 : jT_282_0.all (jrok 282) = true := by decide +kernel
theorem jrk_282 : jT_282.all (jrok 282) = true := by
  exact jrk_282_0
set_option maxRecDepth 100000 in
set_option maxHeartbeats 4000000 in
theorem jrk_283_0 : jT_283_0.all (jrok 283) = true := by decide +kernel
set_option maxRecDepth 100000 in
set_option maxHeartbeats 4000000 in
theorem jrk_283_1 : jT_283_1.all (jrok 283) = true := by decide +kernel
set_option maxRecDepth 100000 in
set_option maxHeartbeats 4000000 in
theorem jrk_283_2 : jT_283_2.all (jrok 283) = true := by decide +kernel
theorem jrk_283 : jT_283.all (jrok 283) = true := by
  unfold jT_283
  simp only [List.all_append, jrk_283_0, jrk_283_1, jrk_283_2, Bool.and_self]
set_option maxRecDepth 100000 in
set_option maxHeartbeats 4000000 in
theorem jrk_284_0 : jT_284_0.all (jrok 284) = true := by decide +kernel
theorem jrk_284 : jT_284.all (jrok 284) = true := by
  exact jrk_284_0
set_option maxRecDepth 100000 in
set_option maxHeartbeats 4000000 in
theorem jrk_285_0 : jT_285_0.all (jrok 285) = true := by decide +kernel
set_option maxRecDepth 100000 in
set_option maxHeartbeats 4000000 in
theorem jrk_285_1 : jT_285_1.all (jrok 285) = true := by decide +kernel
theorem jrk_285 : jT_285.all (jrok 285) = true := by
  unfold jT_285
  simp only [List.all_append, jrk_285_0, jrk_285_1, Bool.and_self]
set_option maxRecDepth 100000 in
set_option maxHeartbeats 4000000 in
theorem jrk_286_0 : jT_286_0.all (jrok 286) = true := by decide +kernel
set_option maxRecDepth 100000 in
set_option maxHeartbeats 4000000 in
theorem jrk_286_1 : jT_286_1.all (jrok 286) = true := by decide +kernel
theorem jrk_286 : jT_286.all (jrok 286) = true := by
  unfold jT_286
  simp only [List.all_append, jrk_286_0, jrk_286_1, Bool.and_self]
set_option maxRecDepth 100000 in
set_option maxHeartbeats 4000000 in
theorem jrk_287_0 : jT_287_0.all (jrok 287) = true := by decide +kernel
set_option maxRecDepth 100000 in
set_option maxHeartbeats 4000000 in
theorem jrk_287_1 : jT_287_1.all (jrok 287) = true := by decide +kernel
theorem jrk_287 : jT_287.all (jrok 287) = true := by
  unfold jT_287
  simp only [List.all_append, jrk_287_0, jrk_287_1, Bool.and_self]
set_option maxRecDepth 100000 in
set_option maxHeartbeats 4000000 in
theorem jrk_288_0 : jT_288_0.all (jrok 288) = true := by decide +kernel
set_option maxRecDepth 100000 in
set_option maxHeartbeats 4000000 in
theorem jrk_288_1 : jT_288_1.all (jrok 288) = true := by decide +kernel
theorem jrk_288 : jT_288.all (jrok 288) = true := by
  unfold jT_288
  simp only [List.all_append, jrk_288_0, jrk_288_1, Bool.and_self]
set_option maxRecDepth 100000 in
set_option maxHeartbeats 4000000 in
theorem jrk_289_0 : jT_289_0.all (jrok 289) = true := by decide +kernel
theorem jrk_289 : jT_289.all (jrok 289) = true := by
  exact jrk_289_0
set_option maxRecDepth 100000 in
set_option maxHeartbeats 4000000 in
theorem jrk_290_0 : jT_290_0.all (jrok 290) = true := by decide +kernel
theorem jrk_290 : jT_290.all (jrok 290) = true := by
  exact jrk_290_0
set_option maxRecDepth 100000 in
set_option maxHeartbeats 4000000 in
theorem jrk_291_0 : jT_291_0.all (jrok 291) = true := by decide +kernel
theorem jrk_291 : jT_291.all (jrok 291) = true := by
  exact jrk_291_0
set_option maxRecDepth 100000 in
set_option maxHeartbeats 4000000 in
theorem jrk_292_0 : jT_292_0.all (jrok 292) = true := by decide +kernel
set_option maxRecDepth 100000 in
set_option maxHeartbeats 4000000 in
theorem jrk_292_1 : jT_292_1.all (jrok 292) = true := by decide +kernel
theorem jrk_292 : jT_292.all (jrok 292) = true := by
  unfold jT_292
  simp only [List.all_append, jrk_292_0, jrk_292_1, Bool.and_self]
set_option maxRecDepth 100000 in
set_option maxHeartbeats 4000000 in
theorem jrk_293_0 : jT_293_0.all (jrok 293) = true := by decide +kernel
theorem jrk_293 : jT_293.all (jrok 293) = true := by
  exact jrk_293_0
set_option maxRecDepth 100000 in
set_option maxHeartbeats 4000000 in
theorem jrk_294_0 : jT_294_0.all (jrok 294) = true := by decide +kernel
set_option maxRecDepth 100000 in
set_option maxHeartbeats 4000000 in
theorem jrk_294_1 : jT_294_1.all (jrok 294) = true := by decide +kernel
theorem jrk_294 : jT_294.all (jrok 294) = true := by
  unfold jT_294
  simp only [List.all_append, jrk_294_0, jrk_294_1, Bool.and_self]
set_option maxRecDepth 100000 in
set_option maxHeartbeats 4000000 in
theorem jrk_295_0 : jT_295_0.all (jrok 295) = true := by decide +kernel
set_option maxRecDepth 100000 in
set_option maxHeartbeats 4000000 in
theorem jrk_295_1 : jT_295_1.all (jrok 295) = true := by decide +kernel
set_option maxRecDepth 100000 in
set_option maxHeartbeats 4000000 in
theorem jrk_295_2 : jT_295_2.all (jrok 295) = true := by decide +kernel
theorem jrk_295 : jT_295.all (jrok 295) = true := by
  unfold jT_295
  simp only [List.all_append, jrk_295_0, jrk_295_1, jrk_295_2, Bool.and_self]
set_option maxRecDepth 100000 in
set_option maxHeartbeats 4000000 in
theorem jrk_296_0 : jT_296_0.all (jrok 296) = true := by decide +kernel
theorem jrk_296 : jT_296.all (jrok 296) = true := by
  exact jrk_296_0
set_option maxRecDepth 100000 in
set_option maxHeartbeats 4000000 in
theorem jrk_297_0 : jT_297_0.all (jrok 297) = true := by decide +kernel
theorem jrk_297 : jT_297.all (jrok 297) = true := by
  exact jrk_297_0
set_option maxRecDepth 100000 in
set_option maxHeartbeats 4000000 in
theorem jrk_298_0 : jT_298_0.all (jrok 298) = true := by decide +kernel
set_option maxRecDepth 100000 in
set_option maxHeartbeats 4000000 in
theorem jrk_298_1 : jT_298_1.all (jrok 298) = true := by decide +kernel
theorem jrk_298 : jT_298.all (jrok 298) = true := by
  unfold jT_298
  simp only [List.all_append, jrk_298_0, jrk_298_1, Bool.and_self]
set_option maxRecDepth 100000 in
set_option maxHeartbeats 4000000 in
theorem jrk_299_0 : jT_299_0.all (jrok 299) = true := by decide +kernel
set_option maxRecDepth 100000 in
set_option maxHeartbeats 4000000 in
theorem jrk_299_1 : jT_299_1.all (jrok 299) = true := by decide +kernel
set_option maxRecDepth 100000 in
set_option maxHeartbeats 4000000 in
theorem jrk_299_2 : jT_299_2.all (jrok 299) = true := by decide +kernel
theorem jrk_299 : jT_299.all (jrok 299) = true := by
  unfold jT_299
  simp only [List.all_append, jrk_299_0, jrk_299_1, jrk_299_2, Bool.and_self]
set_option maxRecDepth 100000 in
set_option maxHeartbeats 4000000 in
theorem jrk_300_0 : jT_300_0.all (jrok 300) = true := by decide +kernel
theorem jrk_300 : jT_300.all (jrok 300) = true := by
  exact jrk_300_0
set_option maxRecDepth 100000 in
set_option maxHeartbeats 4000000 in
theorem jrk_301_0 : jT_301_0.all (jrok 301) = true := by decide +kernel
theorem jrk_301 : jT_301.all (jrok 301) = true := by
  exact jrk_301_0
set_option maxRecDepth 100000 in
set_option maxHeartbeats 4000000 in
theorem jrk_302_0 : jT_302_0.all (jrok 302) = true := by decide +kernel
set_option maxRecDepth 100000 in
set_option maxHeartbeats 4000000 in
theorem jrk_302_1 : jT_302_1.all (jrok 302) = true := by decide +kernel
theorem jrk_302 : jT_302.all (jrok 302) = true := by
  unfold jT_302
  simp only [List.all_append, jrk_302_0, jrk_302_1, Bool.and_self]
set_option maxRecDepth 100000 in
set_option maxHeartbeats 4000000 in
theorem jrk_303_0 : jT_303_0.all (jrok 303) = true := by decide +kernel
theorem jrk_303 : jT_303.all (jrok 303) = true := by
  exact jrk_303_0
set_option maxRecDepth 100000 in
set_option maxHeartbeats 4000000 in
theorem jrk_304_0 : jT_304_0.all (jrok 304) = true := by decide +kernel
theorem jrk_304 : jT_304.all (jrok 304) = true := by
  exact jrk_304_0
set_option maxRecDepth 100000 in
set_option maxHeartbeats 4000000 in
theorem jrk_305_0 : jT_305_0.all (jrok 305) = true := by decide +kernel
theorem jrk_305 : jT_305.all (jrok 305) = true := by
  exact jrk_305_0
set_option maxRecDepth 100000 in
set_option maxHeartbeats 4000000 in
theorem jrk_306_0 : jT_306_0.all (jrok 306) = true := by decide +kernel
theorem jrk_306 : jT_306.all (jrok 306) = true := by
  exact jrk_306_0
set_option maxRecDepth 100000 in
set_option maxHeartbeats 4000000 in
theorem jrk_307_0 : jT_307_0.all (jrok 307) = true := by decide +kernel
theorem jrk_307 : jT_307.all (jrok 307) = true := by
  exact jrk_307_0
set_option maxRecDepth 100000 in
set_option maxHeartbeats 4000000 in
theorem jrk_308_0 : jT_308_0.all (jrok 308) = true := by decide +kernel
theorem jrk_308 : jT_308.all (jrok 308) = true := by
  exact jrk_308_0
set_option maxRecDepth 100000 in
set_option maxHeartbeats 4000000 in
theorem jrk_309_0 : jT_309_0.all (jrok 309) = true := by decide +kernel
theorem jrk_309 : jT_309.all (jrok 309) = true := by
  exact jrk_309_0
set_option maxRecDepth 100000 in
set_option maxHeartbeats 4000000 in
theorem jrk_310_0 : jT_310_0.all (jrok 310) = true := by decide +kernel
theorem jrk_310 : jT_310.all (jrok 310) = true := by
  exact jrk_310_0
set_option maxRecDepth 100000 in
set_option maxHeartbeats 4000000 in
theorem jrk_311_0 : jT_311_0.all (jrok 311) = true := by decide +kernel
theorem jrk_311 : jT_311.all (jrok 311) = true := by
  exact jrk_311_0
set_option maxRecDepth 100000 in
set_option maxHeartbeats 4000000 in
theorem jrk_312_0 : jT_312_0.all (jrok 312) = true := by decide +kernel
set_option maxRecDepth 100000 in
set_option maxHeartbeats 4000000 in
theorem jrk_312_1 : jT_312_1.all (jrok 312) = true := by decide +kernel
theorem jrk_312 : jT_312.all (jrok 312) = true := by
  unfold jT_312
  simp only [List.all_append, jrk_312_0, jrk_312_1, Bool.and_self]
set_option maxRecDepth 100000 in
set_option maxHeartbeats 4000000 in
theorem jrk_313_0 : jT_313_0.all (jrok 313) = true := by decide +kernel
theorem jrk_313 : jT_313.all (jrok 313) = true := by
  exact jrk_313_0
set_option maxRecDepth 100000 in
set_option maxHeartbeats 4000000 in
theorem jrk_314_0 : jT_314_0.all (jrok 314) = true := by decide +kernel
set_option maxRecDepth 100000 in
set_option maxHeartbeats 4000000 in
theorem jrk_314_1 : jT_314_1.all (jrok 314) = true := by decide +kernel
theorem jrk_314 : jT_314.all (jrok 314) = true := by
  unfold jT_314
  simp only [List.all_append, jrk_314_0, jrk_314_1, Bool.and_self]
set_option maxRecDepth 100000 in
set_option maxHeartbeats 4000000 in
theorem jrk_315_0 : jT_315_0.all (jrok 315) = true := by decide +kernel
theorem jrk_315 : jT_315.all (jrok 315) = true := by
  exact jrk_315_0
set_option maxRecDepth 100000 in
set_option maxHeartbeats 4000000 in
theorem jrk_316_0 : jT_316_0.all (jrok 316) = true := by decide +kernel
set_option maxRecDepth 100000 in
set_option maxHeartbeats 4000000 in
theorem jrk_316_1 : jT_316_1.all (jrok 316) = true := by decide +kernel
set_option maxRecDepth 100000 in
set_option maxHeartbeats 4000000 in
theorem jrk_316_2 : jT_316_2.all (jrok 316) = true := by decide +kernel
set_option maxRecDepth 100000 in
set_option maxHeartbeats 4000000 in
theorem jrk_316_3 : jT_316_3.all (jrok 316) = true := by decide +kernel
theorem jrk_316 : jT_316.all (jrok 316) = true := by
  unfold jT_316
  simp only [List.all_append, jrk_316_0, jrk_316_1, jrk_316_2, jrk_316_3, Bool.and_self]
set_option maxRecDepth 100000 in
set_option maxHeartbeats 4000000 in
theorem jrk_317_0 : jT_317_0.all (jrok 317) = true := by decide +kernel
theorem jrk_317 : jT_317.all (jrok 317) = true := by
  exact jrk_317_0
set_option maxRecDepth 100000 in
set_option maxHeartbeats 4000000 in
theorem jrk_318_0 : jT_318_0.all (jrok 318) = true := by decide +kernel
theorem jrk_318 : jT_318.all (jrok 318) = true := by
  exact jrk_318_0
set_option maxRecDepth 100000 in
set_option maxHeartbeats 4000000 in
theorem jrk_319_0 : jT_319_0.all (jrok 319) = true := by decide +kernel
theorem jrk_319 : jT_319.all (jrok 319) = true := by
  exact jrk_319_0
set_option maxRecDepth 100000 in
set_option maxHeartbeats 4000000 in
theorem jrk_320_0 : jT_320_0.all (jrok 320) = true := by decide +kernel
set_option maxRecDepth 100000 in
set_option maxHeartbeats 4000000 in
theorem jrk_320_1 : jT_320_1.all (jrok 320) = true := by decide +kernel
theorem jrk_320 : jT_320.all (jrok 320) = true := by
  unfold jT_320
  simp only [List.all_append, jrk_320_0, jrk_320_1, Bool.and_self]
set_option maxRecDepth 100000 in
set_option maxHeartbeats 4000000 in
theorem jrk_321_0 : jT_321_0.all (jrok 321) = true := by decide +kernel
theorem jrk_321 : jT_321.all (jrok 321) = true := by
  exact jrk_321_0
set_option maxRecDepth 100000 in
set_option maxHeartbeats 4000000 in
theorem jrk_322_0 : jT_322_0.all (jrok 322) = true := by decide +kernel
theorem jrk_322 : jT_322.all (jrok 322) = true := by
  exact jrk_322_0
set_option maxRecDepth 100000 in
set_option maxHeartbeats 4000000 in
theorem jrk_323_0 : jT_323_0.all (jrok 323) = true := by decide +kernel
theorem jrk_323 : jT_323.all (jrok 323) = true := by
  exact jrk_323_0
set_option maxRecDepth 100000 in
set_option maxHeartbeats 4000000 in
theorem jrk_324_0 : jT_324_0.all (jrok 324) = true := by decide +kernel
set_option maxRecDepth 100000 in
set_option maxHeartbeats 4000000 in
theorem jrk_324_1 : jT_324_1.all (jrok 324) = true := by decide +kernel
theorem jrk_324 : jT_324.all (jrok 324) = true := by
  unfold jT_324
  simp only [List.all_append, jrk_324_0, jrk_324_1, Bool.and_self]
set_option maxRecDepth 100000 in
set_option maxHeartbeats 4000000 in
theorem jrk_325_0 : jT_325_0.all (jrok 325) = true := by decide +kernel
theorem jrk_325 : jT_325.all (jrok 325) = true := by
  exact jrk_325_0
set_option maxRecDepth 100000 in
set_option maxHeartbeats 4000000 in
theorem jrk_326_0 : jT_326_0.all (jrok 326) = true := by decide +kernel
set_option maxRecDepth 100000 in
set_option maxHeartbeats 4000000 in
theorem jrk_326_1 : jT_326_1.all (jrok 326) = true := by decide +kernel
set_option maxRecDepth 100000 in
set_option maxHeartbeats 4000000 in
theorem jrk_326_2 : jT_326_2.all (jrok 326) = true := by decide +kernel
theorem jrk_326 : jT_326.all (jrok 326) = true := by
  unfold jT_326
  simp only [List.all_append, jrk_326_0, jrk_326_1, jrk_326_2, Bool.and_self]
set_option maxRecDepth 100000 in
set_option maxHeartbeats 4000000 in
theorem jrk_327_0 : jT_327_0.all (jrok 327) = true := by decide +kernel
theorem jrk_327 : jT_327.all (jrok 327) = true := by
  exact jrk_327_0
set_option maxRecDepth 100000 in
set_option maxHeartbeats 4000000 in
theorem jrk_328_0 : jT_328_0.all (jrok 328) = true := by decide +kernel
set_option maxRecDepth 100000 in
set_option maxHeartbeats 4000000 in
theorem jrk_328_1 : jT_328_1.all (jrok 328) = true := by decide +kernel
theorem jrk_328 : jT_328.all (jrok 328) = true := by
  unfold jT_328
  simp only [List.all_append, jrk_328_0, jrk_328_1, Bool.and_self]
set_option maxRecDepth 100000 in
set_option maxHeartbeats 4000000 in
theorem jrk_329_0 : jT_329_0.all (jrok 329) = true := by decide +kernel
theorem jrk_329 : jT_329.all (jrok 329) = true := by
  exact jrk_329_0
set_option maxRecDepth 100000 in
set_option maxHeartbeats 4000000 in
theorem jrk_330_0 : jT_330_0.all (jrok 330) = true := by decide +kernel
set_option maxRecDepth 100000 in
set_option maxHeartbeats 4000000 in
theorem jrk_330_1 : jT_330_1.all (jrok 330) = true := by decide +kernel
theorem jrk_330 : jT_330.all (jrok 330) = true := by
  unfold jT_330
  simp only [List.all_append, jrk_330_0, jrk_330_1, Bool.and_self]
set_option maxRecDepth 100000 in
set_option maxHeartbeats 4000000 in
theorem jrk_331_0 : jT_331_0.all (jrok 331) = true := by decide +kernel
set_option maxRecDepth 100000 in
set_option maxHeartbeats 4000000 in
theorem jrk_331_1 : jT_331_1.all (jrok 331) = true := by decide +kernel
theorem jrk_331 : jT_331.all (jrok 331) = true := by
  unfold jT_331
  simp only [List.all_append, jrk_331_0, jrk_331_1, Bool.and_self]
set_option maxRecDepth 100000 in
set_option maxHeartbeats 4000000 in
theorem jrk_332_0 : jT_332_0.all (jrok 332) = true := by decide +kernel
set_option maxRecDepth 100000 in
set_option maxHeartbeats 4000000 in
theorem jrk_332_1 : jT_332_1.all (jrok 332) = true := by decide +kernel
theorem jrk_332 : jT_332.all (jrok 332) = true := by
  unfold jT_332
  simp only [List.all_append, jrk_332_0, jrk_332_1, Bool.and_self]
set_option maxRecDepth 100000 in
set_option maxHeartbeats 4000000 in
theorem jrk_333_0 : jT_333_0.all (jrok 333) = true := by decide +kernel
theorem jrk_333 : jT_333.all (jrok 333) = true := by
  exact jrk_333_0
set_option maxRecDepth 100000 in
set_option maxHeartbeats 4000000 in
theorem jrk_334_0 : jT_334_0.all (jrok 334) = true := by decide +kernel
theorem jrk_334 : jT_334.all (jrok 334) = true := by
  exact jrk_334_0
set_option maxRecDepth 100000 in
set_option maxHeartbeats 4000000 in
theorem jrk_335_0 : jT_335_0.all (jrok 335) = true := by decide +kernel
set_option maxRecDepth 100000 in
set_option maxHeartbeats 4000000 in
theorem jrk_335_1 : jT_335_1.all (jrok 335) = true := by decide +kernel
theorem jrk_335 : jT_335.all (jrok 335) = true := by
  unfold jT_335
  simp only [List.all_append, jrk_335_0, jrk_335_1, Bool.and_self]
set_option maxRecDepth 100000 in
set_option maxHeartbeats 4000000 in
theorem jrk_336_0 : jT_336_0.all (jrok 336) = true := by decide +kernel
theorem jrk_336 : jT_336.all (jrok 336) = true := by
  exact jrk_336_0
set_option maxRecDepth 100000 in
set_option maxHeartbeats 4000000 in
theorem jrk_337_0 : jT_337_0.all (jrok 337) = true := by decide +kernel
theorem jrk_337 : jT_337.all (jrok 337) = true := by
  exact jrk_337_0
set_option maxRecDepth 100000 in
set_option maxHeartbeats 4000000 in
theorem jrk_338_0 : jT_338_0.all (jrok 338) = true := by decide +kernel
theorem jrk_338 : jT_338.all (jrok 338) = true := by
  exact jrk_338_0
set_option maxRecDepth 100000 in
set_option maxHeartbeats 4000000 in
theorem jrk_339_0 : jT_339_0.all (jrok 339) = true := by decide +kernel
set_option maxRecDepth 100000 in
set_option maxHeartbeats 4000000 in
theorem jrk_339_1 : jT_339_1.all (jrok 339) = true := by decide +kernel
theorem jrk_339 : jT_339.all (jrok 339) = true := by
  unfold jT_339
  simp only [List.all_append, jrk_339_0, jrk_339_1, Bool.and_self]
set_option maxRecDepth 100000 in
set_option maxHeartbeats 4000000 in
theorem jrk_340_0 : jT_340_0.all (jrok 340) = true := by decide +kernel
theorem jrk_340 : jT_340.all (jrok 340) = true := by
  exact jrk_340_0
set_option maxRecDepth 100000 in
set_option maxHeartbeats 4000000 in
theorem jrk_341_0 : jT_341_0.all (jrok 341) = true := by decide +kernel
set_option maxRecDepth 100000 in
set_option maxHeartbeats 4000000 in
theorem jrk_341_1 : jT_341_1.all (jrok 341) = true := by decide +kernel
theorem jrk_341 : jT_341.all (jrok 341) = true := by
  unfold jT_341
  simp only [List.all_append, jrk_341_0, jrk_341_1, Bool.and_self]
set_option maxRecDepth 100000 in
set_option maxHeartbeats 4000000 in
theorem jrk_342_0 : jT_342_0.all (jrok 342) = true := by decide +kernel
theorem jrk_342 : jT_342.all (jrok 342) = true := by
  exact jrk_342_0
set_option maxRecDepth 100000 in
set_option maxHeartbeats 4000000 in
theorem jrk_343_0 : jT_343_0.all (jrok 343) = true := by decide +kernel
set_option maxRecDepth 100000 in
set_option maxHeartbeats 4000000 in
theorem jrk_343_1 : jT_343_1.all (jrok 343) = true := by decide +kernel
theorem jrk_343 : jT_343.all (jrok 343) = true := by
  unfold jT_343
  simp only [List.all_append, jrk_343_0, jrk_343_1, Bool.and_self]
set_option maxRecDepth 100000 in
set_option maxHeartbeats 4000000 in
theorem jrk_344_0 : jT_344_0.all (jrok 344) = true := by decide +kernel
theorem jrk_344 : jT_344.all (jrok 344) = true := by
  exact jrk_344_0
set_option maxRecDepth 100000 in
set_option maxHeartbeats 4000000 in
theorem jrk_345_0 : jT_345_0.all (jrok 345) = true := by decide +kernel
set_option maxRecDepth 100000 in
set_option maxHeartbeats 4000000 in
theorem jrk_345_1 : jT_345_1.all (jrok 345) = true := by decide +kernel
set_option maxRecDepth 100000 in
set_option maxHeartbeats 4000000 in
theorem jrk_345_2 : jT_345_2.all (jrok 345) = true := by decide +kernel
theorem jrk_345 : jT_345.all (jrok 345) = true := by
  unfold jT_345
  simp only [List.all_append, jrk_345_0, jrk_345_1, jrk_345_2, Bool.and_self]
set_option maxRecDepth 100000 in
set_option maxHeartbeats 4000000 in
theorem jrk_346_0 : jT_346_0.all (jrok 346) = true := by decide +kernel
theorem jrk_346 : jT_346.all (jrok 346) = true := by
  exact jrk_346_0
set_option maxRecDepth 100000 in
set_option maxHeartbeats 4000000 in
theorem jrk_347_0 : jT_347_0.all (jrok 347) = true := by decide +kernel
set_option maxRecDepth 100000 in
set_option maxHeartbeats 4000000 in
theorem jrk_347_1 : jT_347_1.all (jrok 347) = true := by decide +kernel
set_option maxRecDepth 100000 in
set_option maxHeartbeats 4000000 in
theorem jrk_347_2 : jT_347_2.all (jrok 347) = true := by decide +kernel
theorem jrk_347 : jT_347.all (jrok 347) = true := by
  unfold jT_347
  simp only [List.all_append, jrk_347_0, jrk_347_1, jrk_347_2, Bool.and_self]
set_option maxRecDepth 100000 in
set_option maxHeartbeats 4000000 in
theorem jrk_348_0 : jT_348_0.all (jrok 348) = true := by decide +kernel
theorem jrk_348 : jT_348.all (jrok 348) = true := by
  exact jrk_348_0
set_option maxRecDepth 100000 in
set_option maxHeartbeats 4000000 in
theorem jrk_349_0 : jT_349_0.all (jrok 349) = true := by decide +kernel
set_option maxRecDepth 100000 in
set_option maxHeartbeats 4000000 in
theorem jrk_349_1 : jT_349_1.all (jrok 349) = true := by decide +kernel
theorem jrk_349 : jT_349.all (jrok 349) = true := by
  unfold jT_349
  simp only [List.all_append, jrk_349_0, jrk_349_1, Bool.and_self]
set_option maxRecDepth 100000 in
set_option maxHeartbeats 4000000 in
theorem jrk_350_0 : jT_350_0.all (jrok 350) = true := by decide +kernel
theorem jrk_350 : jT_350.all (jrok 350) = true := by
  exact jrk_350_0
set_option maxRecDepth 100000 in
set_option maxHeartbeats 4000000 in
theorem jrk_351_0 : jT_351_0.all (jrok 351) = true := by decide +kernel
theorem jrk_351 : jT_351.all (jrok 351) = true := by
  exact jrk_351_0
set_option maxRecDepth 100000 in
set_option maxHeartbeats 4000000 in
theorem jrk_352_0 : jT_352_0.all (jrok 352) = true := by decide +kernel
set_option maxRecDepth 100000 in
set_option maxHeartbeats 4000000 in
theorem jrk_352_1 : jT_352_1.all (jrok 352) = true := by decide +kernel
theorem jrk_352 : jT_352.all (jrok 352) = true := by
  unfold jT_352
  simp only [List.all_append, jrk_352_0, jrk_352_1, Bool.and_self]
set_option maxRecDepth 100000 in
set_option maxHeartbeats 4000000 in
theorem jrk_353_0 : jT_353_0.all (jrok 353) = true := by decide +kernel
theorem jrk_353 : jT_353.all (jrok 353) = true := by
  exact jrk_353_0
set_option maxRecDepth 100000 in
set_option maxHeartbeats 4000000 in
theorem jrk_354_0 : jT_354_0.all (jrok 354) = true := by decide +kernel
theorem jrk_354 : jT_354.all (jrok 354) = true := by
  exact jrk_354_0
set_option maxRecDepth 100000 in
set_option maxHeartbeats 4000000 in
theorem jrk_355_0 : jT_355_0.all (jrok 355) = true := by decide +kernel
theorem jrk_355 : jT_355.all (jrok 355) = true := by
  exact jrk_355_0
set_option maxRecDepth 100000 in
set_option maxHeartbeats 4000000 in
theorem jrk_356_0 : jT_356_0.all (jrok 356) = true := by decide +kernel
set_option maxRecDepth 100000 in
set_option maxHeartbeats 4000000 in
theorem jrk_356_1 : jT_356_1.all (jrok 356) = true := by decide +kernel
set_option maxRecDepth 100000 in
set_option maxHeartbeats 4000000 in
theorem jrk_356_2 : jT_356_2.all (jrok 356) = true := by decide +kernel
theorem jrk_356 : jT_356.all (jrok 356) = true := by
  unfold jT_356
  simp only [List.all_append, jrk_356_0, jrk_356_1, jrk_356_2, Bool.and_self]
set_option maxRecDepth 100000 in
set_option maxHeartbeats 4000000 in
theorem jrk_357_0 : jT_357_0.all (jrok 357) = true := by decide +kernel
set_option maxRecDepth 100000 in
set_option maxHeartbeats 4000000 in
theorem jrk_357_1 : jT_357_1.all (jrok 357) = true := by decide +kernel
theorem jrk_357 : jT_357.all (jrok 357) = true := by
  unfold jT_357
  simp only [List.all_append, jrk_357_0, jrk_357_1, Bool.and_self]
set_option maxRecDepth 100000 in
set_option maxHeartbeats 4000000 in
theorem jrk_358_0 : jT_358_0.all (jrok 358) = true := by decide +kernel
theorem jrk_358 : jT_358.all (jrok 358) = true := by
  exact jrk_358_0
set_option maxRecDepth 100000 in
set_option maxHeartbeats 4000000 in
theorem jrk_359_0 : jT_359_0.all (jrok 359) = true := by decide +kernel
theorem jrk_359 : jT_359.all (jrok 359) = true := by
  exact jrk_359_0
set_option maxRecDepth 100000 in
set_option maxHeartbeats 4000000 in
theorem jrk_360_0 : jT_360_0.all (jrok 360) = true := by decide +kernel
theorem jrk_360 : jT_360.all (jrok 360) = true := by
  exact jrk_360_0
set_option maxRecDepth 100000 in
set_option maxHeartbeats 4000000 in
theorem jrk_361_0 : jT_361_0.all (jrok 361) = true := by decide +kernel
theorem jrk_361 : jT_361.all (jrok 361) = true := by
  exact jrk_361_0
set_option maxRecDepth 100000 in
set_option maxHeartbeats 4000000 in
theorem jrk_362_0 : jT_362_0.all (jrok 362) = true := by decide +kernel
theorem jrk_362 : jT_362.all (jrok 362) = true := by
  exact jrk_362_0
set_option maxRecDepth 100000 in
set_option maxHeartbeats 4000000 in
theorem jrk_363_0 : jT_363_0.all (jrok 363) = true := by decide +kernel
theorem jrk_363 : jT_363.all (jrok 363) = true := by
  exact jrk_363_0
set_option maxRecDepth 100000 in
set_option maxHeartbeats 4000000 in
theorem jrk_364_0 : jT_364_0.all (jrok 364) = true := by decide +kernel
theorem jrk_364 : jT_364.all (jrok 364) = true := by
  exact jrk_364_0
set_option maxRecDepth 100000 in
set_option maxHeartbeats 4000000 in
theorem jrk_365_0 : jT_365_0.all (jrok 365) = true := by decide +kernel
theorem jrk_365 : jT_365.all (jrok 365) = true := by
  exact jrk_365_0
set_option maxRecDepth 100000 in
set_option maxHeartbeats 4000000 in
theorem jrk_366_0 : jT_366_0.all (jrok 366) = true := by decide +kernel
theorem jrk_366 : jT_366.all (jrok 366) = true := by
  exact jrk_366_0
set_option maxRecDepth 100000 in
set_option maxHeartbeats 4000000 in
theorem jrk_367_0 : jT_367_0.all (jrok 367) = true := by decide +kernel
theorem jrk_367 : jT_367.all (jrok 367) = true := by
  exact jrk_367_0
set_option maxRecDepth 100000 in
set_option maxHeartbeats 4000000 in
theorem jrk_368_0 : jT_368_0.all (jrok 368) = true := by decide +kernel
theorem jrk_368 : jT_368.all (jrok 368) = true := by
  exact jrk_368_0
set_option maxRecDepth 100000 in
set_option maxHeartbeats 4000000 in
theorem jrk_369_0 : jT_369_0.all (jrok 369) = true := by decide +kernel
theorem jrk_369 : jT_369.all (jrok 369) = true := by
  exact jrk_369_0
set_option maxRecDepth 100000 in
set_option maxHeartbeats 4000000 in
theorem jrk_370_0 : jT_370_0.all (jrok 370) = true := by decide +kernel
theorem jrk_370 : jT_370.all (jrok 370) = true := by
  exact jrk_370_0
set_option maxRecDepth 100000 in
set_option maxHeartbeats 4000000 in
theorem jrk_371_0 : jT_371_0.all (jrok 371) = true := by decide +kernel
theorem jrk_371 : jT_371.all (jrok 371) = true := by
  exact jrk_371_0
set_option maxRecDepth 100000 in
set_option maxHeartbeats 4000000 in
theorem jmk_0 : (List.range 25).all (fun i => decide (0 + i = 0) || jmok (0 + i)) = true := by decide +kernel
set_option maxRecDepth 100000 in
set_option maxHeartbeats 4000000 in
theorem jmk_1 : (List.range 25).all (fun i => decide (25 + i = 0) || jmok (25 + i)) = true := by decide +kernel
set_option maxRecDepth 100000 in
set_option maxHeartbeats 4000000 in
theorem jmk_2 : (List.range 25).all (fun i => decide (50 + i = 0) || jmok (50 + i)) = true := by decide +kernel
set_option maxRecDepth 100000 in
set_option maxHeartbeats 4000000 in
theorem jmk_3 : (List.range 25).all (fun i => decide (75 + i = 0) || jmok (75 + i)) = true := by decide +kernel
set_option maxRecDepth 100000 in
set_option maxHeartbeats 4000000 in
theorem jmk_4 : (List.range 25).all (fun i => decide (100 + i = 0) || jmok (100 + i)) = true := by decide +kernel
set_option maxRecDepth 100000 in
set_option maxHeartbeats 4000000 in
theorem jmk_5 : (List.range 25).all (fun i => decide (125 + i = 0) || jmok (125 + i)) = true := by decide +kernel
set_option maxRecDepth 100000 in
set_option maxHeartbeats 4000000 in
theorem jmk_6 : (List.range 25).all (fun i => decide (150 + i = 0) || jmok (150 + i)) = true := by decide +kernel
set_option maxRecDepth 100000 in
set_option maxHeartbeats 4000000 in
theorem jmk_7 : (List.range 25).all (fun i => decide (175 + i = 0) || jmok (175 + i)) = true := by decide +kernel
set_option maxRecDepth 100000 in
set_option maxHeartbeats 4000000 in
theorem jmk_8 : (List.range 25).all (fun i => decide (200 + i = 0) || jmok (200 + i)) = true := by decide +kernel
set_option maxRecDepth 100000 in
set_option maxHeartbeats 4000000 in
theorem jmk_9 : (List.range 25).all (fun i => decide (225 + i = 0) || jmok (225 + i)) = true := by decide +kernel
set_option maxRecDepth 100000 in
set_option maxHeartbeats 4000000 in
theorem jmk_10 : (List.range 25).all (fun i => decide (250 + i = 0) || jmok (250 + i)) = true := by decide +kernel
set_option maxRecDepth 100000 in
set_option maxHeartbeats 4000000 in
theorem jmk_11 : (List.range 25).all (fun i => decide (275 + i = 0) || jmok (275 + i)) = true := by decide +kernel
set_option maxRecDepth 100000 in
set_option maxHeartbeats 4000000 in
theorem jmk_12 : (List.range 25).all (fun i => decide (300 + i = 0) || jmok (300 + i)) = true := by decide +kernel
set_option maxRecDepth 100000 in
set_option maxHeartbeats 4000000 in
theorem jmk_13 : (List.range 25).all (fun i => decide (325 + i = 0) || jmok (325 + i)) = true := by decide +kernel
set_option maxRecDepth 100000 in
set_option maxHeartbeats 4000000 in
theorem jmk_14 : (List.range 22).all (fun i => decide (350 + i = 0) || jmok (350 + i)) = true := by decide +kernel
def jAll : Nat → List (List jRow) → Prop
  | _, [] => True
  | k, t :: r => t.all (jrok k) = true ∧ jAll (k + 1) r
theorem jAll_app : ∀ (a b : List (List jRow)) (k : Nat), jAll k a → jAll (k + a.length) b → jAll k (a ++ b) := by
  intro a
  induction a with
  | nil => intro b k _ h; exact h
  | cons t r ih =>
    intro b k h h2
    refine ⟨h.1, ih b (k + 1) h.2 ?_⟩
    have e : k + (t :: r).length = k + 1 + r.length := by simp; omega
    rw [← e]
    exact h2
theorem jAll_at : ∀ (a : List (List jRow)) (k i : Nat) (t : List jRow), jAll k a → a[i]? = some t → t.all (jrok (k + i)) = true := by
  intro a
  induction a with
  | nil => intro k i t _ h; simp at h
  | cons u r ih =>
    intro k i t h h2
    cases i with
    | zero => cases h2; exact h.1
    | succ i =>
      have := ih (k + 1) i t h.2 (by simpa using h2)
      rw [show k + (i + 1) = k + 1 + i by omega]
      exact this
theorem jak_0 : jAll 0 jTs_0 := ⟨jrk_0, jrk_1, jrk_2, jrk_3, jrk_4, jrk_5, jrk_6, jrk_7, jrk_8, jrk_9, jrk_10, jrk_11, jrk_12, jrk_13, jrk_14, jrk_15, jrk_16, jrk_17, jrk_18, jrk_19, jrk_20, jrk_21, jrk_22, jrk_23, jrk_24, trivial⟩
theorem jak_1 : jAll 25 jTs_1 := ⟨jrk_25, jrk_26, jrk_27, jrk_28, jrk_29, jrk_30, jrk_31, jrk_32, jrk_33, jrk_34, jrk_35, jrk_36, jrk_37, jrk_38, jrk_39, jrk_40, jrk_41, jrk_42, jrk_43, jrk_44, jrk_45, jrk_46, jrk_47, jrk_48, jrk_49, trivial⟩
theorem jak_2 : jAll 50 jTs_2 := ⟨jrk_50, jrk_51, jrk_52, jrk_53, jrk_54, jrk_55, jrk_56, jrk_57, jrk_58, jrk_59, jrk_60, jrk_61, jrk_62, jrk_63, jrk_64, jrk_65, jrk_66, jrk_67, jrk_68, jrk_69, jrk_70, jrk_71, jrk_72, jrk_73, jrk_74, trivial⟩
theorem jak_3 : jAll 75 jTs_3 := ⟨jrk_75, jrk_76, jrk_77, jrk_78, jrk_79, jrk_80, jrk_81, jrk_82, jrk_83, jrk_84, jrk_85, jrk_86, jrk_87, jrk_88, jrk_89, jrk_90, jrk_91, jrk_92, jrk_93, jrk_94, jrk_95, jrk_96, jrk_97, jrk_98, jrk_99, trivial⟩
theorem jak_4 : jAll 100 jTs_4 := ⟨jrk_100, jrk_101, jrk_102, jrk_103, jrk_104, jrk_105, jrk_106, jrk_107, jrk_108, jrk_109, jrk_110, jrk_111, jrk_112, jrk_113, jrk_114, jrk_115, jrk_116, jrk_117, jrk_118, jrk_119, jrk_120, jrk_121, jrk_122, jrk_123, jrk_124, trivial⟩
theorem jak_5 : jAll 125 jTs_5 := ⟨jrk_125, jrk_126, jrk_127, jrk_128, jrk_129, jrk_130, jrk_131, jrk_132, jrk_133, jrk_134, jrk_135, jrk_136, jrk_137, jrk_138, jrk_139, jrk_140, jrk_141, jrk_142, jrk_143, jrk_144, jrk_145, jrk_146, jrk_147, jrk_148, jrk_149, trivial⟩
theorem jak_6 : jAll 150 jTs_6 := ⟨jrk_150, jrk_151, jrk_152, jrk_153, jrk_154, jrk_155, jrk_156, jrk_157, jrk_158, jrk_159, jrk_160, jrk_161, jrk_162, jrk_163, jrk_164, jrk_165, jrk_166, jrk_167, jrk_168, jrk_169, jrk_170, jrk_171, jrk_172, jrk_173, jrk_174, trivial⟩
theorem jak_7 : jAll 175 jTs_7 := ⟨jrk_175, jrk_176, jrk_177, jrk_178, jrk_179, jrk_180, jrk_181, jrk_182, jrk_183, jrk_184, jrk_185, jrk_186, jrk_187, jrk_188, jrk_189, jrk_190, jrk_191, jrk_192, jrk_193, jrk_194, jrk_195, jrk_196, jrk_197, jrk_198, jrk_199, trivial⟩
theorem jak_8 : jAll 200 jTs_8 := ⟨jrk_200, jrk_201, jrk_202, jrk_203, jrk_204, jrk_205, jrk_206, jrk_207, jrk_208, jrk_209, jrk_210, jrk_211, jrk_212, jrk_213, jrk_214, jrk_215, jrk_216, jrk_217, jrk_218, jrk_219, jrk_220, jrk_221, jrk_222, jrk_223, jrk_224, trivial⟩
theorem jak_9 : jAll 225 jTs_9 := ⟨jrk_225, jrk_226, jrk_227, jrk_228, jrk_229, jrk_230, jrk_231, jrk_232, jrk_233, jrk_234, jrk_235, jrk_236, jrk_237, jrk_238, jrk_239, jrk_240, jrk_241, jrk_242, jrk_243, jrk_244, jrk_245, jrk_246, jrk_247, jrk_248, jrk_249, trivial⟩
theorem jak_10 : jAll 250 jTs_10 := ⟨jrk_250, jrk_251, jrk_252, jrk_253, jrk_254, jrk_255, jrk_256, jrk_257, jrk_258, jrk_259, jrk_260, jrk_261, jrk_262, jrk_263, jrk_264, jrk_265, jrk_266, jrk_267, jrk_268, jrk_269, jrk_270, jrk_271, jrk_272, jrk_273, jrk_274, trivial⟩
theorem jak_11 : jAll 275 jTs_11 := ⟨jrk_275, jrk_276, jrk_277, jrk_278, jrk_279, jrk_280, jrk_281, jrk_282, jrk_283, jrk_284, jrk_285, jrk_286, jrk_287, jrk_288, jrk_289, jrk_290, jrk_291, jrk_292, jrk_293, jrk_294, jrk_295, jrk_296, jrk_297, jrk_298, jrk_299, trivial⟩
theorem jak_12 : jAll 300 jTs_12 := ⟨jrk_300, jrk_301, jrk_302, jrk_303, jrk_304, jrk_305, jrk_306, jrk_307, jrk_308, jrk_309, jrk_310, jrk_311, jrk_312, jrk_313, jrk_314, jrk_315, jrk_316, jrk_317, jrk_318, jrk_319, jrk_320, jrk_321, jrk_322, jrk_323, jrk_324, trivial⟩
theorem jak_13 : jAll 325 jTs_13 := ⟨jrk_325, jrk_326, jrk_327, jrk_328, jrk_329, jrk_330, jrk_331, jrk_332, jrk_333, jrk_334, jrk_335, jrk_336, jrk_337, jrk_338, jrk_339, jrk_340, jrk_341, jrk_342, jrk_343, jrk_344, jrk_345, jrk_346, jrk_347, jrk_348, jrk_349, trivial⟩
theorem jak_14 : jAll 350 jTs_14 := ⟨jrk_350, jrk_351, jrk_352, jrk_353, jrk_354, jrk_355, jrk_356, jrk_357, jrk_358, jrk_359, jrk_360, jrk_361, jrk_362, jrk_363, jrk_364, jrk_365, jrk_366, jrk_367, jrk_368, jrk_369, jrk_370, jrk_371, trivial⟩
theorem jak : jAll 0 jTs := jAll_app _ _ _ jak_0 (jAll_app _ _ _ jak_1 (jAll_app _ _ _ jak_2 (jAll_app _ _ _ jak_3 (jAll_app _ _ _ jak_4 (jAll_app _ _ _ jak_5 (jAll_app _ _ _ jak_6 (jAll_app _ _ _ jak_7 (jAll_app _ _ _ jak_8 (jAll_app _ _ _ jak_9 (jAll_app _ _ _ jak_10 (jAll_app _ _ _ jak_11 (jAll_app _ _ _ jak_12 (jAll_app _ _ _ jak_13 (jak_14))))))))))))))
theorem jrows {mi : Nat} {r : jRow} (h : r ∈ jTab mi) : jrok mi r = true := by
  unfold jTab at h
  cases hq : jTs[mi]? with
  | none => rw [hq] at h; cases h
  | some t =>
    rw [hq] at h
    have := jAll_at jTs 0 mi t jak hq
    rw [Nat.zero_add] at this
    exact List.all_eq_true.mp this r h
theorem jmeth {mi : Nat} (h0 : 0 < mi) (h1 : mi < 372) : jmok mi = true := by
  have key : ∀ (k n : Nat), (List.range n).all (fun i => decide (k + i = 0) || jmok (k + i)) = true → k ≤ mi → mi < k + n → jmok mi = true := by
    intro k n h h2 h3
    have h4 := List.all_eq_true.mp h (mi - k) (List.mem_range.mpr (by omega))
    rw [show k + (mi - k) = mi by omega] at h4
    rw [Bool.or_eq_true] at h4
    rcases h4 with h4 | h4
    · have := of_decide_eq_true h4
      omega
    · exact h4
  by_cases c0 : mi < 25
  · exact key _ _ jmk_0 (by omega) (by omega)
  by_cases c1 : mi < 50
  · exact key _ _ jmk_1 (by omega) (by omega)
  by_cases c2 : mi < 75
  · exact key _ _ jmk_2 (by omega) (by omega)
  by_cases c3 : mi < 100
  · exact key _ _ jmk_3 (by omega) (by omega)
  by_cases c4 : mi < 125
  · exact key _ _ jmk_4 (by omega) (by omega)
  by_cases c5 : mi < 150
  · exact key _ _ jmk_5 (by omega) (by omega)
  by_cases c6 : mi < 175
  · exact key _ _ jmk_6 (by omega) (by omega)
  by_cases c7 : mi < 200
  · exact key _ _ jmk_7 (by omega) (by omega)
  by_cases c8 : mi < 225
  · exact key _ _ jmk_8 (by omega) (by omega)
  by_cases c9 : mi < 250
  · exact key _ _ jmk_9 (by omega) (by omega)
  by_cases c10 : mi < 275
  · exact key _ _ jmk_10 (by omega) (by omega)
  by_cases c11 : mi < 300
  · exact key _ _ jmk_11 (by omega) (by omega)
  by_cases c12 : mi < 325
  · exact key _ _ jmk_12 (by omega) (by omega)
  by_cases c13 : mi < 350
  · exact key _ _ jmk_13 (by omega) (by omega)
  by_cases c14 : mi < 372
  · exact key _ _ jmk_14 (by omega) (by omega)
  omega
