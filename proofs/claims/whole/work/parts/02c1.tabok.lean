/-! rows checked, piece 1 -/
set_option maxRecDepth 100000 in
set_option maxHeartbeats 4000000 in
theorem jrk_45_0 : jT_45_0.all (jrok 45) = true := by decide +kernel
theorem jrk_45 : jT_45.all (jrok 45) = true := by
  exact jrk_45_0
set_option maxRecDepth 100000 in
set_option maxHeartbeats 4000000 in
theorem jrk_46_0 : jT_46_0.all (jrok 46) = true := by decide +kernel
theorem jrk_46 : jT_46.all (jrok 46) = true := by
  exact jrk_46_0
set_option maxRecDepth 100000 in
set_option maxHeartbeats 4000000 in
theorem jrk_47_0 : jT_47_0.all (jrok 47) = true := by decide +kernel
theorem jrk_47 : jT_47.all (jrok 47) = true := by
  exact jrk_47_0
set_option maxRecDepth 100000 in
set_option maxHeartbeats 4000000 in
theorem jrk_48_0 : jT_48_0.all (jrok 48) = true := by decide +kernel
set_option maxRecDepth 100000 in
set_option maxHeartbeats 4000000 in
theorem jrk_48_1 : jT_48_1.all (jrok 48) = true := by decide +kernel
theorem jrk_48 : jT_48.all (jrok 48) = true := by
  unfold jT_48
  simp only [List.all_append, jrk_48_0, jrk_48_1, Bool.and_self]
set_option maxRecDepth 100000 in
set_option maxHeartbeats 4000000 in
theorem jrk_49_0 : jT_49_0.all (jrok 49) = true := by decide +kernel
theorem jrk_49 : jT_49.all (jrok 49) = true := by
  exact jrk_49_0
set_option maxRecDepth 100000 in
set_option maxHeartbeats 4000000 in
theorem jrk_50_0 : jT_50_0.all (jrok 50) = true := by decide +kernel
set_option maxRecDepth 100000 in
set_option maxHeartbeats 4000000 in
theorem jrk_50_1 : jT_50_1.all (jrok 50) = true := by decide +kernel
theorem jrk_50 : jT_50.all (jrok 50) = true := by
  unfold jT_50
  simp only [List.all_append, jrk_50_0, jrk_50_1, Bool.and_self]
set_option maxRecDepth 100000 in
set_option maxHeartbeats 4000000 in
theorem jrk_51_0 : jT_51_0.all (jrok 51) = true := by decide +kernel
theorem jrk_51 : jT_51.all (jrok 51) = true := by
  exact jrk_51_0
set_option maxRecDepth 100000 in
set_option maxHeartbeats 4000000 in
theorem jrk_52_0 : jT_52_0.all (jrok 52) = true := by decide +kernel
set_option maxRecDepth 100000 in
set_option maxHeartbeats 4000000 in
theorem jrk_52_1 : jT_52_1.all (jrok 52) = true := by decide +kernel
theorem jrk_52 : jT_52.all (jrok 52) = true := by
  unfold jT_52
  simp only [List.all_append, jrk_52_0, jrk_52_1, Bool.and_self]
set_option maxRecDepth 100000 in
set_option maxHeartbeats 4000000 in
theorem jrk_53_0 : jT_53_0.all (jrok 53) = true := by decide +kernel
set_option maxRecDepth 100000 in
set_option maxHeartbeats 4000000 in
theorem jrk_53_1 : jT_53_1.all (jrok 53) = true := by decide +kernel
theorem jrk_53 : jT_53.all (jrok 53) = true := by
  unfold jT_53
  simp only [List.all_append, jrk_53_0, jrk_53_1, Bool.and_self]
set_option maxRecDepth 100000 in
set_option maxHeartbeats 4000000 in
theorem jrk_54_0 : jT_54_0.all (jrok 54) = true := by decide +kernel
theorem jrk_54 : jT_54.all (jrok 54) = true := by
  exact jrk_54_0
set_option maxRecDepth 100000 in
set_option maxHeartbeats 4000000 in
theorem jrk_55_0 : jT_55_0.all (jrok 55) = true := by decide +kernel
theorem jrk_55 : jT_55.all (jrok 55) = true := by
  exact jrk_55_0
set_option maxRecDepth 100000 in
set_option maxHeartbeats 4000000 in
theorem jrk_56_0 : jT_56_0.all (jrok 56) = true := by decide +kernel
set_option maxRecDepth 100000 in
set_option maxHeartbeats 4000000 in
theorem jrk_56_1 : jT_56_1.all (jrok 56) = true := by decide +kernel
theorem jrk_56 : jT_56.all (jrok 56) = true := by
  unfold jT_56
  simp only [List.all_append, jrk_56_0, jrk_56_1, Bool.and_self]
set_option maxRecDepth 100000 in
set_option maxHeartbeats 4000000 in
theorem jrk_57_0 : jT_57_0.all (jrok 57) = true := by decide +kernel
theorem jrk_57 : jT_57.all (jrok 57) = true := by
  exact jrk_57_0
set_option maxRecDepth 100000 in
set_option maxHeartbeats 4000000 in
theorem jrk_58_0 : jT_58_0.all (jrok 58) = true := by decide +kernel
theorem jrk_58 : jT_58.all (jrok 58) = true := by
  exact jrk_58_0
set_option maxRecDepth 100000 in
set_option maxHeartbeats 4000000 in
theorem jrk_59_0 : jT_59_0.all (jrok 59) = true := by decide +kernel
theorem jrk_59 : jT_59.all (jrok 59) = true := by
  exact jrk_59_0
set_option maxRecDepth 100000 in
set_option maxHeartbeats 4000000 in
theorem jrk_60_0 : jT_60_0.all (jrok 60) = true := by decide +kernel
set_option maxRecDepth 100000 in
set_option maxHeartbeats 4000000 in
theorem jrk_60_1 : jT_60_1.all (jrok 60) = true := by decide +kernel
theorem jrk_60 : jT_60.all (jrok 60) = true := by
  unfold jT_60
  simp only [List.all_append, jrk_60_0, jrk_60_1, Bool.and_self]
set_option maxRecDepth 100000 in
set_option maxHeartbeats 4000000 in
theorem jrk_61_0 : jT_61_0.all (jrok 61) = true := by decide +kernel
theorem jrk_61 : jT_61.all (jrok 61) = true := by
  exact jrk_61_0
set_option maxRecDepth 100000 in
set_option maxHeartbeats 4000000 in
theorem jrk_62_0 : jT_62_0.all (jrok 62) = true := by decide +kernel
theorem jrk_62 : jT_62.all (jrok 62) = true := by
  exact jrk_62_0
set_option maxRecDepth 100000 in
set_option maxHeartbeats 4000000 in
theorem jrk_63_0 : jT_63_0.all (jrok 63) = true := by decide +kernel
theorem jrk_63 : jT_63.all (jrok 63) = true := by
  exact jrk_63_0
set_option maxRecDepth 100000 in
set_option maxHeartbeats 4000000 in
theorem jrk_64_0 : jT_64_0.all (jrok 64) = true := by decide +kernel
theorem jrk_64 : jT_64.all (jrok 64) = true := by
  exact jrk_64_0
set_option maxRecDepth 100000 in
set_option maxHeartbeats 4000000 in
theorem jrk_65_0 : jT_65_0.all (jrok 65) = true := by decide +kernel
set_option maxRecDepth 100000 in
set_option maxHeartbeats 4000000 in
theorem jrk_65_1 : jT_65_1.all (jrok 65) = true := by decide +kernel
theorem jrk_65 : jT_65.all (jrok 65) = true := by
  unfold jT_65
  simp only [List.all_append, jrk_65_0, jrk_65_1, Bool.and_self]
set_option maxRecDepth 100000 in
set_option maxHeartbeats 4000000 in
theorem jrk_66_0 : jT_66_0.all (jrok 66) = true := by decide +kernel
theorem jrk_66 : jT_66.all (jrok 66) = true := by
  exact jrk_66_0
set_option maxRecDepth 100000 in
set_option maxHeartbeats 4000000 in
theorem jrk_67_0 : jT_67_0.all (jrok 67) = true := by decide +kernel
theorem jrk_67 : jT_67.all (jrok 67) = true := by
  exact jrk_67_0
set_option maxRecDepth 100000 in
set_option maxHeartbeats 4000000 in
theorem jrk_68_0 : jT_68_0.all (jrok 68) = true := by decide +kernel
theorem jrk_68 : jT_68.all (jrok 68) = true := by
  exact jrk_68_0
set_option maxRecDepth 100000 in
set_option maxHeartbeats 4000000 in
theorem jrk_69_0 : jT_69_0.all (jrok 69) = true := by decide +kernel
theorem jrk_69 : jT_69.all (jrok 69) = true := by
  exact jrk_69_0
set_option maxRecDepth 100000 in
set_option maxHeartbeats 4000000 in
theorem jrk_70_0 : jT_70_0.all (jrok 70) = true := by decide +kernel
theorem jrk_70 : jT_70.all (jrok 70) = true := by
  exact jrk_70_0
set_option maxRecDepth 100000 in
set_option maxHeartbeats 4000000 in
theorem jrk_71_0 : jT_71_0.all (jrok 71) = true := by decide +kernel
set_option maxRecDepth 100000 in
set_option maxHeartbeats 4000000 in
theorem jrk_71_1 : jT_71_1.all (jrok 71) = true := by decide +kernel
set_option maxRecDepth 100000 in
set_option maxHeartbeats 4000000 in
theorem jrk_71_2 : jT_71_2.all (jrok 71) = true := by decide +kernel
theorem jrk_71 : jT_71.all (jrok 71) = true := by
  unfold jT_71
  simp only [List.all_append, jrk_71_0, jrk_71_1, jrk_71_2, Bool.and_self]
set_option maxRecDepth 100000 in
set_option maxHeartbeats 4000000 in
theorem jrk_72_0 : jT_72_0.all (jrok 72) = true := by decide +kernel
theorem jrk_72 : jT_72.all (jrok 72) = true := by
  exact jrk_72_0
set_option maxRecDepth 100000 in
set_option maxHeartbeats 4000000 in
theorem jrk_73_0 : jT_73_0.all (jrok 73) = true := by decide +kernel
theorem jrk_73 : jT_73.all (jrok 73) = true := by
  exact jrk_73_0
set_option maxRecDepth 100000 in
set_option maxHeartbeats 4000000 in
theorem jrk_74_0 : jT_74_0.all (jrok 74) = true := by decide +kernel
set_option maxRecDepth 100000 in
set_option maxHeartbeats 4000000 in
theorem jrk_74_1 : jT_74_1.all (jrok 74) = true := by decide +kernel
theorem jrk_74 : jT_74.all (jrok 74) = true := by
  unfold jT_74
  simp only [List.all_append, jrk_74_0, jrk_74_1, Bool.and_self]
set_option maxRecDepth 100000 in
set_option maxHeartbeats 4000000 in
theorem jrk_75_0 : jT_75_0.all (jrok 75) = true := by decide +kernel
set_option maxRecDepth 100000 in
set_option maxHeartbeats 4000000 in
theorem jrk_75_1 : jT_75_1.all (jrok 75) = true := by decide +kernel
theorem jrk_75 : jT_75.all (jrok 75) = true := by
  unfold jT_75
  simp only [List.all_append, jrk_75_0, jrk_75_1, Bool.and_self]
set_option maxRecDepth 100000 in
set_option maxHeartbeats 4000000 in
theorem jrk_76_0 : jT_76_0.all (jrok 76) = true := by decide +kernel
theorem jrk_76 : jT_76.all (jrok 76) = true := by
  exact jrk_76_0
set_option maxRecDepth 100000 in
set_option maxHeartbeats 4000000 in
theorem jrk_77_0 : jT_77_0.all (jrok 77) = true := by decide +kernel
theorem jrk_77 : jT_77.all (jrok 77) = true := by
  exact jrk_77_0
set_option maxRecDepth 100000 in
set_option maxHeartbeats 4000000 in
theorem jrk_78_0 : jT_78_0.all (jrok 78) = true := by decide +kernel
theorem jrk_78 : jT_78.all (jrok 78) = true := by
  exact jrk_78_0
set_option maxRecDepth 100000 in
set_option maxHeartbeats 4000000 in
theorem jrk_79_0 : jT_79_0.all (jrok 79) = true := by decide +kernel
theorem jrk_79 : jT_79.all (jrok 79) = true := by
  exact jrk_79_0
set_option maxRecDepth 100000 in
set_option maxHeartbeats 4000000 in
theorem jrk_80_0 : jT_80_0.all (jrok 80) = true := by decide +kernel
set_option maxRecDepth 100000 in
set_option maxHeartbeats 4000000 in
theorem jrk_80_1 : jT_80_1.all (jrok 80) = true := by decide +kernel
theorem jrk_80 : jT_80.all (jrok 80) = true := by
  unfold jT_80
  simp only [List.all_append, jrk_80_0, jrk_80_1, Bool.and_self]
set_option maxRecDepth 100000 in
set_option maxHeartbeats 4000000 in
theorem jrk_81_0 : jT_81_0.all (jrok 81) = true := by decide +kernel
theorem jrk_81 : jT_81.all (jrok 81) = true := by
  exact jrk_81_0
set_option maxRecDepth 100000 in
set_option maxHeartbeats 4000000 in
theorem jrk_82_0 : jT_82_0.all (jrok 82) = true := by decide +kernel
set_option maxRecDepth 100000 in
set_option maxHeartbeats 4000000 in
theorem jrk_82_1 : jT_82_1.all (jrok 82) = true := by decide +kernel
theorem jrk_82 : jT_82.all (jrok 82) = true := by
  unfold jT_82
  simp only [List.all_append, jrk_82_0, jrk_82_1, Bool.and_self]
set_option maxRecDepth 100000 in
set_option maxHeartbeats 4000000 in
theorem jrk_83_0 : jT_83_0.all (jrok 83) = true := by decide +kernel
set_option maxRecDepth 100000 in
set_option maxHeartbeats 4000000 in
theorem jrk_83_1 : jT_83_1.all (jrok 83) = true := by decide +kernel
theorem jrk_83 : jT_83.all (jrok 83) = true := by
  unfold jT_83
  simp only [List.all_append, jrk_83_0, jrk_83_1, Bool.and_self]
set_option maxRecDepth 100000 in
set_option maxHeartbeats 4000000 in
theorem jrk_84_0 : jT_84_0.all (jrok 84) = true := by decide +kernel
set_option maxRecDepth 100000 in
set_option maxHeartbeats 4000000 in
theorem jrk_84_1 : jT_84_1.all (jrok 84) = true := by decide +kernel
set_option maxRecDepth 100000 in
set_option maxHeartbeats 4000000 in
theorem jrk_84_2 : jT_84_2.all (jrok 84) = true := by decide +kernel
theorem jrk_84 : jT_84.all (jrok 84) = true := by
  unfold jT_84
  simp only [List.all_append, jrk_84_0, jrk_84_1, jrk_84_2, Bool.and_self]
set_option maxRecDepth 100000 in
set_option maxHeartbeats 4000000 in
theorem jrk_85_0 : jT_85_0.all (jrok 85) = true := by decide +kernel
set_option maxRecDepth 100000 in
set_option maxHeartbeats 4000000 in
theorem jrk_85_1 : jT_85_1.all (jrok 85) = true := by decide +kernel
theorem jrk_85 : jT_85.all (jrok 85) = true := by
  unfold jT_85
  simp only [List.all_append, jrk_85_0, jrk_85_1, Bool.and_self]
set_option maxRecDepth 100000 in
set_option maxHeartbeats 4000000 in
theorem jrk_86_0 : jT_86_0.all (jrok 86) = true := by decide +kernel
theorem jrk_86 : jT_86.all (jrok 86) = true := by
  exact jrk_86_0
set_option maxRecDepth 100000 in
set_option maxHeartbeats 4000000 in
theorem jrk_87_0 : jT_87_0.all (jrok 87) = true := by decide +kernel
theorem jrk_87 : jT_87.all (jrok 87) = true := by
  exact jrk_87_0
set_option maxRecDepth 100000 in
set_option maxHeartbeats 4000000 in
theorem jrk_88_0 : jT_88_0.all (jrok 88) = true := by decide +kernel
theorem jrk_88 : jT_88.all (jrok 88) = true := by
  exact jrk_88_0
set_option maxRecDepth 100000 in
set_option maxHeartbeats 4000000 in
theorem jrk_89_0 : jT_89_0.all (jrok 89) = true := by decide +kernel
theorem jrk_89 : jT_89.all (jrok 89) = true := by
  exact jrk_89_0
set_option maxRecDepth 100000 in
set_option maxHeartbeats 4000000 in
theorem jrk_90_0 : jT_90_0.all (jrok 90) = true := by decide +kernel
theorem jrk_90 : jT_90.all (jrok 90) = true := by
  exact jrk_90_0
set_option maxRecDepth 100000 in
set_option maxHeartbeats 4000000 in
theorem jrk_91_0 : jT_91_0.all (jrok 91) = true := by decide +kernel
theorem jrk_91 : jT_91.all (jrok 91) = true := by
  exact jrk_91_0
set_option maxRecDepth 100000 in
set_option maxHeartbeats 4000000 in
theorem jrk_92_0 : jT_92_0.all (jrok 92) = true := by decide +kernel
theorem jrk_92 : jT_92.all (jrok 92) = true := by
  exact jrk_92_0
set_option maxRecDepth 100000 in
set_option maxHeartbeats 4000000 in
theorem jrk_93_0 : jT_93_0.all (jrok 93) = true := by decide +kernel
