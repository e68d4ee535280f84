/-! rows checked, piece 2 -/
theorem jrk_93 : jT_93.all (jrok 93) = true := by
  exact jrk_93_0
set_option maxRecDepth 100000 in
set_option maxHeartbeats 4000000 in
theorem jrk_94_0 : jT_94_0.all (jrok 94) = true := by decide +kernel
theorem jrk_94 : jT_94.all (jrok 94) = true := by
  exact jrk_94_0
set_option maxRecDepth 100000 in
set_option maxHeartbeats 4000000 in
theorem jrk_95_0 : jT_95_0.all (jrok 95) = true := by decide +kernel
theorem jrk_95 : jT_95.all (jrok 95) = true := by
  exact jrk_95_0
set_option maxRecDepth 100000 in
set_option maxHeartbeats 4000000 in
theorem jrk_96_0 : jT_96_0.all (jrok 96) = true := by decide +kernel
theorem jrk_96 : jT_96.all (jrok 96) = true := by
  exact jrk_96_0
set_option maxRecDepth 100000 in
set_option maxHeartbeats 4000000 in
theorem jrk_97_0 : jT_97_0.all (jrok 97) = true := by decide +kernel
set_option maxRecDepth 100000 in
set_option maxHeartbeats 4000000 in
theorem jrk_97_1 : jT_97_1.all (jrok 97) = true := by decide +kernel
theorem jrk_97 : jT_97.all (jrok 97) = true := by
  unfold jT_97
  simp only [List.all_append, jrk_97_0, jrk_97_1, Bool.and_self]
set_option maxRecDepth 100000 in
set_option maxHeartbeats 4000000 in
theorem jrk_98_0 : jT_98_0.all (jrok 98) = true := by decide +kernel
theorem jrk_98 : jT_98.all (jrok 98) = true := by
  exact jrk_98_0
set_option maxRecDepth 100000 in
set_option maxHeartbeats 4000000 in
theorem jrk_99_0 : jT_99_0.all (jrok 99) = true := by decide +kernel
theorem jrk_99 : jT_99.all (jrok 99) = true := by
  exact jrk_99_0
set_option maxRecDepth 100000 in
set_option maxHeartbeats 4000000 in
theorem jrk_100_0 : jT_100_0.all (jrok 100) = true := by decide +kernel
theorem jrk_100 : jT_100.all (jrok 100) = true := by
  exact jrk_100_0
set_option maxRecDepth 100000 in
set_option maxHeartbeats 4000000 in
theorem jrk_101_0 : jT_101_0.all (jrok 101) = true := by decide +kernel
theorem jrk_101 : jT_101.all (jrok 101) = true := by
  exact jrk_101_0
set_option maxRecDepth 100000 in
set_option maxHeartbeats 4000000 in
theorem jrk_102_0 : jT_102_0.all (jrok 102) = true := by decide +kernel
set_option maxRecDepth 100000 in
set_option maxHeartbeats 4000000 in
theorem jrk_102_1 : jT_102_1.all (jrok 102) = true := by decide +kernel
theorem jrk_102 : jT_102.all (jrok 102) = true := by
  unfold jT_102
  simp only [List.all_append, jrk_102_0, jrk_102_1, Bool.and_self]
set_option maxRecDepth 100000 in
set_option maxHeartbeats 4000000 in
theorem jrk_103_0 : jT_103_0.all (jrok 103) = true := by decide +kernel
theorem jrk_103 : jT_103.all (jrok 103) = true := by
  exact jrk_103_0
set_option maxRecDepth 100000 in
set_option maxHeartbeats 4000000 in
theorem jrk_104_0 : jT_104_0.all (jrok 104) = true := by decide +kernel
set_option maxRecDepth 100000 in
set_option maxHeartbeats 4000000 in
theorem jrk_104_1 : jT_104_1.all (jrok 104) = true := by decide +kernel
theorem jrk_104 : jT_104.all (jrok 104) = true := by
  unfold jT_104
  simp only [List.all_append, jrk_104_0, jrk_104_1, Bool.and_self]
set_option maxRecDepth 100000 in
set_option maxHeartbeats 4000000 in
theorem jrk_105_0 : jT_105_0.all (jrok 105) = true := by decide +kernel
theorem jrk_105 : jT_105.all (jrok 105) = true := by
  exact jrk_105_0
set_option maxRecDepth 100000 in
set_option maxHeartbeats 4000000 in
theorem jrk_106_0 : jT_106_0.all (jrok 106) = true := by decide +kernel
theorem jrk_106 : jT_106.all (jrok 106) = true := by
  exact jrk_106_0
set_option maxRecDepth 100000 in
set_option maxHeartbeats 4000000 in
theorem jrk_107_0 : jT_107_0.all (jrok 107) = true := by decide +kernel
theorem jrk_107 : jT_107.all (jrok 107) = true := by
  exact jrk_107_0
set_option maxRecDepth 100000 in
set_option maxHeartbeats 4000000 in
theorem jrk_108_0 : jT_108_0.all (jrok 108) = true := by decide +kernel
theorem jrk_108 : jT_108.all (jrok 108) = true := by
  exact jrk_108_0
set_option maxRecDepth 100000 in
set_option maxHeartbeats 4000000 in
theorem jrk_109_0 : jT_109_0.all (jrok 109) = true := by decide +kernel
theorem jrk_109 : jT_109.all (jrok 109) = true := by
  exact jrk_109_0
set_option maxRecDepth 100000 in
set_option maxHeartbeats 4000000 in
theorem jrk_110_0 : jT_110_0.all (jrok 110) = true := by decide +kernel
theorem jrk_110 : jT_110.all (jrok 110) = true := by
  exact jrk_110_0
set_option maxRecDepth 100000 in
set_option maxHeartbeats 4000000 in
theorem jrk_111_0 : jT_111_0.all (jrok 111) = true := by decide +kernel
theorem jrk_111 : jT_111.all (jrok 111) = true := by
  exact jrk_111_0
set_option maxRecDepth 100000 in
set_option maxHeartbeats 4000000 in
theorem jrk_112_0 : jT_112_0.all (jrok 112) = true := by decide +kernel
theorem jrk_112 : jT_112.all (jrok 112) = true := by
  exact jrk_112_0
set_option maxRecDepth 100000 in
set_option maxHeartbeats 4000000 in
theorem jrk_113_0 : jT_113_0.all (jrok 113) = true := by decide +kernel
theorem jrk_113 : jT_113.all (jrok 113) = true := by
  exact jrk_113_0
set_option maxRecDepth 100000 in
set_option maxHeartbeats 4000000 in
theorem jrk_114_0 : jT_114_0.all (jrok 114) = true := by decide +kernel
set_option maxRecDepth 100000 in
set_option maxHeartbeats 4000000 in
theorem jrk_114_1 : jT_114_1.all (jrok 114) = true := by decide +kernel
theorem jrk_114 : jT_114.all (jrok 114) = true := by
  unfold jT_114
  simp only [List.all_append, jrk_114_0, jrk_114_1, Bool.and_self]
set_option maxRecDepth 100000 in
set_option maxHeartbeats 4000000 in
theorem jrk_115_0 : jT_115_0.all (jrok 115) = true := by decide +kernel
set_option maxRecDepth 100000 in
set_option maxHeartbeats 4000000 in
theorem jrk_115_1 : jT_115_1.all (jrok 115) = true := by decide +kernel
theorem jrk_115 : jT_115.all (jrok 115) = true := by
  unfold jT_115
  simp only [List.all_append, jrk_115_0, jrk_115_1, Bool.and_self]
set_option maxRecDepth 100000 in
set_option maxHeartbeats 4000000 in
theorem jrk_116_0 : jT_116_0.all (jrok 116) = true := by decide +kernel
set_option maxRecDepth 100000 in
set_option maxHeartbeats 4000000 in
theorem jrk_116_1 : jT_116_1.all (jrok 116) = true := by decide +kernel
theorem jrk_116 : jT_116.all (jrok 116) = true := by
  unfold jT_116
  simp only [List.all_append, jrk_116_0, jrk_116_1, Bool.and_self]
set_option maxRecDepth 100000 in
set_option maxHeartbeats 4000000 in
theorem jrk_117_0 : jT_117_0.all (jrok 117) = true := by decide +kernel
theorem jrk_117 : jT_117.all (jrok 117) = true := by
  exact jrk_117_0
set_option maxRecDepth 100000 in
set_option maxHeartbeats 4000000 in
theorem jrk_118_0 : jT_118_0.all (jrok 118) = true := by decide +kernel
theorem jrk_118 : jT_118.all (jrok 118) = true := by
  exact jrk_118_0
set_option maxRecDepth 100000 in
set_option maxHeartbeats 4000000 in
theorem jrk_119_0 : jT_119_0.all (jrok 119) = true := by decide +kernel
theorem jrk_119 : jT_119.all (jrok 119) = true := by
  exact jrk_119_0
set_option maxRecDepth 100000 in
set_option maxHeartbeats 4000000 in
theorem jrk_120_0 : jT_120_0.all (jrok 120) = true := by decide +kernel
theorem jrk_120 : jT_120.all (jrok 120) = true := by
  exact jrk_120_0
set_option maxRecDepth 100000 in
set_option maxHeartbeats 4000000 in
theorem jrk_121_0 : jT_121_0.all (jrok 121) = true := by decide +kernel
theorem jrk_121 : jT_121.all (jrok 121) = true := by
  exact jrk_121_0
set_option maxRecDepth 100000 in
set_option maxHeartbeats 4000000 in
theorem jrk_122_0 : jT_122_0.all (jrok 122) = true := by decide +kernel
set_option maxRecDepth 100000 in
set_option maxHeartbeats 4000000 in
theorem jrk_122_1 : jT_122_1.all (jrok 122) = true := by decide +kernel
theorem jrk_122 : jT_122.all (jrok 122) = true := by
  unfold jT_122
  simp only [List.all_append, jrk_122_0, jrk_122_1, Bool.and_self]
set_option maxRecDepth 100000 in
set_option maxHeartbeats 4000000 in
theorem jrk_123_0 : jT_123_0.all (jrok 123) = true := by decide +kernel
set_option maxRecDepth 100000 in
set_option maxHeartbeats 4000000 in
theorem jrk_123_1 : jT_123_1.all (jrok 123) = true := by decide +kernel
theorem jrk_123 : jT_123.all (jrok 123) = true := by
  unfold jT_123
  simp only [List.all_append, jrk_123_0, jrk_123_1, Bool.and_self]
set_option maxRecDepth 100000 in
set_option maxHeartbeats 4000000 in
theorem jrk_124_0 : jT_124_0.all (jrok 124) = true := by decide +kernel
theorem jrk_124 : jT_124.all (jrok 124) = true := by
  exact jrk_124_0
set_option maxRecDepth 100000 in
set_option maxHeartbeats 4000000 in
theorem jrk_125_0 : jT_125_0.all (jrok 125) = true := by decide +kernel
theorem jrk_125 : jT_125.all (jrok 125) = true := by
  exact jrk_125_0
set_option maxRecDepth 100000 in
set_option maxHeartbeats 4000000 in
theorem jrk_126_0 : jT_126_0.all (jrok 126) = true := by decide +kernel
theorem jrk_126 : jT_126.all (jrok 126) = true := by
  exact jrk_126_0
set_option maxRecDepth 100000 in
set_option maxHeartbeats 4000000 in
theorem jrk_127_0 : jT_127_0.all (jrok 127) = true := by decide +kernel
theorem jrk_127 : jT_127.all (jrok 127) = true := by
  exact jrk_127_0
set_option maxRecDepth 100000 in
set_option maxHeartbeats 4000000 in
theorem jrk_128_0 : jT_128_0.all (jrok 128) = true := by decide +kernel
theorem jrk_128 : jT_128.all (jrok 128) = true := by
  exact jrk_128_0
set_option maxRecDepth 100000 in
set_option maxHeartbeats 4000000 in
theorem jrk_129_0 : jT_129_0.all (jrok 129) = true := by decide +kernel
theorem jrk_129 : jT_129.all (jrok 129) = true := by
  exact jrk_129_0
set_option maxRecDepth 100000 in
set_option maxHeartbeats 4000000 in
theorem jrk_130_0 : jT_130_0.all (jrok 130) = true := by decide +kernel
theorem jrk_130 : jT_130.all (jrok 130) = true := by
  exact jrk_130_0
set_option maxRecDepth 100000 in
set_option maxHeartbeats 4000000 in
theorem jrk_131_0 : jT_131_0.all (jrok 131) = true := by decide +kernel
set_option maxRecDepth 100000 in
set_option maxHeartbeats 4000000 in
theorem jrk_131_1 : jT_131_1.all (jrok 131) = true := by decide +kernel
theorem jrk_131 : jT_131.all (jrok 131) = true := by
  unfold jT_131
  simp only [List.all_append, jrk_131_0, jrk_131_1, Bool.and_self]
set_option maxRecDepth 100000 in
set_option maxHeartbeats 4000000 in
theorem jrk_132_0 : jT_132_0.all (jrok 132) = true := by decide +kernel
theorem jrk_132 : jT_132.all (jrok 132) = true := by
  exact jrk_132_0
set_option maxRecDepth 100000 in
set_option maxHeartbeats 4000000 in
theorem jrk_133_0 : jT_133_0.all (jrok 133) = true := by decide +kernel
theorem jrk_133 : jT_133.all (jrok 133) = true := by
  exact jrk_133_0
set_option maxRecDepth 100000 in
set_option maxHeartbeats 4000000 in
theorem jrk_134_0 : jT_134_0.all (jrok 134) = true := by decide +kernel
set_option maxRecDepth 100000 in
set_option maxHeartbeats 4000000 in
theorem jrk_134_1 : jT_134_1.all (jrok 134) = true := by decide +kernel
theorem jrk_134 : jT_134.all (jrok 134) = true := by
  unfold jT_134
  simp only [List.all_append, jrk_134_0, jrk_134_1, Bool.and_self]
set_option maxRecDepth 100000 in
set_option maxHeartbeats 4000000 in
theorem jrk_135_0 : jT_135_0.all (jrok 135) = true := by decide +kernel
theorem jrk_135 : jT_135.all (jrok 135) = true := by
  exact jrk_135_0
set_option maxRecDepth 100000 in
set_option maxHeartbeats 4000000 in
theorem jrk_136_0 : jT_136_0.all (jrok 136) = true := by decide +kernel
theorem jrk_136 : jT_136.all (jrok 136) = true := by
  exact jrk_136_0
set_option maxRecDepth 100000 in
set_option maxHeartbeats 4000000 in
theorem jrk_137_0 : jT_137_0.all (jrok 137) = true := by decide +kernel
theorem jrk_137 : jT_137.all (jrok 137) = true := by
  exact jrk_137_0
set_option maxRecDepth 100000 in
set_option maxHeartbeats 4000000 in
theorem jrk_138_0 : jT_138_0.all (jrok 138) = true := by decide +kernel
theorem jrk_138 : jT_138.all (jrok 138) = true := by
  exact jrk_138_0
set_option maxRecDepth 100000 in
set_option maxHeartbeats 4000000 in
theorem jrk_139_0 : jT_139_0.all (jrok 139) = true := by decide +kernel
theorem jrk_139 : jT_139.all (jrok 139) = true := by
  exact jrk_139_0
set_option maxRecDepth 100000 in
set_option maxHeartbeats 4000000 in
theorem jrk_140_0 : jT_140_0.all (jrok 140) = true := by decide +kernel
theorem jrk_140 : jT_140.all (jrok 140) = true := by
  exact jrk_140_0
set_option maxRecDepth 100000 in
set_option maxHeartbeats 4000000 in
theorem jrk_141_0 : jT_141_0.all (jrok 141) = true := by decide +kernel
theorem jrk_141 : jT_141.all (jrok 141) = true := by
  exact jrk_141_0
set_option maxRecDepth 100000 in
set_option maxHeartbeats 4000000 in
theorem jrk_142_0 : jT_142_0.all (jrok 142) = true := by decide +kernel
theorem jrk_142 : jT_142.all (jrok 142) = true := by
  exact jrk_142_0
set_option maxRecDepth 100000 in
set_option maxHeartbeats 4000000 in
theorem jrk_143_0 : jT_143_0.all (jrok 143) = true := by decide +kernel
theorem jrk_143 : jT_143.all (jrok 143) = true := by
  exact jrk_143_0
set_option maxRecDepth 100000 in
set_option maxHeartbeats 4000000 in
theorem jrk_144_0 : jT_144_0.all (jrok 144) = true := by decide +kernel
set_option maxRecDepth 100000 in
set_option maxHeartbeats 4000000 in
theorem jrk_144_1 : jT_144_1.all (jrok 144) = true := by decide +kernel
theorem jrk_144 : jT_144.all (jrok 144) = true := by
  unfold jT_144
  simp only [List.all_append, jrk_144_0, jrk_144_1, Bool.and_self]
