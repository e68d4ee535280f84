set_option maxRecDepth 100000 in
set_option maxHeartbeats 4000000 in
theorem jmk_0 : (List.range 25).all (fun i => decide (0 + i = 0) || jmok (0 + i)) = true := by decide +kernel
set_option maxRecDepth 100000 in
set_option maxHeartbeats 4000000 in
theorem jmk_1 : (List.range 25).all (fun i => decide (25 + i = 0) || jmok (25 + i)) = true := by decide +kernel
set_option maxRecDepth 100000 in
set_option maxHeartbeats 4000000 in
theorem jmk_2 : (List.range 25).all (fun i => decide (50 + i = 0) || jmok (50 + i)) = true := by decide +kernel
set_option maxRecDepth 100000 in
set_option maxHeartbeats 4000000 in
theorem jmk_3 : (List.range 25).all (fun i => decide (75 + i = 0) || jmok (75 + i)) = true := by decide +kernel
set_option maxRecDepth 100000 in
set_option maxHeartbeats 4000000 in
theorem jmk_4 : (List.range 25).all (fun i => decide (100 + i = 0) || jmok (100 + i)) = true := by decide +kernel
set_option maxRecDepth 100000 in
set_option maxHeartbeats 4000000 in
theorem jmk_5 : (List.range 25).all (fun i => decide (125 + i = 0) || jmok (125 + i)) = true := by decide +kernel
set_option maxRecDepth 100000 in
set_option maxHeartbeats 4000000 in
theorem jmk_6 : (List.range 25).all (fun i => decide (150 + i = 0) || jmok (150 + i)) = true := by decide +kernel
set_option maxRecDepth 100000 in
set_option maxHeartbeats 4000000 in
theorem jmk_7 : (List.range 25).all (fun i => decide (175 + i = 0) || jmok (175 + i)) = true := by decide +kernel
set_option maxRecDepth 100000 in
set_option maxHeartbeats 4000000 in
theorem jmk_8 : (List.range 25).all (fun i => decide (200 + i = 0) || jmok (200 + i)) = true := by decide +kernel
set_option maxRecDepth 100000 in
set_option maxHeartbeats 4000000 in
theorem jmk_9 : (List.range 25).all (fun i => decide (225 + i = 0) || jmok (225 + i)) = true := by decide +kernel
set_option maxRecDepth 100000 in
set_option maxHeartbeats 4000000 in
theorem jmk_10 : (List.range 25).all (fun i => decide (250 + i = 0) || jmok (250 + i)) = true := by decide +kernel
set_option maxRecDepth 100000 in
set_option maxHeartbeats 4000000 in
theorem jmk_11 : (List.range 25).all (fun i => decide (275 + i = 0) || jmok (275 + i)) = true := by decide +kernel
set_option maxRecDepth 100000 in
set_option maxHeartbeats 4000000 in
theorem jmk_12 : (List.range 25).all (fun i => decide (300 + i = 0) || jmok (300 + i)) = true := by decide +kernel
set_option maxRecDepth 100000 in
set_option maxHeartbeats 4000000 in
theorem jmk_13 : (List.range 25).all (fun i => decide (325 + i = 0) || jmok (325 + i)) = true := by decide +kernel
set_option maxRecDepth 100000 in
set_option maxHeartbeats 4000000 in
theorem jmk_14 : (List.range 22).all (fun i => decide (350 + i = 0) || jmok (350 + i)) = true := by decide +kernel
def jAll : Nat → List (List jRow) → Prop
  | _, [] => True
  | k, t :: r => t.all (jrok k) = true ∧ jAll (k + 1) r
theorem jAllc {k k2 : Nat} {t : List jRow} {r : List (List jRow)} (hk : k + 1 = k2) (h : t.all (jrok k) = true) (h2 : jAll k2 r) : jAll k (t :: r) := by
  subst hk
  exact ⟨h, h2⟩
theorem jAll_app : ∀ (a b : List (List jRow)) (k k2 : Nat), k + a.length = k2 → jAll k a → jAll k2 b → jAll k (a ++ b) := by
  intro a
  induction a with
  | nil => intro b k k2 hk _ h; rw [← hk] at h; exact h
  | cons t r ih =>
    intro b k k2 hk h h2
    exact ⟨h.1, ih b (k + 1) k2 (by rw [← hk]; simp; omega) h.2 h2⟩
theorem jAll_at : ∀ (a : List (List jRow)) (k i : Nat) (t : List jRow), jAll k a → a[i]? = some t → t.all (jrok (k + i)) = true := by
  intro a
  induction a with
  | nil => intro k i t _ h; simp at h
  | cons u r ih =>
    intro k i t h h2
    cases i with
    | zero => cases h2; exact h.1
    | succ i =>
      have := ih (k + 1) i t h.2 (by simpa using h2)
      rw [show k + (i + 1) = k + 1 + i by omega]
      exact this
set_option maxRecDepth 100000 in
theorem jak_0 : jAll 0 jTs_0 := by
  unfold jTs_0
  exact jAllc (k := 0) (k2 := 1) rfl jrk_0 (jAllc (k := 1) (k2 := 2) rfl jrk_1 (jAllc (k := 2) (k2 := 3) rfl jrk_2 (jAllc (k := 3) (k2 := 4) rfl jrk_3 (jAllc (k := 4) (k2 := 5) rfl jrk_4 (jAllc (k := 5) (k2 := 6) rfl jrk_5 (jAllc (k := 6) (k2 := 7) rfl jrk_6 (jAllc (k := 7) (k2 := 8) rfl jrk_7 (jAllc (k := 8) (k2 := 9) rfl jrk_8 (jAllc (k := 9) (k2 := 10) rfl jrk_9 (jAllc (k := 10) (k2 := 11) rfl jrk_10 (jAllc (k := 11) (k2 := 12) rfl jrk_11 (jAllc (k := 12) (k2 := 13) rfl jrk_12 (jAllc (k := 13) (k2 := 14) rfl jrk_13 (jAllc (k := 14) (k2 := 15) rfl jrk_14 (jAllc (k := 15) (k2 := 16) rfl jrk_15 (jAllc (k := 16) (k2 := 17) rfl jrk_16 (jAllc (k := 17) (k2 := 18) rfl jrk_17 (jAllc (k := 18) (k2 := 19) rfl jrk_18 (jAllc (k := 19) (k2 := 20) rfl jrk_19 (jAllc (k := 20) (k2 := 21) rfl jrk_20 (jAllc (k := 21) (k2 := 22) rfl jrk_21 (jAllc (k := 22) (k2 := 23) rfl jrk_22 (jAllc (k := 23) (k2 := 24) rfl jrk_23 (jAllc (k := 24) (k2 := 25) rfl jrk_24 (trivial)))))))))))))))))))))))))
set_option maxRecDepth 100000 in
theorem jak_1 : jAll 25 jTs_1 := by
  unfold jTs_1
  exact jAllc (k := 25) (k2 := 26) rfl jrk_25 (jAllc (k := 26) (k2 := 27) rfl jrk_26 (jAllc (k := 27) (k2 := 28) rfl jrk_27 (jAllc (k := 28) (k2 := 29) rfl jrk_28 (jAllc (k := 29) (k2 := 30) rfl jrk_29 (jAllc (k := 30) (k2 := 31) rfl jrk_30 (jAllc (k := 31) (k2 := 32) rfl jrk_31 (jAllc (k := 32) (k2 := 33) rfl jrk_32 (jAllc (k := 33) (k2 := 34) rfl jrk_33 (jAllc (k := 34) (k2 := 35) rfl jrk_34 (jAllc (k := 35) (k2 := 36) rfl jrk_35 (jAllc (k := 36) (k2 := 37) rfl jrk_36 (jAllc (k := 37) (k2 := 38) rfl jrk_37 (jAllc (k := 38) (k2 := 39) rfl jrk_38 (jAllc (k := 39) (k2 := 40) rfl jrk_39 (jAllc (k := 40) (k2 := 41) rfl jrk_40 (jAllc (k := 41) (k2 := 42) rfl jrk_41 (jAllc (k := 42) (k2 := 43) rfl jrk_42 (jAllc (k := 43) (k2 := 44) rfl jrk_43 (jAllc (k := 44) (k2 := 45) rfl jrk_44 (jAllc (k := 45) (k2 := 46) rfl jrk_45 (jAllc (k := 46) (k2 := 47) rfl jrk_46 (jAllc (k := 47) (k2 := 48) rfl jrk_47 (jAllc (k := 48) (k2 := 49) rfl jrk_48 (jAllc (k := 49) (k2 := 50) rfl jrk_49 (trivial)))))))))))))))))))))))))
set_option maxRecDepth 100000 in
theorem jak_2 : jAll 50 jTs_2 := by
  unfold jTs_2
  exact jAllc (k := 50) (k2 := 51) rfl jrk_50 (jAllc (k := 51) (k2 := 52) rfl jrk_51 (jAllc (k := 52) (k2 := 53) rfl jrk_52 (jAllc (k := 53) (k2 := 54) rfl jrk_53 (jAllc (k := 54) (k2 := 55) rfl jrk_54 (jAllc (k := 55) (k2 := 56) rfl jrk_55 (jAllc (k := 56) (k2 := 57) rfl jrk_56 (jAllc (k := 57) (k2 := 58) rfl jrk_57 (jAllc (k := 58) (k2 := 59) rfl jrk_58 (jAllc (k := 59) (k2 := 60) rfl jrk_59 (jAllc (k := 60) (k2 := 61) rfl jrk_60 (jAllc (k := 61) (k2 := 62) rfl jrk_61 (jAllc (k := 62) (k2 := 63) rfl jrk_62 (jAllc (k := 63) (k2 := 64) rfl jrk_63 (jAllc (k := 64) (k2 := 65) rfl jrk_64 (jAllc (k := 65) (k2 := 66) rfl jrk_65 (jAllc (k := 66) (k2 := 67) rfl jrk_66 (jAllc (k := 67) (k2 := 68) rfl jrk_67 (jAllc (k := 68) (k2 := 69) rfl jrk_68 (jAllc (k := 69) (k2 := 70) rfl jrk_69 (jAllc (k := 70) (k2 := 71) rfl jrk_70 (jAllc (k := 71) (k2 := 72) rfl jrk_71 (jAllc (k := 72) (k2 := 73) rfl jrk_72 (jAllc (k := 73) (k2 := 74) rfl jrk_73 (jAllc (k := 74) (k2 := 75) rfl jrk_74 (trivial)))))))))))))))))))))))))
set_option maxRecDepth 100000 in
theorem jak_3 : jAll 75 jTs_3 := by
  unfold jTs_3
  exact jAllc (k := 75) (k2 := 76) rfl jrk_75 (jAllc (k := 76) (k2 := 77) rfl jrk_76 (jAllc (k := 77) (k2 := 78) rfl jrk_77 (jAllc (k := 78) (k2 := 79) rfl jrk_78 (jAllc (k := 79) (k2 := 80) rfl jrk_79 (jAllc (k := 80) (k2 := 81) rfl jrk_80 (jAllc (k := 81) (k2 := 82) rfl jrk_81 (jAllc (k := 82) (k2 := 83) rfl jrk_82 (jAllc (k := 83) (k2 := 84) rfl jrk_83 (jAllc (k := 84) (k2 := 85) rfl jrk_84 (jAllc (k := 85) (k2 := 86) rfl jrk_85 (jAllc (k := 86) (k2 := 87) rfl jrk_86 (jAllc (k := 87) (k2 := 88) rfl jrk_87 (jAllc (k := 88) (k2 := 89) rfl jrk_88 (jAllc (k := 89) (k2 := 90) rfl jrk_89 (jAllc (k := 90) (k2 := 91) rfl jrk_90 (jAllc (k := 91) (k2 := 92) rfl jrk_91 (jAllc (k := 92) (k2 := 93) rfl jrk_92 (jAllc (k := 93) (k2 := 94) rfl jrk_93 (jAllc (k := 94) (k2 := 95) rfl jrk_94 (jAllc (k := 95) (k2 := 96) rfl jrk_95 (jAllc (k := 96) (k2 := 97) rfl jrk_96 (jAllc (k := 97) (k2 := 98) rfl jrk_97 (jAllc (k := 98) (k2 := 99) rfl jrk_98 (jAllc (k := 99) (k2 := 100) rfl jrk_99 (trivial)))))))))))))))))))))))))
set_option maxRecDepth 100000 in
theorem jak_4 : jAll 100 jTs_4 := by
  unfold jTs_4
  exact jAllc (k := 100) (k2 := 101) rfl jrk_100 (jAllc (k := 101) (k2 := 102) rfl jrk_101 (jAllc (k := 102) (k2 := 103) rfl jrk_102 (jAllc (k := 103) (k2 := 104) rfl jrk_103 (jAllc (k := 104) (k2 := 105) rfl jrk_104 (jAllc (k := 105) (k2 := 106) rfl jrk_105 (jAllc (k := 106) (k2 := 107) rfl jrk_106 (jAllc (k := 107) (k2 := 108) rfl jrk_107 (jAllc (k := 108) (k2 := 109) rfl jrk_108 (jAllc (k := 109) (k2 := 110) rfl jrk_109 (jAllc (k := 110) (k2 := 111) rfl jrk_110 (jAllc (k := 111) (k2 := 112) rfl jrk_111 (jAllc (k := 112) (k2 := 113) rfl jrk_112 (jAllc (k := 113) (k2 := 114) rfl jrk_113 (jAllc (k := 114) (k2 := 115) rfl jrk_114 (jAllc (k := 115) (k2 := 116) rfl jrk_115 (jAllc (k := 116) (k2 := 117) rfl jrk_116 (jAllc (k := 117) (k2 := 118) rfl jrk_117 (jAllc (k := 118) (k2 := 119) rfl jrk_118 (jAllc (k := 119) (k2 := 120) rfl jrk_119 (jAllc (k := 120) (k2 := 121) rfl jrk_120 (jAllc (k := 121) (k2 := 122) rfl jrk_121 (jAllc (k := 122) (k2 := 123) rfl jrk_122 (jAllc (k := 123) (k2 := 124) rfl jrk_123 (jAllc (k := 124) (k2 := 125) rfl jrk_124 (trivial)))))))))))))))))))))))))
set_option maxRecDepth 100000 in
theorem jak_5 : jAll 125 jTs_5 := by
  unfold jTs_5
  exact jAllc (k := 125) (k2 := 126) rfl jrk_125 (jAllc (k := 126) (k2 := 127) rfl jrk_126 (jAllc (k := 127) (k2 := 128) rfl jrk_127 (jAllc (k := 128) (k2 := 129) rfl jrk_128 (jAllc (k := 129) (k2 := 130) rfl jrk_129 (jAllc (k := 130) (k2 := 131) rfl jrk_130 (jAllc (k := 131) (k2 := 132) rfl jrk_131 (jAllc (k := 132) (k2 := 133) rfl jrk_132 (jAllc (k := 133) (k2 := 134) rfl jrk_133 (jAllc (k := 134) (k2 := 135) rfl jrk_134 (jAllc (k := 135) (k2 := 136) rfl jrk_135 (jAllc (k := 136) (k2 := 137) rfl jrk_136 (jAllc (k := 137) (k2 := 138) rfl jrk_137 (jAllc (k := 138) (k2 := 139) rfl jrk_138 (jAllc (k := 139) (k2 := 140) rfl jrk_139 (jAllc (k := 140) (k2 := 141) rfl jrk_140 (jAllc (k := 141) (k2 := 142) rfl jrk_141 (jAllc (k := 142) (k2 := 143) rfl jrk_142 (jAllc (k := 143) (k2 := 144) rfl jrk_143 (jAllc (k := 144) (k2 := 145) rfl jrk_144 (jAllc (k := 145) (k2 := 146) rfl jrk_145 (jAllc (k := 146) (k2 := 147) rfl jrk_146 (jAllc (k := 147) (k2 := 148) rfl jrk_147 (jAllc (k := 148) (k2 := 149) rfl jrk_148 (jAllc (k := 149) (k2 := 150) rfl jrk_149 (trivial)))))))))))))))))))))))))
set_option maxRecDepth 100000 in
theorem jak_6 : jAll 150 jTs_6 := by
  unfold jTs_6
  exact jAllc (k := 150) (k2 := 151) rfl jrk_150 (jAllc (k := 151) (k2 := 152) rfl jrk_151 (jAllc (k := 152) (k2 := 153) rfl jrk_152 (jAllc (k := 153) (k2 := 154) rfl jrk_153 (jAllc (k := 154) (k2 := 155) rfl jrk_154 (jAllc (k := 155) (k2 := 156) rfl jrk_155 (jAllc (k := 156) (k2 := 157) rfl jrk_156 (jAllc (k := 157) (k2 := 158) rfl jrk_157 (jAllc (k := 158) (k2 := 159) rfl jrk_158 (jAllc (k := 159) (k2 := 160) rfl jrk_159 (jAllc (k := 160) (k2 := 161) rfl jrk_160 (jAllc (k := 161) (k2 := 162) rfl jrk_161 (jAllc (k := 162) (k2 := 163) rfl jrk_162 (jAllc (k := 163) (k2 := 164) rfl jrk_163 (jAllc (k := 164) (k2 := 165) rfl jrk_164 (jAllc (k := 165) (k2 := 166) rfl jrk_165 (jAllc (k := 166) (k2 := 167) rfl jrk_166 (jAllc (k := 167) (k2 := 168) rfl jrk_167 (jAllc (k := 168) (k2 := 169) rfl jrk_168 (jAllc (k := 169) (k2 := 170) rfl jrk_169 (jAllc (k := 170) (k2 := 171) rfl jrk_170 (jAllc (k := 171) (k2 := 172) rfl jrk_171 (jAllc (k := 172) (k2 := 173) rfl jrk_172 (jAllc (k := 173) (k2 := 174) rfl jrk_173 (jAllc (k := 174) (k2 := 175) rfl jrk_174 (trivial)))))))))))))))))))))))))
set_option maxRecDepth 100000 in
theorem jak_7 : jAll 175 jTs_7 := by
  unfold jTs_7
  exact jAllc (k := 175) (k2 := 176) rfl jrk_175 (jAllc (k := 176) (k2 := 177) rfl jrk_176 (jAllc (k := 177) (k2 := 178) rfl jrk_177 (jAllc (k := 178) (k2 := 179) rfl jrk_178 (jAllc (k := 179) (k2 := 180) rfl jrk_179 (jAllc (k := 180) (k2 := 181) rfl jrk_180 (jAllc (k := 181) (k2 := 182) rfl jrk_181 (jAllc (k := 182) (k2 := 183) rfl jrk_182 (jAllc (k := 183) (k2 := 184) rfl jrk_183 (jAllc (k := 184) (k2 := 185) rfl jrk_184 (jAllc (k := 185) (k2 := 186) rfl jrk_185 (jAllc (k := 186) (k2 := 187) rfl jrk_186 (jAllc (k := 187) (k2 := 188) rfl jrk_187 (jAllc (k := 188) (k2 := 189) rfl jrk_188 (jAllc (k := 189) (k2 := 190) rfl jrk_189 (jAllc (k := 190) (k2 := 191) rfl jrk_190 (jAllc (k := 191) (k2 := 192) rfl jrk_191 (jAllc (k := 192) (k2 := 193) rfl jrk_192 (jAllc (k := 193) (k2 := 194) rfl jrk_193 (jAllc (k := 194) (k2 := 195) rfl jrk_194 (jAllc (k := 195) (k2 := 196) rfl jrk_195 (jAllc (k := 196) (k2 := 197) rfl jrk_196 (jAllc (k := 197) (k2 := 198) rfl jrk_197 (jAllc (k := 198) (k2 := 199) rfl jrk_198 (jAllc (k := 199) (k2 := 200) rfl jrk_199 (trivial)))))))))))))))))))))))))
set_option maxRecDepth 100000 in
theorem jak_8 : jAll 200 jTs_8 := by
  unfold jTs_8
  exact jAllc (k := 200) (k2 := 201) rfl jrk_200 (jAllc (k := 201) (k2 := 202) rfl jrk_201 (jAllc (k := 202) (k2 := 203) rfl jrk_202 (jAllc (k := 203) (k2 := 204) rfl jrk_203 (jAllc (k := 204) (k2 := 205) rfl jrk_204 (jAllc (k := 205) (k2 := 206) rfl jrk_205 (jAllc (k := 206) (k2 := 207) rfl jrk_206 (jAllc (k := 207) (k2 := 208) rfl jrk_207 (jAllc (k := 208) (k2 := 209) rfl jrk_208 (jAllc (k := 209) (k2 := 210) rfl jrk_209 (jAllc (k := 210) (k2 := 211) rfl jrk_210 (jAllc (k := 211) (k2 := 212) rfl jrk_211 (jAllc (k := 212) (k2 := 213) rfl jrk_212 (jAllc (k := 213) (k2 := 214) rfl jrk_213 (jAllc (k := 214) (k2 := 215) rfl jrk_214 (jAllc (k := 215) (k2 := 216) rfl jrk_215 (jAllc (k := 216) (k2 := 217) rfl jrk_216 (jAllc (k := 217) (k2 := 218) rfl jrk_217 (jAllc (k := 218) (k2 := 219) rfl jrk_218 (jAllc (k := 219) (k2 := 220) rfl jrk_219 (jAllc (k := 220) (k2 := 221) rfl jrk_220 (jAllc (k := 221) (k2 := 222) rfl jrk_221 (jAllc (k := 222) (k2 := 223) rfl jrk_222 (jAllc (k := 223) (k2 := 224) rfl jrk_223 (jAllc (k := 224) (k2 := 225) rfl jrk_224 (trivial)))))))))))))))))))))))))
set_option maxRecDepth 100000 in
theorem jak_9 : jAll 225 jTs_9 := by
  unfold jTs_9
  exact jAllc (k := 225) (k2 := 226) rfl jrk_225 (jAllc (k := 226) (k2 := 227) rfl jrk_226 (jAllc (k := 227) (k2 := 228) rfl jrk_227 (jAllc (k := 228) (k2 := 229) rfl jrk_228 (jAllc (k := 229) (k2 := 230) rfl jrk_229 (jAllc (k := 230) (k2 := 231) rfl jrk_230 (jAllc (k := 231) (k2 := 232) rfl jrk_231 (jAllc (k := 232) (k2 := 233) rfl jrk_232 (jAllc (k := 233) (k2 := 234) rfl jrk_233 (jAllc (k := 234) (k2 := 235) rfl jrk_234 (jAllc (k := 235) (k2 := 236) rfl jrk_235 (jAllc (k := 236) (k2 := 237) rfl jrk_236 (jAllc (k := 237) (k2 := 238) rfl jrk_237 (jAllc (k := 238) (k2 := 239) rfl jrk_238 (jAllc (k := 239) (k2 := 240) rfl jrk_239 (jAllc (k := 240) (k2 := 241) rfl jrk_240 (jAllc (k := 241) (k2 := 242) rfl jrk_241 (jAllc (k := 242) (k2 := 243) rfl jrk_242 (jAllc (k := 243) (k2 := 244) rfl jrk_243 (jAllc (k := 244) (k2 := 245) rfl jrk_244 (jAllc (k := 245) (k2 := 246) rfl jrk_245 (jAllc (k := 246) (k2 := 247) rfl jrk_246 (jAllc (k := 247) (k2 := 248) rfl jrk_247 (jAllc (k := 248) (k2 := 249) rfl jrk_248 (jAllc (k := 249) (k2 := 250) rfl jrk_249 (trivial)))))))))))))))))))))))))
set_option maxRecDepth 100000 in
theorem jak_10 : jAll 250 jTs_10 := by
  unfold jTs_10
  exact jAllc (k := 250) (k2 := 251) rfl jrk_250 (jAllc (k := 251) (k2 := 252) rfl jrk_251 (jAllc (k := 252) (k2 := 253) rfl jrk_252 (jAllc (k := 253) (k2 := 254) rfl jrk_253 (jAllc (k := 254) (k2 := 255) rfl jrk_254 (jAllc (k := 255) (k2 := 256) rfl jrk_255 (jAllc (k := 256) (k2 := 257) rfl jrk_256 (jAllc (k := 257) (k2 := 258) rfl jrk_257 (jAllc (k := 258) (k2 := 259) rfl jrk_258 (jAllc (k := 259) (k2 := 260) rfl jrk_259 (jAllc (k := 260) (k2 := 261) rfl jrk_260 (jAllc (k := 261) (k2 := 262) rfl jrk_261 (jAllc (k := 262) (k2 := 263) rfl jrk_262 (jAllc (k := 263) (k2 := 264) rfl jrk_263 (jAllc (k := 264) (k2 := 265) rfl jrk_264 (jAllc (k := 265) (k2 := 266) rfl jrk_265 (jAllc (k := 266) (k2 := 267) rfl jrk_266 (jAllc (k := 267) (k2 := 268) rfl jrk_267 (jAllc (k := 268) (k2 := 269) rfl jrk_268 (jAllc (k := 269) (k2 := 270) rfl jrk_269 (jAllc (k := 270) (k2 := 271) rfl jrk_270 (jAllc (k := 271) (k2 := 272) rfl jrk_271 (jAllc (k := 272) (k2 := 273) rfl jrk_272 (jAllc (k := 273) (k2 := 274) rfl jrk_273 (jAllc (k := 274) (k2 := 275) rfl jrk_274 (trivial)))))))))))))))))))))))))
set_option maxRecDepth 100000 in
theorem jak_11 : jAll 275 jTs_11 := by
  unfold jTs_11
  exact jAllc (k := 275) (k2 := 276) rfl jrk_275 (jAllc (k := 276) (k2 := 277) rfl jrk_276 (jAllc (k := 277) (k2 := 278) rfl jrk_277 (jAllc (k := 278) (k2 := 279) rfl jrk_278 (jAllc (k := 279) (k2 := 280) rfl jrk_279 (jAllc (k := 280) (k2 := 281) rfl jrk_280 (jAllc (k := 281) (k2 := 282) rfl jrk_281 (jAllc (k := 282) (k2 := 283) rfl jrk_282 (jAllc (k := 283) (k2 := 284) rfl jrk_283 (jAllc (k := 284) (k2 := 285) rfl jrk_284 (jAllc (k := 285) (k2 := 286) rfl jrk_285 (jAllc (k := 286) (k2 := 287) rfl jrk_286 (jAllc (k := 287) (k2 := 288) rfl jrk_287 (jAllc (k := 288) (k2 := 289) rfl jrk_288 (jAllc (k := 289) (k2 := 290) rfl jrk_289 (jAllc (k := 290) (k2 := 291) rfl jrk_290 (jAllc (k := 291) (k2 := 292) rfl jrk_291 (jAllc (k := 292) (k2 := 293) rfl jrk_292 (jAllc (k := 293) (k2 := 294) rfl jrk_293 (jAllc (k := 294) (k2 := 295) rfl jrk_294 (jAllc (k := 295) (k2 := 296) rfl jrk_295 (jAllc (k := 296) (k2 := 297) rfl jrk_296 (jAllc (k := 297) (k2 := 298) rfl jrk_297 (jAllc (k := 298) (k2 := 299) rfl jrk_298 (jAllc (k := 299) (k2 := 300) rfl jrk_299 (trivial)))))))))))))))))))))))))
set_option maxRecDepth 100000 in
theorem jak_12 : jAll 300 jTs_12 := by
  unfold jTs_12
  exact jAllc (k := 300) (k2 := 301) rfl jrk_300 (jAllc (k := 301) (k2 := 302) rfl jrk_301 (jAllc (k := 302) (k2 := 303) rfl jrk_302 (jAllc (k := 303) (k2 := 304) rfl jrk_303 (jAllc (k := 304) (k2 := 305) rfl jrk_304 (jAllc (k := 305) (k2 := 306) rfl jrk_305 (jAllc (k := 306) (k2 := 307) rfl jrk_306 (jAllc (k := 307) (k2 := 308) rfl jrk_307 (jAllc (k := 308) (k2 := 309) rfl jrk_308 (jAllc (k := 309) (k2 := 310) rfl jrk_309 (jAllc (k := 310) (k2 := 311) rfl jrk_310 (jAllc (k := 311) (k2 := 312) rfl jrk_311 (jAllc (k := 312) (k2 := 313) rfl jrk_312 (jAllc (k := 313) (k2 := 314) rfl jrk_313 (jAllc (k := 314) (k2 := 315) rfl jrk_314 (jAllc (k := 315) (k2 := 316) rfl jrk_315 (jAllc (k := 316) (k2 := 317) rfl jrk_316 (jAllc (k := 317) (k2 := 318) rfl jrk_317 (jAllc (k := 318) (k2 := 319) rfl jrk_318 (jAllc (k := 319) (k2 := 320) rfl jrk_319 (jAllc (k := 320) (k2 := 321) rfl jrk_320 (jAllc (k := 321) (k2 := 322) rfl jrk_321 (jAllc (k := 322) (k2 := 323) rfl jrk_322 (jAllc (k := 323) (k2 := 324) rfl jrk_323 (jAllc (k := 324) (k2 := 325) rfl jrk_324 (trivial)))))))))))))))))))))))))
set_option maxRecDepth 100000 in
theorem jak_13 : jAll 325 jTs_13 := by
  unfold jTs_13
  exact jAllc (k := 325) (k2 := 326) rfl jrk_325 (jAllc (k := 326) (k2 := 327) rfl jrk_326 (jAllc (k := 327) (k2 := 328) rfl jrk_327 (jAllc (k := 328) (k2 := 329) rfl jrk_328 (jAllc (k := 329) (k2 := 330) rfl jrk_329 (jAllc (k := 330) (k2 := 331) rfl jrk_330 (jAllc (k := 331) (k2 := 332) rfl jrk_331 (jAllc (k := 332) (k2 := 333) rfl jrk_332 (jAllc (k := 333) (k2 := 334) rfl jrk_333 (jAllc (k := 334) (k2 := 335) rfl jrk_334 (jAllc (k := 335) (k2 := 336) rfl jrk_335 (jAllc (k := 336) (k2 := 337) rfl jrk_336 (jAllc (k := 337) (k2 := 338) rfl jrk_337 (jAllc (k := 338) (k2 := 339) rfl jrk_338 (jAllc (k := 339) (k2 := 340) rfl jrk_339 (jAllc (k := 340) (k2 := 341) rfl jrk_340 (jAllc (k := 341) (k2 := 342) rfl jrk_341 (jAllc (k := 342) (k2 := 343) rfl jrk_342 (jAllc (k := 343) (k2 := 344) rfl jrk_343 (jAllc (k := 344) (k2 := 345) rfl jrk_344 (jAllc (k := 345) (k2 := 346) rfl jrk_345 (jAllc (k := 346) (k2 := 347) rfl jrk_346 (jAllc (k := 347) (k2 := 348) rfl jrk_347 (jAllc (k := 348) (k2 := 349) rfl jrk_348 (jAllc (k := 349) (k2 := 350) rfl jrk_349 (trivial)))))))))))))))))))))))))
set_option maxRecDepth 100000 in
theorem jak_14 : jAll 350 jTs_14 := by
  unfold jTs_14
  exact jAllc (k := 350) (k2 := 351) rfl jrk_350 (jAllc (k := 351) (k2 := 352) rfl jrk_351 (jAllc (k := 352) (k2 := 353) rfl jrk_352 (jAllc (k := 353) (k2 := 354) rfl jrk_353 (jAllc (k := 354) (k2 := 355) rfl jrk_354 (jAllc (k := 355) (k2 := 356) rfl jrk_355 (jAllc (k := 356) (k2 := 357) rfl jrk_356 (jAllc (k := 357) (k2 := 358) rfl jrk_357 (jAllc (k := 358) (k2 := 359) rfl jrk_358 (jAllc (k := 359) (k2 := 360) rfl jrk_359 (jAllc (k := 360) (k2 := 361) rfl jrk_360 (jAllc (k := 361) (k2 := 362) rfl jrk_361 (jAllc (k := 362) (k2 := 363) rfl jrk_362 (jAllc (k := 363) (k2 := 364) rfl jrk_363 (jAllc (k := 364) (k2 := 365) rfl jrk_364 (jAllc (k := 365) (k2 := 366) rfl jrk_365 (jAllc (k := 366) (k2 := 367) rfl jrk_366 (jAllc (k := 367) (k2 := 368) rfl jrk_367 (jAllc (k := 368) (k2 := 369) rfl jrk_368 (jAllc (k := 369) (k2 := 370) rfl jrk_369 (jAllc (k := 370) (k2 := 371) rfl jrk_370 (jAllc (k := 371) (k2 := 372) rfl jrk_371 (trivial))))))))))))))))))))))
theorem jak : jAll 0 jTs := jAll_app jTs_0 _ 0 25 (by decide +kernel) jak_0 (jAll_app jTs_1 _ 25 50 (by decide +kernel) jak_1 (jAll_app jTs_2 _ 50 75 (by decide +kernel) jak_2 (jAll_app jTs_3 _ 75 100 (by decide +kernel) jak_3 (jAll_app jTs_4 _ 100 125 (by decide +kernel) jak_4 (jAll_app jTs_5 _ 125 150 (by decide +kernel) jak_5 (jAll_app jTs_6 _ 150 175 (by decide +kernel) jak_6 (jAll_app jTs_7 _ 175 200 (by decide +kernel) jak_7 (jAll_app jTs_8 _ 200 225 (by decide +kernel) jak_8 (jAll_app jTs_9 _ 225 250 (by decide +kernel) jak_9 (jAll_app jTs_10 _ 250 275 (by decide +kernel) jak_10 (jAll_app jTs_11 _ 275 300 (by decide +kernel) jak_11 (jAll_app jTs_12 _ 300 325 (by decide +kernel) jak_12 (jAll_app jTs_13 _ 325 350 (by decide +kernel) jak_13 (jak_14))))))))))))))
theorem jrows {mi : Nat} {r : jRow} (h : r ∈ jTab mi) : jrok mi r = true := by
  unfold jTab at h
  cases hq : jTs[mi]? with
  | none => rw [hq] at h; cases h
  | some t =>
    rw [hq] at h
    have := jAll_at jTs 0 mi t jak hq
    rw [Nat.zero_add] at this
    exact List.all_eq_true.mp this r h
theorem jmeth {mi : Nat} (h0 : 0 < mi) (h1 : mi < 372) : jmok mi = true := by
  have key : ∀ (k n : Nat), (List.range n).all (fun i => decide (k + i = 0) || jmok (k + i)) = true → k ≤ mi → mi < k + n → jmok mi = true := by
    intro k n h h2 h3
    have h4 := List.all_eq_true.mp h (mi - k) (List.mem_range.mpr (by omega))
    rw [show k + (mi - k) = mi by omega] at h4
    rw [Bool.or_eq_true] at h4
    rcases h4 with h4 | h4
    · have := of_decide_eq_true h4
      omega
    · exact h4
  by_cases c0 : mi < 25
  · exact key 0 25 jmk_0 (by omega) (by omega)
  by_cases c1 : mi < 50
  · exact key 25 25 jmk_1 (by omega) (by omega)
  by_cases c2 : mi < 75
  · exact key 50 25 jmk_2 (by omega) (by omega)
  by_cases c3 : mi < 100
  · exact key 75 25 jmk_3 (by omega) (by omega)
  by_cases c4 : mi < 125
  · exact key 100 25 jmk_4 (by omega) (by omega)
  by_cases c5 : mi < 150
  · exact key 125 25 jmk_5 (by omega) (by omega)
  by_cases c6 : mi < 175
  · exact key 150 25 jmk_6 (by omega) (by omega)
  by_cases c7 : mi < 200
  · exact key 175 25 jmk_7 (by omega) (by omega)
  by_cases c8 : mi < 225
  · exact key 200 25 jmk_8 (by omega) (by omega)
  by_cases c9 : mi < 250
  · exact key 225 25 jmk_9 (by omega) (by omega)
  by_cases c10 : mi < 275
  · exact key 250 25 jmk_10 (by omega) (by omega)
  by_cases c11 : mi < 300
  · exact key 275 25 jmk_11 (by omega) (by omega)
  by_cases c12 : mi < 325
  · exact key 300 25 jmk_12 (by omega) (by omega)
  by_cases c13 : mi < 350
  · exact key 325 25 jmk_13 (by omega) (by omega)
  by_cases c14 : mi < 372
  · exact key 350 22 jmk_14 (by omega) (by omega)
  omega
