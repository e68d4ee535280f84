/-! methods together -/
def jMo : Nat → Nat → Prop
  | _, 0 => True
  | k, n + 1 => jmcd k = true ∧ jMo (k + 1) n
theorem jMo_at : ∀ (n k i : Nat), jMo k n → i < n → jmcd (k + i) = true := by
  intro n
  induction n with
  | zero => intro k i _ h; omega
  | succ n ih =>
    intro k i h hi
    cases i with
    | zero => exact h.1
    | succ i =>
      have := ih (k + 1) i h.2 (by omega)
      rw [show k + (i + 1) = k + 1 + i by omega]
      exact this
theorem jmp_1 : jMo 1 31 := ⟨jmo_1, jmo_2, jmo_3, jmo_4, jmo_5, jmo_6, jmo_7, jmo_8, jmo_9, jmo_10, jmo_11, jmo_12, jmo_13, jmo_14, jmo_15, jmo_16, jmo_17, jmo_18, jmo_19, jmo_20, jmo_21, jmo_22, jmo_23, jmo_24, jmo_25, jmo_26, jmo_27, jmo_28, jmo_29, jmo_30, jmo_31, trivial⟩
theorem jmp_32 : jMo 32 31 := ⟨jmo_32, jmo_33, jmo_34, jmo_35, jmo_36, jmo_37, jmo_38, jmo_39, jmo_40, jmo_41, jmo_42, jmo_43, jmo_44, jmo_45, jmo_46, jmo_47, jmo_48, jmo_49, jmo_50, jmo_51, jmo_52, jmo_53, jmo_54, jmo_55, jmo_56, jmo_57, jmo_58, jmo_59, jmo_60, jmo_61, jmo_62, trivial⟩
theorem jmp_63 : jMo 63 31 := ⟨jmo_63, jmo_64, jmo_65, jmo_66, jmo_67, jmo_68, jmo_69, jmo_70, jmo_71, jmo_72, jmo_73, jmo_74, jmo_75, jmo_76, jmo_77, jmo_78, jmo_79, jmo_80, jmo_81, jmo_82, jmo_83, jmo_84, jmo_85, jmo_86, jmo_87, jmo_88, jmo_89, jmo_90, jmo_91, jmo_92, jmo_93, trivial⟩
theorem jmp_94 : jMo 94 31 := ⟨jmo_94, jmo_95, jmo_96, jmo_97, jmo_98, jmo_99, jmo_100, jmo_101, jmo_102, jmo_103, jmo_104, jmo_105, jmo_106, jmo_107, jmo_108, jmo_109, jmo_110, jmo_111, jmo_112, jmo_113, jmo_114, jmo_115, jmo_116, jmo_117, jmo_118, jmo_119, jmo_120, jmo_121, jmo_122, jmo_123, jmo_124, trivial⟩
theorem jmp_125 : jMo 125 31 := ⟨jmo_125, jmo_126, jmo_127, jmo_128, jmo_129, jmo_130, jmo_131, jmo_132, jmo_133, jmo_134, jmo_135, jmo_136, jmo_137, jmo_138, jmo_139, jmo_140, jmo_141, jmo_142, jmo_143, jmo_144, jmo_145, jmo_146, jmo_147, jmo_148, jmo_149, jmo_150, jmo_151, jmo_152, jmo_153, jmo_154, jmo_155, trivial⟩
theorem jmp_156 : jMo 156 31 := ⟨jmo_156, jmo_157, jmo_158, jmo_159, jmo_160, jmo_161, jmo_162, jmo_163, jmo_164, jmo_165, jmo_166, jmo_167, jmo_168, jmo_169, jmo_170, jmo_171, jmo_172, jmo_173, jmo_174, jmo_175, jmo_176, jmo_177, jmo_178, jmo_179, jmo_180, jmo_181, jmo_182, jmo_183, jmo_184, jmo_185, jmo_186, trivial⟩
theorem jmp_187 : jMo 187 31 := ⟨jmo_187, jmo_188, jmo_189, jmo_190, jmo_191, jmo_192, jmo_193, jmo_194, jmo_195, jmo_196, jmo_197, jmo_198, jmo_199, jmo_200, jmo_201, jmo_202, jmo_203, jmo_204, jmo_205, jmo_206, jmo_207, jmo_208, jmo_209, jmo_210, jmo_211, jmo_212, jmo_213, jmo_214, jmo_215, jmo_216, jmo_217, trivial⟩
theorem jmp_218 : jMo 218 31 := ⟨jmo_218, jmo_219, jmo_220, jmo_221, jmo_222, jmo_223, jmo_224, jmo_225, jmo_226, jmo_227, jmo_228, jmo_229, jmo_230, jmo_231, jmo_232, jmo_233, jmo_234, jmo_235, jmo_236, jmo_237, jmo_238, jmo_239, jmo_240, jmo_241, jmo_242, jmo_243, jmo_244, jmo_245, jmo_246, jmo_247, jmo_248, trivial⟩
theorem jmp_249 : jMo 249 31 := ⟨jmo_249, jmo_250, jmo_251, jmo_252, jmo_253, jmo_254, jmo_255, jmo_256, jmo_257, jmo_258, jmo_259, jmo_260, jmo_261, jmo_262, jmo_263, jmo_264, jmo_265, jmo_266, jmo_267, jmo_268, jmo_269, jmo_270, jmo_271, jmo_272, jmo_273, jmo_274, jmo_275, jmo_276, jmo_277, jmo_278, jmo_279, trivial⟩
theorem jmp_280 : jMo 280 31 := ⟨jmo_280, jmo_281, jmo_282, jmo_283, jmo_284, jmo_285, jmo_286, jmo_287, jmo_288, jmo_289, jmo_290, jmo_291, jmo_292, jmo_293, jmo_294, jmo_295, jmo_296, jmo_297, jmo_298, jmo_299, jmo_300, jmo_301, jmo_302, jmo_303, jmo_304, jmo_305, jmo_306, jmo_307, jmo_308, jmo_309, jmo_310, trivial⟩
theorem jmp_311 : jMo 311 31 := ⟨jmo_311, jmo_312, jmo_313, jmo_314, jmo_315, jmo_316, jmo_317, jmo_318, jmo_319, jmo_320, jmo_321, jmo_322, jmo_323, jmo_324, jmo_325, jmo_326, jmo_327, jmo_328, jmo_329, jmo_330, jmo_331, jmo_332, jmo_333, jmo_334, jmo_335, jmo_336, jmo_337, jmo_338, jmo_339, jmo_340, jmo_341, trivial⟩
theorem jmp_342 : jMo 342 31 := ⟨jmo_342, jmo_343, jmo_344, jmo_345, jmo_346, jmo_347, jmo_348, jmo_349, jmo_350, jmo_351, jmo_352, jmo_353, jmo_354, jmo_355, jmo_356, jmo_357, jmo_358, jmo_359, jmo_360, jmo_361, jmo_362, jmo_363, jmo_364, jmo_365, jmo_366, jmo_367, jmo_368, jmo_369, jmo_370, jmo_371, jmo_372, trivial⟩
theorem jmethC {mi : Nat} (h0 : 0 < mi) (h1 : mi < 373) : jmcd mi = true := by
  by_cases c1 : mi < 32
  · rw [show mi = 1 + (mi - 1) by omega]; exact jMo_at 31 1 _ jmp_1 (by omega)
  by_cases c32 : mi < 63
  · rw [show mi = 32 + (mi - 32) by omega]; exact jMo_at 31 32 _ jmp_32 (by omega)
  by_cases c63 : mi < 94
  · rw [show mi = 63 + (mi - 63) by omega]; exact jMo_at 31 63 _ jmp_63 (by omega)
  by_cases c94 : mi < 125
  · rw [show mi = 94 + (mi - 94) by omega]; exact jMo_at 31 94 _ jmp_94 (by omega)
  by_cases c125 : mi < 156
  · rw [show mi = 125 + (mi - 125) by omega]; exact jMo_at 31 125 _ jmp_125 (by omega)
  by_cases c156 : mi < 187
  · rw [show mi = 156 + (mi - 156) by omega]; exact jMo_at 31 156 _ jmp_156 (by omega)
  by_cases c187 : mi < 218
  · rw [show mi = 187 + (mi - 187) by omega]; exact jMo_at 31 187 _ jmp_187 (by omega)
  by_cases c218 : mi < 249
  · rw [show mi = 218 + (mi - 218) by omega]; exact jMo_at 31 218 _ jmp_218 (by omega)
  by_cases c249 : mi < 280
  · rw [show mi = 249 + (mi - 249) by omega]; exact jMo_at 31 249 _ jmp_249 (by omega)
  by_cases c280 : mi < 311
  · rw [show mi = 280 + (mi - 280) by omega]; exact jMo_at 31 280 _ jmp_280 (by omega)
  by_cases c311 : mi < 342
  · rw [show mi = 311 + (mi - 311) by omega]; exact jMo_at 31 311 _ jmp_311 (by omega)
  by_cases c342 : mi < 373
  · rw [show mi = 342 + (mi - 342) by omega]; exact jMo_at 31 342 _ jmp_342 (by omega)
  omega
theorem jmeth {mi : Nat} (h0 : 0 < mi) (h1 : mi < 373) : jmcd mi = true ∧ jmokR mi = true := ⟨jmethC h0 h1, jmR h0 h1⟩
