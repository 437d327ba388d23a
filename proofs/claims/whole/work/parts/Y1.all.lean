/-! THE PROGRAM: all of it -/
def allQ : Nat → List aM → Prop
  | _, [] => True
  | i, m :: r => (a_okM m && Nat.beq m.1 i) = true ∧ allQ (i + 1) r
theorem allQ_nth : ∀ (l : List aM) (i z : Nat) (mz : aM), allQ i l → a_nth l z = some mz → (a_okM mz && Nat.beq mz.1 (i + z)) = true
  | [], _, _, _, _, h => by cases h
  | m :: r, i, 0, mz, hq, h => by
    have : m = mz := by
      have h' : some m = some mz := h
      injection h'
    rw [← this]
    exact hq.1
  | m :: r, i, z + 1, mz, hq, h => by
    have := allQ_nth r (i + 1) z mz hq.2 h
    rw [show i + (z + 1) = i + 1 + z by omega]
    exact this
set_option maxRecDepth 1000000 in
set_option maxHeartbeats 4000000 in
theorem allQ_pg : allQ 0 pgL := ⟨ok_0, ok_1, ok_2, ok_3, ok_4, ok_5, ok_6, ok_7, ok_8, ok_9, ok_10, ok_11, ok_12, ok_13, ok_14, ok_15, ok_16, ok_17, ok_18, ok_19, ok_20, ok_21, ok_22, ok_23, ok_24, ok_25, ok_26, ok_27, ok_28, ok_29, ok_30, ok_31, ok_32, ok_33, ok_34, ok_35, ok_36, ok_37, ok_38, ok_39, ok_40, ok_41, ok_42, ok_43, ok_44, ok_45, ok_46, ok_47, ok_48, ok_49, ok_50, ok_51, ok_52, ok_53, ok_54, ok_55, ok_56, ok_57, ok_58, ok_59, ok_60, ok_61, ok_62, ok_63, ok_64, ok_65, ok_66, ok_67, ok_68, ok_69, ok_70, ok_71, ok_72, ok_73, ok_74, ok_75, ok_76, ok_77, ok_78, ok_79, ok_80, ok_81, ok_82, ok_83, ok_84, ok_85, ok_86, ok_87, ok_88, ok_89, ok_90, ok_91, ok_92, ok_93, ok_94, ok_95, ok_96, ok_97, ok_98, ok_99, ok_100, ok_101, ok_102, ok_103, ok_104, ok_105, ok_106, ok_107, ok_108, ok_109, ok_110, ok_111, ok_112, ok_113, ok_114, ok_115, ok_116, ok_117, ok_118, ok_119, ok_120, ok_121, ok_122, ok_123, ok_124, ok_125, ok_126, ok_127, ok_128, ok_129, ok_130, ok_131, ok_132, ok_133, ok_134, ok_135, ok_136, ok_137, ok_138, ok_139, ok_140, ok_141, ok_142, ok_143, ok_144, ok_145, ok_146, ok_147, ok_148, ok_149, ok_150, ok_151, ok_152, ok_153, ok_154, ok_155, ok_156, ok_157, ok_158, ok_159, ok_160, ok_161, ok_162, ok_163, ok_164, ok_165, ok_166, ok_167, ok_168, ok_169, ok_170, ok_171, ok_172, ok_173, ok_174, ok_175, ok_176, ok_177, ok_178, ok_179, ok_180, ok_181, ok_182, ok_183, ok_184, ok_185, ok_186, ok_187, ok_188, ok_189, ok_190, ok_191, ok_192, ok_193, ok_194, ok_195, ok_196, ok_197, ok_198, ok_199, ok_200, ok_201, ok_202, ok_203, ok_204, ok_205, ok_206, ok_207, ok_208, ok_209, ok_210, ok_211, ok_212, ok_213, ok_214, ok_215, ok_216, ok_217, ok_218, ok_219, ok_220, ok_221, ok_222, ok_223, ok_224, ok_225, ok_226, ok_227, ok_228, ok_229, ok_230, ok_231, ok_232, ok_233, ok_234, ok_235, ok_236, ok_237, ok_238, ok_239, ok_240, ok_241, ok_242, ok_243, ok_244, ok_245, ok_246, ok_247, ok_248, ok_249, ok_250, ok_251, ok_252, ok_253, ok_254, ok_255, ok_256, ok_257, ok_258, ok_259, ok_260, ok_261, ok_262, ok_263, ok_264, ok_265, ok_266, ok_267, ok_268, ok_269, ok_270, ok_271, ok_272, ok_273, ok_274, ok_275, ok_276, ok_277, ok_278, ok_279, ok_280, ok_281, ok_282, ok_283, ok_284, ok_285, ok_286, ok_287, ok_288, ok_289, ok_290, ok_291, ok_292, ok_293, ok_294, ok_295, ok_296, ok_297, ok_298, ok_299, trivial⟩
theorem all_ok : a_all := fun z mz h => by
  have := allQ_nth pgL 0 z mz allQ_pg h
  rw [Bool.and_eq_true, Nat.zero_add] at this
  exact ⟨this.1, Nat.eq_of_beq_eq_true this.2⟩
