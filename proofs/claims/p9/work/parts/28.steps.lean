/-! ===== any number of steps; deeper calls give no other answer ===== -/
def xprL : List xK := [xk_0, xk_1, xk_2, xk_3, xk_4, xk_5, xk_6, xk_7, xk_8, xk_9, xk_10, xk_11, xk_12, xk_13, xk_14, xk_15, xk_16, xk_17, xk_18, xk_19, xk_20, xk_21, xk_22, xk_23, xk_24, xk_25, xk_26, xk_27, xk_28, xk_29, xk_30, xk_31, xk_32, xk_33, xk_34, xk_35, xk_36, xk_37, xk_38, xk_39, xk_40, xk_41, xk_42, xk_43, xk_44, xk_45, xk_46, xk_47, xk_48, xk_49, xk_50, xk_51, xk_52, xk_53, xk_54, xk_55, xk_56, xk_57, xk_58, xk_59, xk_60, xk_61, xk_62, xk_63, xk_64, xk_65, xk_66, xk_67, xk_68, xk_69, xk_70, xk_71, xk_72, xk_73, xk_74, xk_75, xk_76, xk_77, xk_78, xk_79, xk_80, xk_81, xk_82, xk_83, xk_84, xk_85, xk_86, xk_87, xk_88, xk_89, xk_90, xk_91, xk_92, xk_93, xk_94, xk_95, xk_96, xk_97, xk_98, xk_99, xk_100, xk_101, xk_102, xk_103, xk_104, xk_105, xk_106, xk_107, xk_108, xk_109, xk_110, xk_111, xk_112, xk_113, xk_114, xk_115, xk_116, xk_117, xk_118, xk_119, xk_120, xk_121, xk_122, xk_123, xk_124, xk_125, xk_126, xk_127, xk_128, xk_129, xk_130, xk_131, xk_132, xk_133, xk_134, xk_135, xk_136, xk_137, xk_138, xk_139, xk_140, xk_141, xk_142, xk_143, xk_144, xk_145, xk_146, xk_147, xk_148, xk_149, xk_150, xk_151, xk_152, xk_153, xk_154, xk_155, xk_156, xk_157, xk_158, xk_159, xk_160, xk_161, xk_162, xk_163, xk_164, xk_165, xk_166, xk_167, xk_168, xk_169, xk_170, xk_171, xk_172, xk_173, xk_174, xk_175, xk_176, xk_177, xk_178, xk_179, xk_180, xk_181, xk_182, xk_183, xk_184, xk_185, xk_186, xk_187, xk_188, xk_189, xk_190, xk_191, xk_192, xk_193, xk_194, xk_195, xk_196, xk_197, xk_198, xk_199, xk_200, xk_201, xk_202, xk_203, xk_204, xk_205, xk_206, xk_207, xk_208, xk_209, xk_210, xk_211, xk_212, xk_213, xk_214, xk_215, xk_216, xk_217, xk_218, xk_219, xk_220, xk_221, xk_222, xk_223, xk_224, xk_225, xk_226, xk_227, xk_228, xk_229, xk_230, xk_231, xk_232, xk_233, xk_234, xk_235, xk_236, xk_237, xk_238, xk_239, xk_240, xk_241, xk_242, xk_243, xk_244, xk_245, xk_246, xk_247, xk_248, xk_249, xk_250, xk_251, xk_252, xk_253, xk_254, xk_255, xk_256, xk_257, xk_258, xk_259, xk_260, xk_261, xk_262, xk_263, xk_264, xk_265, xk_266, xk_267, xk_268, xk_269, xk_270, xk_271]
def xpr (i : Nat) : Option xK := xprL[i]?
set_option maxRecDepth 20000 in
theorem xpr_all : ∀ q ∈ List.zip xsgL xprL, xwf xsg q.1 q.2 := by
  show ∀ q ∈ [(xm_0, xk_0), (xm_1, xk_1), (xm_2, xk_2), (xm_3, xk_3), (xm_4, xk_4), (xm_5, xk_5), (xm_6, xk_6), (xm_7, xk_7), (xm_8, xk_8), (xm_9, xk_9), (xm_10, xk_10), (xm_11, xk_11), (xm_12, xk_12), (xm_13, xk_13), (xm_14, xk_14), (xm_15, xk_15), (xm_16, xk_16), (xm_17, xk_17), (xm_18, xk_18), (xm_19, xk_19), (xm_20, xk_20), (xm_21, xk_21), (xm_22, xk_22), (xm_23, xk_23), (xm_24, xk_24), (xm_25, xk_25), (xm_26, xk_26), (xm_27, xk_27), (xm_28, xk_28), (xm_29, xk_29), (xm_30, xk_30), (xm_31, xk_31), (xm_32, xk_32), (xm_33, xk_33), (xm_34, xk_34), (xm_35, xk_35), (xm_36, xk_36), (xm_37, xk_37), (xm_38, xk_38), (xm_39, xk_39), (xm_40, xk_40), (xm_41, xk_41), (xm_42, xk_42), (xm_43, xk_43), (xm_44, xk_44), (xm_45, xk_45), (xm_46, xk_46), (xm_47, xk_47), (xm_48, xk_48), (xm_49, xk_49), (xm_50, xk_50), (xm_51, xk_51), (xm_52, xk_52), (xm_53, xk_53), (xm_54, xk_54), (xm_55, xk_55), (xm_56, xk_56), (xm_57, xk_57), (xm_58, xk_58), (xm_59, xk_59), (xm_60, xk_60), (xm_61, xk_61), (xm_62, xk_62), (xm_63, xk_63), (xm_64, xk_64), (xm_65, xk_65), (xm_66, xk_66), (xm_67, xk_67), (xm_68, xk_68), (xm_69, xk_69), (xm_70, xk_70), (xm_71, xk_71), (xm_72, xk_72), (xm_73, xk_73), (xm_74, xk_74), (xm_75, xk_75), (xm_76, xk_76), (xm_77, xk_77), (xm_78, xk_78), (xm_79, xk_79), (xm_80, xk_80), (xm_81, xk_81), (xm_82, xk_82), (xm_83, xk_83), (xm_84, xk_84), (xm_85, xk_85), (xm_86, xk_86), (xm_87, xk_87), (xm_88, xk_88), (xm_89, xk_89), (xm_90, xk_90), (xm_91, xk_91), (xm_92, xk_92), (xm_93, xk_93), (xm_94, xk_94), (xm_95, xk_95), (xm_96, xk_96), (xm_97, xk_97), (xm_98, xk_98), (xm_99, xk_99), (xm_100, xk_100), (xm_101, xk_101), (xm_102, xk_102), (xm_103, xk_103), (xm_104, xk_104), (xm_105, xk_105), (xm_106, xk_106), (xm_107, xk_107), (xm_108, xk_108), (xm_109, xk_109), (xm_110, xk_110), (xm_111, xk_111), (xm_112, xk_112), (xm_113, xk_113), (xm_114, xk_114), (xm_115, xk_115), (xm_116, xk_116), (xm_117, xk_117), (xm_118, xk_118), (xm_119, xk_119), (xm_120, xk_120), (xm_121, xk_121), (xm_122, xk_122), (xm_123, xk_123), (xm_124, xk_124), (xm_125, xk_125), (xm_126, xk_126), (xm_127, xk_127), (xm_128, xk_128), (xm_129, xk_129), (xm_130, xk_130), (xm_131, xk_131), (xm_132, xk_132), (xm_133, xk_133), (xm_134, xk_134), (xm_135, xk_135), (xm_136, xk_136), (xm_137, xk_137), (xm_138, xk_138), (xm_139, xk_139), (xm_140, xk_140), (xm_141, xk_141), (xm_142, xk_142), (xm_143, xk_143), (xm_144, xk_144), (xm_145, xk_145), (xm_146, xk_146), (xm_147, xk_147), (xm_148, xk_148), (xm_149, xk_149), (xm_150, xk_150), (xm_151, xk_151), (xm_152, xk_152), (xm_153, xk_153), (xm_154, xk_154), (xm_155, xk_155), (xm_156, xk_156), (xm_157, xk_157), (xm_158, xk_158), (xm_159, xk_159), (xm_160, xk_160), (xm_161, xk_161), (xm_162, xk_162), (xm_163, xk_163), (xm_164, xk_164), (xm_165, xk_165), (xm_166, xk_166), (xm_167, xk_167), (xm_168, xk_168), (xm_169, xk_169), (xm_170, xk_170), (xm_171, xk_171), (xm_172, xk_172), (xm_173, xk_173), (xm_174, xk_174), (xm_175, xk_175), (xm_176, xk_176), (xm_177, xk_177), (xm_178, xk_178), (xm_179, xk_179), (xm_180, xk_180), (xm_181, xk_181), (xm_182, xk_182), (xm_183, xk_183), (xm_184, xk_184), (xm_185, xk_185), (xm_186, xk_186), (xm_187, xk_187), (xm_188, xk_188), (xm_189, xk_189), (xm_190, xk_190), (xm_191, xk_191), (xm_192, xk_192), (xm_193, xk_193), (xm_194, xk_194), (xm_195, xk_195), (xm_196, xk_196), (xm_197, xk_197), (xm_198, xk_198), (xm_199, xk_199), (xm_200, xk_200), (xm_201, xk_201), (xm_202, xk_202), (xm_203, xk_203), (xm_204, xk_204), (xm_205, xk_205), (xm_206, xk_206), (xm_207, xk_207), (xm_208, xk_208), (xm_209, xk_209), (xm_210, xk_210), (xm_211, xk_211), (xm_212, xk_212), (xm_213, xk_213), (xm_214, xk_214), (xm_215, xk_215), (xm_216, xk_216), (xm_217, xk_217), (xm_218, xk_218), (xm_219, xk_219), (xm_220, xk_220), (xm_221, xk_221), (xm_222, xk_222), (xm_223, xk_223), (xm_224, xk_224), (xm_225, xk_225), (xm_226, xk_226), (xm_227, xk_227), (xm_228, xk_228), (xm_229, xk_229), (xm_230, xk_230), (xm_231, xk_231), (xm_232, xk_232), (xm_233, xk_233), (xm_234, xk_234), (xm_235, xk_235), (xm_236, xk_236), (xm_237, xk_237), (xm_238, xk_238), (xm_239, xk_239), (xm_240, xk_240), (xm_241, xk_241), (xm_242, xk_242), (xm_243, xk_243), (xm_244, xk_244), (xm_245, xk_245), (xm_246, xk_246), (xm_247, xk_247), (xm_248, xk_248), (xm_249, xk_249), (xm_250, xk_250), (xm_251, xk_251), (xm_252, xk_252), (xm_253, xk_253), (xm_254, xk_254), (xm_255, xk_255), (xm_256, xk_256), (xm_257, xk_257), (xm_258, xk_258), (xm_259, xk_259), (xm_260, xk_260), (xm_261, xk_261), (xm_262, xk_262), (xm_263, xk_263), (xm_264, xk_264), (xm_265, xk_265), (xm_266, xk_266), (xm_267, xk_267), (xm_268, xk_268), (xm_269, xk_269), (xm_270, xk_270), (xm_271, xk_271)], xwf xsg q.1 q.2
  exact List.forall_mem_cons.mpr ⟨xz_0, List.forall_mem_cons.mpr ⟨xz_1, List.forall_mem_cons.mpr ⟨xz_2, List.forall_mem_cons.mpr ⟨xz_3, List.forall_mem_cons.mpr ⟨xz_4, List.forall_mem_cons.mpr ⟨xz_5, List.forall_mem_cons.mpr ⟨xz_6, List.forall_mem_cons.mpr ⟨xz_7, List.forall_mem_cons.mpr ⟨xz_8, List.forall_mem_cons.mpr ⟨xz_9, List.forall_mem_cons.mpr ⟨xz_10, List.forall_mem_cons.mpr ⟨xz_11, List.forall_mem_cons.mpr ⟨xz_12, List.forall_mem_cons.mpr ⟨xz_13, List.forall_mem_cons.mpr ⟨xz_14, List.forall_mem_cons.mpr ⟨xz_15, List.forall_mem_cons.mpr ⟨xz_16, List.forall_mem_cons.mpr ⟨xz_17, List.forall_mem_cons.mpr ⟨xz_18, List.forall_mem_cons.mpr ⟨xz_19, List.forall_mem_cons.mpr ⟨xz_20, List.forall_mem_cons.mpr ⟨xz_21, List.forall_mem_cons.mpr ⟨xz_22, List.forall_mem_cons.mpr ⟨xz_23, List.forall_mem_cons.mpr ⟨xz_24, List.forall_mem_cons.mpr ⟨xz_25, List.forall_mem_cons.mpr ⟨xz_26, List.forall_mem_cons.mpr ⟨xz_27, List.forall_mem_cons.mpr ⟨xz_28, List.forall_mem_cons.mpr ⟨xz_29, List.forall_mem_cons.mpr ⟨xz_30, List.forall_mem_cons.mpr ⟨xz_31, List.forall_mem_cons.mpr ⟨xz_32, List.forall_mem_cons.mpr ⟨xz_33, List.forall_mem_cons.mpr ⟨xz_34, List.forall_mem_cons.mpr ⟨xz_35, List.forall_mem_cons.mpr ⟨xz_36, List.forall_mem_cons.mpr ⟨xz_37, List.forall_mem_cons.mpr ⟨xz_38, List.forall_mem_cons.mpr ⟨xz_39, List.forall_mem_cons.mpr ⟨xz_40, List.forall_mem_cons.mpr ⟨xz_41, List.forall_mem_cons.mpr ⟨xz_42, List.forall_mem_cons.mpr ⟨xz_43, List.forall_mem_cons.mpr ⟨xz_44, List.forall_mem_cons.mpr ⟨xz_45, List.forall_mem_cons.mpr ⟨xz_46, List.forall_mem_cons.mpr ⟨xz_47, List.forall_mem_cons.mpr ⟨xz_48, List.forall_mem_cons.mpr ⟨xz_49, List.forall_mem_cons.mpr ⟨xz_50, List.forall_mem_cons.mpr ⟨xz_51, List.forall_mem_cons.mpr ⟨xz_52, List.forall_mem_cons.mpr ⟨xz_53, List.forall_mem_cons.mpr ⟨xz_54, List.forall_mem_cons.mpr ⟨xz_55, List.forall_mem_cons.mpr ⟨xz_56, List.forall_mem_cons.mpr ⟨xz_57, List.forall_mem_cons.mpr ⟨xz_58, List.forall_mem_cons.mpr ⟨xz_59, List.forall_mem_cons.mpr ⟨xz_60, List.forall_mem_cons.mpr ⟨xz_61, List.forall_mem_cons.mpr ⟨xz_62, List.forall_mem_cons.mpr ⟨xz_63, List.forall_mem_cons.mpr ⟨xz_64, List.forall_mem_cons.mpr ⟨xz_65, List.forall_mem_cons.mpr ⟨xz_66, List.forall_mem_cons.mpr ⟨xz_67, List.forall_mem_cons.mpr ⟨xz_68, List.forall_mem_cons.mpr ⟨xz_69, List.forall_mem_cons.mpr ⟨xz_70, List.forall_mem_cons.mpr ⟨xz_71, List.forall_mem_cons.mpr ⟨xz_72, List.forall_mem_cons.mpr ⟨xz_73, List.forall_mem_cons.mpr ⟨xz_74, List.forall_mem_cons.mpr ⟨xz_75, List.forall_mem_cons.mpr ⟨xz_76, List.forall_mem_cons.mpr ⟨xz_77, List.forall_mem_cons.mpr ⟨xz_78, List.forall_mem_cons.mpr ⟨xz_79, List.forall_mem_cons.mpr ⟨xz_80, List.forall_mem_cons.mpr ⟨xz_81, List.forall_mem_cons.mpr ⟨xz_82, List.forall_mem_cons.mpr ⟨xz_83, List.forall_mem_cons.mpr ⟨xz_84, List.forall_mem_cons.mpr ⟨xz_85, List.forall_mem_cons.mpr ⟨xz_86, List.forall_mem_cons.mpr ⟨xz_87, List.forall_mem_cons.mpr ⟨xz_88, List.forall_mem_cons.mpr ⟨xz_89, List.forall_mem_cons.mpr ⟨xz_90, List.forall_mem_cons.mpr ⟨xz_91, List.forall_mem_cons.mpr ⟨xz_92, List.forall_mem_cons.mpr ⟨xz_93, List.forall_mem_cons.mpr ⟨xz_94, List.forall_mem_cons.mpr ⟨xz_95, List.forall_mem_cons.mpr ⟨xz_96, List.forall_mem_cons.mpr ⟨xz_97, List.forall_mem_cons.mpr ⟨xz_98, List.forall_mem_cons.mpr ⟨xz_99, List.forall_mem_cons.mpr ⟨xz_100, List.forall_mem_cons.mpr ⟨xz_101, List.forall_mem_cons.mpr ⟨xz_102, List.forall_mem_cons.mpr ⟨xz_103, List.forall_mem_cons.mpr ⟨xz_104, List.forall_mem_cons.mpr ⟨xz_105, List.forall_mem_cons.mpr ⟨xz_106, List.forall_mem_cons.mpr ⟨xz_107, List.forall_mem_cons.mpr ⟨xz_108, List.forall_mem_cons.mpr ⟨xz_109, List.forall_mem_cons.mpr ⟨xz_110, List.forall_mem_cons.mpr ⟨xz_111, List.forall_mem_cons.mpr ⟨xz_112, List.forall_mem_cons.mpr ⟨xz_113, List.forall_mem_cons.mpr ⟨xz_114, List.forall_mem_cons.mpr ⟨xz_115, List.forall_mem_cons.mpr ⟨xz_116, List.forall_mem_cons.mpr ⟨xz_117, List.forall_mem_cons.mpr ⟨xz_118, List.forall_mem_cons.mpr ⟨xz_119, List.forall_mem_cons.mpr ⟨xz_120, List.forall_mem_cons.mpr ⟨xz_121, List.forall_mem_cons.mpr ⟨xz_122, List.forall_mem_cons.mpr ⟨xz_123, List.forall_mem_cons.mpr ⟨xz_124, List.forall_mem_cons.mpr ⟨xz_125, List.forall_mem_cons.mpr ⟨xz_126, List.forall_mem_cons.mpr ⟨xz_127, List.forall_mem_cons.mpr ⟨xz_128, List.forall_mem_cons.mpr ⟨xz_129, List.forall_mem_cons.mpr ⟨xz_130, List.forall_mem_cons.mpr ⟨xz_131, List.forall_mem_cons.mpr ⟨xz_132, List.forall_mem_cons.mpr ⟨xz_133, List.forall_mem_cons.mpr ⟨xz_134, List.forall_mem_cons.mpr ⟨xz_135, List.forall_mem_cons.mpr ⟨xz_136, List.forall_mem_cons.mpr ⟨xz_137, List.forall_mem_cons.mpr ⟨xz_138, List.forall_mem_cons.mpr ⟨xz_139, List.forall_mem_cons.mpr ⟨xz_140, List.forall_mem_cons.mpr ⟨xz_141, List.forall_mem_cons.mpr ⟨xz_142, List.forall_mem_cons.mpr ⟨xz_143, List.forall_mem_cons.mpr ⟨xz_144, List.forall_mem_cons.mpr ⟨xz_145, List.forall_mem_cons.mpr ⟨xz_146, List.forall_mem_cons.mpr ⟨xz_147, List.forall_mem_cons.mpr ⟨xz_148, List.forall_mem_cons.mpr ⟨xz_149, List.forall_mem_cons.mpr ⟨xz_150, List.forall_mem_cons.mpr ⟨xz_151, List.forall_mem_cons.mpr ⟨xz_152, List.forall_mem_cons.mpr ⟨xz_153, List.forall_mem_cons.mpr ⟨xz_154, List.forall_mem_cons.mpr ⟨xz_155, List.forall_mem_cons.mpr ⟨xz_156, List.forall_mem_cons.mpr ⟨xz_157, List.forall_mem_cons.mpr ⟨xz_158, List.forall_mem_cons.mpr ⟨xz_159, List.forall_mem_cons.mpr ⟨xz_160, List.forall_mem_cons.mpr ⟨xz_161, List.forall_mem_cons.mpr ⟨xz_162, List.forall_mem_cons.mpr ⟨xz_163, List.forall_mem_cons.mpr ⟨xz_164, List.forall_mem_cons.mpr ⟨xz_165, List.forall_mem_cons.mpr ⟨xz_166, List.forall_mem_cons.mpr ⟨xz_167, List.forall_mem_cons.mpr ⟨xz_168, List.forall_mem_cons.mpr ⟨xz_169, List.forall_mem_cons.mpr ⟨xz_170, List.forall_mem_cons.mpr ⟨xz_171, List.forall_mem_cons.mpr ⟨xz_172, List.forall_mem_cons.mpr ⟨xz_173, List.forall_mem_cons.mpr ⟨xz_174, List.forall_mem_cons.mpr ⟨xz_175, List.forall_mem_cons.mpr ⟨xz_176, List.forall_mem_cons.mpr ⟨xz_177, List.forall_mem_cons.mpr ⟨xz_178, List.forall_mem_cons.mpr ⟨xz_179, List.forall_mem_cons.mpr ⟨xz_180, List.forall_mem_cons.mpr ⟨xz_181, List.forall_mem_cons.mpr ⟨xz_182, List.forall_mem_cons.mpr ⟨xz_183, List.forall_mem_cons.mpr ⟨xz_184, List.forall_mem_cons.mpr ⟨xz_185, List.forall_mem_cons.mpr ⟨xz_186, List.forall_mem_cons.mpr ⟨xz_187, List.forall_mem_cons.mpr ⟨xz_188, List.forall_mem_cons.mpr ⟨xz_189, List.forall_mem_cons.mpr ⟨xz_190, List.forall_mem_cons.mpr ⟨xz_191, List.forall_mem_cons.mpr ⟨xz_192, List.forall_mem_cons.mpr ⟨xz_193, List.forall_mem_cons.mpr ⟨xz_194, List.forall_mem_cons.mpr ⟨xz_195, List.forall_mem_cons.mpr ⟨xz_196, List.forall_mem_cons.mpr ⟨xz_197, List.forall_mem_cons.mpr ⟨xz_198, List.forall_mem_cons.mpr ⟨xz_199, List.forall_mem_cons.mpr ⟨xz_200, List.forall_mem_cons.mpr ⟨xz_201, List.forall_mem_cons.mpr ⟨xz_202, List.forall_mem_cons.mpr ⟨xz_203, List.forall_mem_cons.mpr ⟨xz_204, List.forall_mem_cons.mpr ⟨xz_205, List.forall_mem_cons.mpr ⟨xz_206, List.forall_mem_cons.mpr ⟨xz_207, List.forall_mem_cons.mpr ⟨xz_208, List.forall_mem_cons.mpr ⟨xz_209, List.forall_mem_cons.mpr ⟨xz_210, List.forall_mem_cons.mpr ⟨xz_211, List.forall_mem_cons.mpr ⟨xz_212, List.forall_mem_cons.mpr ⟨xz_213, List.forall_mem_cons.mpr ⟨xz_214, List.forall_mem_cons.mpr ⟨xz_215, List.forall_mem_cons.mpr ⟨xz_216, List.forall_mem_cons.mpr ⟨xz_217, List.forall_mem_cons.mpr ⟨xz_218, List.forall_mem_cons.mpr ⟨xz_219, List.forall_mem_cons.mpr ⟨xz_220, List.forall_mem_cons.mpr ⟨xz_221, List.forall_mem_cons.mpr ⟨xz_222, List.forall_mem_cons.mpr ⟨xz_223, List.forall_mem_cons.mpr ⟨xz_224, List.forall_mem_cons.mpr ⟨xz_225, List.forall_mem_cons.mpr ⟨xz_226, List.forall_mem_cons.mpr ⟨xz_227, List.forall_mem_cons.mpr ⟨xz_228, List.forall_mem_cons.mpr ⟨xz_229, List.forall_mem_cons.mpr ⟨xz_230, List.forall_mem_cons.mpr ⟨xz_231, List.forall_mem_cons.mpr ⟨xz_232, List.forall_mem_cons.mpr ⟨xz_233, List.forall_mem_cons.mpr ⟨xz_234, List.forall_mem_cons.mpr ⟨xz_235, List.forall_mem_cons.mpr ⟨xz_236, List.forall_mem_cons.mpr ⟨xz_237, List.forall_mem_cons.mpr ⟨xz_238, List.forall_mem_cons.mpr ⟨xz_239, List.forall_mem_cons.mpr ⟨xz_240, List.forall_mem_cons.mpr ⟨xz_241, List.forall_mem_cons.mpr ⟨xz_242, List.forall_mem_cons.mpr ⟨xz_243, List.forall_mem_cons.mpr ⟨xz_244, List.forall_mem_cons.mpr ⟨xz_245, List.forall_mem_cons.mpr ⟨xz_246, List.forall_mem_cons.mpr ⟨xz_247, List.forall_mem_cons.mpr ⟨xz_248, List.forall_mem_cons.mpr ⟨xz_249, List.forall_mem_cons.mpr ⟨xz_250, List.forall_mem_cons.mpr ⟨xz_251, List.forall_mem_cons.mpr ⟨xz_252, List.forall_mem_cons.mpr ⟨xz_253, List.forall_mem_cons.mpr ⟨xz_254, List.forall_mem_cons.mpr ⟨xz_255, List.forall_mem_cons.mpr ⟨xz_256, List.forall_mem_cons.mpr ⟨xz_257, List.forall_mem_cons.mpr ⟨xz_258, List.forall_mem_cons.mpr ⟨xz_259, List.forall_mem_cons.mpr ⟨xz_260, List.forall_mem_cons.mpr ⟨xz_261, List.forall_mem_cons.mpr ⟨xz_262, List.forall_mem_cons.mpr ⟨xz_263, List.forall_mem_cons.mpr ⟨xz_264, List.forall_mem_cons.mpr ⟨xz_265, List.forall_mem_cons.mpr ⟨xz_266, List.forall_mem_cons.mpr ⟨xz_267, List.forall_mem_cons.mpr ⟨xz_268, List.forall_mem_cons.mpr ⟨xz_269, List.forall_mem_cons.mpr ⟨xz_270, List.forall_mem_cons.mpr ⟨xz_271, fun _ h => absurd h List.not_mem_nil⟩⟩⟩⟩⟩⟩⟩⟩⟩⟩⟩⟩⟩⟩⟩⟩⟩⟩⟩⟩⟩⟩⟩⟩⟩⟩⟩⟩⟩⟩⟩⟩⟩⟩⟩⟩⟩⟩⟩⟩⟩⟩⟩⟩⟩⟩⟩⟩⟩⟩⟩⟩⟩⟩⟩⟩⟩⟩⟩⟩⟩⟩⟩⟩⟩⟩⟩⟩⟩⟩⟩⟩⟩⟩⟩⟩⟩⟩⟩⟩⟩⟩⟩⟩⟩⟩⟩⟩⟩⟩⟩⟩⟩⟩⟩⟩⟩⟩⟩⟩⟩⟩⟩⟩⟩⟩⟩⟩⟩⟩⟩⟩⟩⟩⟩⟩⟩⟩⟩⟩⟩⟩⟩⟩⟩⟩⟩⟩⟩⟩⟩⟩⟩⟩⟩⟩⟩⟩⟩⟩⟩⟩⟩⟩⟩⟩⟩⟩⟩⟩⟩⟩⟩⟩⟩⟩⟩⟩⟩⟩⟩⟩⟩⟩⟩⟩⟩⟩⟩⟩⟩⟩⟩⟩⟩⟩⟩⟩⟩⟩⟩⟩⟩⟩⟩⟩⟩⟩⟩⟩⟩⟩⟩⟩⟩⟩⟩⟩⟩⟩⟩⟩⟩⟩⟩⟩⟩⟩⟩⟩⟩⟩⟩⟩⟩⟩⟩⟩⟩⟩⟩⟩⟩⟩⟩⟩⟩⟩⟩⟩⟩⟩⟩⟩⟩⟩⟩⟩⟩⟩⟩⟩⟩⟩⟩⟩⟩⟩⟩⟩⟩⟩⟩⟩⟩⟩⟩⟩⟩⟩⟩⟩⟩⟩⟩⟩⟩⟩⟩⟩⟩⟩
theorem xpr_ok : ∀ i M F, xsg i = some M → xpr i = some F → xwf xsg M F := by
  intro i M F h1 h2
  have h3 : (List.zip xsgL xprL)[i]? = some (M, F) := List.getElem?_zip_eq_some.mpr ⟨h1, h2⟩
  exact xpr_all (M, F) (List.mem_of_getElem? h3)
/-- what a method's run comes to, by however many steps -/
noncomputable def yen (calls : xC) (i : Nat) (vs : List Value) (h : xH) : Option xR := match xsg i with
  | some M => match xpr i with
    | some F => match Nat.ble (lg_sl vs).length M.2.2.1 with
      | true => @dite _ (∃ res n, xrun calls F n (some (.inl (F, (lv_args 0 vs, [], h, 0, 0)))) = some (.inr res)) (Classical.propDecidable _) (fun hh => some hh.choose) (fun _ => none)
      | false => none
    | none => none
  | none => none
noncomputable def yex (d : Nat) : xC := Nat.rec (motive := fun _ => xC) (fun _ _ _ => none) (fun _ ih => yen ih) d
theorem yen_spec {calls : xC} {i : Nat} {vs : List Value} {h : xH} {res : xR} {M : xM} (hc : yen calls i vs h = some res) (hM : xsg i = some M) : ∃ F n, xpr i = some F ∧ (lg_sl vs).length ≤ M.2.2.1 ∧ xrun calls F n (some (.inl (F, (lv_args 0 vs, [], h, 0, 0)))) = some (.inr res) := by
  unfold yen at hc
  rw [hM] at hc
  cases hF : xpr i with
  | none => rw [hF] at hc; cases hc
  | some F =>
    rw [hF] at hc
    dsimp only at hc
    cases hl : Nat.ble (lg_sl vs).length M.2.2.1 with
    | false => rw [hl] at hc; cases hc
    | true =>
      rw [hl] at hc
      dsimp only at hc
      by_cases hh : ∃ res n, xrun calls F n (some (.inl (F, (lv_args 0 vs, [], h, 0, 0)))) = some (.inr res)
      · rw [dif_pos hh] at hc
        obtain ⟨n, hn⟩ := hh.choose_spec
        rw [Option.some.inj hc] at hn
        exact ⟨F, n, rfl, Nat.le_of_ble_eq_true hl, hn⟩
      · rw [dif_neg hh] at hc
        cases hc
theorem yex_ok (l : Launch) (b : Nat) (aS : Nat → Nat) (D : va_G) (cT : Nat → ClassId) (d : Nat) : xCallsOK xsg l b aS D cT d (yex d) := by
  induction d with
  | zero => intro i vs h res M hc _; cases hc
  | succ d ih =>
    intro i vs h res M hc hM
    obtain ⟨F, n, hF, hl, hr⟩ := yen_spec (calls := yex d) hc hM
    exact xen_met (xpr_ok i M F hM hF) ih hl hr
/-- steps one by one -/
noncomputable def xit (calls : xC) (F : xK) (n : Nat) (z : Option ((xK × xS) ⊕ xR)) : Option ((xK × xS) ⊕ xR) := Nat.rec (motive := fun _ => Option ((xK × xS) ⊕ xR) → Option ((xK × xS) ⊕ xR)) (fun z => z) (fun _ ih z => ih (xstep calls F z)) n z
section XIT
variable {calls : xC} {F : xK}
theorem xit_s (n : Nat) (z : Option ((xK × xS) ⊕ xR)) : xit calls F (n + 1) z = xit calls F n (xstep calls F z) := rfl
theorem xit_add (m n : Nat) (z : Option ((xK × xS) ⊕ xR)) : xit calls F (m + n) z = xit calls F n (xit calls F m z) := by
  induction m generalizing z with
  | zero => rw [Nat.zero_add]; rfl
  | succ m ih => rw [show m + 1 + n = (m + n) + 1 by omega, xit_s, ih, xit_s]
theorem xit_done (n : Nat) (res : xR) : xit calls F n (some (.inr res)) = some (.inr res) := by
  induction n with
  | zero => rfl
  | succ n ih => exact ih
theorem xit_none (n : Nat) : xit calls F n none = none := by
  induction n with
  | zero => rfl
  | succ n ih => exact ih
theorem xrun_it (n : Nat) : ∀ z, xrun calls F n z = xit calls F (2 ^ n) z := by
  induction n with
  | zero => intro z; rfl
  | succ n ih =>
    intro z
    have e1 : xrun calls F (n + 1) z = (match xrun calls F n z with
      | some (.inl q) => xrun calls F n (some (.inl q))
      | some (.inr res) => some (.inr res)
      | none => none) := rfl
    rw [e1, show 2 ^ (n + 1) = 2 ^ n + 2 ^ n by omega, xit_add, ← ih z]
    cases hz : xrun calls F n z with
    | none => rw [xit_none]
    | some y =>
      cases y with
      | inl q => exact ih _
      | inr res => rw [xit_done]
theorem xrun_of {k n : Nat} {z : Option ((xK × xS) ⊕ xR)} {res : xR} (hk : k ≤ 2 ^ n) (h : xit calls F k z = some (.inr res)) : xrun calls F n z = some (.inr res) := by
  rw [xrun_it, show 2 ^ n = k + (2 ^ n - k) by omega, xit_add, h, xit_done]
theorem xit_one {k k' : Nat} {z : Option ((xK × xS) ⊕ xR)} {res res' : xR} (h : xit calls F k z = some (.inr res)) (h' : xit calls F k' z = some (.inr res')) : res = res' := by
  have e1 : xit calls F (k + k') z = some (.inr res) := by rw [xit_add, h, xit_done]
  have e2 : xit calls F (k' + k) z = some (.inr res') := by rw [xit_add, h', xit_done]
  rw [Nat.add_comm k' k, e1] at e2
  exact Sum.inr.inj (Option.some.inj e2)
theorem xit_l {k pc : Nat} {f : xF} {r : xK} {σ : xS} {q : Option Nat × xS} {z : Option ((xK × xS) ⊕ xR)} (he : f calls σ = some (.inl q)) (h : xit calls F k (some (.inl (xnx F r q.1, q.2))) = z) : xit calls F (k + 1) (some (.inl ((pc, f) :: r, σ))) = z := by
  rw [xit_s]
  have e1 : xstep calls F (some (.inl ((pc, f) :: r, σ))) = (match f calls σ with
    | none => none
    | some (.inr res) => some (.inr res)
    | some (.inl z) => some (.inl (xnx F r z.1, z.2))) := rfl
  rw [e1, he]
  exact h
theorem xit_r {k pc : Nat} {f : xF} {r : xK} {σ : xS} {res : xR} (he : f calls σ = some (.inr res)) : xit calls F (k + 1) (some (.inl ((pc, f) :: r, σ))) = some (.inr res) := by
  rw [xit_s]
  have e1 : xstep calls F (some (.inl ((pc, f) :: r, σ))) = (match f calls σ with
    | none => none
    | some (.inr res) => some (.inr res)
    | some (.inl z) => some (.inl (xnx F r z.1, z.2))) := rfl
  rw [e1, he]
  exact xit_done k res
end XIT
theorem yex_of {d i k : Nat} {vs : List Value} {h : xH} {M : xM} {F : xK} {res : xR} (hM : xsg i = some M) (hF : xpr i = some F) (hl : Nat.ble (lg_sl vs).length M.2.2.1 = true) (hr : xit (yex d) F k (some (.inl (F, (lv_args 0 vs, [], h, 0, 0)))) = some (.inr res)) : yex (d + 1) i vs h = some res := by
  show yen (yex d) i vs h = some res
  unfold yen
  rw [hM]
  dsimp only
  rw [hF]
  dsimp only
  rw [hl]
  dsimp only
  have hh : ∃ res n, xrun (yex d) F n (some (.inl (F, (lv_args 0 vs, [], h, 0, 0)))) = some (.inr res) := ⟨res, k, xrun_of (Nat.le_of_lt Nat.lt_two_pow_self) hr⟩
  rw [dif_pos hh]
  obtain ⟨n, hn⟩ := hh.choose_spec
  rw [xrun_it] at hn
  rw [xit_one hn hr]
/-- a call that has an answer keeps it where calls may go deeper -/
def xLe (c c' : xC) : Prop := ∀ i vs h res, c i vs h = some res → c' i vs h = some res
def xMn1 (f : xF) : Prop := ∀ c c', xLe c c' → ∀ σ z, f c σ = some z → f c' σ = some z
theorem xMn_call {i n : Nat} {ci : Option Nat} : xMn1 (xCall i n ci) := by
  intro c c' hc σ z h
  obtain ⟨loc, st, hh, cs, sl⟩ := σ
  unfold xCall at h ⊢
  dsimp only at h ⊢
  split at h
  · rename_i hb
    split at h
    · rename_i res hr
      rw [hc _ _ _ _ hr]
      exact h
    · cases h
  · cases h
theorem xMn_if {b : Bool} {f : xF} (h : xMn1 f) : xMn1 (xIf b f) := by
  cases b with
  | true => exact h
  | false => exact fun _ _ _ _ _ h => h
theorem xMn_c {f : xF} (h : ∀ c c' σ, f c σ = f c' σ) : xMn1 f := fun c c' _ σ z hz => by rw [← h c c' σ]; exact hz
theorem xMn_Go {o : Option Nat} {c : List Value → Option (Bool × List Value)} : xMn1 (xGo o c) := by
  cases o <;> exact xMn_c (fun _ _ _ => rfl)
theorem xMn_Gm {o : Option (Nat × Nat × Nat × Nat)} : xMn1 (xGm o) := by
  unfold xGm
  split
  · split <;> exact xMn_c (fun _ _ _ => rfl)
  · exact xMn_c (fun _ _ _ => rfl)
theorem xMn_Pm {ini : Bool} {o : Option (Nat × Nat × Nat × Nat)} : xMn1 (xPm ini o) := by
  unfold xPm
  split
  · split <;> first | exact xMn_c (fun _ _ _ => rfl) | exact xMn_if (xMn_c (fun _ _ _ => rfl))
  · exact xMn_c (fun _ _ _ => rfl)
theorem xMn_Sm {o : Option (Nat × Nat × Nat × Nat)} : xMn1 (xSm o) := by
  unfold xSm
  split
  · split <;> first | exact xMn_call | exact xMn_c (fun _ _ _ => rfl)
  · exact xMn_c (fun _ _ _ => rfl)
theorem xMn_Vm {o : Option (Nat × Nat × Nat × Nat)} : xMn1 (xVm o) := by
  unfold xVm
  split
  · split <;> first | exact xMn_call | exact xMn_c (fun _ _ _ => rfl)
  · exact xMn_c (fun _ _ _ => rfl)
theorem xMn_Dm {o : Option (Nat × Nat × Nat × Nat)} : xMn1 (xDm o) := by
  unfold xDm
  split
  · split <;> first | exact xMn_call | exact xMn_c (fun _ _ _ => rfl)
  · exact xMn_c (fun _ _ _ => rfl)
theorem xMn_Se {L : xLD} {ml : Nat} {ini : Bool} {g : Int → Option Nat} (i : Instr) : xMn1 (xSe L ml ini g i) := by
  cases i with
  | getfield i => exact xMn_Gm
  | putfield i => exact xMn_Pm
  | invokestatic i => exact xMn_Sm
  | invokevirtual i => exact xMn_Vm
  | invokespecial i => exact xMn_Dm
  | ifCond c off => exact xMn_Go
  | if_icmp c off => exact xMn_Go
  | ldc i =>
    show xMn1 (xLm (xlu i L.2.2.1) (xlu i L.2.2.2.2.1))
    unfold xLm
    split
    · exact xMn_c (fun _ _ _ => rfl)
    · split <;> exact xMn_c (fun _ _ _ => rfl)
  | ldc_w i =>
    show xMn1 (xLm (xlu i L.2.2.1) none)
    unfold xLm
    split <;> exact xMn_c (fun _ _ _ => rfl)
  | ldc2_w i =>
    dsimp only [xSe]
    split <;> exact xMn_c (fun _ _ _ => rfl)
  | new i =>
    dsimp only [xSe]
    split <;> exact xMn_c (fun _ _ _ => rfl)
  | newarray t => cases t <;> exact xMn_c (fun _ _ _ => rfl)
  | anewarray i =>
    dsimp only [xSe]
    split <;> exact xMn_c (fun _ _ _ => rfl)
  | istore_n k => exact xMn_if (xMn_c (fun _ _ _ => rfl))
  | istore i => exact xMn_if (xMn_c (fun _ _ _ => rfl))
  | astore_n k => exact xMn_if (xMn_c (fun _ _ _ => rfl))
  | astore i => exact xMn_if (xMn_c (fun _ _ _ => rfl))
  | lstore_n k => exact xMn_if (xMn_c (fun _ _ _ => rfl))
  | lstore i => exact xMn_if (xMn_c (fun _ _ _ => rfl))
  | iinc i n => exact xMn_if (xMn_c (fun _ _ _ => rfl))
  | _ => exact xMn_c (fun _ _ _ => rfl)
theorem xMn_It {L : xLD} {ml : Nat} {ret : Option FieldType} {ini : Bool} {E : xCd} {pc : Nat} (i : Instr) {len : Nat} {r : xCd} : xMn1 (xIt L ml ret ini E pc i len r) := by
  have key := xMn_if (b := Nat.beq (xln i) len && xNx r (pc + len)) (xMn_Se (L := L) (ml := ml) (ini := ini) (g := xgt E pc) i)
  cases i with
  | goto off => exact xMn_if xMn_Go
  | return_ =>
    refine xMn_if ?_
    cases ret <;> exact xMn_c (fun _ _ _ => rfl)
  | ireturn =>
    refine xMn_if ?_
    unfold xrtI
    split <;> exact xMn_c (fun _ _ _ => rfl)
  | areturn => exact xMn_if (xMn_c (fun _ _ _ => rfl))
  | tableswitch d lo hi offs => exact xMn_c (fun _ _ _ => rfl)
  | lookupswitch d ps => exact xMn_if (xMn_c (fun _ _ _ => rfl))
  | _ => exact key
/-- deeper calls give the same answers -/
theorem xst_le {c c' : xC} (hc : xLe c c') {L : xLD} {ml : Nat} {ret : Option FieldType} {ini : Bool} {E : xCd} : ∀ (n : Nat) (l : xCd) (σ : xS) (res : xR), xit c (xmk L ml ret ini E E) n (some (.inl (xmk L ml ret ini E l, σ))) = some (.inr res) → xit c' (xmk L ml ret ini E E) n (some (.inl (xmk L ml ret ini E l, σ))) = some (.inr res)
  | 0, l, σ, res, h => by cases h
  | n + 1, [], σ, res, h => by
    rw [xit_s] at h
    have e1 : xstep c (xmk L ml ret ini E E) (some (.inl (xmk L ml ret ini E [], σ))) = none := rfl
    rw [e1, xit_none] at h
    cases h
  | n + 1, e :: l, σ, res, h => by
    have e0 : ∀ c : xC, xstep c (xmk L ml ret ini E E) (some (.inl (xmk L ml ret ini E (e :: l), σ))) = (match xIt L ml ret ini E e.1 e.2.1 e.2.2 l c σ with
      | none => none
      | some (.inr res) => some (.inr res)
      | some (.inl z) => some (.inl (xnx (xmk L ml ret ini E E) (xmk L ml ret ini E l) z.1, z.2))) := fun _ => rfl
    rw [xit_s, e0] at h ⊢
    cases hz : xIt L ml ret ini E e.1 e.2.1 e.2.2 l c σ with
    | none => rw [hz] at h; rw [xit_none] at h; cases h
    | some z =>
      rw [hz] at h
      rw [xMn_It e.2.1 c c' hc σ z hz]
      cases z with
      | inr r => exact (xit_done n r).trans ((xit_done n r).symm.trans h)
      | inl q =>
        obtain ⟨a, τ⟩ := q
        cases a with
        | none => exact xst_le hc n l τ res h
        | some t =>
          dsimp only [xnx] at h ⊢
          rw [xmk_drop] at h ⊢
          exact xst_le hc n (E.drop t) τ res h
def xisMk (F : xK) : Prop := ∃ L ml ret ini E, F = xmk L ml ret ini E E
set_option maxRecDepth 20000 in
theorem xpr_mk : ∀ F ∈ xprL, xisMk F := by
  show ∀ F ∈ [xk_0, xk_1, xk_2, xk_3, xk_4, xk_5, xk_6, xk_7, xk_8, xk_9, xk_10, xk_11, xk_12, xk_13, xk_14, xk_15, xk_16, xk_17, xk_18, xk_19, xk_20, xk_21, xk_22, xk_23, xk_24, xk_25, xk_26, xk_27, xk_28, xk_29, xk_30, xk_31, xk_32, xk_33, xk_34, xk_35, xk_36, xk_37, xk_38, xk_39, xk_40, xk_41, xk_42, xk_43, xk_44, xk_45, xk_46, xk_47, xk_48, xk_49, xk_50, xk_51, xk_52, xk_53, xk_54, xk_55, xk_56, xk_57, xk_58, xk_59, xk_60, xk_61, xk_62, xk_63, xk_64, xk_65, xk_66, xk_67, xk_68, xk_69, xk_70, xk_71, xk_72, xk_73, xk_74, xk_75, xk_76, xk_77, xk_78, xk_79, xk_80, xk_81, xk_82, xk_83, xk_84, xk_85, xk_86, xk_87, xk_88, xk_89, xk_90, xk_91, xk_92, xk_93, xk_94, xk_95, xk_96, xk_97, xk_98, xk_99, xk_100, xk_101, xk_102, xk_103, xk_104, xk_105, xk_106, xk_107, xk_108, xk_109, xk_110, xk_111, xk_112, xk_113, xk_114, xk_115, xk_116, xk_117, xk_118, xk_119, xk_120, xk_121, xk_122, xk_123, xk_124, xk_125, xk_126, xk_127, xk_128, xk_129, xk_130, xk_131, xk_132, xk_133, xk_134, xk_135, xk_136, xk_137, xk_138, xk_139, xk_140, xk_141, xk_142, xk_143, xk_144, xk_145, xk_146, xk_147, xk_148, xk_149, xk_150, xk_151, xk_152, xk_153, xk_154, xk_155, xk_156, xk_157, xk_158, xk_159, xk_160, xk_161, xk_162, xk_163, xk_164, xk_165, xk_166, xk_167, xk_168, xk_169, xk_170, xk_171, xk_172, xk_173, xk_174, xk_175, xk_176, xk_177, xk_178, xk_179, xk_180, xk_181, xk_182, xk_183, xk_184, xk_185, xk_186, xk_187, xk_188, xk_189, xk_190, xk_191, xk_192, xk_193, xk_194, xk_195, xk_196, xk_197, xk_198, xk_199, xk_200, xk_201, xk_202, xk_203, xk_204, xk_205, xk_206, xk_207, xk_208, xk_209, xk_210, xk_211, xk_212, xk_213, xk_214, xk_215, xk_216, xk_217, xk_218, xk_219, xk_220, xk_221, xk_222, xk_223, xk_224, xk_225, xk_226, xk_227, xk_228, xk_229, xk_230, xk_231, xk_232, xk_233, xk_234, xk_235, xk_236, xk_237, xk_238, xk_239, xk_240, xk_241, xk_242, xk_243, xk_244, xk_245, xk_246, xk_247, xk_248, xk_249, xk_250, xk_251, xk_252, xk_253, xk_254, xk_255, xk_256, xk_257, xk_258, xk_259, xk_260, xk_261, xk_262, xk_263, xk_264, xk_265, xk_266, xk_267, xk_268, xk_269, xk_270, xk_271], xisMk F
  exact List.forall_mem_cons.mpr ⟨⟨_, _, _, _, _, rfl⟩, List.forall_mem_cons.mpr ⟨⟨_, _, _, _, _, rfl⟩, List.forall_mem_cons.mpr ⟨⟨_, _, _, _, _, rfl⟩, List.forall_mem_cons.mpr ⟨⟨_, _, _, _, _, rfl⟩, List.forall_mem_cons.mpr ⟨⟨_, _, _, _, _, rfl⟩, List.forall_mem_cons.mpr ⟨⟨_, _, _, _, _, rfl⟩, List.forall_mem_cons.mpr ⟨⟨_, _, _, _, _, rfl⟩, List.forall_mem_cons.mpr ⟨⟨_, _, _, _, _, rfl⟩, List.forall_mem_cons.mpr ⟨⟨_, _, _, _, _, rfl⟩, List.forall_mem_cons.mpr ⟨⟨_, _, _, _, _, rfl⟩, List.forall_mem_cons.mpr ⟨⟨_, _, _, _, _, rfl⟩, List.forall_mem_cons.mpr ⟨⟨_, _, _, _, _, rfl⟩, List.forall_mem_cons.mpr ⟨⟨_, _, _, _, _, rfl⟩, List.forall_mem_cons.mpr ⟨⟨_, _, _, _, _, rfl⟩, List.forall_mem_cons.mpr ⟨⟨_, _, _, _, _, rfl⟩, List.forall_mem_cons.mpr ⟨⟨_, _, _, _, _, rfl⟩, List.forall_mem_cons.mpr ⟨⟨_, _, _, _, _, rfl⟩, List.forall_mem_cons.mpr ⟨⟨_, _, _, _, _, rfl⟩, List.forall_mem_cons.mpr ⟨⟨_, _, _, _, _, rfl⟩, List.forall_mem_cons.mpr ⟨⟨_, _, _, _, _, rfl⟩, List.forall_mem_cons.mpr ⟨⟨_, _, _, _, _, rfl⟩, List.forall_mem_cons.mpr ⟨⟨_, _, _, _, _, rfl⟩, List.forall_mem_cons.mpr ⟨⟨_, _, _, _, _, rfl⟩, List.forall_mem_cons.mpr ⟨⟨_, _, _, _, _, rfl⟩, List.forall_mem_cons.mpr ⟨⟨_, _, _, _, _, rfl⟩, List.forall_mem_cons.mpr ⟨⟨_, _, _, _, _, rfl⟩, List.forall_mem_cons.mpr ⟨⟨_, _, _, _, _, rfl⟩, List.forall_mem_cons.mpr ⟨⟨_, _, _, _, _, rfl⟩, List.forall_mem_cons.mpr ⟨⟨_, _, _, _, _, rfl⟩, List.forall_mem_cons.mpr ⟨⟨_, _, _, _, _, rfl⟩, List.forall_mem_cons.mpr ⟨⟨_, _, _, _, _, rfl⟩, List.forall_mem_cons.mpr ⟨⟨_, _, _, _, _, rfl⟩, List.forall_mem_cons.mpr ⟨⟨_, _, _, _, _, rfl⟩, List.forall_mem_cons.mpr ⟨⟨_, _, _, _, _, rfl⟩, List.forall_mem_cons.mpr ⟨⟨_, _, _, _, _, rfl⟩, List.forall_mem_cons.mpr ⟨⟨_, _, _, _, _, rfl⟩, List.forall_mem_cons.mpr ⟨⟨_, _, _, _, _, rfl⟩, List.forall_mem_cons.mpr ⟨⟨_, _, _, _, _, rfl⟩, List.forall_mem_cons.mpr ⟨⟨_, _, _, _, _, rfl⟩, List.forall_mem_cons.mpr ⟨⟨_, _, _, _, _, rfl⟩, List.forall_mem_cons.mpr ⟨⟨_, _, _, _, _, rfl⟩, List.forall_mem_cons.mpr ⟨⟨_, _, _, _, _, rfl⟩, List.forall_mem_cons.mpr ⟨⟨_, _, _, _, _, rfl⟩, List.forall_mem_cons.mpr ⟨⟨_, _, _, _, _, rfl⟩, List.forall_mem_cons.mpr ⟨⟨_, _, _, _, _, rfl⟩, List.forall_mem_cons.mpr ⟨⟨_, _, _, _, _, rfl⟩, List.forall_mem_cons.mpr ⟨⟨_, _, _, _, _, rfl⟩, List.forall_mem_cons.mpr ⟨⟨_, _, _, _, _, rfl⟩, List.forall_mem_cons.mpr ⟨⟨_, _, _, _, _, rfl⟩, List.forall_mem_cons.mpr ⟨⟨_, _, _, _, _, rfl⟩, List.forall_mem_cons.mpr ⟨⟨_, _, _, _, _, rfl⟩, List.forall_mem_cons.mpr ⟨⟨_, _, _, _, _, rfl⟩, List.forall_mem_cons.mpr ⟨⟨_, _, _, _, _, rfl⟩, List.forall_mem_cons.mpr ⟨⟨_, _, _, _, _, rfl⟩, List.forall_mem_cons.mpr ⟨⟨_, _, _, _, _, rfl⟩, List.forall_mem_cons.mpr ⟨⟨_, _, _, _, _, rfl⟩, List.forall_mem_cons.mpr ⟨⟨_, _, _, _, _, rfl⟩, List.forall_mem_cons.mpr ⟨⟨_, _, _, _, _, rfl⟩, List.forall_mem_cons.mpr ⟨⟨_, _, _, _, _, rfl⟩, List.forall_mem_cons.mpr ⟨⟨_, _, _, _, _, rfl⟩, List.forall_mem_cons.mpr ⟨⟨_, _, _, _, _, rfl⟩, List.forall_mem_cons.mpr ⟨⟨_, _, _, _, _, rfl⟩, List.forall_mem_cons.mpr ⟨⟨_, _, _, _, _, rfl⟩, List.forall_mem_cons.mpr ⟨⟨_, _, _, _, _, rfl⟩, List.forall_mem_cons.mpr ⟨⟨_, _, _, _, _, rfl⟩, List.forall_mem_cons.mpr ⟨⟨_, _, _, _, _, rfl⟩, List.forall_mem_cons.mpr ⟨⟨_, _, _, _, _, rfl⟩, List.forall_mem_cons.mpr ⟨⟨_, _, _, _, _, rfl⟩, List.forall_mem_cons.mpr ⟨⟨_, _, _, _, _, rfl⟩, List.forall_mem_cons.mpr ⟨⟨_, _, _, _, _, rfl⟩, List.forall_mem_cons.mpr ⟨⟨_, _, _, _, _, rfl⟩, List.forall_mem_cons.mpr ⟨⟨_, _, _, _, _, rfl⟩, List.forall_mem_cons.mpr ⟨⟨_, _, _, _, _, rfl⟩, List.forall_mem_cons.mpr ⟨⟨_, _, _, _, _, rfl⟩, List.forall_mem_cons.mpr ⟨⟨_, _, _, _, _, rfl⟩, List.forall_mem_cons.mpr ⟨⟨_, _, _, _, _, rfl⟩, List.forall_mem_cons.mpr ⟨⟨_, _, _, _, _, rfl⟩, List.forall_mem_cons.mpr ⟨⟨_, _, _, _, _, rfl⟩, List.forall_mem_cons.mpr ⟨⟨_, _, _, _, _, rfl⟩, List.forall_mem_cons.mpr ⟨⟨_, _, _, _, _, rfl⟩, List.forall_mem_cons.mpr ⟨⟨_, _, _, _, _, rfl⟩, List.forall_mem_cons.mpr ⟨⟨_, _, _, _, _, rfl⟩, List.forall_mem_cons.mpr ⟨⟨_, _, _, _, _, rfl⟩, List.forall_mem_cons.mpr ⟨⟨_, _, _, _, _, rfl⟩, List.forall_mem_cons.mpr ⟨⟨_, _, _, _, _, rfl⟩, List.forall_mem_cons.mpr ⟨⟨_, _, _, _, _, rfl⟩, List.forall_mem_cons.mpr ⟨⟨_, _, _, _, _, rfl⟩, List.forall_mem_cons.mpr ⟨⟨_, _, _, _, _, rfl⟩, List.forall_mem_cons.mpr ⟨⟨_, _, _, _, _, rfl⟩, List.forall_mem_cons.mpr ⟨⟨_, _, _, _, _, rfl⟩, List.forall_mem_cons.mpr ⟨⟨_, _, _, _, _, rfl⟩, List.forall_mem_cons.mpr ⟨⟨_, _, _, _, _, rfl⟩, List.forall_mem_cons.mpr ⟨⟨_, _, _, _, _, rfl⟩, List.forall_mem_cons.mpr ⟨⟨_, _, _, _, _, rfl⟩, List.forall_mem_cons.mpr ⟨⟨_, _, _, _, _, rfl⟩, List.forall_mem_cons.mpr ⟨⟨_, _, _, _, _, rfl⟩, List.forall_mem_cons.mpr ⟨⟨_, _, _, _, _, rfl⟩, List.forall_mem_cons.mpr ⟨⟨_, _, _, _, _, rfl⟩, List.forall_mem_cons.mpr ⟨⟨_, _, _, _, _, rfl⟩, List.forall_mem_cons.mpr ⟨⟨_, _, _, _, _, rfl⟩, List.forall_mem_cons.mpr ⟨⟨_, _, _, _, _, rfl⟩, List.forall_mem_cons.mpr ⟨⟨_, _, _, _, _, rfl⟩, List.forall_mem_cons.mpr ⟨⟨_, _, _, _, _, rfl⟩, List.forall_mem_cons.mpr ⟨⟨_, _, _, _, _, rfl⟩, List.forall_mem_cons.mpr ⟨⟨_, _, _, _, _, rfl⟩, List.forall_mem_cons.mpr ⟨⟨_, _, _, _, _, rfl⟩, List.forall_mem_cons.mpr ⟨⟨_, _, _, _, _, rfl⟩, List.forall_mem_cons.mpr ⟨⟨_, _, _, _, _, rfl⟩, List.forall_mem_cons.mpr ⟨⟨_, _, _, _, _, rfl⟩, List.forall_mem_cons.mpr ⟨⟨_, _, _, _, _, rfl⟩, List.forall_mem_cons.mpr ⟨⟨_, _, _, _, _, rfl⟩, List.forall_mem_cons.mpr ⟨⟨_, _, _, _, _, rfl⟩, List.forall_mem_cons.mpr ⟨⟨_, _, _, _, _, rfl⟩, List.forall_mem_cons.mpr ⟨⟨_, _, _, _, _, rfl⟩, List.forall_mem_cons.mpr ⟨⟨_, _, _, _, _, rfl⟩, List.forall_mem_cons.mpr ⟨⟨_, _, _, _, _, rfl⟩, List.forall_mem_cons.mpr ⟨⟨_, _, _, _, _, rfl⟩, List.forall_mem_cons.mpr ⟨⟨_, _, _, _, _, rfl⟩, List.forall_mem_cons.mpr ⟨⟨_, _, _, _, _, rfl⟩, List.forall_mem_cons.mpr ⟨⟨_, _, _, _, _, rfl⟩, List.forall_mem_cons.mpr ⟨⟨_, _, _, _, _, rfl⟩, List.forall_mem_cons.mpr ⟨⟨_, _, _, _, _, rfl⟩, List.forall_mem_cons.mpr ⟨⟨_, _, _, _, _, rfl⟩, List.forall_mem_cons.mpr ⟨⟨_, _, _, _, _, rfl⟩, List.forall_mem_cons.mpr ⟨⟨_, _, _, _, _, rfl⟩, List.forall_mem_cons.mpr ⟨⟨_, _, _, _, _, rfl⟩, List.forall_mem_cons.mpr ⟨⟨_, _, _, _, _, rfl⟩, List.forall_mem_cons.mpr ⟨⟨_, _, _, _, _, rfl⟩, List.forall_mem_cons.mpr ⟨⟨_, _, _, _, _, rfl⟩, List.forall_mem_cons.mpr ⟨⟨_, _, _, _, _, rfl⟩, List.forall_mem_cons.mpr ⟨⟨_, _, _, _, _, rfl⟩, List.forall_mem_cons.mpr ⟨⟨_, _, _, _, _, rfl⟩, List.forall_mem_cons.mpr ⟨⟨_, _, _, _, _, rfl⟩, List.forall_mem_cons.mpr ⟨⟨_, _, _, _, _, rfl⟩, List.forall_mem_cons.mpr ⟨⟨_, _, _, _, _, rfl⟩, List.forall_mem_cons.mpr ⟨⟨_, _, _, _, _, rfl⟩, List.forall_mem_cons.mpr ⟨⟨_, _, _, _, _, rfl⟩, List.forall_mem_cons.mpr ⟨⟨_, _, _, _, _, rfl⟩, List.forall_mem_cons.mpr ⟨⟨_, _, _, _, _, rfl⟩, List.forall_mem_cons.mpr ⟨⟨_, _, _, _, _, rfl⟩, List.forall_mem_cons.mpr ⟨⟨_, _, _, _, _, rfl⟩, List.forall_mem_cons.mpr ⟨⟨_, _, _, _, _, rfl⟩, List.forall_mem_cons.mpr ⟨⟨_, _, _, _, _, rfl⟩, List.forall_mem_cons.mpr ⟨⟨_, _, _, _, _, rfl⟩, List.forall_mem_cons.mpr ⟨⟨_, _, _, _, _, rfl⟩, List.forall_mem_cons.mpr ⟨⟨_, _, _, _, _, rfl⟩, List.forall_mem_cons.mpr ⟨⟨_, _, _, _, _, rfl⟩, List.forall_mem_cons.mpr ⟨⟨_, _, _, _, _, rfl⟩, List.forall_mem_cons.mpr ⟨⟨_, _, _, _, _, rfl⟩, List.forall_mem_cons.mpr ⟨⟨_, _, _, _, _, rfl⟩, List.forall_mem_cons.mpr ⟨⟨_, _, _, _, _, rfl⟩, List.forall_mem_cons.mpr ⟨⟨_, _, _, _, _, rfl⟩, List.forall_mem_cons.mpr ⟨⟨_, _, _, _, _, rfl⟩, List.forall_mem_cons.mpr ⟨⟨_, _, _, _, _, rfl⟩, List.forall_mem_cons.mpr ⟨⟨_, _, _, _, _, rfl⟩, List.forall_mem_cons.mpr ⟨⟨_, _, _, _, _, rfl⟩, List.forall_mem_cons.mpr ⟨⟨_, _, _, _, _, rfl⟩, List.forall_mem_cons.mpr ⟨⟨_, _, _, _, _, rfl⟩, List.forall_mem_cons.mpr ⟨⟨_, _, _, _, _, rfl⟩, List.forall_mem_cons.mpr ⟨⟨_, _, _, _, _, rfl⟩, List.forall_mem_cons.mpr ⟨⟨_, _, _, _, _, rfl⟩, List.forall_mem_cons.mpr ⟨⟨_, _, _, _, _, rfl⟩, List.forall_mem_cons.mpr ⟨⟨_, _, _, _, _, rfl⟩, List.forall_mem_cons.mpr ⟨⟨_, _, _, _, _, rfl⟩, List.forall_mem_cons.mpr ⟨⟨_, _, _, _, _, rfl⟩, List.forall_mem_cons.mpr ⟨⟨_, _, _, _, _, rfl⟩, List.forall_mem_cons.mpr ⟨⟨_, _, _, _, _, rfl⟩, List.forall_mem_cons.mpr ⟨⟨_, _, _, _, _, rfl⟩, List.forall_mem_cons.mpr ⟨⟨_, _, _, _, _, rfl⟩, List.forall_mem_cons.mpr ⟨⟨_, _, _, _, _, rfl⟩, List.forall_mem_cons.mpr ⟨⟨_, _, _, _, _, rfl⟩, List.forall_mem_cons.mpr ⟨⟨_, _, _, _, _, rfl⟩, List.forall_mem_cons.mpr ⟨⟨_, _, _, _, _, rfl⟩, List.forall_mem_cons.mpr ⟨⟨_, _, _, _, _, rfl⟩, List.forall_mem_cons.mpr ⟨⟨_, _, _, _, _, rfl⟩, List.forall_mem_cons.mpr ⟨⟨_, _, _, _, _, rfl⟩, List.forall_mem_cons.mpr ⟨⟨_, _, _, _, _, rfl⟩, List.forall_mem_cons.mpr ⟨⟨_, _, _, _, _, rfl⟩, List.forall_mem_cons.mpr ⟨⟨_, _, _, _, _, rfl⟩, List.forall_mem_cons.mpr ⟨⟨_, _, _, _, _, rfl⟩, List.forall_mem_cons.mpr ⟨⟨_, _, _, _, _, rfl⟩, List.forall_mem_cons.mpr ⟨⟨_, _, _, _, _, rfl⟩, List.forall_mem_cons.mpr ⟨⟨_, _, _, _, _, rfl⟩, List.forall_mem_cons.mpr ⟨⟨_, _, _, _, _, rfl⟩, List.forall_mem_cons.mpr ⟨⟨_, _, _, _, _, rfl⟩, List.forall_mem_cons.mpr ⟨⟨_, _, _, _, _, rfl⟩, List.forall_mem_cons.mpr ⟨⟨_, _, _, _, _, rfl⟩, List.forall_mem_cons.mpr ⟨⟨_, _, _, _, _, rfl⟩, List.forall_mem_cons.mpr ⟨⟨_, _, _, _, _, rfl⟩, List.forall_mem_cons.mpr ⟨⟨_, _, _, _, _, rfl⟩, List.forall_mem_cons.mpr ⟨⟨_, _, _, _, _, rfl⟩, List.forall_mem_cons.mpr ⟨⟨_, _, _, _, _, rfl⟩, List.forall_mem_cons.mpr ⟨⟨_, _, _, _, _, rfl⟩, List.forall_mem_cons.mpr ⟨⟨_, _, _, _, _, rfl⟩, List.forall_mem_cons.mpr ⟨⟨_, _, _, _, _, rfl⟩, List.forall_mem_cons.mpr ⟨⟨_, _, _, _, _, rfl⟩, List.forall_mem_cons.mpr ⟨⟨_, _, _, _, _, rfl⟩, List.forall_mem_cons.mpr ⟨⟨_, _, _, _, _, rfl⟩, List.forall_mem_cons.mpr ⟨⟨_, _, _, _, _, rfl⟩, List.forall_mem_cons.mpr ⟨⟨_, _, _, _, _, rfl⟩, List.forall_mem_cons.mpr ⟨⟨_, _, _, _, _, rfl⟩, List.forall_mem_cons.mpr ⟨⟨_, _, _, _, _, rfl⟩, List.forall_mem_cons.mpr ⟨⟨_, _, _, _, _, rfl⟩, List.forall_mem_cons.mpr ⟨⟨_, _, _, _, _, rfl⟩, List.forall_mem_cons.mpr ⟨⟨_, _, _, _, _, rfl⟩, List.forall_mem_cons.mpr ⟨⟨_, _, _, _, _, rfl⟩, List.forall_mem_cons.mpr ⟨⟨_, _, _, _, _, rfl⟩, List.forall_mem_cons.mpr ⟨⟨_, _, _, _, _, rfl⟩, List.forall_mem_cons.mpr ⟨⟨_, _, _, _, _, rfl⟩, List.forall_mem_cons.mpr ⟨⟨_, _, _, _, _, rfl⟩, List.forall_mem_cons.mpr ⟨⟨_, _, _, _, _, rfl⟩, List.forall_mem_cons.mpr ⟨⟨_, _, _, _, _, rfl⟩, List.forall_mem_cons.mpr ⟨⟨_, _, _, _, _, rfl⟩, List.forall_mem_cons.mpr ⟨⟨_, _, _, _, _, rfl⟩, List.forall_mem_cons.mpr ⟨⟨_, _, _, _, _, rfl⟩, List.forall_mem_cons.mpr ⟨⟨_, _, _, _, _, rfl⟩, List.forall_mem_cons.mpr ⟨⟨_, _, _, _, _, rfl⟩, List.forall_mem_cons.mpr ⟨⟨_, _, _, _, _, rfl⟩, List.forall_mem_cons.mpr ⟨⟨_, _, _, _, _, rfl⟩, List.forall_mem_cons.mpr ⟨⟨_, _, _, _, _, rfl⟩, List.forall_mem_cons.mpr ⟨⟨_, _, _, _, _, rfl⟩, List.forall_mem_cons.mpr ⟨⟨_, _, _, _, _, rfl⟩, List.forall_mem_cons.mpr ⟨⟨_, _, _, _, _, rfl⟩, List.forall_mem_cons.mpr ⟨⟨_, _, _, _, _, rfl⟩, List.forall_mem_cons.mpr ⟨⟨_, _, _, _, _, rfl⟩, List.forall_mem_cons.mpr ⟨⟨_, _, _, _, _, rfl⟩, List.forall_mem_cons.mpr ⟨⟨_, _, _, _, _, rfl⟩, List.forall_mem_cons.mpr ⟨⟨_, _, _, _, _, rfl⟩, List.forall_mem_cons.mpr ⟨⟨_, _, _, _, _, rfl⟩, List.forall_mem_cons.mpr ⟨⟨_, _, _, _, _, rfl⟩, List.forall_mem_cons.mpr ⟨⟨_, _, _, _, _, rfl⟩, List.forall_mem_cons.mpr ⟨⟨_, _, _, _, _, rfl⟩, List.forall_mem_cons.mpr ⟨⟨_, _, _, _, _, rfl⟩, List.forall_mem_cons.mpr ⟨⟨_, _, _, _, _, rfl⟩, List.forall_mem_cons.mpr ⟨⟨_, _, _, _, _, rfl⟩, List.forall_mem_cons.mpr ⟨⟨_, _, _, _, _, rfl⟩, List.forall_mem_cons.mpr ⟨⟨_, _, _, _, _, rfl⟩, List.forall_mem_cons.mpr ⟨⟨_, _, _, _, _, rfl⟩, List.forall_mem_cons.mpr ⟨⟨_, _, _, _, _, rfl⟩, List.forall_mem_cons.mpr ⟨⟨_, _, _, _, _, rfl⟩, List.forall_mem_cons.mpr ⟨⟨_, _, _, _, _, rfl⟩, List.forall_mem_cons.mpr ⟨⟨_, _, _, _, _, rfl⟩, List.forall_mem_cons.mpr ⟨⟨_, _, _, _, _, rfl⟩, List.forall_mem_cons.mpr ⟨⟨_, _, _, _, _, rfl⟩, List.forall_mem_cons.mpr ⟨⟨_, _, _, _, _, rfl⟩, List.forall_mem_cons.mpr ⟨⟨_, _, _, _, _, rfl⟩, List.forall_mem_cons.mpr ⟨⟨_, _, _, _, _, rfl⟩, List.forall_mem_cons.mpr ⟨⟨_, _, _, _, _, rfl⟩, List.forall_mem_cons.mpr ⟨⟨_, _, _, _, _, rfl⟩, List.forall_mem_cons.mpr ⟨⟨_, _, _, _, _, rfl⟩, List.forall_mem_cons.mpr ⟨⟨_, _, _, _, _, rfl⟩, List.forall_mem_cons.mpr ⟨⟨_, _, _, _, _, rfl⟩, List.forall_mem_cons.mpr ⟨⟨_, _, _, _, _, rfl⟩, List.forall_mem_cons.mpr ⟨⟨_, _, _, _, _, rfl⟩, List.forall_mem_cons.mpr ⟨⟨_, _, _, _, _, rfl⟩, List.forall_mem_cons.mpr ⟨⟨_, _, _, _, _, rfl⟩, List.forall_mem_cons.mpr ⟨⟨_, _, _, _, _, rfl⟩, List.forall_mem_cons.mpr ⟨⟨_, _, _, _, _, rfl⟩, List.forall_mem_cons.mpr ⟨⟨_, _, _, _, _, rfl⟩, List.forall_mem_cons.mpr ⟨⟨_, _, _, _, _, rfl⟩, List.forall_mem_cons.mpr ⟨⟨_, _, _, _, _, rfl⟩, List.forall_mem_cons.mpr ⟨⟨_, _, _, _, _, rfl⟩, List.forall_mem_cons.mpr ⟨⟨_, _, _, _, _, rfl⟩, List.forall_mem_cons.mpr ⟨⟨_, _, _, _, _, rfl⟩, List.forall_mem_cons.mpr ⟨⟨_, _, _, _, _, rfl⟩, List.forall_mem_cons.mpr ⟨⟨_, _, _, _, _, rfl⟩, List.forall_mem_cons.mpr ⟨⟨_, _, _, _, _, rfl⟩, List.forall_mem_cons.mpr ⟨⟨_, _, _, _, _, rfl⟩, List.forall_mem_cons.mpr ⟨⟨_, _, _, _, _, rfl⟩, List.forall_mem_cons.mpr ⟨⟨_, _, _, _, _, rfl⟩, List.forall_mem_cons.mpr ⟨⟨_, _, _, _, _, rfl⟩, List.forall_mem_cons.mpr ⟨⟨_, _, _, _, _, rfl⟩, fun _ h => absurd h List.not_mem_nil⟩⟩⟩⟩⟩⟩⟩⟩⟩⟩⟩⟩⟩⟩⟩⟩⟩⟩⟩⟩⟩⟩⟩⟩⟩⟩⟩⟩⟩⟩⟩⟩⟩⟩⟩⟩⟩⟩⟩⟩⟩⟩⟩⟩⟩⟩⟩⟩⟩⟩⟩⟩⟩⟩⟩⟩⟩⟩⟩⟩⟩⟩⟩⟩⟩⟩⟩⟩⟩⟩⟩⟩⟩⟩⟩⟩⟩⟩⟩⟩⟩⟩⟩⟩⟩⟩⟩⟩⟩⟩⟩⟩⟩⟩⟩⟩⟩⟩⟩⟩⟩⟩⟩⟩⟩⟩⟩⟩⟩⟩⟩⟩⟩⟩⟩⟩⟩⟩⟩⟩⟩⟩⟩⟩⟩⟩⟩⟩⟩⟩⟩⟩⟩⟩⟩⟩⟩⟩⟩⟩⟩⟩⟩⟩⟩⟩⟩⟩⟩⟩⟩⟩⟩⟩⟩⟩⟩⟩⟩⟩⟩⟩⟩⟩⟩⟩⟩⟩⟩⟩⟩⟩⟩⟩⟩⟩⟩⟩⟩⟩⟩⟩⟩⟩⟩⟩⟩⟩⟩⟩⟩⟩⟩⟩⟩⟩⟩⟩⟩⟩⟩⟩⟩⟩⟩⟩⟩⟩⟩⟩⟩⟩⟩⟩⟩⟩⟩⟩⟩⟩⟩⟩⟩⟩⟩⟩⟩⟩⟩⟩⟩⟩⟩⟩⟩⟩⟩⟩⟩⟩⟩⟩⟩⟩⟩⟩⟩⟩⟩⟩⟩⟩⟩⟩⟩⟩⟩⟩⟩⟩⟩⟩⟩⟩⟩⟩⟩⟩⟩⟩⟩⟩
theorem yen_le {c c' : xC} (hc : xLe c c') : xLe (yen c) (yen c') := by
  intro i vs h res hh
  cases hM : xsg i with
  | none =>
    unfold yen at hh
    rw [hM] at hh
    cases hh
  | some M =>
    obtain ⟨F, n, hF, hl, hr⟩ := yen_spec hh hM
    obtain ⟨L, ml, ret, ini, E, rfl⟩ := xpr_mk F (List.mem_of_getElem? hF)
    rw [xrun_it] at hr
    have h1 := xst_le hc _ _ _ _ hr
    unfold yen
    rw [hM, hF]
    dsimp only
    rw [Nat.ble_eq_true_of_le hl]
    dsimp only
    have h2 : ∃ res n, xrun c' (xmk L ml ret ini E E) n (some (.inl (xmk L ml ret ini E E, (lv_args 0 vs, [], h, 0, 0)))) = some (.inr res) := ⟨res, n, by rw [xrun_it]; exact h1⟩
    rw [dif_pos h2]
    obtain ⟨m, hm⟩ := h2.choose_spec
    rw [xrun_it] at hm
    rw [xit_one hm h1]
theorem yex_le (d : Nat) : xLe (yex d) (yex (d + 1)) := by
  induction d with
  | zero => intro i vs h res hh; cases hh
  | succ d ih => exact yen_le ih
theorem yex_mono {d d' : Nat} (h : d ≤ d') : xLe (yex d) (yex d') := by
  induction h with
  | refl => exact fun _ _ _ _ h => h
  | step _ ih => exact fun i vs h res hh => yex_le _ i vs h res (ih i vs h res hh)
