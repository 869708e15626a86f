/-! FeatherBenchModel.program()I -/
theorem xq_71_214 : xOKs xsg xm_71 xk_71_0 xk_71_214 := trivial
theorem xq_71_213 : xOKs xsg xm_71 xk_71_0 xk_71_213 := ⟨xok_retI (by decide +kernel : decode xm_71.2.1 395 = .ok (.ireturn, 1)) rfl, xq_71_214⟩
theorem xq_71_212 : xOKs xsg xm_71 xk_71_0 xk_71_212 := ⟨xok_get (by decide +kernel : decode xm_71.2.1 392 = .ok (.getfield 300, 3)) (rfl : vwCl[12]? = some (RX12, TX12, 125)) inX12 (by decide) (xT_c6 69 rfl rfl) rfl, xq_71_213⟩
theorem xq_71_211 : xOKs xsg xm_71 xk_71_0 xk_71_211 := ⟨xok_ld (xl_aload_n (by decide +kernel : decode xm_71.2.1 391 = .ok (.aload_n 0, 1))) rfl, xq_71_212⟩
theorem xq_71_210 : xOKs xsg xm_71 xk_71_0 xk_71_210 := ⟨xok_put (by decide +kernel : decode xm_71.2.1 388 = .ok (.putfield 405, 3)) (rfl : vwCl[12]? = some (RX12, TX12, 125)) inX12 tyX12_ok nmX12 (k := 75) (by decide) rfl (xT_c6 136 rfl rfl) rfl, xq_71_211⟩
theorem xq_71_209 : xOKs xsg xm_71 xk_71_0 xk_71_209 := ⟨xok_get (by decide +kernel : decode xm_71.2.1 385 = .ok (.getfield 481, 3)) (rfl : vwCl[12]? = some (RX12, TX12, 125)) inX12 (by decide) (xT_c6 90 rfl rfl) rfl, xq_71_210⟩
theorem xq_71_208 : xOKs xsg xm_71 xk_71_0 xk_71_208 := ⟨xok_ld (xl_aload_n (by decide +kernel : decode xm_71.2.1 384 = .ok (.aload_n 0, 1))) rfl, xq_71_209⟩
theorem xq_71_207 : xOKs xsg xm_71 xk_71_0 xk_71_207 := ⟨xok_ld (xl_aload_n (by decide +kernel : decode xm_71.2.1 383 = .ok (.aload_n 0, 1))) rfl, xq_71_208⟩
theorem xq_71_206 : xOKs xsg xm_71 xk_71_0 xk_71_206 := ⟨xok_none, xq_71_207⟩
theorem xq_71_205 : xOKs xsg xm_71 xk_71_0 xk_71_205 := ⟨xok_none, xq_71_206⟩
theorem xq_71_204 : xOKs xsg xm_71 xk_71_0 xk_71_204 := ⟨xok_none, xq_71_205⟩
theorem xq_71_203 : xOKs xsg xm_71 xk_71_0 xk_71_203 := ⟨xok_none, xq_71_204⟩
theorem xq_71_202 : xOKs xsg xm_71 xk_71_0 xk_71_202 := ⟨xok_none, xq_71_203⟩
theorem xq_71_201 : xOKs xsg xm_71 xk_71_0 xk_71_201 := ⟨xok_none, xq_71_202⟩
theorem xq_71_200 : xOKs xsg xm_71 xk_71_0 xk_71_200 := ⟨xok_none, xq_71_201⟩
theorem xq_71_199 : xOKs xsg xm_71 xk_71_0 xk_71_199 := ⟨xok_none, xq_71_200⟩
theorem xq_71_198 : xOKs xsg xm_71 xk_71_0 xk_71_198 := ⟨xok_none, xq_71_199⟩
theorem xq_71_197 : xOKs xsg xm_71 xk_71_0 xk_71_197 := ⟨xok_none, xq_71_198⟩
theorem xq_71_196 : xOKs xsg xm_71 xk_71_0 xk_71_196 := ⟨xok_none, xq_71_197⟩
theorem xq_71_195 : xOKs xsg xm_71 xk_71_0 xk_71_195 := ⟨xok_none, xq_71_196⟩
theorem xq_71_194 : xOKs xsg xm_71 xk_71_0 xk_71_194 := ⟨xok_none, xq_71_195⟩
theorem xq_71_193 : xOKs xsg xm_71 xk_71_0 xk_71_193 := ⟨xok_none, xq_71_194⟩
theorem xq_71_192 : xOKs xsg xm_71 xk_71_0 xk_71_192 := ⟨xok_none, xq_71_193⟩
theorem xq_71_191 : xOKs xsg xm_71 xk_71_0 xk_71_191 := ⟨xok_none, xq_71_192⟩
theorem xq_71_190 : xOKs xsg xm_71 xk_71_0 xk_71_190 := ⟨xok_none, xq_71_191⟩
theorem xq_71_189 : xOKs xsg xm_71 xk_71_0 xk_71_189 := ⟨xok_none, xq_71_190⟩
theorem xq_71_188 : xOKs xsg xm_71 xk_71_0 xk_71_188 := ⟨xok_none, xq_71_189⟩
theorem xq_71_187 : xOKs xsg xm_71 xk_71_0 xk_71_187 := ⟨xok_none, xq_71_188⟩
theorem xq_71_186 : xOKs xsg xm_71 xk_71_0 xk_71_186 := ⟨xok_none, xq_71_187⟩
theorem xq_71_185 : xOKs xsg xm_71 xk_71_0 xk_71_185 := ⟨xok_none, xq_71_186⟩
theorem xq_71_184 : xOKs xsg xm_71 xk_71_0 xk_71_184 := ⟨xok_none, xq_71_185⟩
theorem xq_71_183 : xOKs xsg xm_71 xk_71_0 xk_71_183 := ⟨xok_none, xq_71_184⟩
theorem xq_71_182 : xOKs xsg xm_71 xk_71_0 xk_71_182 := ⟨xok_none, xq_71_183⟩
theorem xq_71_181 : xOKs xsg xm_71 xk_71_0 xk_71_181 := ⟨xok_none, xq_71_182⟩
theorem xq_71_180 : xOKs xsg xm_71 xk_71_0 xk_71_180 := ⟨xok_none, xq_71_181⟩
theorem xq_71_179 : xOKs xsg xm_71 xk_71_0 xk_71_179 := ⟨xok_none, xq_71_180⟩
theorem xq_71_178 : xOKs xsg xm_71 xk_71_0 xk_71_178 := ⟨xok_none, xq_71_179⟩
theorem xq_71_177 : xOKs xsg xm_71 xk_71_0 xk_71_177 := ⟨xok_none, xq_71_178⟩
theorem xq_71_176 : xOKs xsg xm_71 xk_71_0 xk_71_176 := ⟨xok_none, xq_71_177⟩
theorem xq_71_175 : xOKs xsg xm_71 xk_71_0 xk_71_175 := ⟨xok_none, xq_71_176⟩
theorem xq_71_174 : xOKs xsg xm_71 xk_71_0 xk_71_174 := ⟨xok_none, xq_71_175⟩
theorem xq_71_173 : xOKs xsg xm_71 xk_71_0 xk_71_173 := ⟨xok_none, xq_71_174⟩
theorem xq_71_172 : xOKs xsg xm_71 xk_71_0 xk_71_172 := ⟨xok_none, xq_71_173⟩
theorem xq_71_171 : xOKs xsg xm_71 xk_71_0 xk_71_171 := ⟨xok_none, xq_71_172⟩
theorem xq_71_170 : xOKs xsg xm_71 xk_71_0 xk_71_170 := ⟨xok_none, xq_71_171⟩
theorem xq_71_169 : xOKs xsg xm_71 xk_71_0 xk_71_169 := ⟨xok_br (tgt := 383) (xb_ne (by decide +kernel : decode xm_71.2.1 314 = .ok (.ifCond .ne 69, 3)) (by decide)) (by decide +kernel) rfl, xq_71_170⟩
theorem xq_71_168 : xOKs xsg xm_71 xk_71_0 xk_71_168 := ⟨xok_get (by decide +kernel : decode xm_71.2.1 311 = .ok (.getfield 300, 3)) (rfl : vwCl[12]? = some (RX12, TX12, 125)) inX12 (by decide) (xT_c6 69 rfl rfl) rfl, xq_71_169⟩
theorem xq_71_167 : xOKs xsg xm_71 xk_71_0 xk_71_167 := ⟨xok_ld (xl_aload_n (by decide +kernel : decode xm_71.2.1 310 = .ok (.aload_n 0, 1))) rfl, xq_71_168⟩
theorem xq_71_166 : xOKs xsg xm_71 xk_71_0 xk_71_166 := ⟨xok_none, xq_71_167⟩
theorem xq_71_165 : xOKs xsg xm_71 xk_71_0 xk_71_165 := ⟨xok_none, xq_71_166⟩
theorem xq_71_164 : xOKs xsg xm_71 xk_71_0 xk_71_164 := ⟨xok_none, xq_71_165⟩
theorem xq_71_163 : xOKs xsg xm_71 xk_71_0 xk_71_163 := ⟨xok_none, xq_71_164⟩
theorem xq_71_162 : xOKs xsg xm_71 xk_71_0 xk_71_162 := ⟨xok_none, xq_71_163⟩
theorem xq_71_161 : xOKs xsg xm_71 xk_71_0 xk_71_161 := ⟨xok_none, xq_71_162⟩
theorem xq_71_160 : xOKs xsg xm_71 xk_71_0 xk_71_160 := ⟨xok_none, xq_71_161⟩
theorem xq_71_159 : xOKs xsg xm_71 xk_71_0 xk_71_159 := ⟨xok_none, xq_71_160⟩
theorem xq_71_158 : xOKs xsg xm_71 xk_71_0 xk_71_158 := ⟨xok_none, xq_71_159⟩
theorem xq_71_157 : xOKs xsg xm_71 xk_71_0 xk_71_157 := ⟨xok_none, xq_71_158⟩
theorem xq_71_156 : xOKs xsg xm_71 xk_71_0 xk_71_156 := ⟨xok_none, xq_71_157⟩
theorem xq_71_155 : xOKs xsg xm_71 xk_71_0 xk_71_155 := ⟨xok_none, xq_71_156⟩
theorem xq_71_154 : xOKs xsg xm_71 xk_71_0 xk_71_154 := ⟨xok_none, xq_71_155⟩
theorem xq_71_153 : xOKs xsg xm_71 xk_71_0 xk_71_153 := ⟨xok_none, xq_71_154⟩
theorem xq_71_152 : xOKs xsg xm_71 xk_71_0 xk_71_152 := ⟨xok_none, xq_71_153⟩
theorem xq_71_151 : xOKs xsg xm_71 xk_71_0 xk_71_151 := ⟨xok_br (tgt := 310) (xb_ne (by decide +kernel : decode xm_71.2.1 280 = .ok (.ifCond .ne 30, 3)) (by decide)) (by decide +kernel) rfl, xq_71_152⟩
theorem xq_71_150 : xOKs xsg xm_71 xk_71_0 xk_71_150 := ⟨xok_get (by decide +kernel : decode xm_71.2.1 277 = .ok (.getfield 300, 3)) (rfl : vwCl[12]? = some (RX12, TX12, 125)) inX12 (by decide) (xT_c6 69 rfl rfl) rfl, xq_71_151⟩
theorem xq_71_149 : xOKs xsg xm_71 xk_71_0 xk_71_149 := ⟨xok_ld (xl_aload_n (by decide +kernel : decode xm_71.2.1 276 = .ok (.aload_n 0, 1))) rfl, xq_71_150⟩
theorem xq_71_148 : xOKs xsg xm_71 xk_71_0 xk_71_148 := ⟨xok_none, xq_71_149⟩
theorem xq_71_147 : xOKs xsg xm_71 xk_71_0 xk_71_147 := ⟨xok_none, xq_71_148⟩
theorem xq_71_146 : xOKs xsg xm_71 xk_71_0 xk_71_146 := ⟨xok_none, xq_71_147⟩
theorem xq_71_145 : xOKs xsg xm_71 xk_71_0 xk_71_145 := ⟨xok_none, xq_71_146⟩
theorem xq_71_144 : xOKs xsg xm_71 xk_71_0 xk_71_144 := ⟨xok_none, xq_71_145⟩
theorem xq_71_143 : xOKs xsg xm_71 xk_71_0 xk_71_143 := ⟨xok_none, xq_71_144⟩
theorem xq_71_142 : xOKs xsg xm_71 xk_71_0 xk_71_142 := ⟨xok_none, xq_71_143⟩
theorem xq_71_141 : xOKs xsg xm_71 xk_71_0 xk_71_141 := ⟨xok_none, xq_71_142⟩
theorem xq_71_140 : xOKs xsg xm_71 xk_71_0 xk_71_140 := ⟨xok_none, xq_71_141⟩
theorem xq_71_139 : xOKs xsg xm_71 xk_71_0 xk_71_139 := ⟨xok_none, xq_71_140⟩
theorem xq_71_138 : xOKs xsg xm_71 xk_71_0 xk_71_138 := ⟨xok_none, xq_71_139⟩
theorem xq_71_137 : xOKs xsg xm_71 xk_71_0 xk_71_137 := ⟨xok_none, xq_71_138⟩
theorem xq_71_136 : xOKs xsg xm_71 xk_71_0 xk_71_136 := ⟨xok_none, xq_71_137⟩
theorem xq_71_135 : xOKs xsg xm_71 xk_71_0 xk_71_135 := ⟨xok_br (tgt := 276) (xb_ige (by decide +kernel : decode xm_71.2.1 247 = .ok (.if_icmp .ge 29, 3)) (by decide)) (by decide +kernel) rfl, xq_71_136⟩
theorem xq_71_134 : xOKs xsg xm_71 xk_71_0 xk_71_134 := ⟨xok_ial (by decide +kernel : decode xm_71.2.1 246 = .ok (.iaload, 1)) rfl, xq_71_135⟩
theorem xq_71_133 : xOKs xsg xm_71 xk_71_0 xk_71_133 := ⟨xok_get (by decide +kernel : decode xm_71.2.1 243 = .ok (.getfield 364, 3)) (rfl : vwCl[12]? = some (RX12, TX12, 125)) inX12 (by decide) (xT_c6 91 rfl rfl) rfl, xq_71_134⟩
theorem xq_71_132 : xOKs xsg xm_71 xk_71_0 xk_71_132 := ⟨xok_ld (xl_aload_n (by decide +kernel : decode xm_71.2.1 242 = .ok (.aload_n 0, 1))) rfl, xq_71_133⟩
theorem xq_71_131 : xOKs xsg xm_71 xk_71_0 xk_71_131 := ⟨xok_get (by decide +kernel : decode xm_71.2.1 239 = .ok (.getfield 132, 3)) (rfl : vwCl[12]? = some (RX12, TX12, 125)) inX12 (by decide) (xT_c6 112 rfl rfl) rfl, xq_71_132⟩
theorem xq_71_130 : xOKs xsg xm_71 xk_71_0 xk_71_130 := ⟨xok_ld (xl_aload_n (by decide +kernel : decode xm_71.2.1 238 = .ok (.aload_n 0, 1))) rfl, xq_71_131⟩
theorem xq_71_129 : xOKs xsg xm_71 xk_71_0 xk_71_129 := ⟨xok_ld (xl_iload_n (by decide +kernel : decode xm_71.2.1 237 = .ok (.iload_n 1, 1))) rfl, xq_71_130⟩
theorem xq_71_128 : xOKs xsg xm_71 xk_71_0 xk_71_128 := ⟨xok_st (xs_istore_n (by decide +kernel : decode xm_71.2.1 236 = .ok (.istore_n 1, 1)) (by decide)) rfl, xq_71_129⟩
theorem xq_71_127 : xOKs xsg xm_71 xk_71_0 xk_71_127 := ⟨xok_p (xp_iconst (v := 0) (by decide +kernel : decode xm_71.2.1 235 = .ok (.iconst 0, 1)) (by decide)) rfl, xq_71_128⟩
theorem xq_71_126 : xOKs xsg xm_71 xk_71_0 xk_71_126 := ⟨xok_none, xq_71_127⟩
theorem xq_71_125 : xOKs xsg xm_71 xk_71_0 xk_71_125 := ⟨xok_none, xq_71_126⟩
theorem xq_71_124 : xOKs xsg xm_71 xk_71_0 xk_71_124 := ⟨xok_br (tgt := 235) (xb_ne (by decide +kernel : decode xm_71.2.1 228 = .ok (.ifCond .ne 7, 3)) (by decide)) (by decide +kernel) rfl, xq_71_125⟩
theorem xq_71_123 : xOKs xsg xm_71 xk_71_0 xk_71_123 := ⟨xok_get (by decide +kernel : decode xm_71.2.1 225 = .ok (.getfield 300, 3)) (rfl : vwCl[12]? = some (RX12, TX12, 125)) inX12 (by decide) (xT_c6 69 rfl rfl) rfl, xq_71_124⟩
theorem xq_71_122 : xOKs xsg xm_71 xk_71_0 xk_71_122 := ⟨xok_ld (xl_aload_n (by decide +kernel : decode xm_71.2.1 224 = .ok (.aload_n 0, 1))) rfl, xq_71_123⟩
theorem xq_71_121 : xOKs xsg xm_71 xk_71_0 xk_71_121 := ⟨xok_br (tgt := 166) (xb_go (by decide +kernel : decode xm_71.2.1 221 = .ok (.goto (-55), 3)) (by decide)) (by decide +kernel) rfl, xq_71_122⟩
theorem xq_71_120 : xOKs xsg xm_71 xk_71_0 xk_71_120 := ⟨xok_inc (by decide +kernel : decode xm_71.2.1 218 = .ok (.iinc 1 1, 3)) (by decide) rfl, xq_71_121⟩
theorem xq_71_119 : xOKs xsg xm_71 xk_71_0 xk_71_119 := ⟨xok_none, xq_71_120⟩
theorem xq_71_118 : xOKs xsg xm_71 xk_71_0 xk_71_118 := ⟨xok_none, xq_71_119⟩
theorem xq_71_117 : xOKs xsg xm_71 xk_71_0 xk_71_117 := ⟨xok_none, xq_71_118⟩
theorem xq_71_116 : xOKs xsg xm_71 xk_71_0 xk_71_116 := ⟨xok_none, xq_71_117⟩
theorem xq_71_115 : xOKs xsg xm_71 xk_71_0 xk_71_115 := ⟨xok_none, xq_71_116⟩
theorem xq_71_114 : xOKs xsg xm_71 xk_71_0 xk_71_114 := ⟨xok_none, xq_71_115⟩
theorem xq_71_113 : xOKs xsg xm_71 xk_71_0 xk_71_113 := ⟨xok_none, xq_71_114⟩
theorem xq_71_112 : xOKs xsg xm_71 xk_71_0 xk_71_112 := ⟨xok_none, xq_71_113⟩
theorem xq_71_111 : xOKs xsg xm_71 xk_71_0 xk_71_111 := ⟨xok_none, xq_71_112⟩
theorem xq_71_110 : xOKs xsg xm_71 xk_71_0 xk_71_110 := ⟨xok_none, xq_71_111⟩
theorem xq_71_109 : xOKs xsg xm_71 xk_71_0 xk_71_109 := ⟨xok_none, xq_71_110⟩
theorem xq_71_108 : xOKs xsg xm_71 xk_71_0 xk_71_108 := ⟨xok_none, xq_71_109⟩
theorem xq_71_107 : xOKs xsg xm_71 xk_71_0 xk_71_107 := ⟨xok_none, xq_71_108⟩
theorem xq_71_106 : xOKs xsg xm_71 xk_71_0 xk_71_106 := ⟨xok_none, xq_71_107⟩
theorem xq_71_105 : xOKs xsg xm_71 xk_71_0 xk_71_105 := ⟨xok_none, xq_71_106⟩
theorem xq_71_104 : xOKs xsg xm_71 xk_71_0 xk_71_104 := ⟨xok_none, xq_71_105⟩
theorem xq_71_103 : xOKs xsg xm_71 xk_71_0 xk_71_103 := ⟨xok_none, xq_71_104⟩
theorem xq_71_102 : xOKs xsg xm_71 xk_71_0 xk_71_102 := ⟨xok_br (tgt := 218) (xb_ige (by decide +kernel : decode xm_71.2.1 183 = .ok (.if_icmp .ge 35, 3)) (by decide)) (by decide +kernel) rfl, xq_71_103⟩
theorem xq_71_101 : xOKs xsg xm_71 xk_71_0 xk_71_101 := ⟨xok_ial (by decide +kernel : decode xm_71.2.1 182 = .ok (.iaload, 1)) rfl, xq_71_102⟩
theorem xq_71_100 : xOKs xsg xm_71 xk_71_0 xk_71_100 := ⟨xok_get (by decide +kernel : decode xm_71.2.1 179 = .ok (.getfield 364, 3)) (rfl : vwCl[12]? = some (RX12, TX12, 125)) inX12 (by decide) (xT_c6 91 rfl rfl) rfl, xq_71_101⟩
theorem xq_71_99 : xOKs xsg xm_71 xk_71_0 xk_71_99 := ⟨xok_ld (xl_aload_n (by decide +kernel : decode xm_71.2.1 178 = .ok (.aload_n 0, 1))) rfl, xq_71_100⟩
theorem xq_71_98 : xOKs xsg xm_71 xk_71_0 xk_71_98 := ⟨xok_get (by decide +kernel : decode xm_71.2.1 175 = .ok (.getfield 165, 3)) (rfl : vwCl[12]? = some (RX12, TX12, 125)) inX12 (by decide) (xT_c6 123 rfl rfl) rfl, xq_71_99⟩
theorem xq_71_97 : xOKs xsg xm_71 xk_71_0 xk_71_97 := ⟨xok_ld (xl_aload_n (by decide +kernel : decode xm_71.2.1 174 = .ok (.aload_n 0, 1))) rfl, xq_71_98⟩
theorem xq_71_96 : xOKs xsg xm_71 xk_71_0 xk_71_96 := ⟨xok_ld (xl_iload_n (by decide +kernel : decode xm_71.2.1 173 = .ok (.iload_n 2, 1))) rfl, xq_71_97⟩
theorem xq_71_95 : xOKs xsg xm_71 xk_71_0 xk_71_95 := ⟨xok_st (xs_istore_n (by decide +kernel : decode xm_71.2.1 172 = .ok (.istore_n 2, 1)) (by decide)) rfl, xq_71_96⟩
theorem xq_71_94 : xOKs xsg xm_71 xk_71_0 xk_71_94 := ⟨xok_p (xp_iconst (v := 0) (by decide +kernel : decode xm_71.2.1 171 = .ok (.iconst 0, 1)) (by decide)) rfl, xq_71_95⟩
theorem xq_71_93 : xOKs xsg xm_71 xk_71_0 xk_71_93 := ⟨xok_br (tgt := 224) (xb_ige (by decide +kernel : decode xm_71.2.1 168 = .ok (.if_icmp .ge 56, 3)) (by decide)) (by decide +kernel) rfl, xq_71_94⟩
theorem xq_71_92 : xOKs xsg xm_71 xk_71_0 xk_71_92 := ⟨xok_p (xp_iconst (v := 3) (by decide +kernel : decode xm_71.2.1 167 = .ok (.iconst 3, 1)) (by decide)) rfl, xq_71_93⟩
theorem xq_71_91 : xOKs xsg xm_71 xk_71_0 xk_71_91 := ⟨xok_ld (xl_iload_n (by decide +kernel : decode xm_71.2.1 166 = .ok (.iload_n 1, 1))) rfl, xq_71_92⟩
theorem xq_71_90 : xOKs xsg xm_71 xk_71_0 xk_71_90 := ⟨xok_st (xs_istore_n (by decide +kernel : decode xm_71.2.1 165 = .ok (.istore_n 1, 1)) (by decide)) rfl, xq_71_91⟩
theorem xq_71_89 : xOKs xsg xm_71 xk_71_0 xk_71_89 := ⟨xok_p (xp_iconst (v := 0) (by decide +kernel : decode xm_71.2.1 164 = .ok (.iconst 0, 1)) (by decide)) rfl, xq_71_90⟩
theorem xq_71_88 : xOKs xsg xm_71 xk_71_0 xk_71_88 := ⟨xok_put (by decide +kernel : decode xm_71.2.1 161 = .ok (.putfield 383, 3)) (rfl : vwCl[12]? = some (RX12, TX12, 125)) inX12 tyX12_ok nmX12 (k := 70) (by decide) rfl (xT_c6 131 rfl rfl) rfl, xq_71_89⟩
theorem xq_71_87 : xOKs xsg xm_71 xk_71_0 xk_71_87 := ⟨xok_p (xp_iconst (v := 0) (by decide +kernel : decode xm_71.2.1 160 = .ok (.iconst 0, 1)) (by decide)) rfl, xq_71_88⟩
theorem xq_71_86 : xOKs xsg xm_71 xk_71_0 xk_71_86 := ⟨xok_ld (xl_aload_n (by decide +kernel : decode xm_71.2.1 159 = .ok (.aload_n 0, 1))) rfl, xq_71_87⟩
theorem xq_71_85 : xOKs xsg xm_71 xk_71_0 xk_71_85 := ⟨xok_put (by decide +kernel : decode xm_71.2.1 156 = .ok (.putfield 389, 3)) (rfl : vwCl[12]? = some (RX12, TX12, 125)) inX12 tyX12_ok nmX12 (k := 64) (by decide) rfl (xT_c6 125 rfl rfl) rfl, xq_71_86⟩
theorem xq_71_84 : xOKs xsg xm_71 xk_71_0 xk_71_84 := ⟨xok_p (xp_ldcw (v := 100000) (by decide +kernel : decode xm_71.2.1 153 = .ok (.ldc_w 556, 3)) (xT_c8 81 rfl rfl)) rfl, xq_71_85⟩
theorem xq_71_83 : xOKs xsg xm_71 xk_71_0 xk_71_83 := ⟨xok_ld (xl_aload_n (by decide +kernel : decode xm_71.2.1 152 = .ok (.aload_n 0, 1))) rfl, xq_71_84⟩
theorem xq_71_82 : xOKs xsg xm_71 xk_71_0 xk_71_82 := ⟨xok_br (tgt := 126) (xb_go (by decide +kernel : decode xm_71.2.1 149 = .ok (.goto (-23), 3)) (by decide)) (by decide +kernel) rfl, xq_71_83⟩
theorem xq_71_81 : xOKs xsg xm_71 xk_71_0 xk_71_81 := ⟨xok_inc (by decide +kernel : decode xm_71.2.1 146 = .ok (.iinc 1 1, 3)) (by decide) rfl, xq_71_82⟩
theorem xq_71_80 : xOKs xsg xm_71 xk_71_0 xk_71_80 := ⟨xok_ias (by decide +kernel : decode xm_71.2.1 145 = .ok (.iastore, 1)) rfl, xq_71_81⟩
theorem xq_71_79 : xOKs xsg xm_71 xk_71_0 xk_71_79 := ⟨xok_p (xp_imul (by decide +kernel : decode xm_71.2.1 144 = .ok (.imul, 1))) rfl, xq_71_80⟩
theorem xq_71_78 : xOKs xsg xm_71 xk_71_0 xk_71_78 := ⟨xok_p (xp_iadd (by decide +kernel : decode xm_71.2.1 143 = .ok (.iadd, 1))) rfl, xq_71_79⟩
theorem xq_71_77 : xOKs xsg xm_71 xk_71_0 xk_71_77 := ⟨xok_ld (xl_iload_n (by decide +kernel : decode xm_71.2.1 142 = .ok (.iload_n 1, 1))) rfl, xq_71_78⟩
theorem xq_71_76 : xOKs xsg xm_71 xk_71_0 xk_71_76 := ⟨xok_p (xp_sipush (v := 5000) (by decide +kernel : decode xm_71.2.1 139 = .ok (.sipush 5000, 3)) (by decide)) rfl, xq_71_77⟩
theorem xq_71_75 : xOKs xsg xm_71 xk_71_0 xk_71_75 := ⟨xok_p (xp_bipush (v := 8) (by decide +kernel : decode xm_71.2.1 137 = .ok (.bipush 8, 2)) (by decide)) rfl, xq_71_76⟩
theorem xq_71_74 : xOKs xsg xm_71 xk_71_0 xk_71_74 := ⟨xok_ld (xl_iload_n (by decide +kernel : decode xm_71.2.1 136 = .ok (.iload_n 1, 1))) rfl, xq_71_75⟩
theorem xq_71_73 : xOKs xsg xm_71 xk_71_0 xk_71_73 := ⟨xok_get (by decide +kernel : decode xm_71.2.1 133 = .ok (.getfield 169, 3)) (rfl : vwCl[12]? = some (RX12, TX12, 125)) inX12 (by decide) (xT_c6 124 rfl rfl) rfl, xq_71_74⟩
theorem xq_71_72 : xOKs xsg xm_71 xk_71_0 xk_71_72 := ⟨xok_ld (xl_aload_n (by decide +kernel : decode xm_71.2.1 132 = .ok (.aload_n 0, 1))) rfl, xq_71_73⟩
theorem xq_71_71 : xOKs xsg xm_71 xk_71_0 xk_71_71 := ⟨xok_br (tgt := 152) (xb_ige (by decide +kernel : decode xm_71.2.1 129 = .ok (.if_icmp .ge 23, 3)) (by decide)) (by decide +kernel) rfl, xq_71_72⟩
theorem xq_71_70 : xOKs xsg xm_71 xk_71_0 xk_71_70 := ⟨xok_p (xp_bipush (v := 6) (by decide +kernel : decode xm_71.2.1 127 = .ok (.bipush 6, 2)) (by decide)) rfl, xq_71_71⟩
theorem xq_71_69 : xOKs xsg xm_71 xk_71_0 xk_71_69 := ⟨xok_ld (xl_iload_n (by decide +kernel : decode xm_71.2.1 126 = .ok (.iload_n 1, 1))) rfl, xq_71_70⟩
theorem xq_71_68 : xOKs xsg xm_71 xk_71_0 xk_71_68 := ⟨xok_st (xs_istore_n (by decide +kernel : decode xm_71.2.1 125 = .ok (.istore_n 1, 1)) (by decide)) rfl, xq_71_69⟩
theorem xq_71_67 : xOKs xsg xm_71 xk_71_0 xk_71_67 := ⟨xok_p (xp_iconst (v := 0) (by decide +kernel : decode xm_71.2.1 124 = .ok (.iconst 0, 1)) (by decide)) rfl, xq_71_68⟩
theorem xq_71_66 : xOKs xsg xm_71 xk_71_0 xk_71_66 := ⟨xok_put (by decide +kernel : decode xm_71.2.1 121 = .ok (.putfield 547, 3)) (rfl : vwCl[12]? = some (RX12, TX12, 125)) inX12 tyX12_ok nmX12 (k := 85) (by decide) rfl (xT_c6 146 rfl rfl) rfl, xq_71_67⟩
theorem xq_71_65 : xOKs xsg xm_71 xk_71_0 xk_71_65 := ⟨xok_p (xp_imul (by decide +kernel : decode xm_71.2.1 120 = .ok (.imul, 1))) rfl, xq_71_66⟩
theorem xq_71_64 : xOKs xsg xm_71 xk_71_0 xk_71_64 := ⟨xok_get (by decide +kernel : decode xm_71.2.1 117 = .ok (.getfield 364, 3)) (rfl : vwCl[12]? = some (RX12, TX12, 125)) inX12 (by decide) (xT_c6 91 rfl rfl) rfl, xq_71_65⟩
theorem xq_71_63 : xOKs xsg xm_71 xk_71_0 xk_71_63 := ⟨xok_ld (xl_aload_n (by decide +kernel : decode xm_71.2.1 116 = .ok (.aload_n 0, 1))) rfl, xq_71_64⟩
theorem xq_71_62 : xOKs xsg xm_71 xk_71_0 xk_71_62 := ⟨xok_p (xp_ldcw (v := 60000) (by decide +kernel : decode xm_71.2.1 113 = .ok (.ldc_w 566, 3)) (xT_c8 80 rfl rfl)) rfl, xq_71_63⟩
theorem xq_71_61 : xOKs xsg xm_71 xk_71_0 xk_71_61 := ⟨xok_ld (xl_aload_n (by decide +kernel : decode xm_71.2.1 112 = .ok (.aload_n 0, 1))) rfl, xq_71_62⟩
theorem xq_71_60 : xOKs xsg xm_71 xk_71_0 xk_71_60 := ⟨xok_put (by decide +kernel : decode xm_71.2.1 109 = .ok (.putfield 474, 3)) (rfl : vwCl[12]? = some (RX12, TX12, 125)) inX12 tyX12_ok nmX12 (k := 65) (by decide) rfl (xT_c6 126 rfl rfl) rfl, xq_71_61⟩
theorem xq_71_59 : xOKs xsg xm_71 xk_71_0 xk_71_59 := ⟨xok_p (xp_iadd (by decide +kernel : decode xm_71.2.1 108 = .ok (.iadd, 1))) rfl, xq_71_60⟩
theorem xq_71_58 : xOKs xsg xm_71 xk_71_0 xk_71_58 := ⟨xok_p (xp_imul (by decide +kernel : decode xm_71.2.1 107 = .ok (.imul, 1))) rfl, xq_71_59⟩
theorem xq_71_57 : xOKs xsg xm_71 xk_71_0 xk_71_57 := ⟨xok_get (by decide +kernel : decode xm_71.2.1 104 = .ok (.getfield 364, 3)) (rfl : vwCl[12]? = some (RX12, TX12, 125)) inX12 (by decide) (xT_c6 91 rfl rfl) rfl, xq_71_58⟩
theorem xq_71_56 : xOKs xsg xm_71 xk_71_0 xk_71_56 := ⟨xok_ld (xl_aload_n (by decide +kernel : decode xm_71.2.1 103 = .ok (.aload_n 0, 1))) rfl, xq_71_57⟩
theorem xq_71_55 : xOKs xsg xm_71 xk_71_0 xk_71_55 := ⟨xok_p (xp_sipush (v := 4100) (by decide +kernel : decode xm_71.2.1 100 = .ok (.sipush 4100, 3)) (by decide)) rfl, xq_71_56⟩
theorem xq_71_54 : xOKs xsg xm_71 xk_71_0 xk_71_54 := ⟨xok_p (xp_bipush (v := 10) (by decide +kernel : decode xm_71.2.1 98 = .ok (.bipush 10, 2)) (by decide)) rfl, xq_71_55⟩
theorem xq_71_53 : xOKs xsg xm_71 xk_71_0 xk_71_53 := ⟨xok_ld (xl_aload_n (by decide +kernel : decode xm_71.2.1 97 = .ok (.aload_n 0, 1))) rfl, xq_71_54⟩
theorem xq_71_52 : xOKs xsg xm_71 xk_71_0 xk_71_52 := ⟨xok_put (by decide +kernel : decode xm_71.2.1 94 = .ok (.putfield 405, 3)) (rfl : vwCl[12]? = some (RX12, TX12, 125)) inX12 tyX12_ok nmX12 (k := 75) (by decide) rfl (xT_c6 136 rfl rfl) rfl, xq_71_53⟩
theorem xq_71_51 : xOKs xsg xm_71 xk_71_0 xk_71_51 := ⟨xok_get (by decide +kernel : decode xm_71.2.1 91 = .ok (.getfield 364, 3)) (rfl : vwCl[12]? = some (RX12, TX12, 125)) inX12 (by decide) (xT_c6 91 rfl rfl) rfl, xq_71_52⟩
theorem xq_71_50 : xOKs xsg xm_71 xk_71_0 xk_71_50 := ⟨xok_ld (xl_aload_n (by decide +kernel : decode xm_71.2.1 90 = .ok (.aload_n 0, 1))) rfl, xq_71_51⟩
theorem xq_71_49 : xOKs xsg xm_71 xk_71_0 xk_71_49 := ⟨xok_ld (xl_aload_n (by decide +kernel : decode xm_71.2.1 89 = .ok (.aload_n 0, 1))) rfl, xq_71_50⟩
theorem xq_71_48 : xOKs xsg xm_71 xk_71_0 xk_71_48 := ⟨xok_callV (M' := xm_70) rfl (rfl : vwCl[12]? = some (RX12, TX12, 125)) (by decide +kernel : decode xm_71.2.1 86 = .ok (.invokevirtual 563, 3)) xn_70 (xT_c7 238 rfl rfl) (xT_c0 71 rfl rfl) (xT_c7 236 rfl rfl) rfl, xq_71_49⟩
theorem xq_71_47 : xOKs xsg xm_71 xk_71_0 xk_71_47 := ⟨xok_ld (xl_aload_n (by decide +kernel : decode xm_71.2.1 85 = .ok (.aload_n 0, 1))) rfl, xq_71_48⟩
theorem xq_71_46 : xOKs xsg xm_71 xk_71_0 xk_71_46 := ⟨xok_ias (by decide +kernel : decode xm_71.2.1 84 = .ok (.iastore, 1)) rfl, xq_71_47⟩
theorem xq_71_45 : xOKs xsg xm_71 xk_71_0 xk_71_45 := ⟨xok_p (xp_iconst (v := 0) (by decide +kernel : decode xm_71.2.1 83 = .ok (.iconst 0, 1)) (by decide)) rfl, xq_71_46⟩
theorem xq_71_44 : xOKs xsg xm_71 xk_71_0 xk_71_44 := ⟨xok_get (by decide +kernel : decode xm_71.2.1 80 = .ok (.getfield 364, 3)) (rfl : vwCl[12]? = some (RX12, TX12, 125)) inX12 (by decide) (xT_c6 91 rfl rfl) rfl, xq_71_45⟩
theorem xq_71_43 : xOKs xsg xm_71 xk_71_0 xk_71_43 := ⟨xok_ld (xl_aload_n (by decide +kernel : decode xm_71.2.1 79 = .ok (.aload_n 0, 1))) rfl, xq_71_44⟩
theorem xq_71_42 : xOKs xsg xm_71 xk_71_0 xk_71_42 := ⟨xok_get (by decide +kernel : decode xm_71.2.1 76 = .ok (.getfield 165, 3)) (rfl : vwCl[12]? = some (RX12, TX12, 125)) inX12 (by decide) (xT_c6 123 rfl rfl) rfl, xq_71_43⟩
theorem xq_71_41 : xOKs xsg xm_71 xk_71_0 xk_71_41 := ⟨xok_ld (xl_aload_n (by decide +kernel : decode xm_71.2.1 75 = .ok (.aload_n 0, 1))) rfl, xq_71_42⟩
theorem xq_71_40 : xOKs xsg xm_71 xk_71_0 xk_71_40 := ⟨xok_put (by decide +kernel : decode xm_71.2.1 72 = .ok (.putfield 370, 3)) (rfl : vwCl[12]? = some (RX12, TX12, 125)) inX12 tyX12_ok nmX12 (k := 42) (by decide) rfl (xT_c6 103 rfl rfl) rfl, xq_71_41⟩
theorem xq_71_39 : xOKs xsg xm_71 xk_71_0 xk_71_39 := ⟨xok_p (xp_imul (by decide +kernel : decode xm_71.2.1 71 = .ok (.imul, 1))) rfl, xq_71_40⟩
theorem xq_71_38 : xOKs xsg xm_71 xk_71_0 xk_71_38 := ⟨xok_get (by decide +kernel : decode xm_71.2.1 68 = .ok (.getfield 364, 3)) (rfl : vwCl[12]? = some (RX12, TX12, 125)) inX12 (by decide) (xT_c6 91 rfl rfl) rfl, xq_71_39⟩
theorem xq_71_37 : xOKs xsg xm_71 xk_71_0 xk_71_37 := ⟨xok_ld (xl_aload_n (by decide +kernel : decode xm_71.2.1 67 = .ok (.aload_n 0, 1))) rfl, xq_71_38⟩
theorem xq_71_36 : xOKs xsg xm_71 xk_71_0 xk_71_36 := ⟨xok_p (xp_sipush (v := 204) (by decide +kernel : decode xm_71.2.1 64 = .ok (.sipush 204, 3)) (by decide)) rfl, xq_71_37⟩
theorem xq_71_35 : xOKs xsg xm_71 xk_71_0 xk_71_35 := ⟨xok_ld (xl_aload_n (by decide +kernel : decode xm_71.2.1 63 = .ok (.aload_n 0, 1))) rfl, xq_71_36⟩
theorem xq_71_34 : xOKs xsg xm_71 xk_71_0 xk_71_34 := ⟨xok_ias (by decide +kernel : decode xm_71.2.1 62 = .ok (.iastore, 1)) rfl, xq_71_35⟩
theorem xq_71_33 : xOKs xsg xm_71 xk_71_0 xk_71_33 := ⟨xok_p (xp_iconst (v := 0) (by decide +kernel : decode xm_71.2.1 61 = .ok (.iconst 0, 1)) (by decide)) rfl, xq_71_34⟩
theorem xq_71_32 : xOKs xsg xm_71 xk_71_0 xk_71_32 := ⟨xok_get (by decide +kernel : decode xm_71.2.1 58 = .ok (.getfield 364, 3)) (rfl : vwCl[12]? = some (RX12, TX12, 125)) inX12 (by decide) (xT_c6 91 rfl rfl) rfl, xq_71_33⟩
theorem xq_71_31 : xOKs xsg xm_71 xk_71_0 xk_71_31 := ⟨xok_ld (xl_aload_n (by decide +kernel : decode xm_71.2.1 57 = .ok (.aload_n 0, 1))) rfl, xq_71_32⟩
theorem xq_71_30 : xOKs xsg xm_71 xk_71_0 xk_71_30 := ⟨xok_get (by decide +kernel : decode xm_71.2.1 54 = .ok (.getfield 132, 3)) (rfl : vwCl[12]? = some (RX12, TX12, 125)) inX12 (by decide) (xT_c6 112 rfl rfl) rfl, xq_71_31⟩
theorem xq_71_29 : xOKs xsg xm_71 xk_71_0 xk_71_29 := ⟨xok_ld (xl_aload_n (by decide +kernel : decode xm_71.2.1 53 = .ok (.aload_n 0, 1))) rfl, xq_71_30⟩
theorem xq_71_28 : xOKs xsg xm_71 xk_71_0 xk_71_28 := ⟨xok_ias (by decide +kernel : decode xm_71.2.1 52 = .ok (.iastore, 1)) rfl, xq_71_29⟩
theorem xq_71_27 : xOKs xsg xm_71 xk_71_0 xk_71_27 := ⟨xok_p (xp_iconst (v := 0) (by decide +kernel : decode xm_71.2.1 51 = .ok (.iconst 0, 1)) (by decide)) rfl, xq_71_28⟩
theorem xq_71_26 : xOKs xsg xm_71 xk_71_0 xk_71_26 := ⟨xok_get (by decide +kernel : decode xm_71.2.1 48 = .ok (.getfield 364, 3)) (rfl : vwCl[12]? = some (RX12, TX12, 125)) inX12 (by decide) (xT_c6 91 rfl rfl) rfl, xq_71_27⟩
theorem xq_71_25 : xOKs xsg xm_71 xk_71_0 xk_71_25 := ⟨xok_ld (xl_aload_n (by decide +kernel : decode xm_71.2.1 47 = .ok (.aload_n 0, 1))) rfl, xq_71_26⟩
theorem xq_71_24 : xOKs xsg xm_71 xk_71_0 xk_71_24 := ⟨xok_get (by decide +kernel : decode xm_71.2.1 44 = .ok (.getfield 74, 3)) (rfl : vwCl[12]? = some (RX12, TX12, 125)) inX12 (by decide) (xT_c6 92 rfl rfl) rfl, xq_71_25⟩
theorem xq_71_23 : xOKs xsg xm_71 xk_71_0 xk_71_23 := ⟨xok_ld (xl_aload_n (by decide +kernel : decode xm_71.2.1 43 = .ok (.aload_n 0, 1))) rfl, xq_71_24⟩
theorem xq_71_22 : xOKs xsg xm_71 xk_71_0 xk_71_22 := ⟨xok_put (by decide +kernel : decode xm_71.2.1 40 = .ok (.putfield 317, 3)) (rfl : vwCl[12]? = some (RX12, TX12, 125)) inX12 tyX12_ok nmX12 (k := 26) (by decide) rfl (xT_c6 87 rfl rfl) rfl, xq_71_23⟩
theorem xq_71_21 : xOKs xsg xm_71 xk_71_0 xk_71_21 := ⟨xok_p (xp_imul (by decide +kernel : decode xm_71.2.1 39 = .ok (.imul, 1))) rfl, xq_71_22⟩
theorem xq_71_20 : xOKs xsg xm_71 xk_71_0 xk_71_20 := ⟨xok_get (by decide +kernel : decode xm_71.2.1 36 = .ok (.getfield 364, 3)) (rfl : vwCl[12]? = some (RX12, TX12, 125)) inX12 (by decide) (xT_c6 91 rfl rfl) rfl, xq_71_21⟩
theorem xq_71_19 : xOKs xsg xm_71 xk_71_0 xk_71_19 := ⟨xok_ld (xl_aload_n (by decide +kernel : decode xm_71.2.1 35 = .ok (.aload_n 0, 1))) rfl, xq_71_20⟩
theorem xq_71_18 : xOKs xsg xm_71 xk_71_0 xk_71_18 := ⟨xok_p (xp_sipush (v := 4002) (by decide +kernel : decode xm_71.2.1 32 = .ok (.sipush 4002, 3)) (by decide)) rfl, xq_71_19⟩
theorem xq_71_17 : xOKs xsg xm_71 xk_71_0 xk_71_17 := ⟨xok_ld (xl_aload_n (by decide +kernel : decode xm_71.2.1 31 = .ok (.aload_n 0, 1))) rfl, xq_71_18⟩
theorem xq_71_16 : xOKs xsg xm_71 xk_71_0 xk_71_16 := ⟨xok_callV (M' := xm_60) rfl (rfl : vwCl[12]? = some (RX12, TX12, 125)) (by decide +kernel : decode xm_71.2.1 28 = .ok (.invokevirtual 560, 3)) xn_60 (xT_c7 225 rfl rfl) (xT_c0 70 rfl rfl) (xT_c7 223 rfl rfl) rfl, xq_71_17⟩
theorem xq_71_15 : xOKs xsg xm_71 xk_71_0 xk_71_15 := ⟨xok_ld (xl_aload_n (by decide +kernel : decode xm_71.2.1 27 = .ok (.aload_n 0, 1))) rfl, xq_71_16⟩
theorem xq_71_14 : xOKs xsg xm_71 xk_71_0 xk_71_14 := ⟨xok_callV (M' := xm_59) rfl (rfl : vwCl[12]? = some (RX12, TX12, 125)) (by decide +kernel : decode xm_71.2.1 24 = .ok (.invokevirtual 557, 3)) xn_59 (xT_c7 211 rfl rfl) (xT_c0 68 rfl rfl) (xT_c7 209 rfl rfl) rfl, xq_71_15⟩
theorem xq_71_13 : xOKs xsg xm_71 xk_71_0 xk_71_13 := ⟨xok_ld (xl_aload_n (by decide +kernel : decode xm_71.2.1 23 = .ok (.aload_n 0, 1))) rfl, xq_71_14⟩
theorem xq_71_12 : xOKs xsg xm_71 xk_71_0 xk_71_12 := ⟨xok_put (by decide +kernel : decode xm_71.2.1 20 = .ok (.putfield 262, 3)) (rfl : vwCl[12]? = some (RX12, TX12, 125)) inX12 tyX12_ok nmX12 (k := 9) (by decide) rfl (xT_c6 70 rfl rfl) rfl, xq_71_13⟩
theorem xq_71_11 : xOKs xsg xm_71 xk_71_0 xk_71_11 := ⟨xok_get (by decide +kernel : decode xm_71.2.1 17 = .ok (.getfield 364, 3)) (rfl : vwCl[12]? = some (RX12, TX12, 125)) inX12 (by decide) (xT_c6 91 rfl rfl) rfl, xq_71_12⟩
theorem xq_71_10 : xOKs xsg xm_71 xk_71_0 xk_71_10 := ⟨xok_ld (xl_aload_n (by decide +kernel : decode xm_71.2.1 16 = .ok (.aload_n 0, 1))) rfl, xq_71_11⟩
theorem xq_71_9 : xOKs xsg xm_71 xk_71_0 xk_71_9 := ⟨xok_ld (xl_aload_n (by decide +kernel : decode xm_71.2.1 15 = .ok (.aload_n 0, 1))) rfl, xq_71_10⟩
theorem xq_71_8 : xOKs xsg xm_71 xk_71_0 xk_71_8 := ⟨xok_put (by decide +kernel : decode xm_71.2.1 12 = .ok (.putfield 364, 3)) (rfl : vwCl[12]? = some (RX12, TX12, 125)) inX12 tyX12_ok nmX12 (k := 30) (by decide) rfl (xT_c6 91 rfl rfl) rfl, xq_71_9⟩
theorem xq_71_7 : xOKs xsg xm_71 xk_71_0 xk_71_7 := ⟨xok_p (xp_isub (by decide +kernel : decode xm_71.2.1 11 = .ok (.isub, 1))) rfl, xq_71_8⟩
theorem xq_71_6 : xOKs xsg xm_71 xk_71_0 xk_71_6 := ⟨xok_get (by decide +kernel : decode xm_71.2.1 8 = .ok (.getfield 481, 3)) (rfl : vwCl[12]? = some (RX12, TX12, 125)) inX12 (by decide) (xT_c6 90 rfl rfl) rfl, xq_71_7⟩
theorem xq_71_5 : xOKs xsg xm_71 xk_71_0 xk_71_5 := ⟨xok_ld (xl_aload_n (by decide +kernel : decode xm_71.2.1 7 = .ok (.aload_n 0, 1))) rfl, xq_71_6⟩
theorem xq_71_4 : xOKs xsg xm_71 xk_71_0 xk_71_4 := ⟨xok_p (xp_iconst (v := 1) (by decide +kernel : decode xm_71.2.1 6 = .ok (.iconst 1, 1)) (by decide)) rfl, xq_71_5⟩
theorem xq_71_3 : xOKs xsg xm_71 xk_71_0 xk_71_3 := ⟨xok_ld (xl_aload_n (by decide +kernel : decode xm_71.2.1 5 = .ok (.aload_n 0, 1))) rfl, xq_71_4⟩
theorem xq_71_2 : xOKs xsg xm_71 xk_71_0 xk_71_2 := ⟨xok_put (by decide +kernel : decode xm_71.2.1 2 = .ok (.putfield 252, 3)) (rfl : vwCl[12]? = some (RX12, TX12, 125)) inX12 tyX12_ok nmX12 (k := 0) (by decide) rfl (xT_c6 61 rfl rfl) rfl, xq_71_3⟩
theorem xq_71_1 : xOKs xsg xm_71 xk_71_0 xk_71_1 := ⟨xok_p (xp_iconst (v := 0) (by decide +kernel : decode xm_71.2.1 1 = .ok (.iconst 0, 1)) (by decide)) rfl, xq_71_2⟩
theorem xq_71_0 : xOKs xsg xm_71 xk_71_0 xk_71_0 := ⟨xok_ld (xl_aload_n (by decide +kernel : decode xm_71.2.1 0 = .ok (.aload_n 0, 1))) rfl, xq_71_1⟩
theorem xz_71 : xwf xsg xm_71 xk_71_0 := ⟨xq_71_0, rfl, by decide⟩
/-! FeatherBenchModel.askedType()I -/
theorem xq_72_13 : xOKs xsg xm_72 xk_72_0 xk_72_13 := trivial
theorem xq_72_12 : xOKs xsg xm_72 xk_72_0 xk_72_12 := ⟨xok_retI (by decide +kernel : decode xm_72.2.1 22 = .ok (.ireturn, 1)) rfl, xq_72_13⟩
theorem xq_72_11 : xOKs xsg xm_72 xk_72_0 xk_72_11 := ⟨xok_none, xq_72_12⟩
theorem xq_72_10 : xOKs xsg xm_72 xk_72_0 xk_72_10 := ⟨xok_br (tgt := 22) (xb_go (by decide +kernel : decode xm_72.2.1 18 = .ok (.goto 4, 3)) (by decide)) (by decide +kernel) rfl, xq_72_11⟩
theorem xq_72_9 : xOKs xsg xm_72 xk_72_0 xk_72_9 := ⟨xok_p (xp_iconst (v := -1) (by decide +kernel : decode xm_72.2.1 17 = .ok (.iconst (-1), 1)) (by decide)) rfl, xq_72_10⟩
theorem xq_72_8 : xOKs xsg xm_72 xk_72_0 xk_72_8 := ⟨xok_br (tgt := 21) (xb_le (by decide +kernel : decode xm_72.2.1 14 = .ok (.ifCond .le 7, 3)) (by decide)) (by decide +kernel) rfl, xq_72_9⟩
theorem xq_72_7 : xOKs xsg xm_72 xk_72_0 xk_72_7 := ⟨xok_get (by decide +kernel : decode xm_72.2.1 11 = .ok (.getfield 300, 3)) (rfl : vwCl[12]? = some (RX12, TX12, 125)) inX12 (by decide) (xT_c6 69 rfl rfl) rfl, xq_72_8⟩
theorem xq_72_6 : xOKs xsg xm_72 xk_72_0 xk_72_6 := ⟨xok_ld (xl_aload_n (by decide +kernel : decode xm_72.2.1 10 = .ok (.aload_n 0, 1))) rfl, xq_72_7⟩
theorem xq_72_5 : xOKs xsg xm_72 xk_72_0 xk_72_5 := ⟨xok_st (xs_istore_n (by decide +kernel : decode xm_72.2.1 9 = .ok (.istore_n 1, 1)) (by decide)) rfl, xq_72_6⟩
theorem xq_72_4 : xOKs xsg xm_72 xk_72_0 xk_72_4 := ⟨xok_callV (M' := xm_69) rfl (rfl : vwCl[12]? = some (RX12, TX12, 125)) (by decide +kernel : decode xm_72.2.1 6 = .ok (.invokevirtual 340, 3)) xn_69 (xT_c8 34 rfl rfl) (xT_c0 80 rfl rfl) (xT_c8 32 rfl rfl) rfl, xq_72_5⟩
theorem xq_72_3 : xOKs xsg xm_72 xk_72_0 xk_72_3 := ⟨xok_ld (xl_aload_n (by decide +kernel : decode xm_72.2.1 5 = .ok (.aload_n 0, 1))) rfl, xq_72_4⟩
theorem xq_72_2 : xOKs xsg xm_72 xk_72_0 xk_72_2 := ⟨xok_put (by decide +kernel : decode xm_72.2.1 2 = .ok (.putfield 320, 3)) (rfl : vwCl[12]? = some (RX12, TX12, 125)) inX12 tyX12_ok nmX12 (k := 27) (by decide) rfl (xT_c6 88 rfl rfl) rfl, xq_72_3⟩
theorem xq_72_1 : xOKs xsg xm_72 xk_72_0 xk_72_1 := ⟨xok_p (xp_iconst (v := 0) (by decide +kernel : decode xm_72.2.1 1 = .ok (.iconst 0, 1)) (by decide)) rfl, xq_72_2⟩
theorem xq_72_0 : xOKs xsg xm_72 xk_72_0 xk_72_0 := ⟨xok_ld (xl_aload_n (by decide +kernel : decode xm_72.2.1 0 = .ok (.aload_n 0, 1))) rfl, xq_72_1⟩
theorem xz_72 : xwf xsg xm_72 xk_72_0 := ⟨xq_72_0, rfl, by decide⟩
/-! FeatherBenchModel.asks()V -/
theorem xq_73_14 : xOKs xsg xm_73 xk_73_0 xk_73_14 := trivial
theorem xq_73_13 : xOKs xsg xm_73 xk_73_0 xk_73_13 := ⟨xok_ret0 (by decide +kernel : decode xm_73.2.1 27 = .ok (.return_, 1)) rfl, xq_73_14⟩
theorem xq_73_12 : xOKs xsg xm_73 xk_73_0 xk_73_12 := ⟨xok_put (by decide +kernel : decode xm_73.2.1 24 = .ok (.putfield 474, 3)) (rfl : vwCl[12]? = some (RX12, TX12, 125)) inX12 tyX12_ok nmX12 (k := 65) (by decide) rfl (xT_c6 126 rfl rfl) rfl, xq_73_13⟩
theorem xq_73_11 : xOKs xsg xm_73 xk_73_0 xk_73_11 := ⟨xok_p (xp_sipush (v := 8210) (by decide +kernel : decode xm_73.2.1 21 = .ok (.sipush 8210, 3)) (by decide)) rfl, xq_73_12⟩
theorem xq_73_10 : xOKs xsg xm_73 xk_73_0 xk_73_10 := ⟨xok_ld (xl_aload_n (by decide +kernel : decode xm_73.2.1 20 = .ok (.aload_n 0, 1))) rfl, xq_73_11⟩
theorem xq_73_9 : xOKs xsg xm_73 xk_73_0 xk_73_9 := ⟨xok_put (by decide +kernel : decode xm_73.2.1 17 = .ok (.putfield 317, 3)) (rfl : vwCl[12]? = some (RX12, TX12, 125)) inX12 tyX12_ok nmX12 (k := 26) (by decide) rfl (xT_c6 87 rfl rfl) rfl, xq_73_10⟩
theorem xq_73_8 : xOKs xsg xm_73 xk_73_0 xk_73_8 := ⟨xok_p (xp_sipush (v := 8004) (by decide +kernel : decode xm_73.2.1 14 = .ok (.sipush 8004, 3)) (by decide)) rfl, xq_73_9⟩
theorem xq_73_7 : xOKs xsg xm_73 xk_73_0 xk_73_7 := ⟨xok_ld (xl_aload_n (by decide +kernel : decode xm_73.2.1 13 = .ok (.aload_n 0, 1))) rfl, xq_73_8⟩
theorem xq_73_6 : xOKs xsg xm_73 xk_73_0 xk_73_6 := ⟨xok_callV (M' := xm_60) rfl (rfl : vwCl[12]? = some (RX12, TX12, 125)) (by decide +kernel : decode xm_73.2.1 10 = .ok (.invokevirtual 560, 3)) xn_60 (xT_c7 225 rfl rfl) (xT_c0 70 rfl rfl) (xT_c7 223 rfl rfl) rfl, xq_73_7⟩
theorem xq_73_5 : xOKs xsg xm_73 xk_73_0 xk_73_5 := ⟨xok_ld (xl_aload_n (by decide +kernel : decode xm_73.2.1 9 = .ok (.aload_n 0, 1))) rfl, xq_73_6⟩
theorem xq_73_4 : xOKs xsg xm_73 xk_73_0 xk_73_4 := ⟨xok_callV (M' := xm_59) rfl (rfl : vwCl[12]? = some (RX12, TX12, 125)) (by decide +kernel : decode xm_73.2.1 6 = .ok (.invokevirtual 557, 3)) xn_59 (xT_c7 211 rfl rfl) (xT_c0 68 rfl rfl) (xT_c7 209 rfl rfl) rfl, xq_73_5⟩
theorem xq_73_3 : xOKs xsg xm_73 xk_73_0 xk_73_3 := ⟨xok_ld (xl_aload_n (by decide +kernel : decode xm_73.2.1 5 = .ok (.aload_n 0, 1))) rfl, xq_73_4⟩
theorem xq_73_2 : xOKs xsg xm_73 xk_73_0 xk_73_2 := ⟨xok_put (by decide +kernel : decode xm_73.2.1 2 = .ok (.putfield 262, 3)) (rfl : vwCl[12]? = some (RX12, TX12, 125)) inX12 tyX12_ok nmX12 (k := 9) (by decide) rfl (xT_c6 70 rfl rfl) rfl, xq_73_3⟩
theorem xq_73_1 : xOKs xsg xm_73 xk_73_0 xk_73_1 := ⟨xok_p (xp_iconst (v := 2) (by decide +kernel : decode xm_73.2.1 1 = .ok (.iconst 2, 1)) (by decide)) rfl, xq_73_2⟩
theorem xq_73_0 : xOKs xsg xm_73 xk_73_0 xk_73_0 := ⟨xok_ld (xl_aload_n (by decide +kernel : decode xm_73.2.1 0 = .ok (.aload_n 0, 1))) rfl, xq_73_1⟩
theorem xz_73 : xwf xsg xm_73 xk_73_0 := ⟨xq_73_0, rfl, by decide⟩
/-! FeatherBenchModel.implementing()I -/
theorem xq_74_47 : xOKs xsg xm_74 xk_74_0 xk_74_47 := trivial
theorem xq_74_46 : xOKs xsg xm_74 xk_74_0 xk_74_46 := ⟨xok_retI (by decide +kernel : decode xm_74.2.1 90 = .ok (.ireturn, 1)) rfl, xq_74_47⟩
theorem xq_74_45 : xOKs xsg xm_74 xk_74_0 xk_74_45 := ⟨xok_p (xp_iconst (v := -1) (by decide +kernel : decode xm_74.2.1 89 = .ok (.iconst (-1), 1)) (by decide)) rfl, xq_74_46⟩
theorem xq_74_44 : xOKs xsg xm_74 xk_74_0 xk_74_44 := ⟨xok_none, xq_74_45⟩
theorem xq_74_43 : xOKs xsg xm_74 xk_74_0 xk_74_43 := ⟨xok_none, xq_74_44⟩
theorem xq_74_42 : xOKs xsg xm_74 xk_74_0 xk_74_42 := ⟨xok_none, xq_74_43⟩
theorem xq_74_41 : xOKs xsg xm_74 xk_74_0 xk_74_41 := ⟨xok_none, xq_74_42⟩
theorem xq_74_40 : xOKs xsg xm_74 xk_74_0 xk_74_40 := ⟨xok_none, xq_74_41⟩
theorem xq_74_39 : xOKs xsg xm_74 xk_74_0 xk_74_39 := ⟨xok_none, xq_74_40⟩
theorem xq_74_38 : xOKs xsg xm_74 xk_74_0 xk_74_38 := ⟨xok_br (tgt := 89) (xb_eq (by decide +kernel : decode xm_74.2.1 75 = .ok (.ifCond .eq 14, 3)) (by decide)) (by decide +kernel) rfl, xq_74_39⟩
theorem xq_74_37 : xOKs xsg xm_74 xk_74_0 xk_74_37 := ⟨xok_get (by decide +kernel : decode xm_74.2.1 72 = .ok (.getfield 594, 3)) (rfl : vwCl[12]? = some (RX12, TX12, 125)) inX12 (by decide) (xT_c6 149 rfl rfl) rfl, xq_74_38⟩
theorem xq_74_36 : xOKs xsg xm_74 xk_74_0 xk_74_36 := ⟨xok_ld (xl_aload_n (by decide +kernel : decode xm_74.2.1 71 = .ok (.aload_n 0, 1))) rfl, xq_74_37⟩
theorem xq_74_35 : xOKs xsg xm_74 xk_74_0 xk_74_35 := ⟨xok_none, xq_74_36⟩
theorem xq_74_34 : xOKs xsg xm_74 xk_74_0 xk_74_34 := ⟨xok_none, xq_74_35⟩
theorem xq_74_33 : xOKs xsg xm_74 xk_74_0 xk_74_33 := ⟨xok_none, xq_74_34⟩
theorem xq_74_32 : xOKs xsg xm_74 xk_74_0 xk_74_32 := ⟨xok_none, xq_74_33⟩
theorem xq_74_31 : xOKs xsg xm_74 xk_74_0 xk_74_31 := ⟨xok_none, xq_74_32⟩
theorem xq_74_30 : xOKs xsg xm_74 xk_74_0 xk_74_30 := ⟨xok_none, xq_74_31⟩
theorem xq_74_29 : xOKs xsg xm_74 xk_74_0 xk_74_29 := ⟨xok_none, xq_74_30⟩
theorem xq_74_28 : xOKs xsg xm_74 xk_74_0 xk_74_28 := ⟨xok_none, xq_74_29⟩
theorem xq_74_27 : xOKs xsg xm_74 xk_74_0 xk_74_27 := ⟨xok_none, xq_74_28⟩
theorem xq_74_26 : xOKs xsg xm_74 xk_74_0 xk_74_26 := ⟨xok_none, xq_74_27⟩
theorem xq_74_25 : xOKs xsg xm_74 xk_74_0 xk_74_25 := ⟨xok_none, xq_74_26⟩
theorem xq_74_24 : xOKs xsg xm_74 xk_74_0 xk_74_24 := ⟨xok_br (tgt := 71) (xb_ne (by decide +kernel : decode xm_74.2.1 47 = .ok (.ifCond .ne 24, 3)) (by decide)) (by decide +kernel) rfl, xq_74_25⟩
theorem xq_74_23 : xOKs xsg xm_74 xk_74_0 xk_74_23 := ⟨xok_get (by decide +kernel : decode xm_74.2.1 44 = .ok (.getfield 300, 3)) (rfl : vwCl[12]? = some (RX12, TX12, 125)) inX12 (by decide) (xT_c6 69 rfl rfl) rfl, xq_74_24⟩
theorem xq_74_22 : xOKs xsg xm_74 xk_74_0 xk_74_22 := ⟨xok_ld (xl_aload_n (by decide +kernel : decode xm_74.2.1 43 = .ok (.aload_n 0, 1))) rfl, xq_74_23⟩
theorem xq_74_21 : xOKs xsg xm_74 xk_74_0 xk_74_21 := ⟨xok_st (xs_istore_n (by decide +kernel : decode xm_74.2.1 42 = .ok (.istore_n 2, 1)) (by decide)) rfl, xq_74_22⟩
theorem xq_74_20 : xOKs xsg xm_74 xk_74_0 xk_74_20 := ⟨xok_p (xp_iconst (v := -1) (by decide +kernel : decode xm_74.2.1 41 = .ok (.iconst (-1), 1)) (by decide)) rfl, xq_74_21⟩
theorem xq_74_19 : xOKs xsg xm_74 xk_74_0 xk_74_19 := ⟨xok_none, xq_74_20⟩
theorem xq_74_18 : xOKs xsg xm_74 xk_74_0 xk_74_18 := ⟨xok_none, xq_74_19⟩
theorem xq_74_17 : xOKs xsg xm_74 xk_74_0 xk_74_17 := ⟨xok_none, xq_74_18⟩
theorem xq_74_16 : xOKs xsg xm_74 xk_74_0 xk_74_16 := ⟨xok_br (tgt := 41) (xb_ne (by decide +kernel : decode xm_74.2.1 31 = .ok (.ifCond .ne 10, 3)) (by decide)) (by decide +kernel) rfl, xq_74_17⟩
theorem xq_74_15 : xOKs xsg xm_74 xk_74_0 xk_74_15 := ⟨xok_get (by decide +kernel : decode xm_74.2.1 28 = .ok (.getfield 300, 3)) (rfl : vwCl[12]? = some (RX12, TX12, 125)) inX12 (by decide) (xT_c6 69 rfl rfl) rfl, xq_74_16⟩
theorem xq_74_14 : xOKs xsg xm_74 xk_74_0 xk_74_14 := ⟨xok_ld (xl_aload_n (by decide +kernel : decode xm_74.2.1 27 = .ok (.aload_n 0, 1))) rfl, xq_74_15⟩
theorem xq_74_13 : xOKs xsg xm_74 xk_74_0 xk_74_13 := ⟨xok_none, xq_74_14⟩
theorem xq_74_12 : xOKs xsg xm_74 xk_74_0 xk_74_12 := ⟨xok_none, xq_74_13⟩
theorem xq_74_11 : xOKs xsg xm_74 xk_74_0 xk_74_11 := ⟨xok_none, xq_74_12⟩
theorem xq_74_10 : xOKs xsg xm_74 xk_74_0 xk_74_10 := ⟨xok_br (tgt := 27) (xb_ne (by decide +kernel : decode xm_74.2.1 18 = .ok (.ifCond .ne 9, 3)) (by decide)) (by decide +kernel) rfl, xq_74_11⟩
theorem xq_74_9 : xOKs xsg xm_74 xk_74_0 xk_74_9 := ⟨xok_get (by decide +kernel : decode xm_74.2.1 15 = .ok (.getfield 300, 3)) (rfl : vwCl[12]? = some (RX12, TX12, 125)) inX12 (by decide) (xT_c6 69 rfl rfl) rfl, xq_74_10⟩
theorem xq_74_8 : xOKs xsg xm_74 xk_74_0 xk_74_8 := ⟨xok_ld (xl_aload_n (by decide +kernel : decode xm_74.2.1 14 = .ok (.aload_n 0, 1))) rfl, xq_74_9⟩
theorem xq_74_7 : xOKs xsg xm_74 xk_74_0 xk_74_7 := ⟨xok_st (xs_istore_n (by decide +kernel : decode xm_74.2.1 13 = .ok (.istore_n 1, 1)) (by decide)) rfl, xq_74_8⟩
theorem xq_74_6 : xOKs xsg xm_74 xk_74_0 xk_74_6 := ⟨xok_callV (M' := xm_72) rfl (rfl : vwCl[12]? = some (RX12, TX12, 125)) (by decide +kernel : decode xm_74.2.1 10 = .ok (.invokevirtual 610, 3)) xn_72 (xT_c9 43 rfl rfl) (xT_c0 140 rfl rfl) (xT_c9 41 rfl rfl) rfl, xq_74_7⟩
theorem xq_74_5 : xOKs xsg xm_74 xk_74_0 xk_74_5 := ⟨xok_ld (xl_aload_n (by decide +kernel : decode xm_74.2.1 9 = .ok (.aload_n 0, 1))) rfl, xq_74_6⟩
theorem xq_74_4 : xOKs xsg xm_74 xk_74_0 xk_74_4 := ⟨xok_callV (M' := xm_73) rfl (rfl : vwCl[12]? = some (RX12, TX12, 125)) (by decide +kernel : decode xm_74.2.1 6 = .ok (.invokevirtual 607, 3)) xn_73 (xT_c9 39 rfl rfl) (xT_c0 139 rfl rfl) (xT_c9 37 rfl rfl) rfl, xq_74_5⟩
theorem xq_74_3 : xOKs xsg xm_74 xk_74_0 xk_74_3 := ⟨xok_ld (xl_aload_n (by decide +kernel : decode xm_74.2.1 5 = .ok (.aload_n 0, 1))) rfl, xq_74_4⟩
theorem xq_74_2 : xOKs xsg xm_74 xk_74_0 xk_74_2 := ⟨xok_put (by decide +kernel : decode xm_74.2.1 2 = .ok (.putfield 252, 3)) (rfl : vwCl[12]? = some (RX12, TX12, 125)) inX12 tyX12_ok nmX12 (k := 0) (by decide) rfl (xT_c6 61 rfl rfl) rfl, xq_74_3⟩
theorem xq_74_1 : xOKs xsg xm_74 xk_74_0 xk_74_1 := ⟨xok_p (xp_iconst (v := 0) (by decide +kernel : decode xm_74.2.1 1 = .ok (.iconst 0, 1)) (by decide)) rfl, xq_74_2⟩
theorem xq_74_0 : xOKs xsg xm_74 xk_74_0 xk_74_0 := ⟨xok_ld (xl_aload_n (by decide +kernel : decode xm_74.2.1 0 = .ok (.aload_n 0, 1))) rfl, xq_74_1⟩
theorem xz_74 : xwf xsg xm_74 xk_74_0 := ⟨xq_74_0, rfl, by decide⟩
