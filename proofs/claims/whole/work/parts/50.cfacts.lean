/-! printed by wip/whole/gen_cls.py -/
theorem na_1 : xnargs 1 = 2 := by decide +kernel
theorem wv_1 : xSe.contains 1 = true ∧ xIn.contains 1 = true := by decide +kernel
theorem wc_1 : (xMn 1).cls = (xCl 3).1 := by decide +kernel
theorem na_10 : xnargs 10 = 0 := by decide +kernel
theorem wv_10 : xSe.contains 10 = true ∧ xIn.contains 10 = true := by decide +kernel
theorem wc_10 : (xMn 10).cls = (xCl 3).1 := by decide +kernel
theorem na_100 : xnargs 100 = 2 := by decide +kernel
theorem wv_100 : xSe.contains 100 = true ∧ xIn.contains 100 = true := by decide +kernel
theorem wc_100 : (xMn 100).cls = (xCl 10).1 := by decide +kernel
theorem na_101 : xnargs 101 = 1 := by decide +kernel
theorem wv_101 : xSe.contains 101 = true ∧ xIn.contains 101 = true := by decide +kernel
theorem wc_101 : (xMn 101).cls = (xCl 10).1 := by decide +kernel
theorem na_102 : xnargs 102 = 3 := by decide +kernel
theorem wv_102 : xSe.contains 102 = true ∧ xIn.contains 102 = true := by decide +kernel
theorem wc_102 : (xMn 102).cls = (xCl 10).1 := by decide +kernel
theorem na_103 : xnargs 103 = 4 := by decide +kernel
theorem wv_103 : xSe.contains 103 = true ∧ xIn.contains 103 = true := by decide +kernel
theorem wc_103 : (xMn 103).cls = (xCl 10).1 := by decide +kernel
theorem na_104 : xnargs 104 = 1 := by decide +kernel
theorem wv_104 : xSe.contains 104 = true ∧ xIn.contains 104 = true := by decide +kernel
theorem wc_104 : (xMn 104).cls = (xCl 10).1 := by decide +kernel
theorem na_105 : xnargs 105 = 2 := by decide +kernel
theorem wv_105 : xSe.contains 105 = true ∧ xIn.contains 105 = true := by decide +kernel
theorem wc_105 : (xMn 105).cls = (xCl 11).1 := by decide +kernel
theorem na_106 : xnargs 106 = 1 := by decide +kernel
theorem wv_106 : xSe.contains 106 = true ∧ xIn.contains 106 = true := by decide +kernel
theorem wc_106 : (xMn 106).cls = (xCl 11).1 := by decide +kernel
theorem na_107 : xnargs 107 = 1 := by decide +kernel
theorem wv_107 : xSe.contains 107 = true ∧ xIn.contains 107 = true := by decide +kernel
theorem wc_107 : (xMn 107).cls = (xCl 11).1 := by decide +kernel
theorem na_109 : xnargs 109 = 0 := by decide +kernel
theorem wv_109 : xSe.contains 109 = true ∧ xIn.contains 109 = true := by decide +kernel
theorem wc_109 : (xMn 109).cls = (xCl 11).1 := by decide +kernel
theorem na_110 : xnargs 110 = 1 := by decide +kernel
theorem wv_110 : xSe.contains 110 = true ∧ xIn.contains 110 = true := by decide +kernel
theorem wc_110 : (xMn 110).cls = (xCl 11).1 := by decide +kernel
theorem na_111 : xnargs 111 = 1 := by decide +kernel
theorem wv_111 : xSe.contains 111 = true ∧ xIn.contains 111 = true := by decide +kernel
theorem wc_111 : (xMn 111).cls = (xCl 11).1 := by decide +kernel
theorem na_112 : xnargs 112 = 0 := by decide +kernel
theorem wv_112 : xSe.contains 112 = true ∧ xIn.contains 112 = true := by decide +kernel
theorem wc_112 : (xMn 112).cls = (xCl 11).1 := by decide +kernel
theorem na_113 : xnargs 113 = 2 := by decide +kernel
theorem wv_113 : xSe.contains 113 = true ∧ xIn.contains 113 = true := by decide +kernel
theorem wc_113 : (xMn 113).cls = (xCl 11).1 := by decide +kernel
theorem na_114 : xnargs 114 = 4 := by decide +kernel
theorem wv_114 : xSe.contains 114 = true ∧ xIn.contains 114 = true := by decide +kernel
theorem wc_114 : (xMn 114).cls = (xCl 11).1 := by decide +kernel
theorem na_115 : xnargs 115 = 4 := by decide +kernel
theorem wv_115 : xSe.contains 115 = true ∧ xIn.contains 115 = true := by decide +kernel
theorem wc_115 : (xMn 115).cls = (xCl 12).1 := by decide +kernel
theorem na_116 : xnargs 116 = 1 := by decide +kernel
theorem wv_116 : xSe.contains 116 = true ∧ xIn.contains 116 = true := by decide +kernel
theorem wc_116 : (xMn 116).cls = (xCl 12).1 := by decide +kernel
theorem na_117 : xnargs 117 = 0 := by decide +kernel
theorem wv_117 : xSe.contains 117 = true ∧ xIn.contains 117 = true := by decide +kernel
theorem wc_117 : (xMn 117).cls = (xCl 12).1 := by decide +kernel
theorem na_119 : xnargs 119 = 1 := by decide +kernel
theorem mm_119 : ¬ 119 = xMax ∧ ¬ 119 = xMin := by decide
theorem ws_119 : xSt.contains 119 = true := by decide +kernel
theorem na_120 : xnargs 120 = 1 := by decide +kernel
theorem wv_120 : xSe.contains 120 = true ∧ xIn.contains 120 = true := by decide +kernel
theorem wc_120 : (xMn 120).cls = (xCl 12).1 := by decide +kernel
theorem na_121 : xnargs 121 = 0 := by decide +kernel
theorem wv_121 : xSe.contains 121 = true ∧ xIn.contains 121 = true := by decide +kernel
theorem wc_121 : (xMn 121).cls = (xCl 13).1 := by decide +kernel
theorem na_122 : xnargs 122 = 2 := by decide +kernel
theorem wv_122 : xSe.contains 122 = true ∧ xIn.contains 122 = true := by decide +kernel
theorem wc_122 : (xMn 122).cls = (xCl 13).1 := by decide +kernel
theorem na_123 : xnargs 123 = 0 := by decide +kernel
theorem wv_123 : xSe.contains 123 = true ∧ xIn.contains 123 = true := by decide +kernel
theorem wc_123 : (xMn 123).cls = (xCl 13).1 := by decide +kernel
theorem na_125 : xnargs 125 = 2 := by decide +kernel
theorem wv_125 : xSe.contains 125 = true ∧ xIn.contains 125 = true := by decide +kernel
theorem wc_125 : (xMn 125).cls = (xCl 13).1 := by decide +kernel
theorem na_126 : xnargs 126 = 0 := by decide +kernel
theorem wv_126 : xSe.contains 126 = true ∧ xIn.contains 126 = true := by decide +kernel
theorem wc_126 : (xMn 126).cls = (xCl 13).1 := by decide +kernel
theorem na_127 : xnargs 127 = 0 := by decide +kernel
theorem wv_127 : xSe.contains 127 = true ∧ xIn.contains 127 = true := by decide +kernel
theorem wc_127 : (xMn 127).cls = (xCl 13).1 := by decide +kernel
theorem na_128 : xnargs 128 = 0 := by decide +kernel
theorem wv_128 : xSe.contains 128 = true ∧ xIn.contains 128 = true := by decide +kernel
theorem wc_128 : (xMn 128).cls = (xCl 13).1 := by decide +kernel
theorem na_13 : xnargs 13 = 1 := by decide +kernel
theorem wv_13 : xSe.contains 13 = true ∧ xIn.contains 13 = true := by decide +kernel
theorem wc_13 : (xMn 13).cls = (xCl 3).1 := by decide +kernel
theorem na_130 : xnargs 130 = 0 := by decide +kernel
theorem wv_130 : xSe.contains 130 = true ∧ xIn.contains 130 = true := by decide +kernel
theorem wc_130 : (xMn 130).cls = (xCl 13).1 := by decide +kernel
theorem na_131 : xnargs 131 = 0 := by decide +kernel
theorem wv_131 : xSe.contains 131 = true ∧ xIn.contains 131 = true := by decide +kernel
theorem wc_131 : (xMn 131).cls = (xCl 13).1 := by decide +kernel
theorem na_132 : xnargs 132 = 1 := by decide +kernel
theorem wv_132 : xSe.contains 132 = true ∧ xIn.contains 132 = true := by decide +kernel
theorem wc_132 : (xMn 132).cls = (xCl 13).1 := by decide +kernel
theorem na_134 : xnargs 134 = 1 := by decide +kernel
theorem wv_134 : xSe.contains 134 = true ∧ xIn.contains 134 = true := by decide +kernel
theorem wc_134 : (xMn 134).cls = (xCl 13).1 := by decide +kernel
theorem na_135 : xnargs 135 = 1 := by decide +kernel
theorem wv_135 : xSe.contains 135 = true ∧ xIn.contains 135 = true := by decide +kernel
theorem wc_135 : (xMn 135).cls = (xCl 13).1 := by decide +kernel
theorem na_138 : xnargs 138 = 1 := by decide +kernel
theorem wv_138 : xSe.contains 138 = true ∧ xIn.contains 138 = true := by decide +kernel
theorem wc_138 : (xMn 138).cls = (xCl 13).1 := by decide +kernel
theorem na_139 : xnargs 139 = 1 := by decide +kernel
theorem wv_139 : xSe.contains 139 = true ∧ xIn.contains 139 = true := by decide +kernel
theorem wc_139 : (xMn 139).cls = (xCl 13).1 := by decide +kernel
theorem na_14 : xnargs 14 = 0 := by decide +kernel
theorem wv_14 : xSe.contains 14 = true ∧ xIn.contains 14 = true := by decide +kernel
theorem wc_14 : (xMn 14).cls = (xCl 3).1 := by decide +kernel
theorem na_141 : xnargs 141 = 1 := by decide +kernel
theorem wv_141 : xSe.contains 141 = true ∧ xIn.contains 141 = true := by decide +kernel
theorem wc_141 : (xMn 141).cls = (xCl 13).1 := by decide +kernel
theorem na_142 : xnargs 142 = 1 := by decide +kernel
theorem wv_142 : xSe.contains 142 = true ∧ xIn.contains 142 = true := by decide +kernel
theorem wc_142 : (xMn 142).cls = (xCl 13).1 := by decide +kernel
theorem na_143 : xnargs 143 = 1 := by decide +kernel
theorem wv_143 : xSe.contains 143 = true ∧ xIn.contains 143 = true := by decide +kernel
theorem wc_143 : (xMn 143).cls = (xCl 13).1 := by decide +kernel
theorem na_144 : xnargs 144 = 2 := by decide +kernel
theorem wv_144 : xSe.contains 144 = true ∧ xIn.contains 144 = true := by decide +kernel
theorem wc_144 : (xMn 144).cls = (xCl 13).1 := by decide +kernel
theorem na_145 : xnargs 145 = 0 := by decide +kernel
theorem wv_145 : xSe.contains 145 = true ∧ xIn.contains 145 = true := by decide +kernel
theorem wc_145 : (xMn 145).cls = (xCl 13).1 := by decide +kernel
theorem na_146 : xnargs 146 = 0 := by decide +kernel
theorem wv_146 : xSe.contains 146 = true ∧ xIn.contains 146 = true := by decide +kernel
theorem wc_146 : (xMn 146).cls = (xCl 13).1 := by decide +kernel
theorem na_147 : xnargs 147 = 0 := by decide +kernel
theorem wv_147 : xSe.contains 147 = true ∧ xIn.contains 147 = true := by decide +kernel
theorem wc_147 : (xMn 147).cls = (xCl 13).1 := by decide +kernel
theorem na_149 : xnargs 149 = 0 := by decide +kernel
theorem wv_149 : xSe.contains 149 = true ∧ xIn.contains 149 = true := by decide +kernel
theorem wc_149 : (xMn 149).cls = (xCl 13).1 := by decide +kernel
theorem na_150 : xnargs 150 = 0 := by decide +kernel
theorem wv_150 : xSe.contains 150 = true ∧ xIn.contains 150 = true := by decide +kernel
theorem wc_150 : (xMn 150).cls = (xCl 13).1 := by decide +kernel
theorem na_151 : xnargs 151 = 0 := by decide +kernel
theorem wv_151 : xSe.contains 151 = true ∧ xIn.contains 151 = true := by decide +kernel
theorem wc_151 : (xMn 151).cls = (xCl 13).1 := by decide +kernel
theorem na_152 : xnargs 152 = 3 := by decide +kernel
theorem wv_152 : xSe.contains 152 = true ∧ xIn.contains 152 = true := by decide +kernel
theorem wc_152 : (xMn 152).cls = (xCl 13).1 := by decide +kernel
theorem na_153 : xnargs 153 = 2 := by decide +kernel
theorem wv_153 : xSe.contains 153 = true ∧ xIn.contains 153 = true := by decide +kernel
theorem wc_153 : (xMn 153).cls = (xCl 13).1 := by decide +kernel
theorem na_154 : xnargs 154 = 1 := by decide +kernel
theorem wv_154 : xSe.contains 154 = true ∧ xIn.contains 154 = true := by decide +kernel
theorem wc_154 : (xMn 154).cls = (xCl 13).1 := by decide +kernel
theorem na_155 : xnargs 155 = 5 := by decide +kernel
theorem wv_155 : xSe.contains 155 = true ∧ xIn.contains 155 = true := by decide +kernel
theorem wc_155 : (xMn 155).cls = (xCl 13).1 := by decide +kernel
theorem na_156 : xnargs 156 = 2 := by decide +kernel
theorem wv_156 : xSe.contains 156 = true ∧ xIn.contains 156 = true := by decide +kernel
theorem wc_156 : (xMn 156).cls = (xCl 13).1 := by decide +kernel
theorem na_157 : xnargs 157 = 4 := by decide +kernel
theorem wv_157 : xSe.contains 157 = true ∧ xIn.contains 157 = true := by decide +kernel
theorem wc_157 : (xMn 157).cls = (xCl 13).1 := by decide +kernel
theorem na_158 : xnargs 158 = 1 := by decide +kernel
theorem wv_158 : xSe.contains 158 = true ∧ xIn.contains 158 = true := by decide +kernel
theorem wc_158 : (xMn 158).cls = (xCl 13).1 := by decide +kernel
theorem na_159 : xnargs 159 = 4 := by decide +kernel
theorem wv_159 : xSe.contains 159 = true ∧ xIn.contains 159 = true := by decide +kernel
theorem wc_159 : (xMn 159).cls = (xCl 13).1 := by decide +kernel
theorem na_160 : xnargs 160 = 2 := by decide +kernel
theorem wv_160 : xSe.contains 160 = true ∧ xIn.contains 160 = true := by decide +kernel
theorem wc_160 : (xMn 160).cls = (xCl 13).1 := by decide +kernel
theorem na_161 : xnargs 161 = 1 := by decide +kernel
theorem wv_161 : xSe.contains 161 = true ∧ xIn.contains 161 = true := by decide +kernel
theorem wc_161 : (xMn 161).cls = (xCl 13).1 := by decide +kernel
theorem na_162 : xnargs 162 = 4 := by decide +kernel
theorem wv_162 : xSe.contains 162 = true ∧ xIn.contains 162 = true := by decide +kernel
theorem wc_162 : (xMn 162).cls = (xCl 13).1 := by decide +kernel
theorem na_164 : xnargs 164 = 1 := by decide +kernel
theorem wv_164 : xSe.contains 164 = true ∧ xIn.contains 164 = true := by decide +kernel
theorem wc_164 : (xMn 164).cls = (xCl 13).1 := by decide +kernel
theorem na_165 : xnargs 165 = 0 := by decide +kernel
theorem wv_165 : xSe.contains 165 = true ∧ xIn.contains 165 = true := by decide +kernel
theorem wc_165 : (xMn 165).cls = (xCl 13).1 := by decide +kernel
theorem na_166 : xnargs 166 = 2 := by decide +kernel
theorem wv_166 : xSe.contains 166 = true ∧ xIn.contains 166 = true := by decide +kernel
theorem wc_166 : (xMn 166).cls = (xCl 13).1 := by decide +kernel
theorem na_167 : xnargs 167 = 0 := by decide +kernel
theorem wv_167 : xSe.contains 167 = true ∧ xIn.contains 167 = true := by decide +kernel
theorem wc_167 : (xMn 167).cls = (xCl 13).1 := by decide +kernel
theorem na_168 : xnargs 168 = 1 := by decide +kernel
theorem wv_168 : xSe.contains 168 = true ∧ xIn.contains 168 = true := by decide +kernel
theorem wc_168 : (xMn 168).cls = (xCl 13).1 := by decide +kernel
theorem na_169 : xnargs 169 = 1 := by decide +kernel
theorem wv_169 : xSe.contains 169 = true ∧ xIn.contains 169 = true := by decide +kernel
theorem wc_169 : (xMn 169).cls = (xCl 13).1 := by decide +kernel
theorem na_170 : xnargs 170 = 1 := by decide +kernel
theorem wv_170 : xSe.contains 170 = true ∧ xIn.contains 170 = true := by decide +kernel
theorem wc_170 : (xMn 170).cls = (xCl 13).1 := by decide +kernel
theorem na_171 : xnargs 171 = 1 := by decide +kernel
theorem wv_171 : xSe.contains 171 = true ∧ xIn.contains 171 = true := by decide +kernel
theorem wc_171 : (xMn 171).cls = (xCl 13).1 := by decide +kernel
theorem na_172 : xnargs 172 = 1 := by decide +kernel
theorem wv_172 : xSe.contains 172 = true ∧ xIn.contains 172 = true := by decide +kernel
theorem wc_172 : (xMn 172).cls = (xCl 13).1 := by decide +kernel
theorem na_173 : xnargs 173 = 1 := by decide +kernel
theorem wv_173 : xSe.contains 173 = true ∧ xIn.contains 173 = true := by decide +kernel
theorem wc_173 : (xMn 173).cls = (xCl 13).1 := by decide +kernel
theorem na_174 : xnargs 174 = 0 := by decide +kernel
theorem wv_174 : xSe.contains 174 = true ∧ xIn.contains 174 = true := by decide +kernel
theorem wc_174 : (xMn 174).cls = (xCl 13).1 := by decide +kernel
theorem na_175 : xnargs 175 = 1 := by decide +kernel
theorem wv_175 : xSe.contains 175 = true ∧ xIn.contains 175 = true := by decide +kernel
theorem wc_175 : (xMn 175).cls = (xCl 13).1 := by decide +kernel
theorem na_176 : xnargs 176 = 1 := by decide +kernel
theorem wv_176 : xSe.contains 176 = true ∧ xIn.contains 176 = true := by decide +kernel
theorem wc_176 : (xMn 176).cls = (xCl 13).1 := by decide +kernel
theorem na_177 : xnargs 177 = 1 := by decide +kernel
theorem wv_177 : xSe.contains 177 = true ∧ xIn.contains 177 = true := by decide +kernel
theorem wc_177 : (xMn 177).cls = (xCl 13).1 := by decide +kernel
theorem na_178 : xnargs 178 = 1 := by decide +kernel
theorem wv_178 : xSe.contains 178 = true ∧ xIn.contains 178 = true := by decide +kernel
theorem wc_178 : (xMn 178).cls = (xCl 13).1 := by decide +kernel
theorem na_179 : xnargs 179 = 1 := by decide +kernel
theorem wv_179 : xSe.contains 179 = true ∧ xIn.contains 179 = true := by decide +kernel
theorem wc_179 : (xMn 179).cls = (xCl 13).1 := by decide +kernel
theorem na_18 : xnargs 18 = 3 := by decide +kernel
theorem wv_18 : xSe.contains 18 = true ∧ xIn.contains 18 = true := by decide +kernel
theorem wc_18 : (xMn 18).cls = (xCl 4).1 := by decide +kernel
theorem na_180 : xnargs 180 = 1 := by decide +kernel
theorem wv_180 : xSe.contains 180 = true ∧ xIn.contains 180 = true := by decide +kernel
theorem wc_180 : (xMn 180).cls = (xCl 13).1 := by decide +kernel
theorem na_182 : xnargs 182 = 0 := by decide +kernel
theorem wv_182 : xSe.contains 182 = true ∧ xIn.contains 182 = true := by decide +kernel
theorem wc_182 : (xMn 182).cls = (xCl 13).1 := by decide +kernel
theorem na_183 : xnargs 183 = 0 := by decide +kernel
theorem wv_183 : xSe.contains 183 = true ∧ xIn.contains 183 = true := by decide +kernel
theorem wc_183 : (xMn 183).cls = (xCl 13).1 := by decide +kernel
theorem na_184 : xnargs 184 = 2 := by decide +kernel
theorem wv_184 : xSe.contains 184 = true ∧ xIn.contains 184 = true := by decide +kernel
theorem wc_184 : (xMn 184).cls = (xCl 14).1 := by decide +kernel
theorem na_185 : xnargs 185 = 0 := by decide +kernel
theorem wv_185 : xSe.contains 185 = true ∧ xIn.contains 185 = true := by decide +kernel
theorem wc_185 : (xMn 185).cls = (xCl 14).1 := by decide +kernel
theorem na_188 : xnargs 188 = 1 := by decide +kernel
theorem wv_188 : xSe.contains 188 = true ∧ xIn.contains 188 = true := by decide +kernel
theorem wc_188 : (xMn 188).cls = (xCl 14).1 := by decide +kernel
theorem na_189 : xnargs 189 = 1 := by decide +kernel
theorem wv_189 : xSe.contains 189 = true ∧ xIn.contains 189 = true := by decide +kernel
theorem wc_189 : (xMn 189).cls = (xCl 14).1 := by decide +kernel
theorem na_19 : xnargs 19 = 2 := by decide +kernel
theorem wv_19 : xSe.contains 19 = true ∧ xIn.contains 19 = true := by decide +kernel
theorem wc_19 : (xMn 19).cls = (xCl 4).1 := by decide +kernel
theorem na_191 : xnargs 191 = 0 := by decide +kernel
theorem wv_191 : xSe.contains 191 = true ∧ xIn.contains 191 = true := by decide +kernel
theorem wc_191 : (xMn 191).cls = (xCl 14).1 := by decide +kernel
theorem na_192 : xnargs 192 = 0 := by decide +kernel
theorem wv_192 : xSe.contains 192 = true ∧ xIn.contains 192 = true := by decide +kernel
theorem wc_192 : (xMn 192).cls = (xCl 14).1 := by decide +kernel
theorem na_193 : xnargs 193 = 1 := by decide +kernel
theorem wv_193 : xSe.contains 193 = true ∧ xIn.contains 193 = true := by decide +kernel
theorem wc_193 : (xMn 193).cls = (xCl 14).1 := by decide +kernel
theorem na_194 : xnargs 194 = 1 := by decide +kernel
theorem wv_194 : xSe.contains 194 = true ∧ xIn.contains 194 = true := by decide +kernel
theorem wc_194 : (xMn 194).cls = (xCl 14).1 := by decide +kernel
theorem na_196 : xnargs 196 = 2 := by decide +kernel
theorem wv_196 : xSe.contains 196 = true ∧ xIn.contains 196 = true := by decide +kernel
theorem wc_196 : (xMn 196).cls = (xCl 14).1 := by decide +kernel
theorem na_197 : xnargs 197 = 2 := by decide +kernel
theorem wv_197 : xSe.contains 197 = true ∧ xIn.contains 197 = true := by decide +kernel
theorem wc_197 : (xMn 197).cls = (xCl 14).1 := by decide +kernel
theorem na_198 : xnargs 198 = 1 := by decide +kernel
theorem wv_198 : xSe.contains 198 = true ∧ xIn.contains 198 = true := by decide +kernel
theorem wc_198 : (xMn 198).cls = (xCl 14).1 := by decide +kernel
theorem na_199 : xnargs 199 = 1 := by decide +kernel
theorem wv_199 : xSe.contains 199 = true ∧ xIn.contains 199 = true := by decide +kernel
theorem wc_199 : (xMn 199).cls = (xCl 14).1 := by decide +kernel
theorem na_2 : xnargs 2 = 1 := by decide +kernel
theorem wv_2 : xSe.contains 2 = true ∧ xIn.contains 2 = true := by decide +kernel
theorem wc_2 : (xMn 2).cls = (xCl 3).1 := by decide +kernel
theorem na_20 : xnargs 20 = 2 := by decide +kernel
theorem wv_20 : xSe.contains 20 = true ∧ xIn.contains 20 = true := by decide +kernel
theorem wc_20 : (xMn 20).cls = (xCl 5).1 := by decide +kernel
theorem na_200 : xnargs 200 = 2 := by decide +kernel
theorem wv_200 : xSe.contains 200 = true ∧ xIn.contains 200 = true := by decide +kernel
theorem wc_200 : (xMn 200).cls = (xCl 14).1 := by decide +kernel
theorem na_201 : xnargs 201 = 1 := by decide +kernel
theorem wv_201 : xSe.contains 201 = true ∧ xIn.contains 201 = true := by decide +kernel
theorem wc_201 : (xMn 201).cls = (xCl 14).1 := by decide +kernel
theorem na_202 : xnargs 202 = 0 := by decide +kernel
theorem wv_202 : xSe.contains 202 = true ∧ xIn.contains 202 = true := by decide +kernel
theorem wc_202 : (xMn 202).cls = (xCl 14).1 := by decide +kernel
theorem na_22 : xnargs 22 = 0 := by decide +kernel
theorem wv_22 : xSe.contains 22 = true ∧ xIn.contains 22 = true := by decide +kernel
theorem wc_22 : (xMn 22).cls = (xCl 5).1 := by decide +kernel
theorem na_23 : xnargs 23 = 1 := by decide +kernel
theorem wv_23 : xSe.contains 23 = true ∧ xIn.contains 23 = true := by decide +kernel
theorem wc_23 : (xMn 23).cls = (xCl 5).1 := by decide +kernel
theorem na_24 : xnargs 24 = 1 := by decide +kernel
theorem wv_24 : xSe.contains 24 = true ∧ xIn.contains 24 = true := by decide +kernel
theorem wc_24 : (xMn 24).cls = (xCl 5).1 := by decide +kernel
theorem na_25 : xnargs 25 = 1 := by decide +kernel
theorem wv_25 : xSe.contains 25 = true ∧ xIn.contains 25 = true := by decide +kernel
theorem wc_25 : (xMn 25).cls = (xCl 5).1 := by decide +kernel
theorem na_27 : xnargs 27 = 0 := by decide +kernel
theorem wv_27 : xSe.contains 27 = true ∧ xIn.contains 27 = true := by decide +kernel
theorem wc_27 : (xMn 27).cls = (xCl 5).1 := by decide +kernel
theorem na_28 : xnargs 28 = 0 := by decide +kernel
theorem wv_28 : xSe.contains 28 = true ∧ xIn.contains 28 = true := by decide +kernel
theorem wc_28 : (xMn 28).cls = (xCl 5).1 := by decide +kernel
theorem na_29 : xnargs 29 = 2 := by decide +kernel
theorem wv_29 : xSe.contains 29 = true ∧ xIn.contains 29 = true := by decide +kernel
theorem wc_29 : (xMn 29).cls = (xCl 5).1 := by decide +kernel
theorem na_3 : xnargs 3 = 0 := by decide +kernel
theorem wv_3 : xSe.contains 3 = true ∧ xIn.contains 3 = true := by decide +kernel
theorem wc_3 : (xMn 3).cls = (xCl 3).1 := by decide +kernel
theorem na_30 : xnargs 30 = 0 := by decide +kernel
theorem wv_30 : xSe.contains 30 = true ∧ xIn.contains 30 = true := by decide +kernel
theorem wc_30 : (xMn 30).cls = (xCl 5).1 := by decide +kernel
theorem na_31 : xnargs 31 = 0 := by decide +kernel
theorem wv_31 : xSe.contains 31 = true ∧ xIn.contains 31 = true := by decide +kernel
theorem wc_31 : (xMn 31).cls = (xCl 5).1 := by decide +kernel
theorem na_32 : xnargs 32 = 4 := by decide +kernel
theorem wv_32 : xSe.contains 32 = true ∧ xIn.contains 32 = true := by decide +kernel
theorem wc_32 : (xMn 32).cls = (xCl 6).1 := by decide +kernel
theorem na_33 : xnargs 33 = 2 := by decide +kernel
theorem wv_33 : xSe.contains 33 = true ∧ xIn.contains 33 = true := by decide +kernel
theorem wc_33 : (xMn 33).cls = (xCl 6).1 := by decide +kernel
theorem na_34 : xnargs 34 = 1 := by decide +kernel
theorem wv_34 : xSe.contains 34 = true ∧ xIn.contains 34 = true := by decide +kernel
theorem wc_34 : (xMn 34).cls = (xCl 6).1 := by decide +kernel
theorem na_35 : xnargs 35 = 2 := by decide +kernel
theorem wv_35 : xSe.contains 35 = true ∧ xIn.contains 35 = true := by decide +kernel
theorem wc_35 : (xMn 35).cls = (xCl 6).1 := by decide +kernel
theorem na_36 : xnargs 36 = 1 := by decide +kernel
theorem wv_36 : xSe.contains 36 = true ∧ xIn.contains 36 = true := by decide +kernel
theorem wc_36 : (xMn 36).cls = (xCl 6).1 := by decide +kernel
theorem na_37 : xnargs 37 = 0 := by decide +kernel
theorem wv_37 : xSe.contains 37 = true ∧ xIn.contains 37 = true := by decide +kernel
theorem wc_37 : (xMn 37).cls = (xCl 6).1 := by decide +kernel
theorem na_38 : xnargs 38 = 0 := by decide +kernel
theorem wv_38 : xSe.contains 38 = true ∧ xIn.contains 38 = true := by decide +kernel
theorem wc_38 : (xMn 38).cls = (xCl 6).1 := by decide +kernel
theorem na_39 : xnargs 39 = 1 := by decide +kernel
theorem wv_39 : xSe.contains 39 = true ∧ xIn.contains 39 = true := by decide +kernel
theorem wc_39 : (xMn 39).cls = (xCl 6).1 := by decide +kernel
theorem na_393 : xnargs 393 = 2 := by decide +kernel
theorem mm_393 : ¬ 393 = xMax ∧ ¬ 393 = xMin := by decide
theorem ws_393 : xSt.contains 393 = true := by decide +kernel
theorem na_394 : xnargs 394 = 4 := by decide +kernel
theorem mm_394 : ¬ 394 = xMax ∧ ¬ 394 = xMin := by decide
theorem ws_394 : xSt.contains 394 = true := by decide +kernel
theorem na_398 : xnargs 398 = 1 := by decide +kernel
theorem mm_398 : ¬ 398 = xMax ∧ ¬ 398 = xMin := by decide
theorem ws_398 : xSt.contains 398 = true := by decide +kernel
theorem na_41 : xnargs 41 = 1 := by decide +kernel
theorem wv_41 : xSe.contains 41 = true ∧ xIn.contains 41 = true := by decide +kernel
theorem wc_41 : (xMn 41).cls = (xCl 6).1 := by decide +kernel
theorem na_42 : xnargs 42 = 1 := by decide +kernel
theorem wv_42 : xSe.contains 42 = true ∧ xIn.contains 42 = true := by decide +kernel
theorem wc_42 : (xMn 42).cls = (xCl 6).1 := by decide +kernel
theorem na_43 : xnargs 43 = 3 := by decide +kernel
theorem wv_43 : xSe.contains 43 = true ∧ xIn.contains 43 = true := by decide +kernel
theorem wc_43 : (xMn 43).cls = (xCl 6).1 := by decide +kernel
theorem na_44 : xnargs 44 = 2 := by decide +kernel
theorem wv_44 : xSe.contains 44 = true ∧ xIn.contains 44 = true := by decide +kernel
theorem wc_44 : (xMn 44).cls = (xCl 6).1 := by decide +kernel
theorem na_45 : xnargs 45 = 1 := by decide +kernel
theorem wv_45 : xSe.contains 45 = true ∧ xIn.contains 45 = true := by decide +kernel
theorem wc_45 : (xMn 45).cls = (xCl 6).1 := by decide +kernel
theorem na_46 : xnargs 46 = 2 := by decide +kernel
theorem wv_46 : xSe.contains 46 = true ∧ xIn.contains 46 = true := by decide +kernel
theorem wc_46 : (xMn 46).cls = (xCl 6).1 := by decide +kernel
theorem na_47 : xnargs 47 = 0 := by decide +kernel
theorem wv_47 : xSe.contains 47 = true ∧ xIn.contains 47 = true := by decide +kernel
theorem wc_47 : (xMn 47).cls = (xCl 6).1 := by decide +kernel
theorem na_48 : xnargs 48 = 0 := by decide +kernel
theorem wv_48 : xSe.contains 48 = true ∧ xIn.contains 48 = true := by decide +kernel
theorem wc_48 : (xMn 48).cls = (xCl 6).1 := by decide +kernel
theorem na_49 : xnargs 49 = 1 := by decide +kernel
theorem wv_49 : xSe.contains 49 = true ∧ xIn.contains 49 = true := by decide +kernel
theorem wc_49 : (xMn 49).cls = (xCl 6).1 := by decide +kernel
theorem na_51 : xnargs 51 = 3 := by decide +kernel
theorem mm_51 : ¬ 51 = xMax ∧ ¬ 51 = xMin := by decide
theorem ws_51 : xSt.contains 51 = true := by decide +kernel
theorem na_52 : xnargs 52 = 2 := by decide +kernel
theorem wv_52 : xSe.contains 52 = true ∧ xIn.contains 52 = true := by decide +kernel
theorem wc_52 : (xMn 52).cls = (xCl 6).1 := by decide +kernel
theorem na_53 : xnargs 53 = 5 := by decide +kernel
theorem wv_53 : xSe.contains 53 = true ∧ xIn.contains 53 = true := by decide +kernel
theorem wc_53 : (xMn 53).cls = (xCl 6).1 := by decide +kernel
theorem na_54 : xnargs 54 = 2 := by decide +kernel
theorem wv_54 : xSe.contains 54 = true ∧ xIn.contains 54 = true := by decide +kernel
theorem wc_54 : (xMn 54).cls = (xCl 7).1 := by decide +kernel
theorem na_56 : xnargs 56 = 3 := by decide +kernel
theorem mm_56 : ¬ 56 = xMax ∧ ¬ 56 = xMin := by decide
theorem ws_56 : xSt.contains 56 = true := by decide +kernel
theorem na_57 : xnargs 57 = 2 := by decide +kernel
theorem mm_57 : ¬ 57 = xMax ∧ ¬ 57 = xMin := by decide
theorem ws_57 : xSt.contains 57 = true := by decide +kernel
theorem na_58 : xnargs 58 = 2 := by decide +kernel
theorem mm_58 : ¬ 58 = xMax ∧ ¬ 58 = xMin := by decide
theorem ws_58 : xSt.contains 58 = true := by decide +kernel
theorem na_59 : xnargs 59 = 1 := by decide +kernel
theorem wv_59 : xSe.contains 59 = true ∧ xIn.contains 59 = true := by decide +kernel
theorem wc_59 : (xMn 59).cls = (xCl 8).1 := by decide +kernel
theorem na_6 : xnargs 6 = 1 := by decide +kernel
theorem wv_6 : xSe.contains 6 = true ∧ xIn.contains 6 = true := by decide +kernel
theorem wc_6 : (xMn 6).cls = (xCl 3).1 := by decide +kernel
theorem na_60 : xnargs 60 = 3 := by decide +kernel
theorem wv_60 : xSe.contains 60 = true ∧ xIn.contains 60 = true := by decide +kernel
theorem wc_60 : (xMn 60).cls = (xCl 8).1 := by decide +kernel
theorem na_62 : xnargs 62 = 2 := by decide +kernel
theorem wv_62 : xSe.contains 62 = true ∧ xIn.contains 62 = true := by decide +kernel
theorem wc_62 : (xMn 62).cls = (xCl 9).1 := by decide +kernel
theorem na_63 : xnargs 63 = 1 := by decide +kernel
theorem wv_63 : xSe.contains 63 = true ∧ xIn.contains 63 = true := by decide +kernel
theorem wc_63 : (xMn 63).cls = (xCl 9).1 := by decide +kernel
theorem na_64 : xnargs 64 = 0 := by decide +kernel
theorem wv_64 : xSe.contains 64 = true ∧ xIn.contains 64 = true := by decide +kernel
theorem wc_64 : (xMn 64).cls = (xCl 9).1 := by decide +kernel
theorem na_65 : xnargs 65 = 1 := by decide +kernel
theorem wv_65 : xSe.contains 65 = true ∧ xIn.contains 65 = true := by decide +kernel
theorem wc_65 : (xMn 65).cls = (xCl 9).1 := by decide +kernel
theorem na_66 : xnargs 66 = 0 := by decide +kernel
theorem wv_66 : xSe.contains 66 = true ∧ xIn.contains 66 = true := by decide +kernel
theorem wc_66 : (xMn 66).cls = (xCl 9).1 := by decide +kernel
theorem na_67 : xnargs 67 = 1 := by decide +kernel
theorem wv_67 : xSe.contains 67 = true ∧ xIn.contains 67 = true := by decide +kernel
theorem wc_67 : (xMn 67).cls = (xCl 9).1 := by decide +kernel
theorem na_69 : xnargs 69 = 0 := by decide +kernel
theorem wv_69 : xSe.contains 69 = true ∧ xIn.contains 69 = true := by decide +kernel
theorem wc_69 : (xMn 69).cls = (xCl 9).1 := by decide +kernel
theorem na_70 : xnargs 70 = 1 := by decide +kernel
theorem wv_70 : xSe.contains 70 = true ∧ xIn.contains 70 = true := by decide +kernel
theorem wc_70 : (xMn 70).cls = (xCl 9).1 := by decide +kernel
theorem na_71 : xnargs 71 = 1 := by decide +kernel
theorem wv_71 : xSe.contains 71 = true ∧ xIn.contains 71 = true := by decide +kernel
theorem wc_71 : (xMn 71).cls = (xCl 9).1 := by decide +kernel
theorem na_72 : xnargs 72 = 3 := by decide +kernel
theorem wv_72 : xSe.contains 72 = true ∧ xIn.contains 72 = true := by decide +kernel
theorem wc_72 : (xMn 72).cls = (xCl 9).1 := by decide +kernel
theorem na_73 : xnargs 73 = 6 := by decide +kernel
theorem wv_73 : xSe.contains 73 = true ∧ xIn.contains 73 = true := by decide +kernel
theorem wc_73 : (xMn 73).cls = (xCl 9).1 := by decide +kernel
theorem na_74 : xnargs 74 = 1 := by decide +kernel
theorem wv_74 : xSe.contains 74 = true ∧ xIn.contains 74 = true := by decide +kernel
theorem wc_74 : (xMn 74).cls = (xCl 9).1 := by decide +kernel
theorem na_75 : xnargs 75 = 1 := by decide +kernel
theorem wv_75 : xSe.contains 75 = true ∧ xIn.contains 75 = true := by decide +kernel
theorem wc_75 : (xMn 75).cls = (xCl 9).1 := by decide +kernel
theorem na_76 : xnargs 76 = 3 := by decide +kernel
theorem wv_76 : xSe.contains 76 = true ∧ xIn.contains 76 = true := by decide +kernel
theorem wc_76 : (xMn 76).cls = (xCl 10).1 := by decide +kernel
theorem na_77 : xnargs 77 = 0 := by decide +kernel
theorem wv_77 : xSe.contains 77 = true ∧ xIn.contains 77 = true := by decide +kernel
theorem wc_77 : (xMn 77).cls = (xCl 10).1 := by decide +kernel
theorem na_78 : xnargs 78 = 3 := by decide +kernel
theorem wv_78 : xSe.contains 78 = true ∧ xIn.contains 78 = true := by decide +kernel
theorem wc_78 : (xMn 78).cls = (xCl 10).1 := by decide +kernel
theorem na_81 : xnargs 81 = 0 := by decide +kernel
theorem wv_81 : xSe.contains 81 = true ∧ xIn.contains 81 = true := by decide +kernel
theorem wc_81 : (xMn 81).cls = (xCl 10).1 := by decide +kernel
theorem na_82 : xnargs 82 = 1 := by decide +kernel
theorem wv_82 : xSe.contains 82 = true ∧ xIn.contains 82 = true := by decide +kernel
theorem wc_82 : (xMn 82).cls = (xCl 10).1 := by decide +kernel
theorem na_83 : xnargs 83 = 3 := by decide +kernel
theorem wv_83 : xSe.contains 83 = true ∧ xIn.contains 83 = true := by decide +kernel
theorem wc_83 : (xMn 83).cls = (xCl 10).1 := by decide +kernel
theorem na_85 : xnargs 85 = 3 := by decide +kernel
theorem wv_85 : xSe.contains 85 = true ∧ xIn.contains 85 = true := by decide +kernel
theorem wc_85 : (xMn 85).cls = (xCl 10).1 := by decide +kernel
theorem na_86 : xnargs 86 = 3 := by decide +kernel
theorem wv_86 : xSe.contains 86 = true ∧ xIn.contains 86 = true := by decide +kernel
theorem wc_86 : (xMn 86).cls = (xCl 10).1 := by decide +kernel
theorem na_87 : xnargs 87 = 2 := by decide +kernel
theorem wv_87 : xSe.contains 87 = true ∧ xIn.contains 87 = true := by decide +kernel
theorem wc_87 : (xMn 87).cls = (xCl 10).1 := by decide +kernel
theorem na_88 : xnargs 88 = 2 := by decide +kernel
theorem wv_88 : xSe.contains 88 = true ∧ xIn.contains 88 = true := by decide +kernel
theorem wc_88 : (xMn 88).cls = (xCl 10).1 := by decide +kernel
theorem na_89 : xnargs 89 = 1 := by decide +kernel
theorem wv_89 : xSe.contains 89 = true ∧ xIn.contains 89 = true := by decide +kernel
theorem wc_89 : (xMn 89).cls = (xCl 10).1 := by decide +kernel
theorem na_90 : xnargs 90 = 2 := by decide +kernel
theorem wv_90 : xSe.contains 90 = true ∧ xIn.contains 90 = true := by decide +kernel
theorem wc_90 : (xMn 90).cls = (xCl 10).1 := by decide +kernel
theorem na_91 : xnargs 91 = 3 := by decide +kernel
theorem wv_91 : xSe.contains 91 = true ∧ xIn.contains 91 = true := by decide +kernel
theorem wc_91 : (xMn 91).cls = (xCl 10).1 := by decide +kernel
theorem na_92 : xnargs 92 = 4 := by decide +kernel
theorem mm_92 : ¬ 92 = xMax ∧ ¬ 92 = xMin := by decide
theorem ws_92 : xSt.contains 92 = true := by decide +kernel
theorem na_93 : xnargs 93 = 1 := by decide +kernel
theorem wv_93 : xSe.contains 93 = true ∧ xIn.contains 93 = true := by decide +kernel
theorem wc_93 : (xMn 93).cls = (xCl 10).1 := by decide +kernel
theorem na_94 : xnargs 94 = 3 := by decide +kernel
theorem wv_94 : xSe.contains 94 = true ∧ xIn.contains 94 = true := by decide +kernel
theorem wc_94 : (xMn 94).cls = (xCl 10).1 := by decide +kernel
theorem na_95 : xnargs 95 = 3 := by decide +kernel
theorem wv_95 : xSe.contains 95 = true ∧ xIn.contains 95 = true := by decide +kernel
theorem wc_95 : (xMn 95).cls = (xCl 10).1 := by decide +kernel
theorem na_96 : xnargs 96 = 2 := by decide +kernel
theorem wv_96 : xSe.contains 96 = true ∧ xIn.contains 96 = true := by decide +kernel
theorem wc_96 : (xMn 96).cls = (xCl 10).1 := by decide +kernel
theorem na_97 : xnargs 97 = 0 := by decide +kernel
theorem wv_97 : xSe.contains 97 = true ∧ xIn.contains 97 = true := by decide +kernel
theorem wc_97 : (xMn 97).cls = (xCl 10).1 := by decide +kernel
theorem na_98 : xnargs 98 = 2 := by decide +kernel
theorem wv_98 : xSe.contains 98 = true ∧ xIn.contains 98 = true := by decide +kernel
theorem wc_98 : (xMn 98).cls = (xCl 10).1 := by decide +kernel
theorem na_99 : xnargs 99 = 0 := by decide +kernel
theorem wv_99 : xSe.contains 99 = true ∧ xIn.contains 99 = true := by decide +kernel
theorem wc_99 : (xMn 99).cls = (xCl 10).1 := by decide +kernel
theorem xc_20_265 : xcR 20 265 = some 1431655765 := by decide +kernel
theorem xc_20_266 : xcR 20 266 = some 858993459 := by decide +kernel
theorem xc_20_267 : xcR 20 267 = some 252645135 := by decide +kernel
theorem xc_7_63 : xcR 7 63 = some (-2147483648) := by decide +kernel
theorem rf_10_11 : xfR 10 11 = some (10, 2) := by decide +kernel
theorem rf_10_139 : xfR 10 139 = some (4, 3) := by decide +kernel
theorem rf_10_15 : xfR 10 15 = some (10, 3) := by decide +kernel
theorem rf_10_19 : xfR 10 19 = some (10, 6) := by decide +kernel
theorem rf_10_22 : xfR 10 22 = some (10, 7) := by decide +kernel
theorem rf_10_25 : xfR 10 25 = some (10, 8) := by decide +kernel
theorem rf_10_28 : xfR 10 28 = some (10, 9) := by decide +kernel
theorem rf_10_31 : xfR 10 31 = some (10, 10) := by decide +kernel
theorem rf_10_34 : xfR 10 34 = some (10, 14) := by decide +kernel
theorem rf_10_37 : xfR 10 37 = some (10, 0) := by decide +kernel
theorem rf_10_41 : xfR 10 41 = some (10, 1) := by decide +kernel
theorem rf_10_45 : xfR 10 45 = some (10, 4) := by decide +kernel
theorem rf_10_48 : xfR 10 48 = some (10, 5) := by decide +kernel
theorem rf_10_51 : xfR 10 51 = some (10, 12) := by decide +kernel
theorem rf_10_54 : xfR 10 54 = some (10, 13) := by decide +kernel
theorem rf_10_57 : xfR 10 57 = some (10, 11) := by decide +kernel
theorem rf_11_15 : xfR 11 15 = some (11, 7) := by decide +kernel
theorem rf_11_18 : xfR 11 18 = some (11, 8) := by decide +kernel
theorem rf_11_22 : xfR 11 22 = some (11, 0) := by decide +kernel
theorem rf_11_26 : xfR 11 26 = some (11, 1) := by decide +kernel
theorem rf_11_30 : xfR 11 30 = some (11, 2) := by decide +kernel
theorem rf_11_33 : xfR 11 33 = some (11, 3) := by decide +kernel
theorem rf_11_36 : xfR 11 36 = some (11, 4) := by decide +kernel
theorem rf_11_39 : xfR 11 39 = some (11, 5) := by decide +kernel
theorem rf_11_42 : xfR 11 42 = some (11, 9) := by decide +kernel
theorem rf_11_9 : xfR 11 9 = some (11, 6) := by decide +kernel
theorem rf_12_15 : xfR 12 15 = some (12, 1) := by decide +kernel
theorem rf_12_19 : xfR 12 19 = some (12, 2) := by decide +kernel
theorem rf_12_22 : xfR 12 22 = some (12, 3) := by decide +kernel
theorem rf_12_25 : xfR 12 25 = some (12, 4) := by decide +kernel
theorem rf_12_28 : xfR 12 28 = some (12, 5) := by decide +kernel
theorem rf_12_31 : xfR 12 31 = some (12, 6) := by decide +kernel
theorem rf_12_34 : xfR 12 34 = some (12, 7) := by decide +kernel
theorem rf_12_42 : xfR 12 42 = some (12, 8) := by decide +kernel
theorem rf_12_45 : xfR 12 45 = some (8, 2) := by decide +kernel
theorem rf_12_50 : xfR 12 50 = some (8, 5) := by decide +kernel
theorem rf_12_52 : xfR 12 52 = some (8, 16) := by decide +kernel
theorem rf_12_9 : xfR 12 9 = some (12, 0) := by decide +kernel
theorem rf_13_100 : xfR 13 100 = some (9, 3) := by decide +kernel
theorem rf_13_103 : xfR 13 103 = some (9, 6) := by decide +kernel
theorem rf_13_106 : xfR 13 106 = some (9, 7) := by decide +kernel
theorem rf_13_109 : xfR 13 109 = some (13, 15) := by decide +kernel
theorem rf_13_112 : xfR 13 112 = some (7, 10) := by decide +kernel
theorem rf_13_115 : xfR 13 115 = some (13, 9) := by decide +kernel
theorem rf_13_118 : xfR 13 118 = some (7, 9) := by decide +kernel
theorem rf_13_12 : xfR 13 12 = some (13, 2) := by decide +kernel
theorem rf_13_125 : xfR 13 125 = some (12, 8) := by decide +kernel
theorem rf_13_128 : xfR 13 128 = some (10, 1) := by decide +kernel
theorem rf_13_131 : xfR 13 131 = some (10, 4) := by decide +kernel
theorem rf_13_134 : xfR 13 134 = some (10, 5) := by decide +kernel
theorem rf_13_146 : xfR 13 146 = some (13, 19) := by decide +kernel
theorem rf_13_181 : xfR 13 181 = some (8, 2) := by decide +kernel
theorem rf_13_189 : xfR 13 189 = some (8, 7) := by decide +kernel
theorem rf_13_192 : xfR 13 192 = some (8, 10) := by decide +kernel
theorem rf_13_201 : xfR 13 201 = some (14, 16) := by decide +kernel
theorem rf_13_21 : xfR 13 21 = some (13, 5) := by decide +kernel
theorem rf_13_238 : xfR 13 238 = some (13, 17) := by decide +kernel
theorem rf_13_241 : xfR 13 241 = some (14, 0) := by decide +kernel
theorem rf_13_256 : xfR 13 256 = some (6, 9) := by decide +kernel
theorem rf_13_259 : xfR 13 259 = some (6, 0) := by decide +kernel
theorem rf_13_263 : xfR 13 263 = some (11, 2) := by decide +kernel
theorem rf_13_268 : xfR 13 268 = some (11, 3) := by decide +kernel
theorem rf_13_269 : xfR 13 269 = some (11, 4) := by decide +kernel
theorem rf_13_276 : xfR 13 276 = some (11, 8) := by decide +kernel
theorem rf_13_279 : xfR 13 279 = some (11, 9) := by decide +kernel
theorem rf_13_28 : xfR 13 28 = some (13, 6) := by decide +kernel
theorem rf_13_286 : xfR 13 286 = some (6, 5) := by decide +kernel
theorem rf_13_289 : xfR 13 289 = some (6, 4) := by decide +kernel
theorem rf_13_299 : xfR 13 299 = some (11, 5) := by decide +kernel
theorem rf_13_302 : xfR 13 302 = some (11, 6) := by decide +kernel
theorem rf_13_308 : xfR 13 308 = some (6, 6) := by decide +kernel
theorem rf_13_317 : xfR 13 317 = some (14, 13) := by decide +kernel
theorem rf_13_336 : xfR 13 336 = some (8, 3) := by decide +kernel
theorem rf_13_339 : xfR 13 339 = some (8, 4) := by decide +kernel
theorem rf_13_342 : xfR 13 342 = some (8, 5) := by decide +kernel
theorem rf_13_343 : xfR 13 343 = some (8, 6) := by decide +kernel
theorem rf_13_346 : xfR 13 346 = some (8, 17) := by decide +kernel
theorem rf_13_35 : xfR 13 35 = some (13, 7) := by decide +kernel
theorem rf_13_355 : xfR 13 355 = some (10, 10) := by decide +kernel
theorem rf_13_365 : xfR 13 365 = some (8, 12) := by decide +kernel
theorem rf_13_370 : xfR 13 370 = some (8, 8) := by decide +kernel
theorem rf_13_380 : xfR 13 380 = some (7, 0) := by decide +kernel
theorem rf_13_383 : xfR 13 383 = some (7, 2) := by decide +kernel
theorem rf_13_386 : xfR 13 386 = some (7, 3) := by decide +kernel
theorem rf_13_39 : xfR 13 39 = some (13, 8) := by decide +kernel
theorem rf_13_393 : xfR 13 393 = some (7, 6) := by decide +kernel
theorem rf_13_404 : xfR 13 404 = some (8, 9) := by decide +kernel
theorem rf_13_405 : xfR 13 405 = some (9, 1) := by decide +kernel
theorem rf_13_409 : xfR 13 409 = some (8, 18) := by decide +kernel
theorem rf_13_416 : xfR 13 416 = some (9, 4) := by decide +kernel
theorem rf_13_419 : xfR 13 419 = some (9, 5) := by decide +kernel
theorem rf_13_422 : xfR 13 422 = some (8, 11) := by decide +kernel
theorem rf_13_423 : xfR 13 423 = some (8, 13) := by decide +kernel
theorem rf_13_43 : xfR 13 43 = some (13, 11) := by decide +kernel
theorem rf_13_431 : xfR 13 431 = some (7, 5) := by decide +kernel
theorem rf_13_453 : xfR 13 453 = some (7, 11) := by decide +kernel
theorem rf_13_456 : xfR 13 456 = some (7, 7) := by decide +kernel
theorem rf_13_459 : xfR 13 459 = some (7, 1) := by decide +kernel
theorem rf_13_462 : xfR 13 462 = some (7, 4) := by decide +kernel
theorem rf_13_47 : xfR 13 47 = some (13, 13) := by decide +kernel
theorem rf_13_50 : xfR 13 50 = some (13, 14) := by decide +kernel
theorem rf_13_53 : xfR 13 53 = some (13, 16) := by decide +kernel
theorem rf_13_531 : xfR 13 531 = some (8, 19) := by decide +kernel
theorem rf_13_546 : xfR 13 546 = some (7, 8) := by decide +kernel
theorem rf_13_550 : xfR 13 550 = some (8, 14) := by decide +kernel
theorem rf_13_553 : xfR 13 553 = some (8, 15) := by decide +kernel
theorem rf_13_556 : xfR 13 556 = some (8, 16) := by decide +kernel
theorem rf_13_559 : xfR 13 559 = some (9, 8) := by decide +kernel
theorem rf_13_56 : xfR 13 56 = some (13, 18) := by decide +kernel
theorem rf_13_568 : xfR 13 568 = some (12, 5) := by decide +kernel
theorem rf_13_580 : xfR 13 580 = some (10, 12) := by decide +kernel
theorem rf_13_583 : xfR 13 583 = some (12, 1) := by decide +kernel
theorem rf_13_586 : xfR 13 586 = some (12, 2) := by decide +kernel
theorem rf_13_589 : xfR 13 589 = some (10, 13) := by decide +kernel
theorem rf_13_592 : xfR 13 592 = some (10, 11) := by decide +kernel
theorem rf_13_595 : xfR 13 595 = some (12, 7) := by decide +kernel
theorem rf_13_60 : xfR 13 60 = some (13, 0) := by decide +kernel
theorem rf_13_601 : xfR 13 601 = some (12, 0) := by decide +kernel
theorem rf_13_604 : xfR 13 604 = some (12, 6) := by decide +kernel
theorem rf_13_606 : xfR 13 606 = some (12, 4) := by decide +kernel
theorem rf_13_609 : xfR 13 609 = some (12, 3) := by decide +kernel
theorem rf_13_620 : xfR 13 620 = some (10, 14) := by decide +kernel
theorem rf_13_63 : xfR 13 63 = some (13, 1) := by decide +kernel
theorem rf_13_72 : xfR 13 72 = some (13, 3) := by decide +kernel
theorem rf_13_81 : xfR 13 81 = some (13, 4) := by decide +kernel
theorem rf_13_85 : xfR 13 85 = some (13, 12) := by decide +kernel
theorem rf_13_88 : xfR 13 88 = some (13, 10) := by decide +kernel
theorem rf_13_91 : xfR 13 91 = some (9, 9) := by decide +kernel
theorem rf_13_94 : xfR 13 94 = some (9, 10) := by decide +kernel
theorem rf_13_97 : xfR 13 97 = some (9, 11) := by decide +kernel
theorem rf_14_100 : xfR 14 100 = some (14, 9) := by decide +kernel
theorem rf_14_108 : xfR 14 108 = some (14, 4) := by decide +kernel
theorem rf_14_115 : xfR 14 115 = some (8, 0) := by decide +kernel
theorem rf_14_118 : xfR 14 118 = some (14, 1) := by decide +kernel
theorem rf_14_121 : xfR 14 121 = some (8, 1) := by decide +kernel
theorem rf_14_124 : xfR 14 124 = some (14, 3) := by decide +kernel
theorem rf_14_141 : xfR 14 141 = some (14, 2) := by decide +kernel
theorem rf_14_15 : xfR 14 15 = some (14, 11) := by decide +kernel
theorem rf_14_18 : xfR 14 18 = some (14, 12) := by decide +kernel
theorem rf_14_24 : xfR 14 24 = some (14, 14) := by decide +kernel
theorem rf_14_31 : xfR 14 31 = some (14, 15) := by decide +kernel
theorem rf_14_35 : xfR 14 35 = some (14, 16) := by decide +kernel
theorem rf_14_44 : xfR 14 44 = some (14, 5) := by decide +kernel
theorem rf_14_63 : xfR 14 63 = some (8, 2) := by decide +kernel
theorem rf_14_66 : xfR 14 66 = some (8, 3) := by decide +kernel
theorem rf_14_77 : xfR 14 77 = some (14, 0) := by decide +kernel
theorem rf_14_80 : xfR 14 80 = some (14, 6) := by decide +kernel
theorem rf_14_83 : xfR 14 83 = some (14, 7) := by decide +kernel
theorem rf_14_86 : xfR 14 86 = some (14, 8) := by decide +kernel
theorem rf_14_9 : xfR 14 9 = some (14, 10) := by decide +kernel
theorem rf_15_11 : xfR 15 11 = some (15, 2) := by decide +kernel
theorem rf_15_165 : xfR 15 165 = some (13, 8) := by decide +kernel
theorem rf_15_17 : xfR 15 17 = some (15, 3) := by decide +kernel
theorem rf_15_260 : xfR 15 260 = some (8, 2) := by decide +kernel
theorem rf_15_263 : xfR 15 263 = some (8, 3) := by decide +kernel
theorem rf_15_272 : xfR 15 272 = some (8, 0) := by decide +kernel
theorem rf_15_308 : xfR 15 308 = some (14, 4) := by decide +kernel
theorem rf_15_352 : xfR 15 352 = some (14, 16) := by decide +kernel
theorem rf_15_358 : xfR 15 358 = some (14, 10) := by decide +kernel
theorem rf_15_42 : xfR 15 42 = some (15, 0) := by decide +kernel
theorem rf_4_11 : xfR 4 11 = some (4, 2) := by decide +kernel
theorem rf_4_19 : xfR 4 19 = some (4, 0) := by decide +kernel
theorem rf_4_29 : xfR 4 29 = some (4, 1) := by decide +kernel
theorem rf_4_32 : xfR 4 32 = some (4, 4) := by decide +kernel
theorem rf_5_108 : xfR 5 108 = some (14, 0) := by decide +kernel
theorem rf_5_115 : xfR 5 115 = some (5, 11) := by decide +kernel
theorem rf_5_124 : xfR 5 124 = some (8, 7) := by decide +kernel
theorem rf_5_136 : xfR 5 136 = some (5, 13) := by decide +kernel
theorem rf_5_139 : xfR 5 139 = some (8, 19) := by decide +kernel
theorem rf_5_15 : xfR 5 15 = some (5, 9) := by decide +kernel
theorem rf_5_18 : xfR 5 18 = some (5, 12) := by decide +kernel
theorem rf_5_22 : xfR 5 22 = some (5, 0) := by decide +kernel
theorem rf_5_25 : xfR 5 25 = some (5, 1) := by decide +kernel
theorem rf_5_29 : xfR 5 29 = some (5, 2) := by decide +kernel
theorem rf_5_33 : xfR 5 33 = some (5, 3) := by decide +kernel
theorem rf_5_37 : xfR 5 37 = some (5, 8) := by decide +kernel
theorem rf_5_44 : xfR 5 44 = some (5, 10) := by decide +kernel
theorem rf_5_47 : xfR 5 47 = some (5, 6) := by decide +kernel
theorem rf_5_50 : xfR 5 50 = some (5, 7) := by decide +kernel
theorem rf_5_71 : xfR 5 71 = some (8, 2) := by decide +kernel
theorem rf_5_76 : xfR 5 76 = some (5, 4) := by decide +kernel
theorem rf_5_79 : xfR 5 79 = some (8, 3) := by decide +kernel
theorem rf_5_82 : xfR 5 82 = some (8, 4) := by decide +kernel
theorem rf_5_85 : xfR 5 85 = some (8, 5) := by decide +kernel
theorem rf_5_88 : xfR 5 88 = some (8, 6) := by decide +kernel
theorem rf_5_9 : xfR 5 9 = some (5, 5) := by decide +kernel
theorem rf_5_91 : xfR 5 91 = some (8, 14) := by decide +kernel
theorem rf_5_92 : xfR 5 92 = some (8, 15) := by decide +kernel
theorem rf_5_93 : xfR 5 93 = some (8, 16) := by decide +kernel
theorem rf_5_94 : xfR 5 94 = some (8, 12) := by decide +kernel
theorem rf_5_97 : xfR 5 97 = some (8, 17) := by decide +kernel
theorem rf_6_11 : xfR 6 11 = some (6, 0) := by decide +kernel
theorem rf_6_136 : xfR 6 136 = some (11, 3) := by decide +kernel
theorem rf_6_156 : xfR 6 156 = some (11, 6) := by decide +kernel
theorem rf_6_17 : xfR 6 17 = some (6, 1) := by decide +kernel
theorem rf_6_20 : xfR 6 20 = some (6, 2) := by decide +kernel
theorem rf_6_24 : xfR 6 24 = some (6, 3) := by decide +kernel
theorem rf_6_27 : xfR 6 27 = some (6, 4) := by decide +kernel
theorem rf_6_30 : xfR 6 30 = some (6, 6) := by decide +kernel
theorem rf_6_34 : xfR 6 34 = some (6, 9) := by decide +kernel
theorem rf_6_38 : xfR 6 38 = some (11, 1) := by decide +kernel
theorem rf_6_41 : xfR 6 41 = some (11, 0) := by decide +kernel
theorem rf_6_45 : xfR 6 45 = some (6, 7) := by decide +kernel
theorem rf_6_48 : xfR 6 48 = some (6, 8) := by decide +kernel
theorem rf_6_59 : xfR 6 59 = some (11, 8) := by decide +kernel
theorem rf_6_69 : xfR 6 69 = some (11, 9) := by decide +kernel
theorem rf_6_72 : xfR 6 72 = some (6, 5) := by decide +kernel
theorem rf_6_83 : xfR 6 83 = some (11, 2) := by decide +kernel
theorem rf_6_96 : xfR 6 96 = some (11, 5) := by decide +kernel
theorem rf_7_15 : xfR 7 15 = some (7, 1) := by decide +kernel
theorem rf_7_18 : xfR 7 18 = some (7, 2) := by decide +kernel
theorem rf_7_21 : xfR 7 21 = some (7, 3) := by decide +kernel
theorem rf_7_24 : xfR 7 24 = some (7, 4) := by decide +kernel
theorem rf_7_27 : xfR 7 27 = some (7, 5) := by decide +kernel
theorem rf_7_30 : xfR 7 30 = some (7, 6) := by decide +kernel
theorem rf_7_34 : xfR 7 34 = some (7, 7) := by decide +kernel
theorem rf_7_37 : xfR 7 37 = some (7, 10) := by decide +kernel
theorem rf_7_47 : xfR 7 47 = some (7, 8) := by decide +kernel
theorem rf_7_50 : xfR 7 50 = some (7, 9) := by decide +kernel
theorem rf_7_9 : xfR 7 9 = some (7, 0) := by decide +kernel
theorem rf_8_15 : xfR 8 15 = some (8, 19) := by decide +kernel
theorem rf_8_19 : xfR 8 19 = some (8, 2) := by decide +kernel
theorem rf_8_23 : xfR 8 23 = some (8, 3) := by decide +kernel
theorem rf_8_26 : xfR 8 26 = some (8, 4) := by decide +kernel
theorem rf_8_29 : xfR 8 29 = some (8, 5) := by decide +kernel
theorem rf_8_32 : xfR 8 32 = some (8, 6) := by decide +kernel
theorem rf_8_35 : xfR 8 35 = some (8, 7) := by decide +kernel
theorem rf_8_38 : xfR 8 38 = some (8, 8) := by decide +kernel
theorem rf_8_41 : xfR 8 41 = some (8, 9) := by decide +kernel
theorem rf_8_44 : xfR 8 44 = some (8, 10) := by decide +kernel
theorem rf_8_47 : xfR 8 47 = some (8, 11) := by decide +kernel
theorem rf_8_50 : xfR 8 50 = some (8, 12) := by decide +kernel
theorem rf_8_53 : xfR 8 53 = some (8, 13) := by decide +kernel
theorem rf_8_56 : xfR 8 56 = some (8, 14) := by decide +kernel
theorem rf_8_59 : xfR 8 59 = some (8, 15) := by decide +kernel
theorem rf_8_62 : xfR 8 62 = some (8, 16) := by decide +kernel
theorem rf_8_65 : xfR 8 65 = some (8, 17) := by decide +kernel
theorem rf_8_9 : xfR 8 9 = some (8, 18) := by decide +kernel
theorem rf_9_15 : xfR 9 15 = some (9, 2) := by decide +kernel
theorem rf_9_18 : xfR 9 18 = some (9, 0) := by decide +kernel
theorem rf_9_22 : xfR 9 22 = some (9, 5) := by decide +kernel
theorem rf_9_25 : xfR 9 25 = some (9, 7) := by decide +kernel
theorem rf_9_28 : xfR 9 28 = some (9, 3) := by decide +kernel
theorem rf_9_31 : xfR 9 31 = some (9, 4) := by decide +kernel
theorem rf_9_34 : xfR 9 34 = some (9, 6) := by decide +kernel
theorem rf_9_67 : xfR 9 67 = some (9, 8) := by decide +kernel
theorem rf_9_73 : xfR 9 73 = some (9, 11) := by decide +kernel
theorem rf_9_9 : xfR 9 9 = some (9, 1) := by decide +kernel
theorem xk_13_182 : xkR 13 182 = some 8 := by decide +kernel
theorem xk_14_52 : xkR 14 52 = some 8 := by decide +kernel
theorem xl_14_104 : xlR 14 104 = some 6364136223846793005 := by decide +kernel
theorem xl_14_106 : xlR 14 106 = some 1442695040888963407 := by decide +kernel
theorem xl_14_148 : xlR 14 148 = some 50 := by decide +kernel
theorem xl_6_116 : xlR 6 116 = some 6364136223846793005 := by decide +kernel
theorem xl_6_118 : xlR 6 118 = some 1442695040888963407 := by decide +kernel
theorem xl_6_123 : xlR 6 123 = some 1048575 := by decide +kernel
theorem mr_10_101 : xmR 10 101 = some 90 := by decide +kernel
theorem mr_10_104 : xmR 10 104 = some 86 := by decide +kernel
theorem mr_10_108 : xmR 10 108 = some 91 := by decide +kernel
theorem mr_10_112 : xmR 10 112 = some 100 := by decide +kernel
theorem mr_10_115 : xmR 10 115 = some 85 := by decide +kernel
theorem mr_10_118 : xmR 10 118 = some 102 := by decide +kernel
theorem mr_10_121 : xmR 10 121 = some 83 := by decide +kernel
theorem mr_10_124 : xmR 10 124 = some 104 := by decide +kernel
theorem mr_10_127 : xmR 10 127 = some 396 := by decide +kernel
theorem mr_10_132 : xmR 10 132 = some 101 := by decide +kernel
theorem mr_10_135 : xmR 10 135 = some 78 := by decide +kernel
theorem mr_10_142 : xmR 10 142 = some 99 := by decide +kernel
theorem mr_10_146 : xmR 10 146 = some 98 := by decide +kernel
theorem mr_10_149 : xmR 10 149 = some 77 := by decide +kernel
theorem mr_10_152 : xmR 10 152 = some 88 := by decide +kernel
theorem mr_10_156 : xmR 10 156 = some 92 := by decide +kernel
theorem mr_10_60 : xmR 10 60 = some 93 := by decide +kernel
theorem mr_10_64 : xmR 10 64 = some 82 := by decide +kernel
theorem mr_10_76 : xmR 10 76 = some 19 := by decide +kernel
theorem mr_10_80 : xmR 10 80 = some 95 := by decide +kernel
theorem mr_10_84 : xmR 10 84 = some 103 := by decide +kernel
theorem mr_10_88 : xmR 10 88 = some 96 := by decide +kernel
theorem mr_10_92 : xmR 10 92 = some 81 := by decide +kernel
theorem mr_10_95 : xmR 10 95 = some 394 := by decide +kernel
theorem mr_11_45 : xmR 11 45 = some 110 := by decide +kernel
theorem mr_11_55 : xmR 11 55 = some 396 := by decide +kernel
theorem mr_11_61 : xmR 11 61 = some 390 := by decide +kernel
theorem mr_12_38 : xmR 12 38 = some 119 := by decide +kernel
theorem mr_13_121 : xmR 13 121 = some 14 := by decide +kernel
theorem mr_13_137 : xmR 13 137 = some 47 := by decide +kernel
theorem mr_13_140 : xmR 13 140 = some 398 := by decide +kernel
theorem mr_13_149 : xmR 13 149 = some 171 := by decide +kernel
theorem mr_13_153 : xmR 13 153 = some 128 := by decide +kernel
theorem mr_13_156 : xmR 13 156 = some 174 := by decide +kernel
theorem mr_13_159 : xmR 13 159 = some 127 := by decide +kernel
theorem mr_13_162 : xmR 13 162 = some 161 := by decide +kernel
theorem mr_13_166 : xmR 13 166 = some 121 := by decide +kernel
theorem mr_13_169 : xmR 13 169 = some 131 := by decide +kernel
theorem mr_13_172 : xmR 13 172 = some 123 := by decide +kernel
theorem mr_13_175 : xmR 13 175 = some 130 := by decide +kernel
theorem mr_13_178 : xmR 13 178 = some 149 := by decide +kernel
theorem mr_13_186 : xmR 13 186 = some 158 := by decide +kernel
theorem mr_13_193 : xmR 13 193 = some 157 := by decide +kernel
theorem mr_13_197 : xmR 13 197 = some 36 := by decide +kernel
theorem mr_13_206 : xmR 13 206 = some 6 := by decide +kernel
theorem mr_13_210 : xmR 13 210 = some 2 := by decide +kernel
theorem mr_13_214 : xmR 13 214 = some 3 := by decide +kernel
theorem mr_13_217 : xmR 13 217 = some 126 := by decide +kernel
theorem mr_13_220 : xmR 13 220 = some 48 := by decide +kernel
theorem mr_13_223 : xmR 13 223 = some 151 := by decide +kernel
theorem mr_13_226 : xmR 13 226 = some 194 := by decide +kernel
theorem mr_13_229 : xmR 13 229 = some 37 := by decide +kernel
theorem mr_13_232 : xmR 13 232 = some 145 := by decide +kernel
theorem mr_13_235 : xmR 13 235 = some 146 := by decide +kernel
theorem mr_13_244 : xmR 13 244 = some 54 := by decide +kernel
theorem mr_13_248 : xmR 13 248 = some 117 := by decide +kernel
theorem mr_13_251 : xmR 13 251 = some 188 := by decide +kernel
theorem mr_13_254 : xmR 13 254 = some 64 := by decide +kernel
theorem mr_13_255 : xmR 13 255 = some 77 := by decide +kernel
theorem mr_13_272 : xmR 13 272 = some 72 := by decide +kernel
theorem mr_13_282 : xmR 13 282 = some 87 := by decide +kernel
theorem mr_13_293 : xmR 13 293 = some 396 := by decide +kernel
theorem mr_13_305 : xmR 13 305 = some 62 := by decide +kernel
theorem mr_13_311 : xmR 13 311 = some 75 := by decide +kernel
theorem mr_13_314 : xmR 13 314 = some 52 := by decide +kernel
theorem mr_13_320 : xmR 13 320 = some 200 := by decide +kernel
theorem mr_13_323 : xmR 13 323 = some 165 := by decide +kernel
theorem mr_13_326 : xmR 13 326 = some 69 := by decide +kernel
theorem mr_13_328 : xmR 13 328 = some 32 := by decide +kernel
theorem mr_13_332 : xmR 13 332 = some 185 := by decide +kernel
theorem mr_13_347 : xmR 13 347 = some 199 := by decide +kernel
theorem mr_13_351 : xmR 13 351 = some 144 := by decide +kernel
theorem mr_13_358 : xmR 13 358 = some 60 := by decide +kernel
theorem mr_13_362 : xmR 13 362 = some 132 := by decide +kernel
theorem mr_13_367 : xmR 13 367 = some 182 := by decide +kernel
theorem mr_13_373 : xmR 13 373 = some 150 := by decide +kernel
theorem mr_13_376 : xmR 13 376 = some 160 := by decide +kernel
theorem mr_13_389 : xmR 13 389 = some 153 := by decide +kernel
theorem mr_13_397 : xmR 13 397 = some 397 := by decide +kernel
theorem mr_13_400 : xmR 13 400 = some 152 := by decide +kernel
theorem mr_13_406 : xmR 13 406 = some 63 := by decide +kernel
theorem mr_13_425 : xmR 13 425 = some 156 := by decide +kernel
theorem mr_13_428 : xmR 13 428 = some 135 := by decide +kernel
theorem mr_13_434 : xmR 13 434 = some 57 := by decide +kernel
theorem mr_13_438 : xmR 13 438 = some 166 := by decide +kernel
theorem mr_13_441 : xmR 13 441 = some 125 := by decide +kernel
theorem mr_13_444 : xmR 13 444 = some 142 := by decide +kernel
theorem mr_13_447 : xmR 13 447 = some 73 := by decide +kernel
theorem mr_13_451 : xmR 13 451 = some 122 := by decide +kernel
theorem mr_13_465 : xmR 13 465 = some 178 := by decide +kernel
theorem mr_13_468 : xmR 13 468 = some 177 := by decide +kernel
theorem mr_13_471 : xmR 13 471 = some 176 := by decide +kernel
theorem mr_13_474 : xmR 13 474 = some 170 := by decide +kernel
theorem mr_13_477 : xmR 13 477 = some 168 := by decide +kernel
theorem mr_13_480 : xmR 13 480 = some 134 := by decide +kernel
theorem mr_13_484 : xmR 13 484 = some 172 := by decide +kernel
theorem mr_13_487 : xmR 13 487 = some 169 := by decide +kernel
theorem mr_13_490 : xmR 13 490 = some 175 := by decide +kernel
theorem mr_13_493 : xmR 13 493 = some 180 := by decide +kernel
theorem mr_13_496 : xmR 13 496 = some 173 := by decide +kernel
theorem mr_13_499 : xmR 13 499 = some 141 := by decide +kernel
theorem mr_13_502 : xmR 13 502 = some 162 := by decide +kernel
theorem mr_13_506 : xmR 13 506 = some 139 := by decide +kernel
theorem mr_13_509 : xmR 13 509 = some 74 := by decide +kernel
theorem mr_13_512 : xmR 13 512 = some 65 := by decide +kernel
theorem mr_13_515 : xmR 13 515 = some 34 := by decide +kernel
theorem mr_13_516 : xmR 13 516 = some 159 := by decide +kernel
theorem mr_13_519 : xmR 13 519 = some 143 := by decide +kernel
theorem mr_13_522 : xmR 13 522 = some 179 := by decide +kernel
theorem mr_13_525 : xmR 13 525 = some 392 := by decide +kernel
theorem mr_13_532 : xmR 13 532 = some 53 := by decide +kernel
theorem mr_13_536 : xmR 13 536 = some 33 := by decide +kernel
theorem mr_13_539 : xmR 13 539 = some 138 := by decide +kernel
theorem mr_13_542 : xmR 13 542 = some 155 := by decide +kernel
theorem mr_13_547 : xmR 13 547 = some 115 := by decide +kernel
theorem mr_13_562 : xmR 13 562 = some 67 := by decide +kernel
theorem mr_13_565 : xmR 13 565 = some 120 := by decide +kernel
theorem mr_13_570 : xmR 13 570 = some 116 := by decide +kernel
theorem mr_13_573 : xmR 13 573 = some 76 := by decide +kernel
theorem mr_13_577 : xmR 13 577 = some 94 := by decide +kernel
theorem mr_13_598 : xmR 13 598 = some 119 := by decide +kernel
theorem mr_13_611 : xmR 13 611 = some 89 := by decide +kernel
theorem mr_13_614 : xmR 13 614 = some 71 := by decide +kernel
theorem mr_13_617 : xmR 13 617 = some 97 := by decide +kernel
theorem mr_13_623 : xmR 13 623 = some 393 := by decide +kernel
theorem mr_13_625 : xmR 13 625 = some 147 := by decide +kernel
theorem mr_14_111 : xmR 14 111 = some 2 := by decide +kernel
theorem mr_14_127 : xmR 14 127 = some 6 := by decide +kernel
theorem mr_14_130 : xmR 14 130 = some 1 := by decide +kernel
theorem mr_14_133 : xmR 14 133 = some 193 := by decide +kernel
theorem mr_14_137 : xmR 14 137 = some 185 := by decide +kernel
theorem mr_14_144 : xmR 14 144 = some 194 := by decide +kernel
theorem mr_14_150 : xmR 14 150 = some 200 := by decide +kernel
theorem mr_14_48 : xmR 14 48 = some 10 := by decide +kernel
theorem mr_14_55 : xmR 14 55 = some 14 := by decide +kernel
theorem mr_14_59 : xmR 14 59 = some 13 := by decide +kernel
theorem mr_14_69 : xmR 14 69 = some 184 := by decide +kernel
theorem mr_14_73 : xmR 14 73 = some 198 := by decide +kernel
theorem mr_14_89 : xmR 14 89 = some 197 := by decide +kernel
theorem mr_14_93 : xmR 14 93 = some 189 := by decide +kernel
theorem mr_14_97 : xmR 14 97 = some 59 := by decide +kernel
theorem mr_15_324 : xmR 15 324 = some 192 := by decide +kernel
theorem mr_15_328 : xmR 15 328 = some 191 := by decide +kernel
theorem mr_15_331 : xmR 15 331 = some 196 := by decide +kernel
theorem mr_15_335 : xmR 15 335 = some 202 := by decide +kernel
theorem mr_15_338 : xmR 15 338 = some 184 := by decide +kernel
theorem mr_15_342 : xmR 15 342 = some 154 := by decide +kernel
theorem mr_15_346 : xmR 15 346 = some 164 := by decide +kernel
theorem mr_15_349 : xmR 15 349 = some 23 := by decide +kernel
theorem mr_15_355 : xmR 15 355 = some 2 := by decide +kernel
theorem mr_15_361 : xmR 15 361 = some 201 := by decide +kernel
theorem mr_15_364 : xmR 15 364 = some 167 := by decide +kernel
theorem mr_15_367 : xmR 15 367 = some 183 := by decide +kernel
theorem mr_15_370 : xmR 15 370 = some 31 := by decide +kernel
theorem mr_4_23 : xmR 4 23 = some 390 := by decide +kernel
theorem mr_5_100 : xmR 5 100 = some 199 := by decide +kernel
theorem mr_5_104 : xmR 5 104 = some 29 := by decide +kernel
theorem mr_5_111 : xmR 5 111 = some 200 := by decide +kernel
theorem mr_5_118 : xmR 5 118 = some 30 := by decide +kernel
theorem mr_5_121 : xmR 5 121 = some 24 := by decide +kernel
theorem mr_5_127 : xmR 5 127 = some 25 := by decide +kernel
theorem mr_5_131 : xmR 5 131 = some 397 := by decide +kernel
theorem mr_5_148 : xmR 5 148 = some 20 := by decide +kernel
theorem mr_5_151 : xmR 5 151 = some 194 := by decide +kernel
theorem mr_5_154 : xmR 5 154 = some 18 := by decide +kernel
theorem mr_5_40 : xmR 5 40 = some 27 := by decide +kernel
theorem mr_5_53 : xmR 5 53 = some 28 := by decide +kernel
theorem mr_5_58 : xmR 5 58 = some 19 := by decide +kernel
theorem mr_5_62 : xmR 5 62 = some 22 := by decide +kernel
theorem mr_5_65 : xmR 5 65 = some 185 := by decide +kernel
theorem mr_6_101 : xmR 6 101 = some 106 := by decide +kernel
theorem mr_6_103 : xmR 6 103 = some 397 := by decide +kernel
theorem mr_6_109 : xmR 6 109 = some 49 := by decide +kernel
theorem mr_6_112 : xmR 6 112 = some 113 := by decide +kernel
theorem mr_6_120 : xmR 6 120 = some 396 := by decide +kernel
theorem mr_6_125 : xmR 6 125 = some 43 := by decide +kernel
theorem mr_6_129 : xmR 6 129 = some 38 := by decide +kernel
theorem mr_6_132 : xmR 6 132 = some 41 := by decide +kernel
theorem mr_6_139 : xmR 6 139 = some 39 := by decide +kernel
theorem mr_6_142 : xmR 6 142 = some 51 := by decide +kernel
theorem mr_6_146 : xmR 6 146 = some 109 := by decide +kernel
theorem mr_6_150 : xmR 6 150 = some 46 := by decide +kernel
theorem mr_6_153 : xmR 6 153 = some 42 := by decide +kernel
theorem mr_6_51 : xmR 6 51 = some 114 := by decide +kernel
theorem mr_6_55 : xmR 6 55 = some 111 := by decide +kernel
theorem mr_6_75 : xmR 6 75 = some 44 := by decide +kernel
theorem mr_6_79 : xmR 6 79 = some 105 := by decide +kernel
theorem mr_6_86 : xmR 6 86 = some 45 := by decide +kernel
theorem mr_6_89 : xmR 6 89 = some 107 := by decide +kernel
theorem mr_6_93 : xmR 6 93 = some 35 := by decide +kernel
theorem mr_6_99 : xmR 6 99 = some 112 := by decide +kernel
theorem mr_7_41 : xmR 7 41 = some 393 := by decide +kernel
theorem mr_7_53 : xmR 7 53 = some 58 := by decide +kernel
theorem mr_7_57 : xmR 7 57 = some 397 := by decide +kernel
theorem mr_7_64 : xmR 7 64 = some 56 := by decide +kernel
theorem mr_7_68 : xmR 7 68 = some 398 := by decide +kernel
theorem mr_8_74 : xmR 8 74 = some 397 := by decide +kernel
theorem mr_8_80 : xmR 8 80 = some 396 := by decide +kernel
theorem mr_9_37 : xmR 9 37 = some 66 := by decide +kernel
theorem mr_9_40 : xmR 9 40 = some 67 := by decide +kernel
theorem mr_9_44 : xmR 9 44 = some 63 := by decide +kernel
theorem mr_9_48 : xmR 9 48 = some 396 := by decide +kernel
theorem mr_9_54 : xmR 9 54 = some 75 := by decide +kernel
theorem mr_9_57 : xmR 9 57 = some 69 := by decide +kernel
theorem mr_9_70 : xmR 9 70 = some 397 := by decide +kernel
theorem mr_9_76 : xmR 9 76 = some 70 := by decide +kernel
theorem xn_14_54 : xmR 14 54 = none ∧ xnR 14 54 = some 61 := by decide +kernel
theorem pf_10_1 : 1 < (xCl 10).2.2 ∧ ((xCl 10).2.1 1).2.2.2 = false ∧ xfty 10 1 = some .int := by decide +kernel
theorem pf_10_11 : 11 < (xCl 10).2.2 ∧ ((xCl 10).2.1 11).2.2.2 = false ∧ xfty 10 11 = some .int := by decide +kernel
theorem pf_10_12 : 12 < (xCl 10).2.2 ∧ ((xCl 10).2.1 12).2.2.2 = false ∧ xfty 10 12 = some .int := by decide +kernel
theorem pf_10_13 : 13 < (xCl 10).2.2 ∧ ((xCl 10).2.1 13).2.2.2 = false ∧ xfty 10 13 = some .int := by decide +kernel
theorem pf_10_14 : 14 < (xCl 10).2.2 ∧ ((xCl 10).2.1 14).2.2.2 = false ∧ xfty 10 14 = some (.array .byte) := by decide +kernel
theorem pf_10_4 : 4 < (xCl 10).2.2 ∧ ((xCl 10).2.1 4).2.2.2 = false ∧ xfty 10 4 = some .int := by decide +kernel
theorem pf_10_5 : 5 < (xCl 10).2.2 ∧ ((xCl 10).2.1 5).2.2.2 = false ∧ xfty 10 5 = some .int := by decide +kernel
theorem pf_11_0 : 0 < (xCl 11).2.2 ∧ ((xCl 11).2.1 0).2.2.2 = false ∧ xfty 11 0 = some .boolean := by decide +kernel
theorem pf_11_1 : 1 < (xCl 11).2.2 ∧ ((xCl 11).2.1 1).2.2.2 = false ∧ xfty 11 1 = some .int := by decide +kernel
theorem pf_11_2 : 2 < (xCl 11).2.2 ∧ ((xCl 11).2.1 2).2.2.2 = false ∧ xfty 11 2 = some .int := by decide +kernel
theorem pf_11_3 : 3 < (xCl 11).2.2 ∧ ((xCl 11).2.1 3).2.2.2 = false ∧ xfty 11 3 = some .int := by decide +kernel
theorem pf_11_4 : 4 < (xCl 11).2.2 ∧ ((xCl 11).2.1 4).2.2.2 = false ∧ xfty 11 4 = some .int := by decide +kernel
theorem pf_11_5 : 5 < (xCl 11).2.2 ∧ ((xCl 11).2.1 5).2.2.2 = false ∧ xfty 11 5 = some .int := by decide +kernel
theorem pf_11_6 : 6 < (xCl 11).2.2 ∧ ((xCl 11).2.1 6).2.2.2 = false ∧ xfty 11 6 = some (.array .int) := by decide +kernel
theorem pf_11_7 : 7 < (xCl 11).2.2 ∧ ((xCl 11).2.1 7).2.2.2 = false ∧ xfty 11 7 = some (.array .int) := by decide +kernel
theorem pf_11_8 : 8 < (xCl 11).2.2 ∧ ((xCl 11).2.1 8).2.2.2 = false ∧ xfty 11 8 = some (.array .byte) := by decide +kernel
theorem pf_11_9 : 9 < (xCl 11).2.2 ∧ ((xCl 11).2.1 9).2.2.2 = false ∧ xfty 11 9 = some .int := by decide +kernel
theorem pf_12_7 : 7 < (xCl 12).2.2 ∧ ((xCl 12).2.1 7).2.2.2 = false ∧ xfty 12 7 = some .int := by decide +kernel
theorem pf_12_8 : 8 < (xCl 12).2.2 ∧ ((xCl 12).2.1 8).2.2.2 = false ∧ xfty 12 8 = some .int := by decide +kernel
theorem pf_13_10 : 10 < (xCl 13).2.2 ∧ ((xCl 13).2.1 10).2.2.2 = false ∧ xfty 13 10 = some .int := by decide +kernel
theorem pf_13_11 : 11 < (xCl 13).2.2 ∧ ((xCl 13).2.1 11).2.2.2 = false ∧ xfty 13 11 = some .int := by decide +kernel
theorem pf_13_12 : 12 < (xCl 13).2.2 ∧ ((xCl 13).2.1 12).2.2.2 = false ∧ xfty 13 12 = some .int := by decide +kernel
theorem pf_13_13 : 13 < (xCl 13).2.2 ∧ ((xCl 13).2.1 13).2.2.2 = false ∧ xfty 13 13 = some .int := by decide +kernel
theorem pf_13_14 : 14 < (xCl 13).2.2 ∧ ((xCl 13).2.1 14).2.2.2 = false ∧ xfty 13 14 = some .int := by decide +kernel
theorem pf_13_15 : 15 < (xCl 13).2.2 ∧ ((xCl 13).2.1 15).2.2.2 = false ∧ xfty 13 15 = some .int := by decide +kernel
theorem pf_13_16 : 16 < (xCl 13).2.2 ∧ ((xCl 13).2.1 16).2.2.2 = false ∧ xfty 13 16 = some .int := by decide +kernel
theorem pf_13_17 : 17 < (xCl 13).2.2 ∧ ((xCl 13).2.1 17).2.2.2 = false ∧ xfty 13 17 = some .int := by decide +kernel
theorem pf_13_18 : 18 < (xCl 13).2.2 ∧ ((xCl 13).2.1 18).2.2.2 = false ∧ xfty 13 18 = some (.array .byte) := by decide +kernel
theorem pf_13_19 : 19 < (xCl 13).2.2 ∧ ((xCl 13).2.1 19).2.2.2 = false ∧ xfty 13 19 = some .int := by decide +kernel
theorem pf_13_8 : 8 < (xCl 13).2.2 ∧ ((xCl 13).2.1 8).2.2.2 = false ∧ xfty 13 8 = some .boolean := by decide +kernel
theorem pf_13_9 : 9 < (xCl 13).2.2 ∧ ((xCl 13).2.1 9).2.2.2 = false ∧ xfty 13 9 = some .boolean := by decide +kernel
theorem pf_14_0 : 0 < (xCl 14).2.2 ∧ ((xCl 14).2.1 0).2.2.2 = false ∧ xfty 14 0 = some .int := by decide +kernel
theorem pf_14_1 : 1 < (xCl 14).2.2 ∧ ((xCl 14).2.1 1).2.2.2 = false ∧ xfty 14 1 = some .int := by decide +kernel
theorem pf_14_2 : 2 < (xCl 14).2.2 ∧ ((xCl 14).2.1 2).2.2.2 = false ∧ xfty 14 2 = some .int := by decide +kernel
theorem pf_14_3 : 3 < (xCl 14).2.2 ∧ ((xCl 14).2.1 3).2.2.2 = false ∧ xfty 14 3 = some .int := by decide +kernel
theorem pf_14_4 : 4 < (xCl 14).2.2 ∧ ((xCl 14).2.1 4).2.2.2 = false ∧ xfty 14 4 = some .int := by decide +kernel
theorem pf_14_9 : 9 < (xCl 14).2.2 ∧ ((xCl 14).2.1 9).2.2.2 = false ∧ xfty 14 9 = some .long := by decide +kernel
theorem pf_4_0 : 0 < (xCl 4).2.2 ∧ ((xCl 4).2.1 0).2.2.2 = false ∧ xfty 4 0 = some .int := by decide +kernel
theorem pf_4_1 : 1 < (xCl 4).2.2 ∧ ((xCl 4).2.1 1).2.2.2 = false ∧ xfty 4 1 = some .int := by decide +kernel
theorem pf_4_2 : 2 < (xCl 4).2.2 ∧ ((xCl 4).2.1 2).2.2.2 = false ∧ xfty 4 2 = some (.array .int) := by decide +kernel
theorem pf_5_10 : 10 < (xCl 5).2.2 ∧ ((xCl 5).2.1 10).2.2.2 = false ∧ xfty 5 10 = some .boolean := by decide +kernel
theorem pf_5_11 : 11 < (xCl 5).2.2 ∧ ((xCl 5).2.1 11).2.2.2 = false ∧ xfty 5 11 = some .boolean := by decide +kernel
theorem pf_5_13 : 13 < (xCl 5).2.2 ∧ ((xCl 5).2.1 13).2.2.2 = false ∧ xfty 5 13 = some .int := by decide +kernel
theorem pf_5_3 : 3 < (xCl 5).2.2 ∧ ((xCl 5).2.1 3).2.2.2 = false ∧ xfty 5 3 = some .boolean := by decide +kernel
theorem pf_5_4 : 4 < (xCl 5).2.2 ∧ ((xCl 5).2.1 4).2.2.2 = false ∧ xfty 5 4 = some .int := by decide +kernel
theorem pf_5_5 : 5 < (xCl 5).2.2 ∧ ((xCl 5).2.1 5).2.2.2 = false ∧ xfty 5 5 = some .int := by decide +kernel
theorem pf_5_6 : 6 < (xCl 5).2.2 ∧ ((xCl 5).2.1 6).2.2.2 = false ∧ xfty 5 6 = some .int := by decide +kernel
theorem pf_5_7 : 7 < (xCl 5).2.2 ∧ ((xCl 5).2.1 7).2.2.2 = false ∧ xfty 5 7 = some .int := by decide +kernel
theorem pf_5_8 : 8 < (xCl 5).2.2 ∧ ((xCl 5).2.1 8).2.2.2 = false ∧ xfty 5 8 = some .int := by decide +kernel
theorem pf_5_9 : 9 < (xCl 5).2.2 ∧ ((xCl 5).2.1 9).2.2.2 = false ∧ xfty 5 9 = some .int := by decide +kernel
theorem pf_6_5 : 5 < (xCl 6).2.2 ∧ ((xCl 6).2.1 5).2.2.2 = false ∧ xfty 6 5 = some .int := by decide +kernel
theorem pf_6_6 : 6 < (xCl 6).2.2 ∧ ((xCl 6).2.1 6).2.2.2 = false ∧ xfty 6 6 = some .int := by decide +kernel
theorem pf_6_7 : 7 < (xCl 6).2.2 ∧ ((xCl 6).2.1 7).2.2.2 = false ∧ xfty 6 7 = some .boolean := by decide +kernel
theorem pf_6_8 : 8 < (xCl 6).2.2 ∧ ((xCl 6).2.1 8).2.2.2 = false ∧ xfty 6 8 = some .int := by decide +kernel
theorem pf_6_9 : 9 < (xCl 6).2.2 ∧ ((xCl 6).2.1 9).2.2.2 = false ∧ xfty 6 9 = some .int := by decide +kernel
theorem pf_7_10 : 10 < (xCl 7).2.2 ∧ ((xCl 7).2.1 10).2.2.2 = false ∧ xfty 7 10 = some .int := by decide +kernel
theorem pf_7_11 : 11 < (xCl 7).2.2 ∧ ((xCl 7).2.1 11).2.2.2 = false ∧ xfty 7 11 = some .int := by decide +kernel
theorem pf_7_8 : 8 < (xCl 7).2.2 ∧ ((xCl 7).2.1 8).2.2.2 = false ∧ xfty 7 8 = some .int := by decide +kernel
theorem pf_7_9 : 9 < (xCl 7).2.2 ∧ ((xCl 7).2.1 9).2.2.2 = false ∧ xfty 7 9 = some .int := by decide +kernel
theorem pf_8_0 : 0 < (xCl 8).2.2 ∧ ((xCl 8).2.1 0).2.2.2 = false ∧ xfty 8 0 = some .int := by decide +kernel
theorem pf_8_1 : 1 < (xCl 8).2.2 ∧ ((xCl 8).2.1 1).2.2.2 = false ∧ xfty 8 1 = some .int := by decide +kernel
theorem pf_8_10 : 10 < (xCl 8).2.2 ∧ ((xCl 8).2.1 10).2.2.2 = false ∧ xfty 8 10 = some .int := by decide +kernel
theorem pf_8_11 : 11 < (xCl 8).2.2 ∧ ((xCl 8).2.1 11).2.2.2 = false ∧ xfty 8 11 = some .int := by decide +kernel
theorem pf_8_12 : 12 < (xCl 8).2.2 ∧ ((xCl 8).2.1 12).2.2.2 = false ∧ xfty 8 12 = some .int := by decide +kernel
theorem pf_8_13 : 13 < (xCl 8).2.2 ∧ ((xCl 8).2.1 13).2.2.2 = false ∧ xfty 8 13 = some .int := by decide +kernel
theorem pf_8_14 : 14 < (xCl 8).2.2 ∧ ((xCl 8).2.1 14).2.2.2 = false ∧ xfty 8 14 = some .int := by decide +kernel
theorem pf_8_15 : 15 < (xCl 8).2.2 ∧ ((xCl 8).2.1 15).2.2.2 = false ∧ xfty 8 15 = some .int := by decide +kernel
theorem pf_8_16 : 16 < (xCl 8).2.2 ∧ ((xCl 8).2.1 16).2.2.2 = false ∧ xfty 8 16 = some .int := by decide +kernel
theorem pf_8_17 : 17 < (xCl 8).2.2 ∧ ((xCl 8).2.1 17).2.2.2 = false ∧ xfty 8 17 = some .int := by decide +kernel
theorem pf_8_2 : 2 < (xCl 8).2.2 ∧ ((xCl 8).2.1 2).2.2.2 = false ∧ xfty 8 2 = some .int := by decide +kernel
theorem pf_8_3 : 3 < (xCl 8).2.2 ∧ ((xCl 8).2.1 3).2.2.2 = false ∧ xfty 8 3 = some .int := by decide +kernel
theorem pf_8_4 : 4 < (xCl 8).2.2 ∧ ((xCl 8).2.1 4).2.2.2 = false ∧ xfty 8 4 = some .int := by decide +kernel
theorem pf_8_5 : 5 < (xCl 8).2.2 ∧ ((xCl 8).2.1 5).2.2.2 = false ∧ xfty 8 5 = some .int := by decide +kernel
theorem pf_8_6 : 6 < (xCl 8).2.2 ∧ ((xCl 8).2.1 6).2.2.2 = false ∧ xfty 8 6 = some .int := by decide +kernel
theorem pf_8_7 : 7 < (xCl 8).2.2 ∧ ((xCl 8).2.1 7).2.2.2 = false ∧ xfty 8 7 = some .int := by decide +kernel
theorem pf_8_8 : 8 < (xCl 8).2.2 ∧ ((xCl 8).2.1 8).2.2.2 = false ∧ xfty 8 8 = some .int := by decide +kernel
theorem pf_8_9 : 9 < (xCl 8).2.2 ∧ ((xCl 8).2.1 9).2.2.2 = false ∧ xfty 8 9 = some .int := by decide +kernel
theorem pf_9_10 : 10 < (xCl 9).2.2 ∧ ((xCl 9).2.1 10).2.2.2 = false ∧ xfty 9 10 = some .int := by decide +kernel
theorem pf_9_11 : 11 < (xCl 9).2.2 ∧ ((xCl 9).2.1 11).2.2.2 = false ∧ xfty 9 11 = some .int := by decide +kernel
theorem pf_9_3 : 3 < (xCl 9).2.2 ∧ ((xCl 9).2.1 3).2.2.2 = false ∧ xfty 9 3 = some .int := by decide +kernel
theorem pf_9_4 : 4 < (xCl 9).2.2 ∧ ((xCl 9).2.1 4).2.2.2 = false ∧ xfty 9 4 = some .int := by decide +kernel
theorem pf_9_5 : 5 < (xCl 9).2.2 ∧ ((xCl 9).2.1 5).2.2.2 = false ∧ xfty 9 5 = some .int := by decide +kernel
theorem pf_9_6 : 6 < (xCl 9).2.2 ∧ ((xCl 9).2.1 6).2.2.2 = false ∧ xfty 9 6 = some .int := by decide +kernel
theorem pf_9_7 : 7 < (xCl 9).2.2 ∧ ((xCl 9).2.1 7).2.2.2 = false ∧ xfty 9 7 = some .int := by decide +kernel
theorem pf_9_8 : 8 < (xCl 9).2.2 ∧ ((xCl 9).2.1 8).2.2.2 = false ∧ xfty 9 8 = some .int := by decide +kernel
theorem pf_9_9 : 9 < (xCl 9).2.2 ∧ ((xCl 9).2.1 9).2.2.2 = false ∧ xfty 9 9 = some .int := by decide +kernel
theorem yc_10_68 : xmR 10 68 = none ∧ xCp.contains (10, 68) = true := by decide +kernel
theorem yc_11_49 : xmR 11 49 = none ∧ xCp.contains (11, 49) = true := by decide +kernel
theorem yc_13_410 : xmR 13 410 = none ∧ xCp.contains (13, 410) = true := by decide +kernel
theorem yc_5_142 : xmR 5 142 = none ∧ xCp.contains (5, 142) = true := by decide +kernel
theorem yc_6_63 : xmR 6 63 = none ∧ xCp.contains (6, 63) = true := by decide +kernel
theorem yc_8_68 : xmR 8 68 = none ∧ xCp.contains (8, 68) = true := by decide +kernel
theorem yc_9_61 : xmR 9 61 = none ∧ xCp.contains (9, 61) = true := by decide +kernel
theorem kk_15 : kkA 15 = kT15 := rfl
theorem mo_15 : moA 15 = 4 := rfl
theorem ni_15 : decide ((xMn 15).name = "<init>") = false := by decide +kernel
set_option maxRecDepth 100000 in
theorem xm_15 : xM 15 = some (cX0_add, 6, (some FieldType.int), 4) := rfl
theorem kk_18 : kkA 18 = kT18 := rfl
theorem mo_18 : moA 18 = 4 := rfl
theorem ni_18 : decide ((xMn 18).name = "<init>") = false := by decide +kernel
set_option maxRecDepth 100000 in
theorem xm_18 : xM 18 = some (cX0_setTold, 5, none, 3) := rfl
theorem kk_19 : kkA 19 = kT19 := rfl
theorem mo_19 : moA 19 = 4 := rfl
theorem ni_19 : decide ((xMn 19).name = "<init>") = false := by decide +kernel
set_option maxRecDepth 100000 in
theorem xm_19 : xM 19 = some (cX0_tell, 3, (some FieldType.int), 2) := rfl
theorem kk_194 : kkA 194 = kT194 := rfl
theorem mo_194 : moA 194 = 14 := rfl
theorem ni_194 : decide ((xMn 194).name = "<init>") = false := by decide +kernel
set_option maxRecDepth 100000 in
theorem xm_194 : xM 194 = some (cX10_hush, 2, none, 1) := rfl
theorem kk_20 : kkA 20 = kT20 := rfl
theorem mo_20 : moA 20 = 5 := rfl
theorem ni_20 : decide ((xMn 20).name = "<init>") = false := by decide +kernel
set_option maxRecDepth 100000 in
theorem xm_20 : xM 20 = some (cX1_beTold, 3, none, 2) := rfl
theorem kk_27 : kkA 27 = kT27 := rfl
theorem mo_27 : moA 27 = 5 := rfl
theorem ni_27 : decide ((xMn 27).name = "<init>") = false := by decide +kernel
set_option maxRecDepth 100000 in
theorem xm_27 : xM 27 = some (cX1_isCommand, 1, (some FieldType.boolean), 0) := rfl
theorem kk_22 : kkA 22 = kT22 := rfl
theorem mo_22 : moA 22 = 5 := rfl
theorem ni_22 : decide ((xMn 22).name = "<init>") = false := by decide +kernel
set_option maxRecDepth 100000 in
theorem xm_22 : xM 22 = some (cX1_giveIn, 1, none, 0) := rfl
theorem kk_185 : kkA 185 = kT185 := rfl
theorem mo_185 : moA 185 = 14 := rfl
theorem ni_185 : decide ((xMn 185).name = "<init>") = false := by decide +kernel
set_option maxRecDepth 100000 in
theorem xm_185 : xM 185 = some (cX10_blank, 1, (some (FieldType.object "AgreedStore$Letter")), 0) := rfl
theorem kk_184 : kkA 184 = kT184 := rfl
theorem mo_184 : moA 184 = 14 := rfl
theorem ni_184 : decide ((xMn 184).name = "<init>") = false := by decide +kernel
set_option maxRecDepth 100000 in
theorem xm_184 : xM 184 = some (cX10_areParted, 3, (some FieldType.boolean), 2) := rfl
theorem kk_198 : kkA 198 = kT198 := rfl
theorem mo_198 : moA 198 = 14 := rfl
theorem ni_198 : decide ((xMn 198).name = "<init>") = false := by decide +kernel
set_option maxRecDepth 100000 in
theorem xm_198 : xM 198 = some (cX10_lose, 2, none, 1) := rfl
theorem kk_197 : kkA 197 = kT197 := rfl
theorem mo_197 : moA 197 = 14 := rfl
theorem ni_197 : decide ((xMn 197).name = "<init>") = false := by decide +kernel
set_option maxRecDepth 100000 in
theorem xm_197 : xM 197 = some (cX10_launch, 4, none, 2) := rfl
theorem kk_189 : kkA 189 = kT189 := rfl
theorem mo_189 : moA 189 = 14 := rfl
theorem ni_189 : decide ((xMn 189).name = "<init>") = false := by decide +kernel
set_option maxRecDepth 100000 in
theorem xm_189 : xM 189 = some (cX10_drawn, 2, (some FieldType.int), 1) := rfl
theorem kk_59 : kkA 59 = kT59 := rfl
theorem mo_59 : moA 59 = 8 := rfl
theorem ni_59 : decide ((xMn 59).name = "<init>") = false := by decide +kernel
set_option maxRecDepth 100000 in
theorem xm_59 : xM 59 = some (cX4_copyFrom, 2, none, 1) := rfl
theorem kk_199 : kkA 199 = kT199 := rfl
theorem mo_199 : moA 199 = 14 := rfl
theorem ni_199 : decide ((xMn 199).name = "<init>") = false := by decide +kernel
set_option maxRecDepth 100000 in
theorem xm_199 : xM 199 = some (cX10_post, 5, none, 1) := rfl
theorem kk_200 : kkA 200 = kT200 := rfl
theorem mo_200 : moA 200 = 14 := rfl
theorem ni_200 : decide ((xMn 200).name = "<init>") = false := by decide +kernel
set_option maxRecDepth 100000 in
theorem xm_200 : xM 200 = some (cX10_setBell, 3, none, 2) := rfl
theorem kk_29 : kkA 29 = kT29 := rfl
theorem mo_29 : moA 29 = 5 := rfl
theorem ni_29 : decide ((xMn 29).name = "<init>") = false := by decide +kernel
set_option maxRecDepth 100000 in
theorem xm_29 : xM 29 = some (cX1_setAlarm, 3, none, 2) := rfl
theorem kk_28 : kkA 28 = kT28 := rfl
theorem mo_28 : moA 28 = 5 := rfl
theorem ni_28 : decide ((xMn 28).name = "<init>") = false := by decide +kernel
set_option maxRecDepth 100000 in
theorem xm_28 : xM 28 = some (cX1_sendRequest, 2, none, 0) := rfl
theorem kk_21 : kkA 21 = kT21 := rfl
theorem mo_21 : moA 21 = 5 := rfl
theorem ni_21 : decide ((xMn 21).name = "<init>") = false := by decide +kernel
set_option maxRecDepth 100000 in
theorem xm_21 : xM 21 = some (cX1_begin, 2, none, 1) := rfl
theorem kk_30 : kkA 30 = kT30 := rfl
theorem mo_30 : moA 30 = 5 := rfl
theorem ni_30 : decide ((xMn 30).name = "<init>") = false := by decide +kernel
set_option maxRecDepth 100000 in
theorem xm_30 : xM 30 = some (cX1_turnToNext, 1, none, 0) := rfl
theorem kk_25 : kkA 25 = kT25 := rfl
theorem mo_25 : moA 25 = 5 := rfl
theorem ni_25 : decide ((xMn 25).name = "<init>") = false := by decide +kernel
set_option maxRecDepth 100000 in
theorem xm_25 : xM 25 = some (cX1_hearElsewhere, 2, none, 1) := rfl
theorem kk_24 : kkA 24 = kT24 := rfl
theorem mo_24 : moA 24 = 5 := rfl
theorem ni_24 : decide ((xMn 24).name = "<init>") = false := by decide +kernel
set_option maxRecDepth 100000 in
theorem xm_24 : xM 24 = some (cX1_hearDone, 2, none, 1) := rfl
theorem kk_23 : kkA 23 = kT23 := rfl
theorem mo_23 : moA 23 = 5 := rfl
theorem ni_23 : decide ((xMn 23).name = "<init>") = false := by decide +kernel
set_option maxRecDepth 100000 in
theorem xm_23 : xM 23 = some (cX1_hear, 2, none, 1) := rfl
theorem kk_31 : kkA 31 = kT31 := rfl
theorem mo_31 : moA 31 = 5 := rfl
theorem ni_31 : decide ((xMn 31).name = "<init>") = false := by decide +kernel
set_option maxRecDepth 100000 in
theorem xm_31 : xM 31 = some (cX1_wake, 1, none, 0) := rfl
theorem kk_112 : kkA 112 = kT112 := rfl
theorem mo_112 : moA 112 = 11 := rfl
theorem ni_112 : decide ((xMn 112).name = "<init>") = false := by decide +kernel
set_option maxRecDepth 100000 in
theorem xm_112 : xM 112 = some (cX7_remove, 1, none, 0) := rfl
theorem kk_45 : kkA 45 = kT45 := rfl
theorem mo_45 : moA 45 = 6 := rfl
theorem ni_45 : decide ((xMn 45).name = "<init>") = false := by decide +kernel
set_option maxRecDepth 100000 in
theorem xm_45 : xM 45 = some (cX2_remove, 2, none, 1) := rfl
theorem kk_33 : kkA 33 = kT33 := rfl
theorem mo_33 : moA 33 = 6 := rfl
theorem ni_33 : decide ((xMn 33).name = "<init>") = false := by decide +kernel
set_option maxRecDepth 100000 in
theorem xm_33 : xM 33 = some (cX2_baseMoved, 7, none, 2) := rfl
theorem kk_107 : kkA 107 = kT107 := rfl
theorem mo_107 : moA 107 = 11 := rfl
theorem ni_107 : decide ((xMn 107).name = "<init>") = false := by decide +kernel
set_option maxRecDepth 100000 in
theorem xm_107 : xM 107 = some (cX7_frameStart, 2, (some FieldType.int), 1) := rfl
theorem kk_106 : kkA 106 = kT106 := rfl
theorem mo_106 : moA 106 = 11 := rfl
theorem ni_106 : decide ((xMn 106).name = "<init>") = false := by decide +kernel
set_option maxRecDepth 100000 in
theorem xm_106 : xM 106 = some (cX7_cutTo, 2, none, 1) := rfl
theorem kk_35 : kkA 35 = kT35 := rfl
theorem mo_35 : moA 35 = 6 := rfl
theorem ni_35 : decide ((xMn 35).name = "<init>") = false := by decide +kernel
set_option maxRecDepth 100000 in
theorem xm_35 : xM 35 = some (cX2_cutTo, 3, none, 2) := rfl
theorem kk_34 : kkA 34 = kT34 := rfl
theorem mo_34 : moA 34 = 6 := rfl
theorem ni_34 : decide ((xMn 34).name = "<init>") = false := by decide +kernel
set_option maxRecDepth 100000 in
theorem xm_34 : xM 34 = some (cX2_cutFrom, 3, none, 1) := rfl
theorem kk_110 : kkA 110 = kT110 := rfl
theorem mo_110 : moA 110 = 11 := rfl
theorem ni_110 : decide ((xMn 110).name = "<init>") = false := by decide +kernel
set_option maxRecDepth 100000 in
theorem xm_110 : xM 110 = some (cX7_makeRoom, 3, none, 1) := rfl
theorem kk_113 : kkA 113 = kT113 := rfl
theorem mo_113 : moA 113 = 11 := rfl
theorem ni_113 : decide ((xMn 113).name = "<init>") = false := by decide +kernel
set_option maxRecDepth 100000 in
theorem xm_113 : xM 113 = some (cX7_takeOver, 4, none, 2) := rfl
theorem kk_49 : kkA 49 = kT49 := rfl
theorem mo_49 : moA 49 = 6 := rfl
theorem ni_49 : decide ((xMn 49).name = "<init>") = false := by decide +kernel
set_option maxRecDepth 100000 in
theorem xm_49 : xM 49 = some (cX2_syncFile, 2, none, 1) := rfl
theorem kk_36 : kkA 36 = kT36 := rfl
theorem mo_36 : moA 36 = 6 := rfl
theorem ni_36 : decide ((xMn 36).name = "<init>") = false := by decide +kernel
set_option maxRecDepth 100000 in
theorem xm_36 : xM 36 = some (cX2_fall, 7, none, 1) := rfl
theorem kk_43 : kkA 43 = kT43 := rfl
theorem mo_43 : moA 43 = 6 := rfl
theorem ni_43 : decide ((xMn 43).name = "<init>") = false := by decide +kernel
set_option maxRecDepth 100000 in
theorem xm_43 : xM 43 = some (cX2_later, 6, (some FieldType.int), 3) := rfl
theorem kk_42 : kkA 42 = kT42 := rfl
theorem mo_42 : moA 42 = 6 := rfl
theorem ni_42 : decide ((xMn 42).name = "<init>") = false := by decide +kernel
set_option maxRecDepth 100000 in
theorem xm_42 : xM 42 = some (cX2_isSegment, 2, (some FieldType.boolean), 1) := rfl
theorem kk_39 : kkA 39 = kT39 := rfl
theorem mo_39 : moA 39 = 6 := rfl
theorem ni_39 : decide ((xMn 39).name = "<init>") = false := by decide +kernel
set_option maxRecDepth 100000 in
theorem xm_39 : xM 39 = some (cX2_firstSegment, 4, (some FieldType.int), 1) := rfl
theorem kk_51 : kkA 51 = kT51 := rfl
theorem mo_51 : moA 51 = 6 := rfl
theorem ni_51 : decide ((xMn 51).name = "<init>") = false := by decide +kernel
set_option maxRecDepth 100000 in
theorem xm_51 : xM 51 = some (cX2_tellsTerm, 4, (some FieldType.boolean), 3) := rfl
theorem kk_109 : kkA 109 = kT109 := rfl
theorem mo_109 : moA 109 = 11 := rfl
theorem ni_109 : decide ((xMn 109).name = "<init>") = false := by decide +kernel
set_option maxRecDepth 100000 in
theorem xm_109 : xM 109 = some (cX7_lastTerm, 1, (some FieldType.int), 0) := rfl
theorem kk_46 : kkA 46 = kT46 := rfl
theorem mo_46 : moA 46 = 6 := rfl
theorem ni_46 : decide ((xMn 46).name = "<init>") = false := by decide +kernel
set_option maxRecDepth 100000 in
theorem xm_46 : xM 46 = some (cX2_segmentAt, 4, (some FieldType.int), 2) := rfl
theorem kk_38 : kkA 38 = kT38 := rfl
theorem mo_38 : moA 38 = 6 := rfl
theorem ni_38 : decide ((xMn 38).name = "<init>") = false := by decide +kernel
set_option maxRecDepth 100000 in
theorem xm_38 : xM 38 = some (cX2_findChain, 5, none, 0) := rfl
theorem kk_41 : kkA 41 = kT41 := rfl
theorem mo_41 : moA 41 = 6 := rfl
theorem ni_41 : decide ((xMn 41).name = "<init>") = false := by decide +kernel
set_option maxRecDepth 100000 in
theorem xm_41 : xM 41 = some (cX2_isChained, 3, (some FieldType.boolean), 1) := rfl
theorem kk_37 : kkA 37 = kT37 := rfl
theorem mo_37 : moA 37 = 6 := rfl
theorem ni_37 : decide ((xMn 37).name = "<init>") = false := by decide +kernel
set_option maxRecDepth 100000 in
theorem xm_37 : xM 37 = some (cX2_find, 2, none, 0) := rfl
theorem kk_114 : kkA 114 = kT114 := rfl
theorem mo_114 : moA 114 = 11 := rfl
theorem ni_114 : decide ((xMn 114).name = "<init>") = false := by decide +kernel
set_option maxRecDepth 100000 in
theorem xm_114 : xM 114 = some (cX7_write, 5, none, 4) := rfl
theorem kk_44 : kkA 44 = kT44 := rfl
theorem mo_44 : moA 44 = 6 := rfl
theorem ni_44 : decide ((xMn 44).name = "<init>") = false := by decide +kernel
set_option maxRecDepth 100000 in
theorem xm_44 : xM 44 = some (cX2_openSegment, 4, none, 2) := rfl
theorem kk_47 : kkA 47 = kT47 := rfl
theorem mo_47 : moA 47 = 6 := rfl
theorem ni_47 : decide ((xMn 47).name = "<init>") = false := by decide +kernel
set_option maxRecDepth 100000 in
theorem xm_47 : xM 47 = some (cX2_snapshotSize, 1, (some FieldType.int), 0) := rfl
theorem kk_48 : kkA 48 = kT48 := rfl
theorem mo_48 : moA 48 = 6 := rfl
theorem ni_48 : decide ((xMn 48).name = "<init>") = false := by decide +kernel
set_option maxRecDepth 100000 in
theorem xm_48 : xM 48 = some (cX2_syncAll, 2, none, 0) := rfl
theorem kk_50 : kkA 50 = kT50 := rfl
theorem mo_50 : moA 50 = 6 := rfl
theorem ni_50 : decide ((xMn 50).name = "<init>") = false := by decide +kernel
set_option maxRecDepth 100000 in
theorem xm_50 : xM 50 = some (cX2_tell, 3, (some FieldType.int), 2) := rfl
theorem kk_52 : kkA 52 = kT52 := rfl
theorem mo_52 : moA 52 = 6 := rfl
theorem ni_52 : decide ((xMn 52).name = "<init>") = false := by decide +kernel
set_option maxRecDepth 100000 in
theorem xm_52 : xM 52 = some (cX2_writeSlot, 3, none, 2) := rfl
theorem kk_54 : kkA 54 = kT54 := rfl
theorem mo_54 : moA 54 = 7 := rfl
theorem ni_54 : decide ((xMn 54).name = "<init>") = false := by decide +kernel
set_option maxRecDepth 100000 in
theorem xm_54 : xM 54 = some (cX3_begin, 4, none, 2) := rfl
theorem kk_63 : kkA 63 = kT63 := rfl
theorem mo_63 : moA 63 = 9 := rfl
theorem ni_63 : decide ((xMn 63).name = "<init>") = false := by decide +kernel
set_option maxRecDepth 100000 in
theorem xm_63 : xM 63 = some (cX5_at, 2, (some FieldType.int), 1) := rfl
theorem kk_70 : kkA 70 = kT70 := rfl
theorem mo_70 : moA 70 = 9 := rfl
theorem ni_70 : decide ((xMn 70).name = "<init>") = false := by decide +kernel
set_option maxRecDepth 100000 in
theorem xm_70 : xM 70 = some (cX5_membersBehind, 3, (some FieldType.int), 1) := rfl
theorem kk_66 : kkA 66 = kT66 := rfl
theorem mo_66 : moA 66 = 9 := rfl
theorem ni_66 : decide ((xMn 66).name = "<init>") = false := by decide +kernel
set_option maxRecDepth 100000 in
theorem xm_66 : xM 66 = some (cX5_findMembers, 1, none, 0) := rfl
theorem kk_64 : kkA 64 = kT64 := rfl
theorem mo_64 : moA 64 = 9 := rfl
theorem ni_64 : decide ((xMn 64).name = "<init>") = false := by decide +kernel
set_option maxRecDepth 100000 in
theorem xm_64 : xM 64 = some (cX5_clear, 1, none, 0) := rfl
theorem kk_65 : kkA 65 = kT65 := rfl
theorem mo_65 : moA 65 = 9 := rfl
theorem ni_65 : decide ((xMn 65).name = "<init>") = false := by decide +kernel
set_option maxRecDepth 100000 in
theorem xm_65 : xM 65 = some (cX5_cutFrom, 2, none, 1) := rfl
theorem kk_67 : kkA 67 = kT67 := rfl
theorem mo_67 : moA 67 = 9 := rfl
theorem ni_67 : decide ((xMn 67).name = "<init>") = false := by decide +kernel
set_option maxRecDepth 100000 in
theorem xm_67 : xM 67 = some (cX5_has, 2, (some FieldType.boolean), 1) := rfl
theorem kk_69 : kkA 69 = kT69 := rfl
theorem mo_69 : moA 69 = 9 := rfl
theorem ni_69 : decide ((xMn 69).name = "<init>") = false := by decide +kernel
set_option maxRecDepth 100000 in
theorem xm_69 : xM 69 = some (cX5_length, 1, (some FieldType.int), 0) := rfl
theorem kk_71 : kkA 71 = kT71 := rfl
theorem mo_71 : moA 71 = 9 := rfl
theorem ni_71 : decide ((xMn 71).name = "<init>") = false := by decide +kernel
set_option maxRecDepth 100000 in
theorem xm_71 : xM 71 = some (cX5_membersUpTo, 3, (some FieldType.int), 1) := rfl
theorem kk_75 : kkA 75 = kT75 := rfl
theorem mo_75 : moA 75 = 9 := rfl
theorem ni_75 : decide ((xMn 75).name = "<init>") = false := by decide +kernel
set_option maxRecDepth 100000 in
theorem xm_75 : xM 75 = some (cX5_termAt, 2, (some FieldType.int), 1) := rfl
theorem kk_72 : kkA 72 = kT72 := rfl
theorem mo_72 : moA 72 = 9 := rfl
theorem ni_72 : decide ((xMn 72).name = "<init>") = false := by decide +kernel
set_option maxRecDepth 100000 in
theorem xm_72 : xM 72 = some (cX5_moveBase, 5, none, 3) := rfl
theorem kk_73 : kkA 73 = kT73 := rfl
theorem mo_73 : moA 73 = 9 := rfl
theorem ni_73 : decide ((xMn 73).name = "<init>") = false := by decide +kernel
set_option maxRecDepth 100000 in
theorem xm_73 : xM 73 = some (cX5_rowOf, 7, (some (FieldType.array FieldType.int)), 6) := rfl
theorem kk_74 : kkA 74 = kT74 := rfl
theorem mo_74 : moA 74 = 9 := rfl
theorem ni_74 : decide ((xMn 74).name = "<init>") = false := by decide +kernel
set_option maxRecDepth 100000 in
theorem xm_74 : xM 74 = some (cX5_runStart, 4, (some FieldType.int), 1) := rfl
theorem kk_77 : kkA 77 = kT77 := rfl
theorem mo_77 : moA 77 = 10 := rfl
theorem ni_77 : decide ((xMn 77).name = "<init>") = false := by decide +kernel
set_option maxRecDepth 100000 in
theorem xm_77 : xM 77 = some (cX6_clear, 1, none, 0) := rfl
theorem kk_78 : kkA 78 = kT78 := rfl
theorem mo_78 : moA 78 = 10 := rfl
theorem ni_78 : decide ((xMn 78).name = "<init>") = false := by decide +kernel
set_option maxRecDepth 100000 in
theorem xm_78 : xM 78 = some (cX6_compare, 7, (some FieldType.int), 3) := rfl
theorem kk_81 : kkA 81 = kT81 := rfl
theorem mo_81 : moA 81 = 10 := rfl
theorem ni_81 : decide ((xMn 81).name = "<init>") = false := by decide +kernel
set_option maxRecDepth 100000 in
theorem xm_81 : xM 81 = some (cX6_dropOldestSession, 4, none, 0) := rfl
theorem kk_82 : kkA 82 = kT82 := rfl
theorem mo_82 : moA 82 = 10 := rfl
theorem ni_82 : decide ((xMn 82).name = "<init>") = false := by decide +kernel
set_option maxRecDepth 100000 in
theorem xm_82 : xM 82 = some (cX6_findSession, 3, (some FieldType.int), 1) := rfl
theorem kk_83 : kkA 83 = kT83 := rfl
theorem mo_83 : moA 83 = 10 := rfl
theorem ni_83 : decide ((xMn 83).name = "<init>") = false := by decide +kernel
set_option maxRecDepth 100000 in
theorem xm_83 : xM 83 = some (cX6_hasValue, 6, (some FieldType.boolean), 3) := rfl
theorem kk_104 : kkA 104 = kT104 := rfl
theorem mo_104 : moA 104 = 10 := rfl
theorem ni_104 : decide ((xMn 104).name = "<init>") = false := by decide +kernel
set_option maxRecDepth 100000 in
theorem xm_104 : xM 104 = some (cX6_unitsOf, 3, (some FieldType.int), 1) := rfl
theorem kk_85 : kkA 85 = kT85 := rfl
theorem mo_85 : moA 85 = 10 := rfl
theorem ni_85 : decide ((xMn 85).name = "<init>") = false := by decide +kernel
set_option maxRecDepth 100000 in
theorem xm_85 : xM 85 = some (cX6_insertKey, 5, none, 3) := rfl
theorem kk_86 : kkA 86 = kT86 := rfl
theorem mo_86 : moA 86 = 10 := rfl
theorem ni_86 : decide ((xMn 86).name = "<init>") = false := by decide +kernel
set_option maxRecDepth 100000 in
theorem xm_86 : xM 86 = some (cX6_isKey, 4, (some FieldType.boolean), 3) := rfl
theorem kk_90 : kkA 90 = kT90 := rfl
theorem mo_90 : moA 90 = 10 := rfl
theorem ni_90 : decide ((xMn 90).name = "<init>") = false := by decide +kernel
set_option maxRecDepth 100000 in
theorem xm_90 : xM 90 = some (cX6_lowerBound, 6, (some FieldType.int), 2) := rfl
theorem kk_100 : kkA 100 = kT100 := rfl
theorem mo_100 : moA 100 = 10 := rfl
theorem ni_100 : decide ((xMn 100).name = "<init>") = false := by decide +kernel
set_option maxRecDepth 100000 in
theorem xm_100 : xM 100 = some (cX6_say, 4, none, 2) := rfl
theorem kk_101 : kkA 101 = kT101 := rfl
theorem mo_101 : moA 101 = 10 := rfl
theorem ni_101 : decide ((xMn 101).name = "<init>") = false := by decide +kernel
set_option maxRecDepth 100000 in
theorem xm_101 : xM 101 = some (cX6_sayNext, 3, none, 1) := rfl
theorem kk_89 : kkA 89 = kT89 := rfl
theorem mo_89 : moA 89 = 10 := rfl
theorem ni_89 : decide ((xMn 89).name = "<init>") = false := by decide +kernel
set_option maxRecDepth 100000 in
theorem xm_89 : xM 89 = some (cX6_look, 8, none, 1) := rfl
theorem kk_91 : kkA 91 = kT91 := rfl
theorem mo_91 : moA 91 = 10 := rfl
theorem ni_91 : decide ((xMn 91).name = "<init>") = false := by decide +kernel
set_option maxRecDepth 100000 in
theorem xm_91 : xM 91 = some (cX6_mayStore, 5, (some FieldType.boolean), 3) := rfl
theorem kk_93 : kkA 93 = kT93 := rfl
theorem mo_93 : moA 93 = 10 := rfl
theorem ni_93 : decide ((xMn 93).name = "<init>") = false := by decide +kernel
set_option maxRecDepth 100000 in
theorem xm_93 : xM 93 = some (cX6_openSession, 3, none, 1) := rfl
theorem kk_96 : kkA 96 = kT96 := rfl
theorem mo_96 : moA 96 = 10 := rfl
theorem ni_96 : decide ((xMn 96).name = "<init>") = false := by decide +kernel
set_option maxRecDepth 100000 in
theorem xm_96 : xM 96 = some (cX6_removeKey, 5, none, 2) := rfl
theorem kk_102 : kkA 102 = kT102 := rfl
theorem mo_102 : moA 102 = 10 := rfl
theorem ni_102 : decide ((xMn 102).name = "<init>") = false := by decide +kernel
set_option maxRecDepth 100000 in
theorem xm_102 : xM 102 = some (cX6_storeValue, 5, none, 3) := rfl
theorem kk_103 : kkA 103 = kT103 := rfl
theorem mo_103 : moA 103 = 10 := rfl
theorem ni_103 : decide ((xMn 103).name = "<init>") = false := by decide +kernel
set_option maxRecDepth 100000 in
theorem xm_103 : xM 103 = some (cX6_swapKey, 6, none, 4) := rfl
theorem kk_95 : kkA 95 = kT95 := rfl
theorem mo_95 : moA 95 = 10 := rfl
theorem ni_95 : decide ((xMn 95).name = "<init>") = false := by decide +kernel
set_option maxRecDepth 100000 in
theorem xm_95 : xM 95 = some (cX6_putKey, 6, none, 3) := rfl
theorem kk_94 : kkA 94 = kT94 := rfl
theorem mo_94 : moA 94 = 10 := rfl
theorem ni_94 : decide ((xMn 94).name = "<init>") = false := by decide +kernel
set_option maxRecDepth 100000 in
theorem xm_94 : xM 94 = some (cX6_operate, 9, none, 3) := rfl
theorem kk_99 : kkA 99 = kT99 := rfl
theorem mo_99 : moA 99 = 10 := rfl
theorem ni_99 : decide ((xMn 99).name = "<init>") = false := by decide +kernel
set_option maxRecDepth 100000 in
theorem xm_99 : xM 99 = some (cX6_savedSize, 3, (some FieldType.int), 0) := rfl
theorem kk_98 : kkA 98 = kT98 := rfl
theorem mo_98 : moA 98 = 10 := rfl
theorem ni_98 : decide ((xMn 98).name = "<init>") = false := by decide +kernel
set_option maxRecDepth 100000 in
theorem xm_98 : xM 98 = some (cX6_saveNumber, 4, (some FieldType.int), 2) := rfl
theorem kk_97 : kkA 97 = kT97 := rfl
theorem mo_97 : moA 97 = 10 := rfl
theorem ni_97 : decide ((xMn 97).name = "<init>") = false := by decide +kernel
set_option maxRecDepth 100000 in
theorem xm_97 : xM 97 = some (cX6_save, 6, (some FieldType.int), 0) := rfl
theorem kk_111 : kkA 111 = kT111 := rfl
theorem mo_111 : moA 111 = 11 := rfl
theorem ni_111 : decide ((xMn 111).name = "<init>") = false := by decide +kernel
set_option maxRecDepth 100000 in
theorem xm_111 : xM 111 = some (cX7_makeRoomForBytes, 2, none, 1) := rfl
theorem kk_119 : kkA 119 = kT119 := rfl
theorem mo_119 : moA 119 = 12 := rfl
theorem ni_119 : decide ((xMn 119).name = "<init>") = false := by decide +kernel
set_option maxRecDepth 100000 in
theorem xm_119 : xM 119 = some (cX8_slotOf, 1, (some FieldType.int), 1) := rfl
theorem kk_115 : kkA 115 = kT115 := rfl
theorem mo_115 : moA 115 = 12 := rfl
theorem ni_115 : decide ((xMn 115).name = "<init>") = false := by decide +kernel
set_option maxRecDepth 100000 in
theorem xm_115 : xM 115 = some (cX8_begin, 6, none, 4) := rfl
theorem kk_116 : kkA 116 = kT116 := rfl
theorem mo_116 : moA 116 = 12 := rfl
theorem ni_116 : decide ((xMn 116).name = "<init>") = false := by decide +kernel
set_option maxRecDepth 100000 in
theorem xm_116 : xM 116 = some (cX8_drop, 2, none, 1) := rfl
theorem kk_117 : kkA 117 = kT117 := rfl
theorem mo_117 : moA 117 = 12 := rfl
theorem ni_117 : decide ((xMn 117).name = "<init>") = false := by decide +kernel
set_option maxRecDepth 100000 in
theorem xm_117 : xM 117 = some (cX8_dropAll, 2, none, 0) := rfl
theorem kk_120 : kkA 120 = kT120 := rfl
theorem mo_120 : moA 120 = 12 := rfl
theorem ni_120 : decide ((xMn 120).name = "<init>") = false := by decide +kernel
set_option maxRecDepth 100000 in
theorem xm_120 : xM 120 = some (cX8_waitsFor, 3, (some FieldType.int), 1) := rfl
theorem kk_398 : kkA 398 = kT398 := rfl
theorem mo_398 : moA 398 = 20 := rfl
theorem ni_398 : decide ((xMn 398).name = "<init>") = false := by decide +kernel
set_option maxRecDepth 100000 in
theorem xm_398 : xM 398 = some (cJ6_bitCount_0f7a4, 1, (some FieldType.int), 1) := rfl
theorem kk_56 : kkA 56 = kT56 := rfl
theorem mo_56 : moA 56 = 7 := rfl
theorem ni_56 : decide ((xMn 56).name = "<init>") = false := by decide +kernel
set_option maxRecDepth 100000 in
theorem xm_56 : xM 56 = some (cX3_isReached, 5, (some FieldType.boolean), 3) := rfl
theorem kk_58 : kkA 58 = kT58 := rfl
theorem mo_58 : moA 58 = 7 := rfl
theorem ni_58 : decide ((xMn 58).name = "<init>") = false := by decide +kernel
set_option maxRecDepth 100000 in
theorem xm_58 : xM 58 = some (cX3_mostOf, 4, (some FieldType.int), 2) := rfl
theorem kk_57 : kkA 57 = kT57 := rfl
theorem mo_57 : moA 57 = 7 := rfl
theorem ni_57 : decide ((xMn 57).name = "<init>") = false := by decide +kernel
set_option maxRecDepth 100000 in
theorem xm_57 : xM 57 = some (cX3_most, 4, (some FieldType.int), 2) := rfl
theorem kk_144 : kkA 144 = kT144 := rfl
theorem mo_144 : moA 144 = 13 := rfl
theorem ni_144 : decide ((xMn 144).name = "<init>") = false := by decide +kernel
set_option maxRecDepth 100000 in
theorem xm_144 : xM 144 = some (cX9_letterTo, 4, (some (FieldType.object "AgreedStore$Letter")), 2) := rfl
theorem kk_60 : kkA 60 = kT60 := rfl
theorem mo_60 : moA 60 = 8 := rfl
theorem ni_60 : decide ((xMn 60).name = "<init>") = false := by decide +kernel
set_option maxRecDepth 100000 in
theorem xm_60 : xM 60 = some (cX4_fill, 4, none, 3) := rfl
theorem kk_132 : kkA 132 = kT132 := rfl
theorem mo_132 : moA 132 = 13 := rfl
theorem ni_132 : decide ((xMn 132).name = "<init>") = false := by decide +kernel
set_option maxRecDepth 100000 in
theorem xm_132 : xM 132 = some (cX9_dispatch, 2, none, 1) := rfl
theorem kk_155 : kkA 155 = kT155 := rfl
theorem mo_155 : moA 155 = 13 := rfl
theorem ni_155 : decide ((xMn 155).name = "<init>") = false := by decide +kernel
set_option maxRecDepth 100000 in
theorem xm_155 : xM 155 = some (cX9_reply, 7, none, 5) := rfl
theorem kk_121 : kkA 121 = kT121 := rfl
theorem mo_121 : moA 121 = 13 := rfl
theorem ni_121 : decide ((xMn 121).name = "<init>") = false := by decide +kernel
set_option maxRecDepth 100000 in
theorem xm_121 : xM 121 = some (cX9_answerReads, 5, none, 0) := rfl
theorem kk_76 : kkA 76 = kT76 := rfl
theorem mo_76 : moA 76 = 10 := rfl
theorem ni_76 : decide ((xMn 76).name = "<init>") = false := by decide +kernel
set_option maxRecDepth 100000 in
theorem xm_76 : xM 76 = some (cX6_admit, 7, (some FieldType.int), 3) := rfl
theorem kk_123 : kkA 123 = kT123 := rfl
theorem mo_123 : moA 123 = 13 := rfl
theorem ni_123 : decide ((xMn 123).name = "<init>") = false := by decide +kernel
set_option maxRecDepth 100000 in
theorem xm_123 : xM 123 = some (cX9_apply, 6, none, 0) := rfl
theorem kk_124 : kkA 124 = kT124 := rfl
theorem mo_124 : moA 124 = 13 := rfl
theorem ni_124 : decide ((xMn 124).name = "<init>") = false := by decide +kernel
set_option maxRecDepth 100000 in
theorem xm_124 : xM 124 = some (cX9_areKnown, 6, (some FieldType.boolean), 1) := rfl
theorem kk_182 : kkA 182 = kT182 := rfl
theorem mo_182 : moA 182 = 13 := rfl
theorem ni_182 : decide ((xMn 182).name = "<init>") = false := by decide +kernel
set_option maxRecDepth 100000 in
theorem xm_182 : xM 182 = some (cX9_voters, 1, (some FieldType.int), 0) := rfl
theorem kk_125 : kkA 125 = kT125 := rfl
theorem mo_125 : moA 125 = 13 := rfl
theorem ni_125 : decide ((xMn 125).name = "<init>") = false := by decide +kernel
set_option maxRecDepth 100000 in
theorem xm_125 : xM 125 = some (cX9_askVoters, 6, none, 2) := rfl
theorem kk_126 : kkA 126 = kT126 := rfl
theorem mo_126 : moA 126 = 13 := rfl
theorem ni_126 : decide ((xMn 126).name = "<init>") = false := by decide +kernel
set_option maxRecDepth 100000 in
theorem xm_126 : xM 126 = some (cX9_beDown, 1, none, 0) := rfl
theorem kk_150 : kkA 150 = kT150 := rfl
theorem mo_150 : moA 150 = 13 := rfl
theorem ni_150 : decide ((xMn 150).name = "<init>") = false := by decide +kernel
set_option maxRecDepth 100000 in
theorem xm_150 : xM 150 = some (cX9_peers, 1, (some FieldType.int), 0) := rfl
theorem kk_127 : kkA 127 = kT127 := rfl
theorem mo_127 : moA 127 = 13 := rfl
theorem ni_127 : decide ((xMn 127).name = "<init>") = false := by decide +kernel
set_option maxRecDepth 100000 in
theorem xm_127 : xM 127 = some (cX9_beat, 3, none, 0) := rfl
theorem kk_165 : kkA 165 = kT165 := rfl
theorem mo_165 : moA 165 = 13 := rfl
theorem ni_165 : decide ((xMn 165).name = "<init>") = false := by decide +kernel
set_option maxRecDepth 100000 in
theorem xm_165 : xM 165 = some (cX9_soil, 1, none, 0) := rfl
theorem kk_156 : kkA 156 = kT156 := rfl
theorem mo_156 : moA 156 = 13 := rfl
theorem ni_156 : decide ((xMn 156).name = "<init>") = false := by decide +kernel
set_option maxRecDepth 100000 in
theorem xm_156 : xM 156 = some (cX9_saveTerm, 3, none, 2) := rfl
theorem kk_188 : kkA 188 = kT188 := rfl
theorem mo_188 : moA 188 = 14 := rfl
theorem ni_188 : decide ((xMn 188).name = "<init>") = false := by decide +kernel
set_option maxRecDepth 100000 in
theorem xm_188 : xM 188 = some (cX10_drawAlarm, 2, none, 1) := rfl
theorem kk_128 : kkA 128 = kT128 := rfl
theorem mo_128 : moA 128 = 13 := rfl
theorem ni_128 : decide ((xMn 128).name = "<init>") = false := by decide +kernel
set_option maxRecDepth 100000 in
theorem xm_128 : xM 128 = some (cX9_campaign, 1, none, 0) := rfl
theorem kk_92 : kkA 92 = kT92 := rfl
theorem mo_92 : moA 92 = 10 := rfl
theorem ni_92 : decide ((xMn 92).name = "<init>") = false := by decide +kernel
set_option maxRecDepth 100000 in
theorem xm_92 : xM 92 = some (cX6_numberAt, 6, (some FieldType.int), 4) := rfl
theorem kk_88 : kkA 88 = kT88 := rfl
theorem mo_88 : moA 88 = 10 := rfl
theorem ni_88 : decide ((xMn 88).name = "<init>") = false := by decide +kernel
set_option maxRecDepth 100000 in
theorem xm_88 : xM 88 = some (cX6_loadSessions, 9, (some FieldType.int), 2) := rfl
theorem kk_87 : kkA 87 = kT87 := rfl
theorem mo_87 : moA 87 = 10 := rfl
theorem ni_87 : decide ((xMn 87).name = "<init>") = false := by decide +kernel
set_option maxRecDepth 100000 in
theorem xm_87 : xM 87 = some (cX6_load, 9, none, 2) := rfl
theorem kk_62 : kkA 62 = kT62 := rfl
theorem mo_62 : moA 62 = 9 := rfl
theorem ni_62 : decide ((xMn 62).name = "<init>") = false := by decide +kernel
set_option maxRecDepth 100000 in
theorem xm_62 : xM 62 = some (cX5_add, 3, none, 2) := rfl
theorem kk_145 : kkA 145 = kT145 := rfl
theorem mo_145 : moA 145 = 13 := rfl
theorem ni_145 : decide ((xMn 145).name = "<init>") = false := by decide +kernel
set_option maxRecDepth 100000 in
theorem xm_145 : xM 145 = some (cX9_loadLog, 4, none, 0) := rfl
theorem kk_146 : kkA 146 = kT146 := rfl
theorem mo_146 : moA 146 = 13 := rfl
theorem ni_146 : decide ((xMn 146).name = "<init>") = false := by decide +kernel
set_option maxRecDepth 100000 in
theorem xm_146 : xM 146 = some (cX9_loadTerm, 3, none, 0) := rfl
theorem kk_129 : kkA 129 = kT129 := rfl
theorem mo_129 : moA 129 = 13 := rfl
theorem ni_129 : decide ((xMn 129).name = "<init>") = false := by decide +kernel
set_option maxRecDepth 100000 in
theorem xm_129 : xM 129 = some (cX9_comeUp, 1, none, 0) := rfl
theorem kk_53 : kkA 53 = kT53 := rfl
theorem mo_53 : moA 53 = 6 := rfl
theorem ni_53 : decide ((xMn 53).name = "<init>") = false := by decide +kernel
set_option maxRecDepth 100000 in
theorem xm_53 : xM 53 = some (cX2_writeSnapshot, 7, none, 5) := rfl
theorem kk_130 : kkA 130 = kT130 := rfl
theorem mo_130 : moA 130 = 13 := rfl
theorem ni_130 : decide ((xMn 130).name = "<init>") = false := by decide +kernel
set_option maxRecDepth 100000 in
theorem xm_130 : xM 130 = some (cX9_compact, 4, none, 0) := rfl
theorem kk_131 : kkA 131 = kT131 := rfl
theorem mo_131 : moA 131 = 13 := rfl
theorem ni_131 : decide ((xMn 131).name = "<init>") = false := by decide +kernel
set_option maxRecDepth 100000 in
theorem xm_131 : xM 131 = some (cX9_countMatches, 2, none, 0) := rfl
theorem kk_133 : kkA 133 = kT133 := rfl
theorem mo_133 : moA 133 = 13 := rfl
theorem ni_133 : decide ((xMn 133).name = "<init>") = false := by decide +kernel
set_option maxRecDepth 100000 in
theorem xm_133 : xM 133 = some (cX9_fall, 4, none, 1) := rfl
theorem kk_157 : kkA 157 = kT157 := rfl
theorem mo_157 : moA 157 = 13 := rfl
theorem ni_157 : decide ((xMn 157).name = "<init>") = false := by decide +kernel
set_option maxRecDepth 100000 in
theorem xm_157 : xM 157 = some (cX9_sendAppended, 6, none, 4) := rfl
theorem kk_135 : kkA 135 = kT135 := rfl
theorem mo_135 : moA 135 = 13 := rfl
theorem ni_135 : decide ((xMn 135).name = "<init>") = false := by decide +kernel
set_option maxRecDepth 100000 in
theorem xm_135 : xM 135 = some (cX9_follow, 2, none, 1) := rfl
theorem kk_139 : kkA 139 = kT139 := rfl
theorem mo_139 : moA 139 = 13 := rfl
theorem ni_139 : decide ((xMn 139).name = "<init>") = false := by decide +kernel
set_option maxRecDepth 100000 in
theorem xm_139 : xM 139 = some (cX9_heeds, 2, (some FieldType.boolean), 1) := rfl
theorem kk_134 : kkA 134 = kT134 := rfl
theorem mo_134 : moA 134 = 13 := rfl
theorem ni_134 : decide ((xMn 134).name = "<init>") = false := by decide +kernel
set_option maxRecDepth 100000 in
theorem xm_134 : xM 134 = some (cX9_fits, 3, (some FieldType.boolean), 1) := rfl
theorem kk_151 : kkA 151 = kT151 := rfl
theorem mo_151 : moA 151 = 13 := rfl
theorem ni_151 : decide ((xMn 151).name = "<init>") = false := by decide +kernel
set_option maxRecDepth 100000 in
theorem xm_151 : xM 151 = some (cX9_postWaiting, 2, none, 0) := rfl
theorem kk_136 : kkA 136 = kT136 := rfl
theorem mo_136 : moA 136 = 13 := rfl
theorem ni_136 : decide ((xMn 136).name = "<init>") = false := by decide +kernel
set_option maxRecDepth 100000 in
theorem xm_136 : xM 136 = some (cX9_goDown, 1, none, 0) := rfl
theorem kk_153 : kkA 153 = kT153 := rfl
theorem mo_153 : moA 153 = 13 := rfl
theorem ni_153 : decide ((xMn 153).name = "<init>") = false := by decide +kernel
set_option maxRecDepth 100000 in
theorem xm_153 : xM 153 = some (cX9_putPiece, 3, none, 2) := rfl
theorem kk_152 : kkA 152 = kT152 := rfl
theorem mo_152 : moA 152 = 13 := rfl
theorem ni_152 : decide ((xMn 152).name = "<init>") = false := by decide +kernel
set_option maxRecDepth 100000 in
theorem xm_152 : xM 152 = some (cX9_putEntries, 4, none, 3) := rfl
theorem kk_160 : kkA 160 = kT160 := rfl
theorem mo_160 : moA 160 = 13 := rfl
theorem ni_160 : decide ((xMn 160).name = "<init>") = false := by decide +kernel
set_option maxRecDepth 100000 in
theorem xm_160 : xM 160 = some (cX9_sendTo, 8, none, 2) := rfl
theorem kk_137 : kkA 137 = kT137 := rfl
theorem mo_137 : moA 137 = 13 := rfl
theorem ni_137 : decide ((xMn 137).name = "<init>") = false := by decide +kernel
set_option maxRecDepth 100000 in
theorem xm_137 : xM 137 = some (cX9_handOver, 2, none, 1) := rfl
theorem kk_138 : kkA 138 = kT138 := rfl
theorem mo_138 : moA 138 = 13 := rfl
theorem ni_138 : decide ((xMn 138).name = "<init>") = false := by decide +kernel
set_option maxRecDepth 100000 in
theorem xm_138 : xM 138 = some (cX9_hears, 2, (some FieldType.boolean), 1) := rfl
theorem kk_141 : kkA 141 = kT141 := rfl
theorem mo_141 : moA 141 = 13 := rfl
theorem ni_141 : decide ((xMn 141).name = "<init>") = false := by decide +kernel
set_option maxRecDepth 100000 in
theorem xm_141 : xM 141 = some (cX9_isAsNew, 3, (some FieldType.boolean), 1) := rfl
theorem kk_142 : kkA 142 = kT142 := rfl
theorem mo_142 : moA 142 = 13 := rfl
theorem ni_142 : decide ((xMn 142).name = "<init>") = false := by decide +kernel
set_option maxRecDepth 100000 in
theorem xm_142 : xM 142 = some (cX9_isMajority, 4, (some FieldType.boolean), 1) := rfl
theorem kk_143 : kkA 143 = kT143 := rfl
theorem mo_143 : moA 143 = 13 := rfl
theorem ni_143 : decide ((xMn 143).name = "<init>") = false := by decide +kernel
set_option maxRecDepth 100000 in
theorem xm_143 : xM 143 = some (cX9_keepPiece, 2, none, 1) := rfl
theorem kk_147 : kkA 147 = kT147 := rfl
theorem mo_147 : moA 147 = 13 := rfl
theorem ni_147 : decide ((xMn 147).name = "<init>") = false := by decide +kernel
set_option maxRecDepth 100000 in
theorem xm_147 : xM 147 = some (cX9_mayLead, 1, (some FieldType.boolean), 0) := rfl
theorem kk_148 : kkA 148 = kT148 := rfl
theorem mo_148 : moA 148 = 13 := rfl
theorem ni_148 : decide ((xMn 148).name = "<init>") = false := by decide +kernel
set_option maxRecDepth 100000 in
theorem xm_148 : xM 148 = some (cX9_maySetMembers, 1, (some FieldType.boolean), 0) := rfl
theorem kk_105 : kkA 105 = kT105 := rfl
theorem mo_105 : moA 105 = 11 := rfl
theorem ni_105 : decide ((xMn 105).name = "<init>") = false := by decide +kernel
set_option maxRecDepth 100000 in
theorem xm_105 : xM 105 = some (cX7_add, 3, none, 2) := rfl
theorem kk_32 : kkA 32 = kT32 := rfl
theorem mo_32 : moA 32 = 6 := rfl
theorem ni_32 : decide ((xMn 32).name = "<init>") = false := by decide +kernel
set_option maxRecDepth 100000 in
theorem xm_32 : xM 32 = some (cX2_append, 5, none, 4) := rfl
theorem kk_122 : kkA 122 = kT122 := rfl
theorem mo_122 : moA 122 = 13 := rfl
theorem ni_122 : decide ((xMn 122).name = "<init>") = false := by decide +kernel
set_option maxRecDepth 100000 in
theorem xm_122 : xM 122 = some (cX9_append, 3, none, 2) := rfl
theorem kk_166 : kkA 166 = kT166 := rfl
theorem mo_166 : moA 166 = 13 := rfl
theorem ni_166 : decide ((xMn 166).name = "<init>") = false := by decide +kernel
set_option maxRecDepth 100000 in
theorem xm_166 : xM 166 = some (cX9_stepDown, 3, none, 2) := rfl
theorem kk_149 : kkA 149 = kT149 := rfl
theorem mo_149 : moA 149 = 13 := rfl
theorem ni_149 : decide ((xMn 149).name = "<init>") = false := by decide +kernel
set_option maxRecDepth 100000 in
theorem xm_149 : xM 149 = some (cX9_moveMembers, 2, none, 0) := rfl
theorem kk_178 : kkA 178 = kT178 := rfl
theorem mo_178 : moA 178 = 13 := rfl
theorem ni_178 : decide ((xMn 178).name = "<init>") = false := by decide +kernel
set_option maxRecDepth 100000 in
theorem xm_178 : xM 178 = some (cX9_takeRequest, 3, none, 1) := rfl
theorem kk_173 : kkA 173 = kT173 := rfl
theorem mo_173 : moA 173 = 13 := rfl
theorem ni_173 : decide ((xMn 173).name = "<init>") = false := by decide +kernel
set_option maxRecDepth 100000 in
theorem xm_173 : xM 173 = some (cX9_takeGo, 2, none, 1) := rfl
theorem kk_180 : kkA 180 = kT180 := rfl
theorem mo_180 : moA 180 = 13 := rfl
theorem ni_180 : decide ((xMn 180).name = "<init>") = false := by decide +kernel
set_option maxRecDepth 100000 in
theorem xm_180 : xM 180 = some (cX9_takeStored, 3, none, 1) := rfl
theorem kk_159 : kkA 159 = kT159 := rfl
theorem mo_159 : moA 159 = 13 := rfl
theorem ni_159 : decide ((xMn 159).name = "<init>") = false := by decide +kernel
set_option maxRecDepth 100000 in
theorem xm_159 : xM 159 = some (cX9_sendStored, 6, none, 4) := rfl
theorem kk_179 : kkA 179 = kT179 := rfl
theorem mo_179 : moA 179 = 13 := rfl
theorem ni_179 : decide ((xMn 179).name = "<init>") = false := by decide +kernel
set_option maxRecDepth 100000 in
theorem xm_179 : xM 179 = some (cX9_takeSnapshot, 2, none, 1) := rfl
theorem kk_175 : kkA 175 = kT175 := rfl
theorem mo_175 : moA 175 = 13 := rfl
theorem ni_175 : decide ((xMn 175).name = "<init>") = false := by decide +kernel
set_option maxRecDepth 100000 in
theorem xm_175 : xM 175 = some (cX9_takePiece, 4, none, 1) := rfl
theorem kk_169 : kkA 169 = kT169 := rfl
theorem mo_169 : moA 169 = 13 := rfl
theorem ni_169 : decide ((xMn 169).name = "<init>") = false := by decide +kernel
set_option maxRecDepth 100000 in
theorem xm_169 : xM 169 = some (cX9_takeAppended, 4, none, 1) := rfl
theorem kk_172 : kkA 172 = kT172 := rfl
theorem mo_172 : moA 172 = 13 := rfl
theorem ni_172 : decide ((xMn 172).name = "<init>") = false := by decide +kernel
set_option maxRecDepth 100000 in
theorem xm_172 : xM 172 = some (cX9_takeEntries, 6, none, 1) := rfl
theorem kk_168 : kkA 168 = kT168 := rfl
theorem mo_168 : moA 168 = 13 := rfl
theorem ni_168 : decide ((xMn 168).name = "<init>") = false := by decide +kernel
set_option maxRecDepth 100000 in
theorem xm_168 : xM 168 = some (cX9_takeAnswer, 2, none, 1) := rfl
theorem kk_162 : kkA 162 = kT162 := rfl
theorem mo_162 : moA 162 = 13 := rfl
theorem ni_162 : decide ((xMn 162).name = "<init>") = false := by decide +kernel
set_option maxRecDepth 100000 in
theorem xm_162 : xM 162 = some (cX9_sendVote, 6, none, 4) := rfl
theorem kk_170 : kkA 170 = kT170 := rfl
theorem mo_170 : moA 170 = 13 := rfl
theorem ni_170 : decide ((xMn 170).name = "<init>") = false := by decide +kernel
set_option maxRecDepth 100000 in
theorem xm_170 : xM 170 = some (cX9_takeAsk, 3, none, 1) := rfl
theorem kk_176 : kkA 176 = kT176 := rfl
theorem mo_176 : moA 176 = 13 := rfl
theorem ni_176 : decide ((xMn 176).name = "<init>") = false := by decide +kernel
set_option maxRecDepth 100000 in
theorem xm_176 : xM 176 = some (cX9_takePreanswer, 2, none, 1) := rfl
theorem kk_177 : kkA 177 = kT177 := rfl
theorem mo_177 : moA 177 = 13 := rfl
theorem ni_177 : decide ((xMn 177).name = "<init>") = false := by decide +kernel
set_option maxRecDepth 100000 in
theorem xm_177 : xM 177 = some (cX9_takePreask, 3, none, 1) := rfl
theorem kk_154 : kkA 154 = kT154 := rfl
theorem mo_154 : moA 154 = 13 := rfl
theorem ni_154 : decide ((xMn 154).name = "<init>") = false := by decide +kernel
set_option maxRecDepth 100000 in
theorem xm_154 : xM 154 = some (cX9_receive, 3, none, 1) := rfl
theorem kk_158 : kkA 158 = kT158 := rfl
theorem mo_158 : moA 158 = 13 := rfl
theorem ni_158 : decide ((xMn 158).name = "<init>") = false := by decide +kernel
set_option maxRecDepth 100000 in
theorem xm_158 : xM 158 = some (cX9_sendBack, 2, none, 1) := rfl
theorem kk_161 : kkA 161 = kT161 := rfl
theorem mo_161 : moA 161 = 13 := rfl
theorem ni_161 : decide ((xMn 161).name = "<init>") = false := by decide +kernel
set_option maxRecDepth 100000 in
theorem xm_161 : xM 161 = some (cX9_sendToAll, 4, none, 1) := rfl
theorem kk_163 : kkA 163 = kT163 := rfl
theorem mo_163 : moA 163 = 13 := rfl
theorem ni_163 : decide ((xMn 163).name = "<init>") = false := by decide +kernel
set_option maxRecDepth 100000 in
theorem xm_163 : xM 163 = some (cX9_setMembers, 2, none, 1) := rfl
theorem kk_171 : kkA 171 = kT171 := rfl
theorem mo_171 : moA 171 = 13 := rfl
theorem ni_171 : decide ((xMn 171).name = "<init>") = false := by decide +kernel
set_option maxRecDepth 100000 in
theorem xm_171 : xM 171 = some (cX9_takeDue, 3, (some FieldType.boolean), 1) := rfl
theorem kk_174 : kkA 174 = kT174 := rfl
theorem mo_174 : moA 174 = 13 := rfl
theorem ni_174 : decide ((xMn 174).name = "<init>") = false := by decide +kernel
set_option maxRecDepth 100000 in
theorem xm_174 : xM 174 = some (cX9_takeLead, 1, none, 0) := rfl
theorem kk_164 : kkA 164 = kT164 := rfl
theorem mo_164 : moA 164 = 13 := rfl
theorem ni_164 : decide ((xMn 164).name = "<init>") = false := by decide +kernel
set_option maxRecDepth 100000 in
theorem xm_164 : xM 164 = some (cX9_settle, 2, none, 1) := rfl
theorem kk_167 : kkA 167 = kT167 := rfl
theorem mo_167 : moA 167 = 13 := rfl
theorem ni_167 : decide ((xMn 167).name = "<init>") = false := by decide +kernel
set_option maxRecDepth 100000 in
theorem xm_167 : xM 167 = some (cX9_sync, 1, none, 0) := rfl
theorem kk_181 : kkA 181 = kT181 := rfl
theorem mo_181 : moA 181 = 13 := rfl
theorem ni_181 : decide ((xMn 181).name = "<init>") = false := by decide +kernel
set_option maxRecDepth 100000 in
theorem xm_181 : xM 181 = some (cX9_tell, 2, (some FieldType.int), 1) := rfl
theorem kk_183 : kkA 183 = kT183 := rfl
theorem mo_183 : moA 183 = 13 := rfl
theorem ni_183 : decide ((xMn 183).name = "<init>") = false := by decide +kernel
set_option maxRecDepth 100000 in
theorem xm_183 : xM 183 = some (cX9_wake, 1, none, 0) := rfl
theorem kk_193 : kkA 193 = kT193 := rfl
theorem mo_193 : moA 193 = 14 := rfl
theorem ni_193 : decide ((xMn 193).name = "<init>") = false := by decide +kernel
set_option maxRecDepth 100000 in
theorem xm_193 : xM 193 = some (cX10_hasLetter, 2, (some FieldType.boolean), 1) := rfl
theorem kk_186 : kkA 186 = kT186 := rfl
theorem mo_186 : moA 186 = 14 := rfl
theorem ni_186 : decide ((xMn 186).name = "<init>") = false := by decide +kernel
set_option maxRecDepth 100000 in
theorem xm_186 : xM 186 = some (cX10_deferLetter, 4, none, 2) := rfl
theorem kk_187 : kkA 187 = kT187 := rfl
theorem mo_187 : moA 187 = 14 := rfl
theorem ni_187 : decide ((xMn 187).name = "<init>") = false := by decide +kernel
set_option maxRecDepth 100000 in
theorem xm_187 : xM 187 = some (cX10_doubleLetter, 4, none, 1) := rfl
theorem kk_190 : kkA 190 = kT190 := rfl
theorem mo_190 : moA 190 = 14 := rfl
theorem ni_190 : decide ((xMn 190).name = "<init>") = false := by decide +kernel
set_option maxRecDepth 100000 in
theorem xm_190 : xM 190 = some (cX10_dropLetter, 2, none, 1) := rfl
theorem kk_191 : kkA 191 = kT191 := rfl
theorem mo_191 : moA 191 = 14 := rfl
theorem ni_191 : decide ((xMn 191).name = "<init>") = false := by decide +kernel
set_option maxRecDepth 100000 in
theorem xm_191 : xM 191 = some (cX10_firstBell, 3, (some FieldType.int), 0) := rfl
theorem kk_192 : kkA 192 = kT192 := rfl
theorem mo_192 : moA 192 = 14 := rfl
theorem ni_192 : decide ((xMn 192).name = "<init>") = false := by decide +kernel
set_option maxRecDepth 100000 in
theorem xm_192 : xM 192 = some (cX10_firstLetter, 1, (some (FieldType.object "AgreedStore$Letter")), 0) := rfl
theorem kk_196 : kkA 196 = kT196 := rfl
theorem mo_196 : moA 196 = 14 := rfl
theorem ni_196 : decide ((xMn 196).name = "<init>") = false := by decide +kernel
set_option maxRecDepth 100000 in
theorem xm_196 : xM 196 = some (cX10_isBefore, 3, (some FieldType.boolean), 2) := rfl
theorem kk_201 : kkA 201 = kT201 := rfl
theorem mo_201 : moA 201 = 14 := rfl
theorem ni_201 : decide ((xMn 201).name = "<init>") = false := by decide +kernel
set_option maxRecDepth 100000 in
theorem xm_201 : xM 201 = some (cX10_takeBell, 2, none, 1) := rfl
theorem kk_202 : kkA 202 = kT202 := rfl
theorem mo_202 : moA 202 = 14 := rfl
theorem ni_202 : decide ((xMn 202).name = "<init>") = false := by decide +kernel
set_option maxRecDepth 100000 in
theorem xm_202 : xM 202 = some (cX10_takeFirstLetter, 1, none, 0) := rfl
theorem kk_217 : kkA 217 = kT217 := rfl
theorem mo_217 : moA 217 = 15 := rfl
theorem ni_217 : decide ((xMn 217).name = "<init>") = false := by decide +kernel
set_option maxRecDepth 100000 in
theorem xm_217 : xM 217 = some (cX11_happen, 5, (some FieldType.int), 1) := rfl
