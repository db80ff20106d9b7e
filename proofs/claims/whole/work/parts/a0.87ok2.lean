set_option maxRecDepth 100000 in
theorem bk_ok_120 : bk_okP (bk_m 120) P_120 = true ∧ 5 = (bk_m 120).2.2.1 := by decide +kernel
set_option maxRecDepth 100000 in
theorem bk_ok_121 : bk_okP (bk_m 121) P_121 = true ∧ 6 = (bk_m 121).2.2.1 := by decide +kernel
set_option maxRecDepth 100000 in
theorem bk_ok_122 : bk_okP (bk_m 122) P_122 = true ∧ 2 = (bk_m 122).2.2.1 := by decide +kernel
set_option maxRecDepth 100000 in
theorem bk_ok_123 : bk_okP (bk_m 123) P_123 = true ∧ 3 = (bk_m 123).2.2.1 := by decide +kernel
set_option maxRecDepth 100000 in
theorem bk_ok_124 : bk_okP (bk_m 124) P_124 = true ∧ 3 = (bk_m 124).2.2.1 := by decide +kernel
set_option maxRecDepth 100000 in
theorem bk_ok_125 : bk_okP (bk_m 125) P_125 = true ∧ 5 = (bk_m 125).2.2.1 := by decide +kernel
set_option maxRecDepth 100000 in
theorem bk_ok_126 : bk_okP (bk_m 126) P_126 = true ∧ 5 = (bk_m 126).2.2.1 := by decide +kernel
set_option maxRecDepth 100000 in
theorem bk_ok_127 : bk_okP (bk_m 127) P_127 = true ∧ 5 = (bk_m 127).2.2.1 := by decide +kernel
set_option maxRecDepth 100000 in
theorem bk_ok_128 : bk_okP (bk_m 128) P_128 = true ∧ 1 = (bk_m 128).2.2.1 := by decide +kernel
set_option maxRecDepth 100000 in
theorem bk_ok_129 : bk_okP (bk_m 129) P_129 = true ∧ 4 = (bk_m 129).2.2.1 := by decide +kernel
set_option maxRecDepth 100000 in
theorem bk_ok_130 : bk_okP (bk_m 130) P_130 = true ∧ 5 = (bk_m 130).2.2.1 := by decide +kernel
set_option maxRecDepth 100000 in
theorem bk_ok_131 : bk_okP (bk_m 131) P_131 = true ∧ 5 = (bk_m 131).2.2.1 := by decide +kernel
set_option maxRecDepth 100000 in
theorem bk_ok_132 : bk_okP (bk_m 132) P_132 = true ∧ 6 = (bk_m 132).2.2.1 := by decide +kernel
set_option maxRecDepth 100000 in
theorem bk_ok_133 : bk_okP (bk_m 133) P_133 = true ∧ 5 = (bk_m 133).2.2.1 := by decide +kernel
set_option maxRecDepth 100000 in
theorem bk_ok_134 : bk_okP (bk_m 134) P_134 = true ∧ 6 = (bk_m 134).2.2.1 := by decide +kernel
set_option maxRecDepth 100000 in
theorem bk_ok_135 : bk_okP (bk_m 135) P_135 = true ∧ 3 = (bk_m 135).2.2.1 := by decide +kernel
set_option maxRecDepth 100000 in
theorem bk_ok_136 : bk_okP (bk_m 136) P_136 = true ∧ 1 = (bk_m 136).2.2.1 := by decide +kernel
set_option maxRecDepth 100000 in
theorem bk_ok_137 : bk_okP (bk_m 137) P_137 = true ∧ 2 = (bk_m 137).2.2.1 := by decide +kernel
set_option maxRecDepth 100000 in
theorem bk_ok_138 : bk_okP (bk_m 138) P_138 = true ∧ 2 = (bk_m 138).2.2.1 := by decide +kernel
set_option maxRecDepth 100000 in
theorem bk_ok_139 : bk_okP (bk_m 139) P_139 = true ∧ 2 = (bk_m 139).2.2.1 := by decide +kernel
set_option maxRecDepth 100000 in
theorem bk_ok_140 : bk_okP (bk_m 140) P_140 = true ∧ 2 = (bk_m 140).2.2.1 := by decide +kernel
set_option maxRecDepth 100000 in
theorem bk_ok_141 : bk_okP (bk_m 141) P_141 = true ∧ 4 = (bk_m 141).2.2.1 := by decide +kernel
set_option maxRecDepth 100000 in
theorem bk_ok_142 : bk_okP (bk_m 142) P_142 = true ∧ 2 = (bk_m 142).2.2.1 := by decide +kernel
set_option maxRecDepth 100000 in
theorem bk_ok_143 : bk_okP (bk_m 143) P_143 = true ∧ 5 = (bk_m 143).2.2.1 := by decide +kernel
set_option maxRecDepth 100000 in
theorem bk_ok_144 : bk_okP (bk_m 144) P_144 = true ∧ 8 = (bk_m 144).2.2.1 := by decide +kernel
set_option maxRecDepth 100000 in
theorem bk_ok_145 : bk_okP (bk_m 145) P_145 = true ∧ 3 = (bk_m 145).2.2.1 := by decide +kernel
set_option maxRecDepth 100000 in
theorem bk_ok_146 : bk_okP (bk_m 146) P_146 = true ∧ 1 = (bk_m 146).2.2.1 := by decide +kernel
set_option maxRecDepth 100000 in
theorem bk_ok_147 : bk_okP (bk_m 147) P_147 = true ∧ 6 = (bk_m 147).2.2.1 := by decide +kernel
set_option maxRecDepth 100000 in
theorem bk_ok_148 : bk_okP (bk_m 148) P_148 = true ∧ 3 = (bk_m 148).2.2.1 := by decide +kernel
set_option maxRecDepth 100000 in
theorem bk_ok_149 : bk_okP (bk_m 149) P_149 = true ∧ 2 = (bk_m 149).2.2.1 := by decide +kernel
set_option maxRecDepth 100000 in
theorem bk_ok_150 : bk_okP (bk_m 150) P_150 = true ∧ 2 = (bk_m 150).2.2.1 := by decide +kernel
set_option maxRecDepth 100000 in
theorem bk_ok_151 : bk_okP (bk_m 151) P_151 = true ∧ 2 = (bk_m 151).2.2.1 := by decide +kernel
set_option maxRecDepth 100000 in
theorem bk_ok_152 : bk_okP (bk_m 152) P_152 = true ∧ 2 = (bk_m 152).2.2.1 := by decide +kernel
set_option maxRecDepth 100000 in
theorem bk_ok_153 : bk_okP (bk_m 153) P_153 = true ∧ 4 = (bk_m 153).2.2.1 := by decide +kernel
set_option maxRecDepth 100000 in
theorem bk_ok_154 : bk_okP (bk_m 154) P_154 = true ∧ 3 = (bk_m 154).2.2.1 := by decide +kernel
set_option maxRecDepth 100000 in
theorem bk_ok_155 : bk_okP (bk_m 155) P_155 = true ∧ 3 = (bk_m 155).2.2.1 := by decide +kernel
set_option maxRecDepth 100000 in
theorem bk_ok_156 : bk_okP (bk_m 156) P_156 = true ∧ 3 = (bk_m 156).2.2.1 := by decide +kernel
set_option maxRecDepth 100000 in
theorem bk_ok_157 : bk_okP (bk_m 157) P_157 = true ∧ 3 = (bk_m 157).2.2.1 := by decide +kernel
set_option maxRecDepth 100000 in
theorem bk_ok_158 : bk_okP (bk_m 158) P_158 = true ∧ 2 = (bk_m 158).2.2.1 := by decide +kernel
set_option maxRecDepth 100000 in
theorem bk_ok_159 : bk_okP (bk_m 159) P_159 = true ∧ 3 = (bk_m 159).2.2.1 := by decide +kernel
set_option maxRecDepth 100000 in
theorem bk_ok_160 : bk_okP (bk_m 160) P_160 = true ∧ 2 = (bk_m 160).2.2.1 := by decide +kernel
set_option maxRecDepth 100000 in
theorem bk_ok_161 : bk_okP (bk_m 161) P_161 = true ∧ 2 = (bk_m 161).2.2.1 := by decide +kernel
set_option maxRecDepth 100000 in
theorem bk_ok_162 : bk_okP (bk_m 162) P_162 = true ∧ 5 = (bk_m 162).2.2.1 := by decide +kernel
set_option maxRecDepth 100000 in
theorem bk_ok_163 : bk_okP (bk_m 163) P_163 = true ∧ 1 = (bk_m 163).2.2.1 := by decide +kernel
set_option maxRecDepth 100000 in
theorem bk_ok_164 : bk_okP (bk_m 164) P_164 = true ∧ 1 = (bk_m 164).2.2.1 := by decide +kernel
set_option maxRecDepth 100000 in
theorem bk_ok_165 : bk_okP (bk_m 165) P_165 = true ∧ 2 = (bk_m 165).2.2.1 := by decide +kernel
set_option maxRecDepth 100000 in
theorem bk_ok_166 : bk_okP (bk_m 166) P_166 = true ∧ 1 = (bk_m 166).2.2.1 := by decide +kernel
set_option maxRecDepth 100000 in
theorem bk_ok_167 : bk_okP (bk_m 167) P_167 = true ∧ 2 = (bk_m 167).2.2.1 := by decide +kernel
set_option maxRecDepth 100000 in
theorem bk_ok_168 : bk_okP (bk_m 168) P_168 = true ∧ 1 = (bk_m 168).2.2.1 := by decide +kernel
set_option maxRecDepth 100000 in
theorem bk_ok_169 : bk_okP (bk_m 169) P_169 = true ∧ 9 = (bk_m 169).2.2.1 := by decide +kernel
set_option maxRecDepth 100000 in
theorem bk_ok_170 : bk_okP (bk_m 170) P_170 = true ∧ 1 = (bk_m 170).2.2.1 := by decide +kernel
set_option maxRecDepth 100000 in
theorem bk_ok_171 : bk_okP (bk_m 171) P_171 = true ∧ 2 = (bk_m 171).2.2.1 := by decide +kernel
set_option maxRecDepth 100000 in
theorem bk_ok_172 : bk_okP (bk_m 172) P_172 = true ∧ 2 = (bk_m 172).2.2.1 := by decide +kernel
set_option maxRecDepth 100000 in
theorem bk_ok_173 : bk_okP (bk_m 173) P_173 = true ∧ 3 = (bk_m 173).2.2.1 := by decide +kernel
set_option maxRecDepth 100000 in
theorem bk_ok_174 : bk_okP (bk_m 174) P_174 = true ∧ 3 = (bk_m 174).2.2.1 := by decide +kernel
set_option maxRecDepth 100000 in
theorem bk_ok_175 : bk_okP (bk_m 175) P_175 = true ∧ 3 = (bk_m 175).2.2.1 := by decide +kernel
set_option maxRecDepth 100000 in
theorem bk_ok_176 : bk_okP (bk_m 176) P_176 = true ∧ 3 = (bk_m 176).2.2.1 := by decide +kernel
set_option maxRecDepth 100000 in
theorem bk_ok_177 : bk_okP (bk_m 177) P_177 = true ∧ 1 = (bk_m 177).2.2.1 := by decide +kernel
set_option maxRecDepth 100000 in
theorem bk_ok_178 : bk_okP (bk_m 178) P_178 = true ∧ 2 = (bk_m 178).2.2.1 := by decide +kernel
set_option maxRecDepth 100000 in
theorem bk_ok_179 : bk_okP (bk_m 179) P_179 = true ∧ 2 = (bk_m 179).2.2.1 := by decide +kernel
theorem bk_okT_140 : ∀ a, a < 140 → bk_ok1 a := lt_s (lt_s (lt_s (lt_s (lt_s (lt_s (lt_s (lt_s (lt_s (lt_s (lt_s (lt_s (lt_s (lt_s (lt_s (lt_s (lt_s (lt_s (lt_s (lt_s (bk_okT_120) bk_ok_120) bk_ok_121) bk_ok_122) bk_ok_123) bk_ok_124) bk_ok_125) bk_ok_126) bk_ok_127) bk_ok_128) bk_ok_129) bk_ok_130) bk_ok_131) bk_ok_132) bk_ok_133) bk_ok_134) bk_ok_135) bk_ok_136) bk_ok_137) bk_ok_138) bk_ok_139
theorem bk_okT_160 : ∀ a, a < 160 → bk_ok1 a := lt_s (lt_s (lt_s (lt_s (lt_s (lt_s (lt_s (lt_s (lt_s (lt_s (lt_s (lt_s (lt_s (lt_s (lt_s (lt_s (lt_s (lt_s (lt_s (lt_s (bk_okT_140) bk_ok_140) bk_ok_141) bk_ok_142) bk_ok_143) bk_ok_144) bk_ok_145) bk_ok_146) bk_ok_147) bk_ok_148) bk_ok_149) bk_ok_150) bk_ok_151) bk_ok_152) bk_ok_153) bk_ok_154) bk_ok_155) bk_ok_156) bk_ok_157) bk_ok_158) bk_ok_159
theorem bk_okT_180 : ∀ a, a < 180 → bk_ok1 a := lt_s (lt_s (lt_s (lt_s (lt_s (lt_s (lt_s (lt_s (lt_s (lt_s (lt_s (lt_s (lt_s (lt_s (lt_s (lt_s (lt_s (lt_s (lt_s (lt_s (bk_okT_160) bk_ok_160) bk_ok_161) bk_ok_162) bk_ok_163) bk_ok_164) bk_ok_165) bk_ok_166) bk_ok_167) bk_ok_168) bk_ok_169) bk_ok_170) bk_ok_171) bk_ok_172) bk_ok_173) bk_ok_174) bk_ok_175) bk_ok_176) bk_ok_177) bk_ok_178) bk_ok_179
