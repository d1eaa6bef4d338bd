/-! The words of the entries. -/
set_option maxRecDepth 100000 in
theorem q_ok_122 : (q_chkM 122 && q_all 122 qc_122 qw_122) = true := by decide +kernel
set_option maxRecDepth 100000 in
theorem q_ok_123 : (q_chkM 123 && q_all 123 qc_123 qw_123) = true := by decide +kernel
set_option maxRecDepth 100000 in
theorem q_ok_124 : (q_chkM 124 && q_all 124 qc_124 qw_124) = true := by decide +kernel
set_option maxRecDepth 100000 in
theorem q_ok_125 : (q_chkM 125 && q_all 125 qc_125 qw_125) = true := by decide +kernel
set_option maxRecDepth 100000 in
theorem q_ok_126 : (q_chkM 126 && q_all 126 qc_126 qw_126) = true := by decide +kernel
set_option maxRecDepth 100000 in
theorem q_ok_127 : (q_chkM 127 && q_all 127 qc_127 qw_127) = true := by decide +kernel
set_option maxRecDepth 100000 in
theorem q_ok_128 : (q_chkM 128 && q_all 128 qc_128 qw_128) = true := by decide +kernel
set_option maxRecDepth 100000 in
theorem q_ok_129 : (q_chkM 129 && q_all 129 qc_129 qw_129) = true := by decide +kernel
set_option maxRecDepth 100000 in
theorem q_ok_130 : (q_chkM 130 && q_all 130 qc_130 qw_130) = true := by decide +kernel
set_option maxRecDepth 100000 in
theorem q_ok_131 : (q_chkM 131 && q_all 131 qc_131 qw_131) = true := by decide +kernel
set_option maxRecDepth 100000 in
theorem q_ok_132 : (q_chkM 132 && q_all 132 qc_132 qw_132) = true := by decide +kernel
set_option maxRecDepth 100000 in
theorem q_ok_133 : (q_chkM 133 && q_all 133 qc_133 qw_133) = true := by decide +kernel
set_option maxRecDepth 100000 in
theorem q_ok_134 : (q_chkM 134 && q_all 134 qc_134 qw_134) = true := by decide +kernel
set_option maxRecDepth 100000 in
theorem q_ok_135 : (q_chkM 135 && q_all 135 qc_135 qw_135) = true := by decide +kernel
set_option maxRecDepth 100000 in
theorem q_ok_136 : (q_chkM 136 && q_all 136 qc_136 qw_136) = true := by decide +kernel
set_option maxRecDepth 100000 in
theorem q_ok_137 : (q_chkM 137 && q_all 137 qc_137 qw_137) = true := by decide +kernel
set_option maxRecDepth 100000 in
theorem q_ok_138 : (q_chkM 138 && q_all 138 qc_138 qw_138) = true := by decide +kernel
set_option maxRecDepth 100000 in
theorem q_ok_139 : (q_chkM 139 && q_all 139 qc_139 qw_139) = true := by decide +kernel
set_option maxRecDepth 100000 in
theorem q_ok_140 : (q_chkM 140 && q_all 140 qc_140 qw_140) = true := by decide +kernel
set_option maxRecDepth 100000 in
theorem q_ok_141 : (q_chkM 141 && q_all 141 qc_141 qw_141) = true := by decide +kernel
set_option maxRecDepth 100000 in
theorem q_ok_142 : (q_chkM 142 && q_all 142 qc_142 qw_142) = true := by decide +kernel
set_option maxRecDepth 100000 in
theorem q_ok_143 : (q_chkM 143 && q_all 143 qc_143 qw_143) = true := by decide +kernel
set_option maxRecDepth 100000 in
theorem q_ok_144 : (q_chkM 144 && q_all 144 qc_144 qw_144) = true := by decide +kernel
set_option maxRecDepth 100000 in
theorem q_ok_145 : (q_chkM 145 && q_all 145 qc_145 qw_145) = true := by decide +kernel
set_option maxRecDepth 100000 in
theorem q_ok_146 : (q_chkM 146 && q_all 146 qc_146 qw_146) = true := by decide +kernel
set_option maxRecDepth 100000 in
theorem q_ok_147 : (q_chkM 147 && q_all 147 qc_147 qw_147) = true := by decide +kernel
set_option maxRecDepth 100000 in
theorem q_ok_148 : (q_chkM 148 && q_all 148 qc_148 qw_148) = true := by decide +kernel
set_option maxRecDepth 100000 in
theorem q_ok_149 : (q_chkM 149 && q_all 149 qc_149 qw_149) = true := by decide +kernel
set_option maxRecDepth 100000 in
theorem q_ok_150 : (q_chkM 150 && q_all 150 qc_150 qw_150) = true := by decide +kernel
set_option maxRecDepth 100000 in
theorem q_ok_151 : (q_chkM 151 && q_all 151 qc_151 qw_151) = true := by decide +kernel
set_option maxRecDepth 100000 in
theorem q_ok_152 : (q_chkM 152 && q_all 152 qc_152 qw_152) = true := by decide +kernel
set_option maxRecDepth 100000 in
theorem q_ok_153 : (q_chkM 153 && q_all 153 qc_153 qw_153) = true := by decide +kernel
set_option maxRecDepth 100000 in
theorem q_ok_154 : (q_chkM 154 && q_all 154 qc_154 qw_154) = true := by decide +kernel
set_option maxRecDepth 100000 in
theorem q_ok_155 : (q_chkM 155 && q_all 155 qc_155 qw_155) = true := by decide +kernel
set_option maxRecDepth 100000 in
theorem q_ok_156 : (q_chkM 156 && q_all 156 qc_156 qw_156) = true := by decide +kernel
set_option maxRecDepth 100000 in
theorem q_ok_157 : (q_chkM 157 && q_all 157 qc_157 qw_157) = true := by decide +kernel
set_option maxRecDepth 100000 in
theorem q_ok_158 : (q_chkM 158 && q_all 158 qc_158 qw_158) = true := by decide +kernel
set_option maxRecDepth 100000 in
theorem q_ok_159 : (q_chkM 159 && q_all 159 qc_159 qw_159) = true := by decide +kernel
set_option maxRecDepth 100000 in
theorem q_ok_160 : (q_chkM 160 && q_all 160 qc_160 qw_160) = true := by decide +kernel
set_option maxRecDepth 100000 in
theorem q_ok_161 : (q_chkM 161 && q_all 161 qc_161 qw_161) = true := by decide +kernel
set_option maxRecDepth 100000 in
theorem q_ok_162 : (q_chkM 162 && q_all 162 qc_162 qw_162) = true := by decide +kernel
set_option maxRecDepth 100000 in
theorem q_ok_163 : (q_chkM 163 && q_all 163 qc_163 qw_163) = true := by decide +kernel
set_option maxRecDepth 100000 in
theorem q_ok_164 : (q_chkM 164 && q_all 164 qc_164 qw_164) = true := by decide +kernel
set_option maxRecDepth 100000 in
theorem q_ok_165 : (q_chkM 165 && q_all 165 qc_165 qw_165) = true := by decide +kernel
set_option maxRecDepth 100000 in
theorem q_ok_166 : (q_chkM 166 && q_all 166 qc_166 qw_166) = true := by decide +kernel
set_option maxRecDepth 100000 in
theorem q_ok_167 : (q_chkM 167 && q_all 167 qc_167 qw_167) = true := by decide +kernel
set_option maxRecDepth 100000 in
theorem q_ok_168 : (q_chkM 168 && q_all 168 qc_168 qw_168) = true := by decide +kernel
set_option maxRecDepth 100000 in
theorem q_ok_169 : (q_chkM 169 && q_all 169 qc_169 qw_169) = true := by decide +kernel
set_option maxRecDepth 100000 in
theorem q_ok_170 : (q_chkM 170 && q_all 170 qc_170 qw_170) = true := by decide +kernel
set_option maxRecDepth 100000 in
theorem q_ok_171 : (q_chkM 171 && q_all 171 qc_171 qw_171) = true := by decide +kernel
set_option maxRecDepth 100000 in
theorem q_ok_172 : (q_chkM 172 && q_all 172 qc_172 qw_172) = true := by decide +kernel
set_option maxRecDepth 100000 in
theorem q_ok_173 : (q_chkM 173 && q_all 173 qc_173 qw_173) = true := by decide +kernel
set_option maxRecDepth 100000 in
theorem q_ok_174 : (q_chkM 174 && q_all 174 qc_174 qw_174) = true := by decide +kernel
set_option maxRecDepth 100000 in
theorem q_ok_175 : (q_chkM 175 && q_all 175 qc_175 qw_175) = true := by decide +kernel
set_option maxRecDepth 100000 in
theorem q_ok_176 : (q_chkM 176 && q_all 176 qc_176 qw_176) = true := by decide +kernel
set_option maxRecDepth 100000 in
theorem q_ok_177 : (q_chkM 177 && q_all 177 qc_177 qw_177) = true := by decide +kernel
set_option maxRecDepth 100000 in
theorem q_ok_178 : (q_chkM 178 && q_all 178 qc_178 qw_178) = true := by decide +kernel
set_option maxRecDepth 100000 in
theorem q_ok_179 : (q_chkM 179 && q_all 179 qc_179 qw_179) = true := by decide +kernel
set_option maxRecDepth 100000 in
theorem q_ok_180 : (q_chkM 180 && q_all 180 qc_180 qw_180) = true := by decide +kernel
set_option maxRecDepth 100000 in
theorem q_ok_181 : (q_chkM 181 && q_all 181 qc_181 qw_181) = true := by decide +kernel
set_option maxRecDepth 100000 in
theorem q_ok_182 : (q_chkM 182 && q_all 182 qc_182 qw_182) = true := by decide +kernel
