/-! the code is what the bytes say (by program) -/
set_option maxRecDepth 100000 in
theorem ck_128 : m_128.2.2.2.2.2.all (chkX m_128) = true := by decide +kernel
set_option maxRecDepth 100000 in
theorem ck_129 : m_129.2.2.2.2.2.all (chkX m_129) = true := by decide +kernel
set_option maxRecDepth 100000 in
theorem ck_130 : m_130.2.2.2.2.2.all (chkX m_130) = true := by decide +kernel
set_option maxRecDepth 100000 in
theorem ck_131 : m_131.2.2.2.2.2.all (chkX m_131) = true := by decide +kernel
set_option maxRecDepth 100000 in
theorem ck_132 : m_132.2.2.2.2.2.all (chkX m_132) = true := by decide +kernel
set_option maxRecDepth 100000 in
theorem ck_133 : m_133.2.2.2.2.2.all (chkX m_133) = true := by decide +kernel
set_option maxRecDepth 100000 in
theorem ck_134 : m_134.2.2.2.2.2.all (chkX m_134) = true := by decide +kernel
set_option maxRecDepth 100000 in
theorem ck_135 : m_135.2.2.2.2.2.all (chkX m_135) = true := by decide +kernel
set_option maxRecDepth 100000 in
theorem ck_136 : m_136.2.2.2.2.2.all (chkX m_136) = true := by decide +kernel
set_option maxRecDepth 100000 in
theorem ck_137 : m_137.2.2.2.2.2.all (chkX m_137) = true := by decide +kernel
set_option maxRecDepth 100000 in
theorem ck_138 : m_138.2.2.2.2.2.all (chkX m_138) = true := by decide +kernel
set_option maxRecDepth 100000 in
theorem ck_139 : m_139.2.2.2.2.2.all (chkX m_139) = true := by decide +kernel
set_option maxRecDepth 100000 in
theorem ck_140 : m_140.2.2.2.2.2.all (chkX m_140) = true := by decide +kernel
set_option maxRecDepth 100000 in
theorem ck_141 : m_141.2.2.2.2.2.all (chkX m_141) = true := by decide +kernel
set_option maxRecDepth 100000 in
theorem ck_142 : m_142.2.2.2.2.2.all (chkX m_142) = true := by decide +kernel
set_option maxRecDepth 100000 in
theorem ck_143 : m_143.2.2.2.2.2.all (chkX m_143) = true := by decide +kernel
set_option maxRecDepth 100000 in
theorem ck_144 : m_144.2.2.2.2.2.all (chkX m_144) = true := by decide +kernel
set_option maxRecDepth 100000 in
theorem ck_145 : m_145.2.2.2.2.2.all (chkX m_145) = true := by decide +kernel
set_option maxRecDepth 100000 in
theorem ck_146 : m_146.2.2.2.2.2.all (chkX m_146) = true := by decide +kernel
set_option maxRecDepth 100000 in
theorem ck_147 : m_147.2.2.2.2.2.all (chkX m_147) = true := by decide +kernel
set_option maxRecDepth 100000 in
theorem ck_148 : m_148.2.2.2.2.2.all (chkX m_148) = true := by decide +kernel
set_option maxRecDepth 100000 in
theorem ck_149 : m_149.2.2.2.2.2.all (chkX m_149) = true := by decide +kernel
set_option maxRecDepth 100000 in
theorem ck_150 : m_150.2.2.2.2.2.all (chkX m_150) = true := by decide +kernel
set_option maxRecDepth 100000 in
theorem ck_151 : m_151.2.2.2.2.2.all (chkX m_151) = true := by decide +kernel
set_option maxRecDepth 100000 in
theorem ck_152 : m_152.2.2.2.2.2.all (chkX m_152) = true := by decide +kernel
set_option maxRecDepth 100000 in
theorem ck_153 : m_153.2.2.2.2.2.all (chkX m_153) = true := by decide +kernel
set_option maxRecDepth 100000 in
theorem ck_154 : m_154.2.2.2.2.2.all (chkX m_154) = true := by decide +kernel
set_option maxRecDepth 100000 in
theorem ck_155 : m_155.2.2.2.2.2.all (chkX m_155) = true := by decide +kernel
set_option maxRecDepth 100000 in
theorem ck_156 : m_156.2.2.2.2.2.all (chkX m_156) = true := by decide +kernel
set_option maxRecDepth 100000 in
theorem ck_157 : m_157.2.2.2.2.2.all (chkX m_157) = true := by decide +kernel
set_option maxRecDepth 100000 in
theorem ck_158 : m_158.2.2.2.2.2.all (chkX m_158) = true := by decide +kernel
set_option maxRecDepth 100000 in
theorem ck_159 : m_159.2.2.2.2.2.all (chkX m_159) = true := by decide +kernel
set_option maxRecDepth 100000 in
theorem ck_160 : m_160.2.2.2.2.2.all (chkX m_160) = true := by decide +kernel
set_option maxRecDepth 100000 in
theorem ck_161 : m_161.2.2.2.2.2.all (chkX m_161) = true := by decide +kernel
set_option maxRecDepth 100000 in
theorem ck_162 : m_162.2.2.2.2.2.all (chkX m_162) = true := by decide +kernel
set_option maxRecDepth 100000 in
theorem ck_163 : m_163.2.2.2.2.2.all (chkX m_163) = true := by decide +kernel
set_option maxRecDepth 100000 in
theorem ck_164 : m_164.2.2.2.2.2.all (chkX m_164) = true := by decide +kernel
set_option maxRecDepth 100000 in
theorem ck_165 : m_165.2.2.2.2.2.all (chkX m_165) = true := by decide +kernel
set_option maxRecDepth 100000 in
theorem ck_166 : m_166.2.2.2.2.2.all (chkX m_166) = true := by decide +kernel
set_option maxRecDepth 100000 in
theorem ck_167 : m_167.2.2.2.2.2.all (chkX m_167) = true := by decide +kernel
set_option maxRecDepth 100000 in
theorem ck_168 : m_168.2.2.2.2.2.all (chkX m_168) = true := by decide +kernel
