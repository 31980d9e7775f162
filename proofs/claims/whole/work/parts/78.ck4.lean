/-! the code is what the bytes say (by program) -/
set_option maxRecDepth 100000 in
theorem ck_169 : m_169.2.2.2.2.2.all (chkX m_169) = true := by decide +kernel
set_option maxRecDepth 100000 in
theorem ck_170 : m_170.2.2.2.2.2.all (chkX m_170) = true := by decide +kernel
set_option maxRecDepth 100000 in
theorem ck_171 : m_171.2.2.2.2.2.all (chkX m_171) = true := by decide +kernel
set_option maxRecDepth 100000 in
theorem ck_172 : m_172.2.2.2.2.2.all (chkX m_172) = true := by decide +kernel
set_option maxRecDepth 100000 in
theorem ck_173 : m_173.2.2.2.2.2.all (chkX m_173) = true := by decide +kernel
set_option maxRecDepth 100000 in
theorem ck_174 : m_174.2.2.2.2.2.all (chkX m_174) = true := by decide +kernel
set_option maxRecDepth 100000 in
theorem ck_175 : m_175.2.2.2.2.2.all (chkX m_175) = true := by decide +kernel
set_option maxRecDepth 100000 in
theorem ck_176 : m_176.2.2.2.2.2.all (chkX m_176) = true := by decide +kernel
set_option maxRecDepth 100000 in
theorem ck_177 : m_177.2.2.2.2.2.all (chkX m_177) = true := by decide +kernel
set_option maxRecDepth 100000 in
theorem ck_178 : m_178.2.2.2.2.2.all (chkX m_178) = true := by decide +kernel
set_option maxRecDepth 100000 in
theorem ck_179 : m_179.2.2.2.2.2.all (chkX m_179) = true := by decide +kernel
set_option maxRecDepth 100000 in
theorem ck_180 : m_180.2.2.2.2.2.all (chkX m_180) = true := by decide +kernel
set_option maxRecDepth 100000 in
theorem ck_181 : m_181.2.2.2.2.2.all (chkX m_181) = true := by decide +kernel
set_option maxRecDepth 100000 in
theorem ck_182 : m_182.2.2.2.2.2.all (chkX m_182) = true := by decide +kernel
set_option maxRecDepth 100000 in
theorem ck_183 : m_183.2.2.2.2.2.all (chkX m_183) = true := by decide +kernel
set_option maxRecDepth 100000 in
theorem ck_184 : m_184.2.2.2.2.2.all (chkX m_184) = true := by decide +kernel
set_option maxRecDepth 100000 in
theorem ck_185 : m_185.2.2.2.2.2.all (chkX m_185) = true := by decide +kernel
set_option maxRecDepth 100000 in
theorem ck_186 : m_186.2.2.2.2.2.all (chkX m_186) = true := by decide +kernel
set_option maxRecDepth 100000 in
theorem ck_187 : m_187.2.2.2.2.2.all (chkX m_187) = true := by decide +kernel
set_option maxRecDepth 100000 in
theorem ck_188 : m_188.2.2.2.2.2.all (chkX m_188) = true := by decide +kernel
set_option maxRecDepth 100000 in
theorem ck_189 : m_189.2.2.2.2.2.all (chkX m_189) = true := by decide +kernel
set_option maxRecDepth 100000 in
theorem ck_190 : m_190.2.2.2.2.2.all (chkX m_190) = true := by decide +kernel
set_option maxRecDepth 100000 in
theorem ck_191 : m_191.2.2.2.2.2.all (chkX m_191) = true := by decide +kernel
set_option maxRecDepth 100000 in
theorem ck_192 : m_192.2.2.2.2.2.all (chkX m_192) = true := by decide +kernel
set_option maxRecDepth 100000 in
theorem ck_193 : m_193.2.2.2.2.2.all (chkX m_193) = true := by decide +kernel
set_option maxRecDepth 100000 in
theorem ck_194 : m_194.2.2.2.2.2.all (chkX m_194) = true := by decide +kernel
set_option maxRecDepth 100000 in
theorem ck_195 : m_195.2.2.2.2.2.all (chkX m_195) = true := by decide +kernel
set_option maxRecDepth 100000 in
theorem ck_196 : m_196.2.2.2.2.2.all (chkX m_196) = true := by decide +kernel
set_option maxRecDepth 100000 in
theorem ck_197 : m_197.2.2.2.2.2.all (chkX m_197) = true := by decide +kernel
set_option maxRecDepth 100000 in
theorem ck_198 : m_198.2.2.2.2.2.all (chkX m_198) = true := by decide +kernel
set_option maxRecDepth 100000 in
theorem ck_199 : m_199.2.2.2.2.2.all (chkX m_199) = true := by decide +kernel
set_option maxRecDepth 100000 in
theorem ck_200 : m_200.2.2.2.2.2.all (chkX m_200) = true := by decide +kernel
set_option maxRecDepth 100000 in
theorem ck_201 : m_201.2.2.2.2.2.all (chkX m_201) = true := by decide +kernel
set_option maxRecDepth 100000 in
theorem ck_202 : m_202.2.2.2.2.2.all (chkX m_202) = true := by decide +kernel
set_option maxRecDepth 100000 in
theorem ck_203 : m_203.2.2.2.2.2.all (chkX m_203) = true := by decide +kernel
set_option maxRecDepth 100000 in
theorem ck_204 : m_204.2.2.2.2.2.all (chkX m_204) = true := by decide +kernel
set_option maxRecDepth 100000 in
theorem ck_205 : m_205.2.2.2.2.2.all (chkX m_205) = true := by decide +kernel
set_option maxRecDepth 100000 in
theorem ck_206 : m_206.2.2.2.2.2.all (chkX m_206) = true := by decide +kernel
set_option maxRecDepth 100000 in
theorem ck_207 : m_207.2.2.2.2.2.all (chkX m_207) = true := by decide +kernel
set_option maxRecDepth 100000 in
theorem ck_208 : m_208.2.2.2.2.2.all (chkX m_208) = true := by decide +kernel
