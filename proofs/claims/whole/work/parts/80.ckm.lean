/-! the code is what the bytes say: the law (by program) -/
set_option maxRecDepth 100000 in
theorem ckl_7 : lawc_7.all (chkX m_209) = true := by decide +kernel
set_option maxRecDepth 100000 in
theorem ckl_8 : lawc_8.all (chkX m_209) = true := by decide +kernel
set_option maxRecDepth 100000 in
theorem ckl_9 : lawc_9.all (chkX m_209) = true := by decide +kernel
set_option maxRecDepth 100000 in
theorem ckl_10 : lawc_10.all (chkX m_209) = true := by decide +kernel
set_option maxRecDepth 100000 in
theorem ckl_11 : lawc_11.all (chkX m_209) = true := by decide +kernel
set_option maxRecDepth 100000 in
theorem ckl_12 : lawc_12.all (chkX m_209) = true := by decide +kernel
set_option maxRecDepth 100000 in
theorem ckl_13 : lawc_13.all (chkX m_209) = true := by decide +kernel
