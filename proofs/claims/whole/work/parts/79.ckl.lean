/-! the code is what the bytes say: the law (by program) -/
set_option maxRecDepth 100000 in
theorem ckl_0 : lawc_0.all (chkX m_209) = true := by decide +kernel
set_option maxRecDepth 100000 in
theorem ckl_1 : lawc_1.all (chkX m_209) = true := by decide +kernel
set_option maxRecDepth 100000 in
theorem ckl_2 : lawc_2.all (chkX m_209) = true := by decide +kernel
set_option maxRecDepth 100000 in
theorem ckl_3 : lawc_3.all (chkX m_209) = true := by decide +kernel
set_option maxRecDepth 100000 in
theorem ckl_4 : lawc_4.all (chkX m_209) = true := by decide +kernel
set_option maxRecDepth 100000 in
theorem ckl_5 : lawc_5.all (chkX m_209) = true := by decide +kernel
set_option maxRecDepth 100000 in
theorem ckl_6 : lawc_6.all (chkX m_209) = true := by decide +kernel
