/-! the code is what the bytes say (by program) -/
set_option maxRecDepth 100000 in
theorem ck_44 : m_44.2.2.2.2.2.all (chkX m_44) = true := by decide +kernel
set_option maxRecDepth 100000 in
theorem ck_45 : m_45.2.2.2.2.2.all (chkX m_45) = true := by decide +kernel
set_option maxRecDepth 100000 in
theorem ck_46 : m_46.2.2.2.2.2.all (chkX m_46) = true := by decide +kernel
set_option maxRecDepth 100000 in
theorem ck_47 : m_47.2.2.2.2.2.all (chkX m_47) = true := by decide +kernel
set_option maxRecDepth 100000 in
theorem ck_48 : m_48.2.2.2.2.2.all (chkX m_48) = true := by decide +kernel
set_option maxRecDepth 100000 in
theorem ck_49 : m_49.2.2.2.2.2.all (chkX m_49) = true := by decide +kernel
set_option maxRecDepth 100000 in
theorem ck_50 : m_50.2.2.2.2.2.all (chkX m_50) = true := by decide +kernel
set_option maxRecDepth 100000 in
theorem ck_51 : m_51.2.2.2.2.2.all (chkX m_51) = true := by decide +kernel
set_option maxRecDepth 100000 in
theorem ck_52 : m_52.2.2.2.2.2.all (chkX m_52) = true := by decide +kernel
set_option maxRecDepth 100000 in
theorem ck_53 : m_53.2.2.2.2.2.all (chkX m_53) = true := by decide +kernel
set_option maxRecDepth 100000 in
theorem ck_54 : m_54.2.2.2.2.2.all (chkX m_54) = true := by decide +kernel
set_option maxRecDepth 100000 in
theorem ck_55 : m_55.2.2.2.2.2.all (chkX m_55) = true := by decide +kernel
set_option maxRecDepth 100000 in
theorem ck_56 : m_56.2.2.2.2.2.all (chkX m_56) = true := by decide +kernel
set_option maxRecDepth 100000 in
theorem ck_57 : m_57.2.2.2.2.2.all (chkX m_57) = true := by decide +kernel
set_option maxRecDepth 100000 in
theorem ck_58 : m_58.2.2.2.2.2.all (chkX m_58) = true := by decide +kernel
set_option maxRecDepth 100000 in
theorem ck_59 : m_59.2.2.2.2.2.all (chkX m_59) = true := by decide +kernel
set_option maxRecDepth 100000 in
theorem ck_60 : m_60.2.2.2.2.2.all (chkX m_60) = true := by decide +kernel
set_option maxRecDepth 100000 in
theorem ck_61 : m_61.2.2.2.2.2.all (chkX m_61) = true := by decide +kernel
set_option maxRecDepth 100000 in
theorem ck_62 : m_62.2.2.2.2.2.all (chkX m_62) = true := by decide +kernel
set_option maxRecDepth 100000 in
theorem ck_63 : m_63.2.2.2.2.2.all (chkX m_63) = true := by decide +kernel
set_option maxRecDepth 100000 in
theorem ck_64 : m_64.2.2.2.2.2.all (chkX m_64) = true := by decide +kernel
set_option maxRecDepth 100000 in
theorem ck_65 : m_65.2.2.2.2.2.all (chkX m_65) = true := by decide +kernel
set_option maxRecDepth 100000 in
theorem ck_66 : m_66.2.2.2.2.2.all (chkX m_66) = true := by decide +kernel
set_option maxRecDepth 100000 in
theorem ck_67 : m_67.2.2.2.2.2.all (chkX m_67) = true := by decide +kernel
set_option maxRecDepth 100000 in
theorem ck_68 : m_68.2.2.2.2.2.all (chkX m_68) = true := by decide +kernel
set_option maxRecDepth 100000 in
theorem ck_69 : m_69.2.2.2.2.2.all (chkX m_69) = true := by decide +kernel
set_option maxRecDepth 100000 in
theorem ck_70 : m_70.2.2.2.2.2.all (chkX m_70) = true := by decide +kernel
set_option maxRecDepth 100000 in
theorem ck_71 : m_71.2.2.2.2.2.all (chkX m_71) = true := by decide +kernel
set_option maxRecDepth 100000 in
theorem ck_72 : m_72.2.2.2.2.2.all (chkX m_72) = true := by decide +kernel
set_option maxRecDepth 100000 in
theorem ck_73 : m_73.2.2.2.2.2.all (chkX m_73) = true := by decide +kernel
set_option maxRecDepth 100000 in
theorem ck_74 : m_74.2.2.2.2.2.all (chkX m_74) = true := by decide +kernel
set_option maxRecDepth 100000 in
theorem ck_75 : m_75.2.2.2.2.2.all (chkX m_75) = true := by decide +kernel
set_option maxRecDepth 100000 in
theorem ck_76 : m_76.2.2.2.2.2.all (chkX m_76) = true := by decide +kernel
set_option maxRecDepth 100000 in
theorem ck_77 : m_77.2.2.2.2.2.all (chkX m_77) = true := by decide +kernel
set_option maxRecDepth 100000 in
theorem ck_78 : m_78.2.2.2.2.2.all (chkX m_78) = true := by decide +kernel
set_option maxRecDepth 100000 in
theorem ck_79 : m_79.2.2.2.2.2.all (chkX m_79) = true := by decide +kernel
set_option maxRecDepth 100000 in
theorem ck_80 : m_80.2.2.2.2.2.all (chkX m_80) = true := by decide +kernel
set_option maxRecDepth 100000 in
theorem ck_81 : m_81.2.2.2.2.2.all (chkX m_81) = true := by decide +kernel
set_option maxRecDepth 100000 in
theorem ck_82 : m_82.2.2.2.2.2.all (chkX m_82) = true := by decide +kernel
set_option maxRecDepth 100000 in
theorem ck_83 : m_83.2.2.2.2.2.all (chkX m_83) = true := by decide +kernel
