/-! the code is what the bytes say (by program) -/
set_option maxRecDepth 100000 in
theorem ck_84 : m_84.2.2.2.2.2.all (chkX m_84) = true := by decide +kernel
set_option maxRecDepth 100000 in
theorem ck_85 : m_85.2.2.2.2.2.all (chkX m_85) = true := by decide +kernel
set_option maxRecDepth 100000 in
theorem ck_86 : m_86.2.2.2.2.2.all (chkX m_86) = true := by decide +kernel
set_option maxRecDepth 100000 in
theorem ck_87 : m_87.2.2.2.2.2.all (chkX m_87) = true := by decide +kernel
set_option maxRecDepth 100000 in
theorem ck_88 : m_88.2.2.2.2.2.all (chkX m_88) = true := by decide +kernel
set_option maxRecDepth 100000 in
theorem ck_89 : m_89.2.2.2.2.2.all (chkX m_89) = true := by decide +kernel
set_option maxRecDepth 100000 in
theorem ck_90 : m_90.2.2.2.2.2.all (chkX m_90) = true := by decide +kernel
set_option maxRecDepth 100000 in
theorem ck_91 : m_91.2.2.2.2.2.all (chkX m_91) = true := by decide +kernel
set_option maxRecDepth 100000 in
theorem ck_92 : m_92.2.2.2.2.2.all (chkX m_92) = true := by decide +kernel
set_option maxRecDepth 100000 in
theorem ck_93 : m_93.2.2.2.2.2.all (chkX m_93) = true := by decide +kernel
set_option maxRecDepth 100000 in
theorem ck_94 : m_94.2.2.2.2.2.all (chkX m_94) = true := by decide +kernel
set_option maxRecDepth 100000 in
theorem ck_95 : m_95.2.2.2.2.2.all (chkX m_95) = true := by decide +kernel
set_option maxRecDepth 100000 in
theorem ck_96 : m_96.2.2.2.2.2.all (chkX m_96) = true := by decide +kernel
set_option maxRecDepth 100000 in
theorem ck_97 : m_97.2.2.2.2.2.all (chkX m_97) = true := by decide +kernel
set_option maxRecDepth 100000 in
theorem ck_98 : m_98.2.2.2.2.2.all (chkX m_98) = true := by decide +kernel
set_option maxRecDepth 100000 in
theorem ck_99 : m_99.2.2.2.2.2.all (chkX m_99) = true := by decide +kernel
set_option maxRecDepth 100000 in
theorem ck_100 : m_100.2.2.2.2.2.all (chkX m_100) = true := by decide +kernel
set_option maxRecDepth 100000 in
theorem ck_101 : m_101.2.2.2.2.2.all (chkX m_101) = true := by decide +kernel
set_option maxRecDepth 100000 in
theorem ck_102 : m_102.2.2.2.2.2.all (chkX m_102) = true := by decide +kernel
set_option maxRecDepth 100000 in
theorem ck_103 : m_103.2.2.2.2.2.all (chkX m_103) = true := by decide +kernel
set_option maxRecDepth 100000 in
theorem ck_104 : m_104.2.2.2.2.2.all (chkX m_104) = true := by decide +kernel
set_option maxRecDepth 100000 in
theorem ck_105 : m_105.2.2.2.2.2.all (chkX m_105) = true := by decide +kernel
set_option maxRecDepth 100000 in
theorem ck_106 : m_106.2.2.2.2.2.all (chkX m_106) = true := by decide +kernel
set_option maxRecDepth 100000 in
theorem ck_107 : m_107.2.2.2.2.2.all (chkX m_107) = true := by decide +kernel
set_option maxRecDepth 100000 in
theorem ck_108 : m_108.2.2.2.2.2.all (chkX m_108) = true := by decide +kernel
set_option maxRecDepth 100000 in
theorem ck_109 : m_109.2.2.2.2.2.all (chkX m_109) = true := by decide +kernel
set_option maxRecDepth 100000 in
theorem ck_110 : m_110.2.2.2.2.2.all (chkX m_110) = true := by decide +kernel
set_option maxRecDepth 100000 in
theorem ck_111 : m_111.2.2.2.2.2.all (chkX m_111) = true := by decide +kernel
set_option maxRecDepth 100000 in
theorem ck_112 : m_112.2.2.2.2.2.all (chkX m_112) = true := by decide +kernel
set_option maxRecDepth 100000 in
theorem ck_113 : m_113.2.2.2.2.2.all (chkX m_113) = true := by decide +kernel
set_option maxRecDepth 100000 in
theorem ck_114 : m_114.2.2.2.2.2.all (chkX m_114) = true := by decide +kernel
set_option maxRecDepth 100000 in
theorem ck_115 : m_115.2.2.2.2.2.all (chkX m_115) = true := by decide +kernel
set_option maxRecDepth 100000 in
theorem ck_116 : m_116.2.2.2.2.2.all (chkX m_116) = true := by decide +kernel
set_option maxRecDepth 100000 in
theorem ck_117 : m_117.2.2.2.2.2.all (chkX m_117) = true := by decide +kernel
set_option maxRecDepth 100000 in
theorem ck_118 : m_118.2.2.2.2.2.all (chkX m_118) = true := by decide +kernel
set_option maxRecDepth 100000 in
theorem ck_119 : m_119.2.2.2.2.2.all (chkX m_119) = true := by decide +kernel
set_option maxRecDepth 100000 in
theorem ck_120 : m_120.2.2.2.2.2.all (chkX m_120) = true := by decide +kernel
set_option maxRecDepth 100000 in
theorem ck_121 : m_121.2.2.2.2.2.all (chkX m_121) = true := by decide +kernel
set_option maxRecDepth 100000 in
theorem ck_122 : m_122.2.2.2.2.2.all (chkX m_122) = true := by decide +kernel
set_option maxRecDepth 100000 in
theorem ck_123 : m_123.2.2.2.2.2.all (chkX m_123) = true := by decide +kernel
set_option maxRecDepth 100000 in
theorem ck_124 : m_124.2.2.2.2.2.all (chkX m_124) = true := by decide +kernel
set_option maxRecDepth 100000 in
theorem ck_125 : m_125.2.2.2.2.2.all (chkX m_125) = true := by decide +kernel
set_option maxRecDepth 100000 in
theorem ck_126 : m_126.2.2.2.2.2.all (chkX m_126) = true := by decide +kernel
set_option maxRecDepth 100000 in
theorem ck_127 : m_127.2.2.2.2.2.all (chkX m_127) = true := by decide +kernel
