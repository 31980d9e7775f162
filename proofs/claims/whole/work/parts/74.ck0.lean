/-! the code is what the bytes say (by program) -/
set_option maxRecDepth 100000 in
theorem ck_0 : m_0.2.2.2.2.2.all (chkX m_0) = true := by decide +kernel
set_option maxRecDepth 100000 in
theorem ck_1 : m_1.2.2.2.2.2.all (chkX m_1) = true := by decide +kernel
set_option maxRecDepth 100000 in
theorem ck_2 : m_2.2.2.2.2.2.all (chkX m_2) = true := by decide +kernel
set_option maxRecDepth 100000 in
theorem ck_3 : m_3.2.2.2.2.2.all (chkX m_3) = true := by decide +kernel
set_option maxRecDepth 100000 in
theorem ck_4 : m_4.2.2.2.2.2.all (chkX m_4) = true := by decide +kernel
set_option maxRecDepth 100000 in
theorem ck_5 : m_5.2.2.2.2.2.all (chkX m_5) = true := by decide +kernel
set_option maxRecDepth 100000 in
theorem ck_6 : m_6.2.2.2.2.2.all (chkX m_6) = true := by decide +kernel
set_option maxRecDepth 100000 in
theorem ck_7 : m_7.2.2.2.2.2.all (chkX m_7) = true := by decide +kernel
set_option maxRecDepth 100000 in
theorem ck_8 : m_8.2.2.2.2.2.all (chkX m_8) = true := by decide +kernel
set_option maxRecDepth 100000 in
theorem ck_9 : m_9.2.2.2.2.2.all (chkX m_9) = true := by decide +kernel
set_option maxRecDepth 100000 in
theorem ck_10 : m_10.2.2.2.2.2.all (chkX m_10) = true := by decide +kernel
set_option maxRecDepth 100000 in
theorem ck_11 : m_11.2.2.2.2.2.all (chkX m_11) = true := by decide +kernel
set_option maxRecDepth 100000 in
theorem ck_12 : m_12.2.2.2.2.2.all (chkX m_12) = true := by decide +kernel
set_option maxRecDepth 100000 in
theorem ck_13 : m_13.2.2.2.2.2.all (chkX m_13) = true := by decide +kernel
set_option maxRecDepth 100000 in
theorem ck_14 : m_14.2.2.2.2.2.all (chkX m_14) = true := by decide +kernel
set_option maxRecDepth 100000 in
theorem ck_15 : m_15.2.2.2.2.2.all (chkX m_15) = true := by decide +kernel
set_option maxRecDepth 100000 in
theorem ck_16 : m_16.2.2.2.2.2.all (chkX m_16) = true := by decide +kernel
set_option maxRecDepth 100000 in
theorem ck_17 : m_17.2.2.2.2.2.all (chkX m_17) = true := by decide +kernel
set_option maxRecDepth 100000 in
theorem ck_18 : m_18.2.2.2.2.2.all (chkX m_18) = true := by decide +kernel
set_option maxRecDepth 100000 in
theorem ck_19 : m_19.2.2.2.2.2.all (chkX m_19) = true := by decide +kernel
set_option maxRecDepth 100000 in
theorem ck_20 : m_20.2.2.2.2.2.all (chkX m_20) = true := by decide +kernel
set_option maxRecDepth 100000 in
theorem ck_21 : m_21.2.2.2.2.2.all (chkX m_21) = true := by decide +kernel
set_option maxRecDepth 100000 in
theorem ck_22 : m_22.2.2.2.2.2.all (chkX m_22) = true := by decide +kernel
set_option maxRecDepth 100000 in
theorem ck_23 : m_23.2.2.2.2.2.all (chkX m_23) = true := by decide +kernel
set_option maxRecDepth 100000 in
theorem ck_24 : m_24.2.2.2.2.2.all (chkX m_24) = true := by decide +kernel
set_option maxRecDepth 100000 in
theorem ck_25 : m_25.2.2.2.2.2.all (chkX m_25) = true := by decide +kernel
set_option maxRecDepth 100000 in
theorem ck_26 : m_26.2.2.2.2.2.all (chkX m_26) = true := by decide +kernel
set_option maxRecDepth 100000 in
theorem ck_27 : m_27.2.2.2.2.2.all (chkX m_27) = true := by decide +kernel
set_option maxRecDepth 100000 in
theorem ck_28 : m_28.2.2.2.2.2.all (chkX m_28) = true := by decide +kernel
set_option maxRecDepth 100000 in
theorem ck_29 : m_29.2.2.2.2.2.all (chkX m_29) = true := by decide +kernel
set_option maxRecDepth 100000 in
theorem ck_30 : m_30.2.2.2.2.2.all (chkX m_30) = true := by decide +kernel
set_option maxRecDepth 100000 in
theorem ck_31 : m_31.2.2.2.2.2.all (chkX m_31) = true := by decide +kernel
set_option maxRecDepth 100000 in
theorem ck_32 : m_32.2.2.2.2.2.all (chkX m_32) = true := by decide +kernel
set_option maxRecDepth 100000 in
theorem ck_33 : m_33.2.2.2.2.2.all (chkX m_33) = true := by decide +kernel
set_option maxRecDepth 100000 in
theorem ck_34 : m_34.2.2.2.2.2.all (chkX m_34) = true := by decide +kernel
set_option maxRecDepth 100000 in
theorem ck_35 : m_35.2.2.2.2.2.all (chkX m_35) = true := by decide +kernel
set_option maxRecDepth 100000 in
theorem ck_36 : m_36.2.2.2.2.2.all (chkX m_36) = true := by decide +kernel
set_option maxRecDepth 100000 in
theorem ck_37 : m_37.2.2.2.2.2.all (chkX m_37) = true := by decide +kernel
set_option maxRecDepth 100000 in
theorem ck_38 : m_38.2.2.2.2.2.all (chkX m_38) = true := by decide +kernel
set_option maxRecDepth 100000 in
theorem ck_39 : m_39.2.2.2.2.2.all (chkX m_39) = true := by decide +kernel
set_option maxRecDepth 100000 in
theorem ck_40 : m_40.2.2.2.2.2.all (chkX m_40) = true := by decide +kernel
set_option maxRecDepth 100000 in
theorem ck_41 : m_41.2.2.2.2.2.all (chkX m_41) = true := by decide +kernel
set_option maxRecDepth 100000 in
theorem ck_42 : m_42.2.2.2.2.2.all (chkX m_42) = true := by decide +kernel
set_option maxRecDepth 100000 in
theorem ck_43 : m_43.2.2.2.2.2.all (chkX m_43) = true := by decide +kernel
