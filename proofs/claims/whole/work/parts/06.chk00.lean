/-! The words of the entries. -/
set_option maxRecDepth 100000 in
theorem q_ok_0 : (q_chkM 0 && q_all 0 qc_0 qw_0) = true := by decide +kernel
set_option maxRecDepth 100000 in
theorem q_ok_1 : (q_chkM 1 && q_all 1 qc_1 qw_1) = true := by decide +kernel
set_option maxRecDepth 100000 in
theorem q_ok_2 : (q_chkM 2 && q_all 2 qc_2 qw_2) = true := by decide +kernel
set_option maxRecDepth 100000 in
theorem q_ok_3 : (q_chkM 3 && q_all 3 qc_3 qw_3) = true := by decide +kernel
set_option maxRecDepth 100000 in
theorem q_ok_4 : (q_chkM 4 && q_all 4 qc_4 qw_4) = true := by decide +kernel
set_option maxRecDepth 100000 in
theorem q_ok_5 : (q_chkM 5 && q_all 5 qc_5 qw_5) = true := by decide +kernel
set_option maxRecDepth 100000 in
theorem q_ok_6 : (q_chkM 6 && q_all 6 qc_6 qw_6) = true := by decide +kernel
set_option maxRecDepth 100000 in
theorem q_ok_7 : (q_chkM 7 && q_all 7 qc_7 qw_7) = true := by decide +kernel
set_option maxRecDepth 100000 in
theorem q_ok_8 : (q_chkM 8 && q_all 8 qc_8 qw_8) = true := by decide +kernel
set_option maxRecDepth 100000 in
theorem q_ok_9 : (q_chkM 9 && q_all 9 qc_9 qw_9) = true := by decide +kernel
set_option maxRecDepth 100000 in
theorem q_ok_10 : (q_chkM 10 && q_all 10 qc_10 qw_10) = true := by decide +kernel
set_option maxRecDepth 100000 in
theorem q_ok_11 : (q_chkM 11 && q_all 11 qc_11 qw_11) = true := by decide +kernel
set_option maxRecDepth 100000 in
theorem q_ok_12 : (q_chkM 12 && q_all 12 qc_12 qw_12) = true := by decide +kernel
set_option maxRecDepth 100000 in
theorem q_ok_13 : (q_chkM 13 && q_all 13 qc_13 qw_13) = true := by decide +kernel
set_option maxRecDepth 100000 in
theorem q_ok_14 : (q_chkM 14 && q_all 14 qc_14 qw_14) = true := by decide +kernel
set_option maxRecDepth 100000 in
theorem q_ok_15 : (q_chkM 15 && q_all 15 qc_15 qw_15) = true := by decide +kernel
set_option maxRecDepth 100000 in
theorem q_ok_16 : (q_chkM 16 && q_all 16 qc_16 qw_16) = true := by decide +kernel
set_option maxRecDepth 100000 in
theorem q_ok_17 : (q_chkM 17 && q_all 17 qc_17 qw_17) = true := by decide +kernel
set_option maxRecDepth 100000 in
theorem q_ok_18 : (q_chkM 18 && q_all 18 qc_18 qw_18) = true := by decide +kernel
set_option maxRecDepth 100000 in
theorem q_ok_19 : (q_chkM 19 && q_all 19 qc_19 qw_19) = true := by decide +kernel
set_option maxRecDepth 100000 in
theorem q_ok_20 : (q_chkM 20 && q_all 20 qc_20 qw_20) = true := by decide +kernel
set_option maxRecDepth 100000 in
theorem q_ok_21 : (q_chkM 21 && q_all 21 qc_21 qw_21) = true := by decide +kernel
set_option maxRecDepth 100000 in
theorem q_ok_22 : (q_chkM 22 && q_all 22 qc_22 qw_22) = true := by decide +kernel
set_option maxRecDepth 100000 in
theorem q_ok_23 : (q_chkM 23 && q_all 23 qc_23 qw_23) = true := by decide +kernel
set_option maxRecDepth 100000 in
theorem q_ok_24 : (q_chkM 24 && q_all 24 qc_24 qw_24) = true := by decide +kernel
set_option maxRecDepth 100000 in
theorem q_ok_25 : (q_chkM 25 && q_all 25 qc_25 qw_25) = true := by decide +kernel
set_option maxRecDepth 100000 in
theorem q_ok_26 : (q_chkM 26 && q_all 26 qc_26 qw_26) = true := by decide +kernel
set_option maxRecDepth 100000 in
theorem q_ok_27 : (q_chkM 27 && q_all 27 qc_27 qw_27) = true := by decide +kernel
set_option maxRecDepth 100000 in
theorem q_ok_28 : (q_chkM 28 && q_all 28 qc_28 qw_28) = true := by decide +kernel
set_option maxRecDepth 100000 in
theorem q_ok_29 : (q_chkM 29 && q_all 29 qc_29 qw_29) = true := by decide +kernel
set_option maxRecDepth 100000 in
theorem q_ok_30 : (q_chkM 30 && q_all 30 qc_30 qw_30) = true := by decide +kernel
set_option maxRecDepth 100000 in
theorem q_ok_31 : (q_chkM 31 && q_all 31 qc_31 qw_31) = true := by decide +kernel
set_option maxRecDepth 100000 in
theorem q_ok_32 : (q_chkM 32 && q_all 32 qc_32 qw_32) = true := by decide +kernel
set_option maxRecDepth 100000 in
theorem q_ok_33 : (q_chkM 33 && q_all 33 qc_33 qw_33) = true := by decide +kernel
set_option maxRecDepth 100000 in
theorem q_ok_34 : (q_chkM 34 && q_all 34 qc_34 qw_34) = true := by decide +kernel
set_option maxRecDepth 100000 in
theorem q_ok_35 : (q_chkM 35 && q_all 35 qc_35 qw_35) = true := by decide +kernel
set_option maxRecDepth 100000 in
theorem q_ok_36 : (q_chkM 36 && q_all 36 qc_36 qw_36) = true := by decide +kernel
set_option maxRecDepth 100000 in
theorem q_ok_37 : (q_chkM 37 && q_all 37 qc_37 qw_37) = true := by decide +kernel
set_option maxRecDepth 100000 in
theorem q_ok_38 : (q_chkM 38 && q_all 38 qc_38 qw_38) = true := by decide +kernel
set_option maxRecDepth 100000 in
theorem q_ok_39 : (q_chkM 39 && q_all 39 qc_39 qw_39) = true := by decide +kernel
set_option maxRecDepth 100000 in
theorem q_ok_40 : (q_chkM 40 && q_all 40 qc_40 qw_40) = true := by decide +kernel
set_option maxRecDepth 100000 in
theorem q_ok_41 : (q_chkM 41 && q_all 41 qc_41 qw_41) = true := by decide +kernel
set_option maxRecDepth 100000 in
theorem q_ok_42 : (q_chkM 42 && q_all 42 qc_42 qw_42) = true := by decide +kernel
set_option maxRecDepth 100000 in
theorem q_ok_43 : (q_chkM 43 && q_all 43 qc_43 qw_43) = true := by decide +kernel
set_option maxRecDepth 100000 in
theorem q_ok_44 : (q_chkM 44 && q_all 44 qc_44 qw_44) = true := by decide +kernel
set_option maxRecDepth 100000 in
theorem q_ok_45 : (q_chkM 45 && q_all 45 qc_45 qw_45) = true := by decide +kernel
set_option maxRecDepth 100000 in
theorem q_ok_46 : (q_chkM 46 && q_all 46 qc_46 qw_46) = true := by decide +kernel
set_option maxRecDepth 100000 in
theorem q_ok_47 : (q_chkM 47 && q_all 47 qc_47 qw_47) = true := by decide +kernel
set_option maxRecDepth 100000 in
theorem q_ok_48 : (q_chkM 48 && q_all 48 qc_48 qw_48) = true := by decide +kernel
set_option maxRecDepth 100000 in
theorem q_ok_49 : (q_chkM 49 && q_all 49 qc_49 qw_49) = true := by decide +kernel
