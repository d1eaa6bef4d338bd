/-! The words of the entries. -/
set_option maxRecDepth 100000 in
theorem q_ok_50 : (q_chkM 50 && q_all 50 qc_50 qw_50) = true := by decide +kernel
set_option maxRecDepth 100000 in
theorem q_ok_51 : (q_chkM 51 && q_all 51 qc_51 qw_51) = true := by decide +kernel
set_option maxRecDepth 100000 in
theorem q_ok_52 : (q_chkM 52 && q_all 52 qc_52 qw_52) = true := by decide +kernel
set_option maxRecDepth 100000 in
theorem q_ok_53 : (q_chkM 53 && q_all 53 qc_53 qw_53) = true := by decide +kernel
set_option maxRecDepth 100000 in
theorem q_ok_54 : (q_chkM 54 && q_all 54 qc_54 qw_54) = true := by decide +kernel
set_option maxRecDepth 100000 in
theorem q_ok_55 : (q_chkM 55 && q_all 55 qc_55 qw_55) = true := by decide +kernel
set_option maxRecDepth 100000 in
theorem q_ok_56 : (q_chkM 56 && q_all 56 qc_56 qw_56) = true := by decide +kernel
set_option maxRecDepth 100000 in
theorem q_ok_57 : (q_chkM 57 && q_all 57 qc_57 qw_57) = true := by decide +kernel
set_option maxRecDepth 100000 in
theorem q_ok_58 : (q_chkM 58 && q_all 58 qc_58 qw_58) = true := by decide +kernel
set_option maxRecDepth 100000 in
theorem q_ok_59 : (q_chkM 59 && q_all 59 qc_59 qw_59) = true := by decide +kernel
set_option maxRecDepth 100000 in
theorem q_ok_60 : (q_chkM 60 && q_all 60 qc_60 qw_60) = true := by decide +kernel
set_option maxRecDepth 100000 in
theorem q_ok_61 : (q_chkM 61 && q_all 61 qc_61 qw_61) = true := by decide +kernel
set_option maxRecDepth 100000 in
theorem q_ok_62 : (q_chkM 62 && q_all 62 qc_62 qw_62) = true := by decide +kernel
set_option maxRecDepth 100000 in
theorem q_ok_63 : (q_chkM 63 && q_all 63 qc_63 qw_63) = true := by decide +kernel
set_option maxRecDepth 100000 in
theorem q_ok_64 : (q_chkM 64 && q_all 64 qc_64 qw_64) = true := by decide +kernel
set_option maxRecDepth 100000 in
theorem q_ok_65 : (q_chkM 65 && q_all 65 qc_65 qw_65) = true := by decide +kernel
set_option maxRecDepth 100000 in
theorem q_ok_66 : (q_chkM 66 && q_all 66 qc_66 qw_66) = true := by decide +kernel
set_option maxRecDepth 100000 in
theorem q_ok_67 : (q_chkM 67 && q_all 67 qc_67 qw_67) = true := by decide +kernel
set_option maxRecDepth 100000 in
theorem q_ok_68 : (q_chkM 68 && q_all 68 qc_68 qw_68) = true := by decide +kernel
set_option maxRecDepth 100000 in
theorem q_ok_69 : (q_chkM 69 && q_all 69 qc_69 qw_69) = true := by decide +kernel
set_option maxRecDepth 100000 in
theorem q_ok_70 : (q_chkM 70 && q_all 70 qc_70 qw_70) = true := by decide +kernel
set_option maxRecDepth 100000 in
theorem q_ok_71 : (q_chkM 71 && q_all 71 qc_71 qw_71) = true := by decide +kernel
set_option maxRecDepth 100000 in
theorem q_ok_72 : (q_chkM 72 && q_all 72 qc_72 qw_72) = true := by decide +kernel
set_option maxRecDepth 100000 in
theorem q_ok_73 : (q_chkM 73 && q_all 73 qc_73 qw_73) = true := by decide +kernel
set_option maxRecDepth 100000 in
theorem q_ok_74 : (q_chkM 74 && q_all 74 qc_74 qw_74) = true := by decide +kernel
set_option maxRecDepth 100000 in
theorem q_ok_75 : (q_chkM 75 && q_all 75 qc_75 qw_75) = true := by decide +kernel
set_option maxRecDepth 100000 in
theorem q_ok_76 : (q_chkM 76 && q_all 76 qc_76 qw_76) = true := by decide +kernel
set_option maxRecDepth 100000 in
theorem q_ok_77 : (q_chkM 77 && q_all 77 qc_77 qw_77) = true := by decide +kernel
set_option maxRecDepth 100000 in
theorem q_ok_78 : (q_chkM 78 && q_all 78 qc_78 qw_78) = true := by decide +kernel
set_option maxRecDepth 100000 in
theorem q_ok_79 : (q_chkM 79 && q_all 79 qc_79 qw_79) = true := by decide +kernel
set_option maxRecDepth 100000 in
theorem q_ok_80 : (q_chkM 80 && q_all 80 qc_80 qw_80) = true := by decide +kernel
set_option maxRecDepth 100000 in
theorem q_ok_81 : (q_chkM 81 && q_all 81 qc_81 qw_81) = true := by decide +kernel
set_option maxRecDepth 100000 in
theorem q_ok_82 : (q_chkM 82 && q_all 82 qc_82 qw_82) = true := by decide +kernel
set_option maxRecDepth 100000 in
theorem q_ok_83 : (q_chkM 83 && q_all 83 qc_83 qw_83) = true := by decide +kernel
set_option maxRecDepth 100000 in
theorem q_ok_84 : (q_chkM 84 && q_all 84 qc_84 qw_84) = true := by decide +kernel
set_option maxRecDepth 100000 in
theorem q_ok_85 : (q_chkM 85 && q_all 85 qc_85 qw_85) = true := by decide +kernel
set_option maxRecDepth 100000 in
theorem q_ok_86 : (q_chkM 86 && q_all 86 qc_86 qw_86) = true := by decide +kernel
set_option maxRecDepth 100000 in
theorem q_ok_87 : (q_chkM 87 && q_all 87 qc_87 qw_87) = true := by decide +kernel
