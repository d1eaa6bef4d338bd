/-! The words of the entries. -/
set_option maxRecDepth 100000 in
theorem q_ok_88 : (q_chkM 88 && q_all 88 qc_88 qw_88) = true := by decide +kernel
set_option maxRecDepth 100000 in
theorem q_ok_89 : (q_chkM 89 && q_all 89 qc_89 qw_89) = true := by decide +kernel
set_option maxRecDepth 100000 in
theorem q_ok_90 : (q_chkM 90 && q_all 90 qc_90 qw_90) = true := by decide +kernel
set_option maxRecDepth 100000 in
theorem q_ok_91 : (q_chkM 91 && q_all 91 qc_91 qw_91) = true := by decide +kernel
set_option maxRecDepth 100000 in
theorem q_ok_92 : (q_chkM 92 && q_all 92 qc_92 qw_92) = true := by decide +kernel
set_option maxRecDepth 100000 in
theorem q_ok_93 : (q_chkM 93 && q_all 93 qc_93 qw_93) = true := by decide +kernel
set_option maxRecDepth 100000 in
theorem q_ok_94 : (q_chkM 94 && q_all 94 qc_94 qw_94) = true := by decide +kernel
set_option maxRecDepth 100000 in
theorem q_ok_95 : (q_chkM 95 && q_all 95 qc_95 qw_95) = true := by decide +kernel
set_option maxRecDepth 100000 in
theorem q_ok_96 : (q_chkM 96 && q_all 96 qc_96 qw_96) = true := by decide +kernel
set_option maxRecDepth 100000 in
theorem q_ok_97 : (q_chkM 97 && q_all 97 qc_97 qw_97) = true := by decide +kernel
set_option maxRecDepth 100000 in
theorem q_ok_98 : (q_chkM 98 && q_all 98 qc_98 qw_98) = true := by decide +kernel
set_option maxRecDepth 100000 in
theorem q_ok_99 : (q_chkM 99 && q_all 99 qc_99 qw_99) = true := by decide +kernel
set_option maxRecDepth 100000 in
theorem q_ok_100 : (q_chkM 100 && q_all 100 qc_100 qw_100) = true := by decide +kernel
set_option maxRecDepth 100000 in
theorem q_ok_101 : (q_chkM 101 && q_all 101 qc_101 qw_101) = true := by decide +kernel
set_option maxRecDepth 100000 in
theorem q_ok_102 : (q_chkM 102 && q_all 102 qc_102 qw_102) = true := by decide +kernel
set_option maxRecDepth 100000 in
theorem q_ok_103 : (q_chkM 103 && q_all 103 qc_103 qw_103) = true := by decide +kernel
set_option maxRecDepth 100000 in
theorem q_ok_104 : (q_chkM 104 && q_all 104 qc_104 qw_104) = true := by decide +kernel
set_option maxRecDepth 100000 in
theorem q_ok_105 : (q_chkM 105 && q_all 105 qc_105 qw_105) = true := by decide +kernel
set_option maxRecDepth 100000 in
theorem q_ok_106 : (q_chkM 106 && q_all 106 qc_106 qw_106) = true := by decide +kernel
set_option maxRecDepth 100000 in
theorem q_ok_107 : (q_chkM 107 && q_all 107 qc_107 qw_107) = true := by decide +kernel
set_option maxRecDepth 100000 in
theorem q_ok_108 : (q_chkM 108 && q_all 108 qc_108 qw_108) = true := by decide +kernel
set_option maxRecDepth 100000 in
theorem q_ok_109 : (q_chkM 109 && q_all 109 qc_109 qw_109) = true := by decide +kernel
set_option maxRecDepth 100000 in
theorem q_ok_110 : (q_chkM 110 && q_all 110 qc_110 qw_110) = true := by decide +kernel
set_option maxRecDepth 100000 in
theorem q_ok_111 : (q_chkM 111 && q_all 111 qc_111 qw_111) = true := by decide +kernel
set_option maxRecDepth 100000 in
theorem q_ok_112 : (q_chkM 112 && q_all 112 qc_112 qw_112) = true := by decide +kernel
set_option maxRecDepth 100000 in
theorem q_ok_113 : (q_chkM 113 && q_all 113 qc_113 qw_113) = true := by decide +kernel
set_option maxRecDepth 100000 in
theorem q_ok_114 : (q_chkM 114 && q_all 114 qc_114 qw_114) = true := by decide +kernel
set_option maxRecDepth 100000 in
theorem q_ok_115 : (q_chkM 115 && q_all 115 qc_115 qw_115) = true := by decide +kernel
set_option maxRecDepth 100000 in
theorem q_ok_116 : (q_chkM 116 && q_all 116 qc_116 qw_116) = true := by decide +kernel
set_option maxRecDepth 100000 in
theorem q_ok_117 : (q_chkM 117 && q_all 117 qc_117 qw_117) = true := by decide +kernel
set_option maxRecDepth 100000 in
theorem q_ok_118 : (q_chkM 118 && q_all 118 qc_118 qw_118) = true := by decide +kernel
set_option maxRecDepth 100000 in
theorem q_ok_119 : (q_chkM 119 && q_all 119 qc_119 qw_119) = true := by decide +kernel
set_option maxRecDepth 100000 in
theorem q_ok_120 : (q_chkM 120 && q_all 120 qc_120 qw_120) = true := by decide +kernel
set_option maxRecDepth 100000 in
theorem q_ok_121 : (q_chkM 121 && q_all 121 qc_121 qw_121) = true := by decide +kernel
