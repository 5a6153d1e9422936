/-! each method: its stretches are its bytes (by wip/whole/gen.py chk) -/
set_option maxRecDepth 100000 in
theorem ck_0 : zchkm (zmi 0) (zprog.getD 0 []) = true := by decide +kernel
set_option maxRecDepth 100000 in
theorem ck_1 : zchkm (zmi 1) (zprog.getD 1 []) = true := by decide +kernel
set_option maxRecDepth 100000 in
theorem ck_2 : zchkm (zmi 2) (zprog.getD 2 []) = true := by decide +kernel
set_option maxRecDepth 100000 in
theorem ck_3 : zchkm (zmi 3) (zprog.getD 3 []) = true := by decide +kernel
set_option maxRecDepth 100000 in
theorem ck_4 : zchkm (zmi 4) (zprog.getD 4 []) = true := by decide +kernel
set_option maxRecDepth 100000 in
theorem ck_5 : zchkm (zmi 5) (zprog.getD 5 []) = true := by decide +kernel
set_option maxRecDepth 100000 in
theorem ck_6 : zchkm (zmi 6) (zprog.getD 6 []) = true := by decide +kernel
set_option maxRecDepth 100000 in
theorem ck_7 : zchkm (zmi 7) (zprog.getD 7 []) = true := by decide +kernel
set_option maxRecDepth 100000 in
theorem ck_8 : zchkm (zmi 8) (zprog.getD 8 []) = true := by decide +kernel
set_option maxRecDepth 100000 in
theorem ck_9 : zchkm (zmi 9) (zprog.getD 9 []) = true := by decide +kernel
set_option maxRecDepth 100000 in
theorem ck_10 : zchkm (zmi 10) (zprog.getD 10 []) = true := by decide +kernel
set_option maxRecDepth 100000 in
theorem ck_11 : zchkm (zmi 11) (zprog.getD 11 []) = true := by decide +kernel
set_option maxRecDepth 100000 in
theorem ck_12 : zchkm (zmi 12) (zprog.getD 12 []) = true := by decide +kernel
set_option maxRecDepth 100000 in
theorem ck_13 : zchkm (zmi 13) (zprog.getD 13 []) = true := by decide +kernel
set_option maxRecDepth 100000 in
theorem ck_14 : zchkm (zmi 14) (zprog.getD 14 []) = true := by decide +kernel
set_option maxRecDepth 100000 in
theorem ck_15 : zchkm (zmi 15) (zprog.getD 15 []) = true := by decide +kernel
set_option maxRecDepth 100000 in
theorem ck_16 : zchkm (zmi 16) (zprog.getD 16 []) = true := by decide +kernel
set_option maxRecDepth 100000 in
theorem ck_17 : zchkm (zmi 17) (zprog.getD 17 []) = true := by decide +kernel
set_option maxRecDepth 100000 in
theorem ck_18 : zchkm (zmi 18) (zprog.getD 18 []) = true := by decide +kernel
set_option maxRecDepth 100000 in
theorem ck_19 : zchkm (zmi 19) (zprog.getD 19 []) = true := by decide +kernel
set_option maxRecDepth 100000 in
theorem ck_20 : zchkm (zmi 20) (zprog.getD 20 []) = true := by decide +kernel
set_option maxRecDepth 100000 in
theorem ck_21 : zchkm (zmi 21) (zprog.getD 21 []) = true := by decide +kernel
set_option maxRecDepth 100000 in
theorem ck_22 : zchkm (zmi 22) (zprog.getD 22 []) = true := by decide +kernel
set_option maxRecDepth 100000 in
theorem ck_23 : zchkm (zmi 23) (zprog.getD 23 []) = true := by decide +kernel
set_option maxRecDepth 100000 in
theorem ck_24 : zchkm (zmi 24) (zprog.getD 24 []) = true := by decide +kernel
set_option maxRecDepth 100000 in
theorem ck_25 : zchkm (zmi 25) (zprog.getD 25 []) = true := by decide +kernel
set_option maxRecDepth 100000 in
theorem ck_26 : zchkm (zmi 26) (zprog.getD 26 []) = true := by decide +kernel
set_option maxRecDepth 100000 in
theorem ck_27 : zchkm (zmi 27) (zprog.getD 27 []) = true := by decide +kernel
set_option maxRecDepth 100000 in
theorem ck_28 : zchkm (zmi 28) (zprog.getD 28 []) = true := by decide +kernel
set_option maxRecDepth 100000 in
theorem ck_29 : zchkm (zmi 29) (zprog.getD 29 []) = true := by decide +kernel
set_option maxRecDepth 100000 in
theorem ck_30 : zchkm (zmi 30) (zprog.getD 30 []) = true := by decide +kernel
set_option maxRecDepth 100000 in
theorem ck_31 : zchkm (zmi 31) (zprog.getD 31 []) = true := by decide +kernel
set_option maxRecDepth 100000 in
theorem ck_32 : zchkm (zmi 32) (zprog.getD 32 []) = true := by decide +kernel
set_option maxRecDepth 100000 in
theorem ck_33 : zchkm (zmi 33) (zprog.getD 33 []) = true := by decide +kernel
set_option maxRecDepth 100000 in
theorem ck_34 : zchkm (zmi 34) (zprog.getD 34 []) = true := by decide +kernel
set_option maxRecDepth 100000 in
theorem ck_35 : zchkm (zmi 35) (zprog.getD 35 []) = true := by decide +kernel
set_option maxRecDepth 100000 in
theorem ck_36 : zchkm (zmi 36) (zprog.getD 36 []) = true := by decide +kernel
set_option maxRecDepth 100000 in
theorem ck_37 : zchkm (zmi 37) (zprog.getD 37 []) = true := by decide +kernel
set_option maxRecDepth 100000 in
theorem ck_38 : zchkm (zmi 38) (zprog.getD 38 []) = true := by decide +kernel
set_option maxRecDepth 100000 in
theorem ck_39 : zchkm (zmi 39) (zprog.getD 39 []) = true := by decide +kernel
set_option maxRecDepth 100000 in
theorem ck_40 : zchkm (zmi 40) (zprog.getD 40 []) = true := by decide +kernel
set_option maxRecDepth 100000 in
theorem ck_41 : zchkm (zmi 41) (zprog.getD 41 []) = true := by decide +kernel
set_option maxRecDepth 100000 in
theorem ck_42 : zchkm (zmi 42) (zprog.getD 42 []) = true := by decide +kernel
set_option maxRecDepth 100000 in
theorem ck_43 : zchkm (zmi 43) (zprog.getD 43 []) = true := by decide +kernel
set_option maxRecDepth 100000 in
theorem ck_44 : zchkm (zmi 44) (zprog.getD 44 []) = true := by decide +kernel
set_option maxRecDepth 100000 in
theorem ck_45 : zchkm (zmi 45) (zprog.getD 45 []) = true := by decide +kernel
set_option maxRecDepth 100000 in
theorem ck_46 : zchkm (zmi 46) (zprog.getD 46 []) = true := by decide +kernel
set_option maxRecDepth 100000 in
theorem ck_47 : zchkm (zmi 47) (zprog.getD 47 []) = true := by decide +kernel
set_option maxRecDepth 100000 in
theorem ck_48 : zchkm (zmi 48) (zprog.getD 48 []) = true := by decide +kernel
set_option maxRecDepth 100000 in
theorem ck_49 : zchkm (zmi 49) (zprog.getD 49 []) = true := by decide +kernel
set_option maxRecDepth 100000 in
theorem ck_50 : zchkm (zmi 50) (zprog.getD 50 []) = true := by decide +kernel
set_option maxRecDepth 100000 in
theorem ck_51 : zchkm (zmi 51) (zprog.getD 51 []) = true := by decide +kernel
set_option maxRecDepth 100000 in
theorem ck_52 : zchkm (zmi 52) (zprog.getD 52 []) = true := by decide +kernel
set_option maxRecDepth 100000 in
theorem ck_53 : zchkm (zmi 53) (zprog.getD 53 []) = true := by decide +kernel
set_option maxRecDepth 100000 in
theorem ck_54 : zchkm (zmi 54) (zprog.getD 54 []) = true := by decide +kernel
set_option maxRecDepth 100000 in
theorem ck_55 : zchkm (zmi 55) (zprog.getD 55 []) = true := by decide +kernel
set_option maxRecDepth 100000 in
theorem ck_56 : zchkm (zmi 56) (zprog.getD 56 []) = true := by decide +kernel
set_option maxRecDepth 100000 in
theorem ck_57 : zchkm (zmi 57) (zprog.getD 57 []) = true := by decide +kernel
set_option maxRecDepth 100000 in
theorem ck_58 : zchkm (zmi 58) (zprog.getD 58 []) = true := by decide +kernel
set_option maxRecDepth 100000 in
theorem ck_59 : zchkm (zmi 59) (zprog.getD 59 []) = true := by decide +kernel
set_option maxRecDepth 100000 in
theorem ck_60 : zchkm (zmi 60) (zprog.getD 60 []) = true := by decide +kernel
set_option maxRecDepth 100000 in
theorem ck_61 : zchkm (zmi 61) (zprog.getD 61 []) = true := by decide +kernel
set_option maxRecDepth 100000 in
theorem ck_62 : zchkm (zmi 62) (zprog.getD 62 []) = true := by decide +kernel
set_option maxRecDepth 100000 in
theorem ck_63 : zchkm (zmi 63) (zprog.getD 63 []) = true := by decide +kernel
set_option maxRecDepth 100000 in
theorem ck_64 : zchkm (zmi 64) (zprog.getD 64 []) = true := by decide +kernel
set_option maxRecDepth 100000 in
theorem ck_65 : zchkm (zmi 65) (zprog.getD 65 []) = true := by decide +kernel
set_option maxRecDepth 100000 in
theorem ck_66 : zchkm (zmi 66) (zprog.getD 66 []) = true := by decide +kernel
set_option maxRecDepth 100000 in
theorem ck_67 : zchkm (zmi 67) (zprog.getD 67 []) = true := by decide +kernel
set_option maxRecDepth 100000 in
theorem ck_68 : zchkm (zmi 68) (zprog.getD 68 []) = true := by decide +kernel
set_option maxRecDepth 100000 in
theorem ck_69 : zchkm (zmi 69) (zprog.getD 69 []) = true := by decide +kernel
set_option maxRecDepth 100000 in
theorem ck_70 : zchkm (zmi 70) (zprog.getD 70 []) = true := by decide +kernel
set_option maxRecDepth 100000 in
theorem ck_71 : zchkm (zmi 71) (zprog.getD 71 []) = true := by decide +kernel
set_option maxRecDepth 100000 in
theorem ck_72 : zchkm (zmi 72) (zprog.getD 72 []) = true := by decide +kernel
set_option maxRecDepth 100000 in
theorem ck_73 : zchkm (zmi 73) (zprog.getD 73 []) = true := by decide +kernel
set_option maxRecDepth 100000 in
theorem ck_74 : zchkm (zmi 74) (zprog.getD 74 []) = true := by decide +kernel
set_option maxRecDepth 100000 in
theorem ck_75 : zchkm (zmi 75) (zprog.getD 75 []) = true := by decide +kernel
set_option maxRecDepth 100000 in
theorem ck_76 : zchkm (zmi 76) (zprog.getD 76 []) = true := by decide +kernel
set_option maxRecDepth 100000 in
theorem ck_77 : zchkm (zmi 77) (zprog.getD 77 []) = true := by decide +kernel
set_option maxRecDepth 100000 in
theorem ck_78 : zchkm (zmi 78) (zprog.getD 78 []) = true := by decide +kernel
set_option maxRecDepth 100000 in
theorem ck_79 : zchkm (zmi 79) (zprog.getD 79 []) = true := by decide +kernel
set_option maxRecDepth 100000 in
theorem ck_80 : zchkm (zmi 80) (zprog.getD 80 []) = true := by decide +kernel
set_option maxRecDepth 100000 in
theorem ck_81 : zchkm (zmi 81) (zprog.getD 81 []) = true := by decide +kernel
set_option maxRecDepth 100000 in
theorem ck_82 : zchkm (zmi 82) (zprog.getD 82 []) = true := by decide +kernel
set_option maxRecDepth 100000 in
theorem ck_83 : zchkm (zmi 83) (zprog.getD 83 []) = true := by decide +kernel
set_option maxRecDepth 100000 in
theorem ck_84 : zchkm (zmi 84) (zprog.getD 84 []) = true := by decide +kernel
set_option maxRecDepth 100000 in
theorem ck_85 : zchkm (zmi 85) (zprog.getD 85 []) = true := by decide +kernel
set_option maxRecDepth 100000 in
theorem ck_86 : zchkm (zmi 86) (zprog.getD 86 []) = true := by decide +kernel
set_option maxRecDepth 100000 in
theorem ck_87 : zchkm (zmi 87) (zprog.getD 87 []) = true := by decide +kernel
set_option maxRecDepth 100000 in
theorem ck_88 : zchkm (zmi 88) (zprog.getD 88 []) = true := by decide +kernel
set_option maxRecDepth 100000 in
theorem ck_89 : zchkm (zmi 89) (zprog.getD 89 []) = true := by decide +kernel
set_option maxRecDepth 100000 in
theorem ck_90 : zchkm (zmi 90) (zprog.getD 90 []) = true := by decide +kernel
set_option maxRecDepth 100000 in
theorem ck_91 : zchkm (zmi 91) (zprog.getD 91 []) = true := by decide +kernel
set_option maxRecDepth 100000 in
theorem ck_92 : zchkm (zmi 92) (zprog.getD 92 []) = true := by decide +kernel
set_option maxRecDepth 100000 in
theorem ck_93 : zchkm (zmi 93) (zprog.getD 93 []) = true := by decide +kernel
set_option maxRecDepth 100000 in
theorem ck_94 : zchkm (zmi 94) (zprog.getD 94 []) = true := by decide +kernel
set_option maxRecDepth 100000 in
theorem ck_95 : zchkm (zmi 95) (zprog.getD 95 []) = true := by decide +kernel
set_option maxRecDepth 100000 in
theorem ck_96 : zchkm (zmi 96) (zprog.getD 96 []) = true := by decide +kernel
set_option maxRecDepth 100000 in
theorem ck_97 : zchkm (zmi 97) (zprog.getD 97 []) = true := by decide +kernel
set_option maxRecDepth 100000 in
theorem ck_98 : zchkm (zmi 98) (zprog.getD 98 []) = true := by decide +kernel
set_option maxRecDepth 100000 in
theorem ck_99 : zchkm (zmi 99) (zprog.getD 99 []) = true := by decide +kernel
set_option maxRecDepth 100000 in
theorem ck_100 : zchkm (zmi 100) (zprog.getD 100 []) = true := by decide +kernel
set_option maxRecDepth 100000 in
theorem ck_101 : zchkm (zmi 101) (zprog.getD 101 []) = true := by decide +kernel
set_option maxRecDepth 100000 in
theorem ck_102 : zchkm (zmi 102) (zprog.getD 102 []) = true := by decide +kernel
set_option maxRecDepth 100000 in
theorem ck_103 : zchkm (zmi 103) (zprog.getD 103 []) = true := by decide +kernel
set_option maxRecDepth 100000 in
theorem ck_104 : zchkm (zmi 104) (zprog.getD 104 []) = true := by decide +kernel
set_option maxRecDepth 100000 in
theorem ck_105 : zchkm (zmi 105) (zprog.getD 105 []) = true := by decide +kernel
set_option maxRecDepth 100000 in
theorem ck_106 : zchkm (zmi 106) (zprog.getD 106 []) = true := by decide +kernel
set_option maxRecDepth 100000 in
theorem ck_107 : zchkm (zmi 107) (zprog.getD 107 []) = true := by decide +kernel
set_option maxRecDepth 100000 in
theorem ck_108 : zchkm (zmi 108) (zprog.getD 108 []) = true := by decide +kernel
set_option maxRecDepth 100000 in
theorem ck_109 : zchkm (zmi 109) (zprog.getD 109 []) = true := by decide +kernel
set_option maxRecDepth 100000 in
theorem ck_110 : zchkm (zmi 110) (zprog.getD 110 []) = true := by decide +kernel
set_option maxRecDepth 100000 in
theorem ck_111 : zchkm (zmi 111) (zprog.getD 111 []) = true := by decide +kernel
set_option maxRecDepth 100000 in
theorem ck_112 : zchkm (zmi 112) (zprog.getD 112 []) = true := by decide +kernel
set_option maxRecDepth 100000 in
theorem ck_113 : zchkm (zmi 113) (zprog.getD 113 []) = true := by decide +kernel
set_option maxRecDepth 100000 in
theorem ck_114 : zchkm (zmi 114) (zprog.getD 114 []) = true := by decide +kernel
set_option maxRecDepth 100000 in
theorem ck_115 : zchkm (zmi 115) (zprog.getD 115 []) = true := by decide +kernel
set_option maxRecDepth 100000 in
theorem ck_116 : zchkm (zmi 116) (zprog.getD 116 []) = true := by decide +kernel
set_option maxRecDepth 100000 in
theorem ck_117 : zchkm (zmi 117) (zprog.getD 117 []) = true := by decide +kernel
set_option maxRecDepth 100000 in
theorem ck_118 : zchkm (zmi 118) (zprog.getD 118 []) = true := by decide +kernel
set_option maxRecDepth 100000 in
theorem ck_119 : zchkm (zmi 119) (zprog.getD 119 []) = true := by decide +kernel
set_option maxRecDepth 100000 in
theorem ck_120 : zchkm (zmi 120) (zprog.getD 120 []) = true := by decide +kernel
set_option maxRecDepth 100000 in
theorem ck_121 : zchkm (zmi 121) (zprog.getD 121 []) = true := by decide +kernel
set_option maxRecDepth 100000 in
theorem ck_122 : zchkm (zmi 122) (zprog.getD 122 []) = true := by decide +kernel
set_option maxRecDepth 100000 in
theorem ck_123 : zchkm (zmi 123) (zprog.getD 123 []) = true := by decide +kernel
set_option maxRecDepth 100000 in
theorem ck_124 : zchkm (zmi 124) (zprog.getD 124 []) = true := by decide +kernel
set_option maxRecDepth 100000 in
theorem ck_125 : zchkm (zmi 125) (zprog.getD 125 []) = true := by decide +kernel
set_option maxRecDepth 100000 in
theorem ck_126 : zchkm (zmi 126) (zprog.getD 126 []) = true := by decide +kernel
set_option maxRecDepth 100000 in
theorem ck_127 : zchkm (zmi 127) (zprog.getD 127 []) = true := by decide +kernel
set_option maxRecDepth 100000 in
theorem ck_128 : zchkm (zmi 128) (zprog.getD 128 []) = true := by decide +kernel
set_option maxRecDepth 100000 in
theorem ck_129 : zchkm (zmi 129) (zprog.getD 129 []) = true := by decide +kernel
set_option maxRecDepth 100000 in
theorem ck_130 : zchkm (zmi 130) (zprog.getD 130 []) = true := by decide +kernel
set_option maxRecDepth 100000 in
theorem ck_131 : zchkm (zmi 131) (zprog.getD 131 []) = true := by decide +kernel
set_option maxRecDepth 100000 in
theorem ck_132 : zchkm (zmi 132) (zprog.getD 132 []) = true := by decide +kernel
set_option maxRecDepth 100000 in
theorem ck_133 : zchkm (zmi 133) (zprog.getD 133 []) = true := by decide +kernel
set_option maxRecDepth 100000 in
theorem ck_134 : zchkm (zmi 134) (zprog.getD 134 []) = true := by decide +kernel
set_option maxRecDepth 100000 in
theorem ck_135 : zchkm (zmi 135) (zprog.getD 135 []) = true := by decide +kernel
set_option maxRecDepth 100000 in
theorem ck_136 : zchkm (zmi 136) (zprog.getD 136 []) = true := by decide +kernel
set_option maxRecDepth 100000 in
theorem ck_137 : zchkm (zmi 137) (zprog.getD 137 []) = true := by decide +kernel
set_option maxRecDepth 100000 in
theorem ck_138 : zchkm (zmi 138) (zprog.getD 138 []) = true := by decide +kernel
set_option maxRecDepth 100000 in
theorem ck_139 : zchkm (zmi 139) (zprog.getD 139 []) = true := by decide +kernel
set_option maxRecDepth 100000 in
theorem ck_140 : zchkm (zmi 140) (zprog.getD 140 []) = true := by decide +kernel
set_option maxRecDepth 100000 in
theorem ck_141 : zchkm (zmi 141) (zprog.getD 141 []) = true := by decide +kernel
set_option maxRecDepth 100000 in
theorem ck_142 : zchkm (zmi 142) (zprog.getD 142 []) = true := by decide +kernel
set_option maxRecDepth 100000 in
theorem ck_143 : zchkm (zmi 143) (zprog.getD 143 []) = true := by decide +kernel
set_option maxRecDepth 100000 in
theorem ck_144 : zchkm (zmi 144) (zprog.getD 144 []) = true := by decide +kernel
set_option maxRecDepth 100000 in
theorem ck_145 : zchkm (zmi 145) (zprog.getD 145 []) = true := by decide +kernel
set_option maxRecDepth 100000 in
theorem ck_146 : zchkm (zmi 146) (zprog.getD 146 []) = true := by decide +kernel
set_option maxRecDepth 100000 in
theorem ck_147 : zchkm (zmi 147) (zprog.getD 147 []) = true := by decide +kernel
set_option maxRecDepth 100000 in
theorem ck_148 : zchkm (zmi 148) (zprog.getD 148 []) = true := by decide +kernel
set_option maxRecDepth 100000 in
theorem ck_149 : zchkm (zmi 149) (zprog.getD 149 []) = true := by decide +kernel
set_option maxRecDepth 100000 in
theorem ck_150 : zchkm (zmi 150) (zprog.getD 150 []) = true := by decide +kernel
set_option maxRecDepth 100000 in
theorem ck_151 : zchkm (zmi 151) (zprog.getD 151 []) = true := by decide +kernel
set_option maxRecDepth 100000 in
theorem ck_152 : zchkm (zmi 152) (zprog.getD 152 []) = true := by decide +kernel
set_option maxRecDepth 100000 in
theorem ck_153 : zchkm (zmi 153) (zprog.getD 153 []) = true := by decide +kernel
set_option maxRecDepth 100000 in
theorem ck_154 : zchkm (zmi 154) (zprog.getD 154 []) = true := by decide +kernel
set_option maxRecDepth 100000 in
theorem ck_155 : zchkm (zmi 155) (zprog.getD 155 []) = true := by decide +kernel
set_option maxRecDepth 100000 in
theorem ck_156 : zchkm (zmi 156) (zprog.getD 156 []) = true := by decide +kernel
set_option maxRecDepth 100000 in
theorem ck_157 : zchkm (zmi 157) (zprog.getD 157 []) = true := by decide +kernel
set_option maxRecDepth 100000 in
theorem ck_158 : zchkm (zmi 158) (zprog.getD 158 []) = true := by decide +kernel
set_option maxRecDepth 100000 in
theorem ck_159 : zchkm (zmi 159) (zprog.getD 159 []) = true := by decide +kernel
set_option maxRecDepth 100000 in
theorem ck_160 : zchkm (zmi 160) (zprog.getD 160 []) = true := by decide +kernel
set_option maxRecDepth 100000 in
theorem ck_161 : zchkm (zmi 161) (zprog.getD 161 []) = true := by decide +kernel
set_option maxRecDepth 100000 in
theorem ck_162 : zchkm (zmi 162) (zprog.getD 162 []) = true := by decide +kernel
set_option maxRecDepth 100000 in
theorem ck_163 : zchkm (zmi 163) (zprog.getD 163 []) = true := by decide +kernel
set_option maxRecDepth 100000 in
theorem ck_164 : zchkm (zmi 164) (zprog.getD 164 []) = true := by decide +kernel
set_option maxRecDepth 100000 in
theorem ck_165 : zchkm (zmi 165) (zprog.getD 165 []) = true := by decide +kernel
set_option maxRecDepth 100000 in
theorem ck_166 : zchkm (zmi 166) (zprog.getD 166 []) = true := by decide +kernel
set_option maxRecDepth 100000 in
theorem ck_167 : zchkm (zmi 167) (zprog.getD 167 []) = true := by decide +kernel
set_option maxRecDepth 100000 in
theorem ck_168 : zchkm (zmi 168) (zprog.getD 168 []) = true := by decide +kernel
set_option maxRecDepth 100000 in
theorem ck_169 : zchkm (zmi 169) (zprog.getD 169 []) = true := by decide +kernel
set_option maxRecDepth 100000 in
theorem ck_170 : zchkm (zmi 170) (zprog.getD 170 []) = true := by decide +kernel
set_option maxRecDepth 100000 in
theorem ck_171 : zchkm (zmi 171) (zprog.getD 171 []) = true := by decide +kernel
set_option maxRecDepth 100000 in
theorem ck_172 : zchkm (zmi 172) (zprog.getD 172 []) = true := by decide +kernel
set_option maxRecDepth 100000 in
theorem ck_173 : zchkm (zmi 173) (zprog.getD 173 []) = true := by decide +kernel
set_option maxRecDepth 100000 in
theorem ck_174 : zchkm (zmi 174) (zprog.getD 174 []) = true := by decide +kernel
set_option maxRecDepth 100000 in
theorem ck_175 : zchkm (zmi 175) (zprog.getD 175 []) = true := by decide +kernel
set_option maxRecDepth 100000 in
theorem ck_176 : zchkm (zmi 176) (zprog.getD 176 []) = true := by decide +kernel
set_option maxRecDepth 100000 in
theorem ck_177 : zchkm (zmi 177) (zprog.getD 177 []) = true := by decide +kernel
set_option maxRecDepth 100000 in
theorem ck_178 : zchkm (zmi 178) (zprog.getD 178 []) = true := by decide +kernel
set_option maxRecDepth 100000 in
theorem ck_179 : zchkm (zmi 179) (zprog.getD 179 []) = true := by decide +kernel
set_option maxRecDepth 100000 in
theorem ck_180 : zchkm (zmi 180) (zprog.getD 180 []) = true := by decide +kernel
set_option maxRecDepth 100000 in
theorem ck_181 : zchkm (zmi 181) (zprog.getD 181 []) = true := by decide +kernel
set_option maxRecDepth 100000 in
theorem ck_182 : zchkm (zmi 182) (zprog.getD 182 []) = true := by decide +kernel
set_option maxRecDepth 100000 in
theorem ck_183 : zchkm (zmi 183) (zprog.getD 183 []) = true := by decide +kernel
set_option maxRecDepth 100000 in
theorem ck_184 : zchkm (zmi 184) (zprog.getD 184 []) = true := by decide +kernel
set_option maxRecDepth 100000 in
theorem ck_185 : zchkm (zmi 185) (zprog.getD 185 []) = true := by decide +kernel
set_option maxRecDepth 100000 in
theorem ck_186 : zchkm (zmi 186) (zprog.getD 186 []) = true := by decide +kernel
set_option maxRecDepth 100000 in
theorem ck_187 : zchkm (zmi 187) (zprog.getD 187 []) = true := by decide +kernel
set_option maxRecDepth 100000 in
theorem ck_188 : zchkm (zmi 188) (zprog.getD 188 []) = true := by decide +kernel
set_option maxRecDepth 100000 in
theorem ck_189 : zchkm (zmi 189) (zprog.getD 189 []) = true := by decide +kernel
set_option maxRecDepth 100000 in
theorem ck_190 : zchkm (zmi 190) (zprog.getD 190 []) = true := by decide +kernel
set_option maxRecDepth 100000 in
theorem ck_191 : zchkm (zmi 191) (zprog.getD 191 []) = true := by decide +kernel
set_option maxRecDepth 100000 in
theorem ck_192 : zchkm (zmi 192) (zprog.getD 192 []) = true := by decide +kernel
set_option maxRecDepth 100000 in
theorem ck_193 : zchkm (zmi 193) (zprog.getD 193 []) = true := by decide +kernel
set_option maxRecDepth 100000 in
theorem ck_194 : zchkm (zmi 194) (zprog.getD 194 []) = true := by decide +kernel
set_option maxRecDepth 100000 in
theorem ck_195 : zchkm (zmi 195) (zprog.getD 195 []) = true := by decide +kernel
set_option maxRecDepth 100000 in
theorem ck_196 : zchkm (zmi 196) (zprog.getD 196 []) = true := by decide +kernel
set_option maxRecDepth 100000 in
theorem ck_197 : zchkm (zmi 197) (zprog.getD 197 []) = true := by decide +kernel
set_option maxRecDepth 100000 in
theorem ck_198 : zchkm (zmi 198) (zprog.getD 198 []) = true := by decide +kernel
set_option maxRecDepth 100000 in
theorem ck_199 : zchkm (zmi 199) (zprog.getD 199 []) = true := by decide +kernel
set_option maxRecDepth 100000 in
theorem ck_200 : zchkm (zmi 200) (zprog.getD 200 []) = true := by decide +kernel
set_option maxRecDepth 100000 in
theorem ck_201 : zchkm (zmi 201) (zprog.getD 201 []) = true := by decide +kernel
set_option maxRecDepth 100000 in
theorem ck_202 : zchkm (zmi 202) (zprog.getD 202 []) = true := by decide +kernel
set_option maxRecDepth 100000 in
theorem ck_203 : zchkm (zmi 203) (zprog.getD 203 []) = true := by decide +kernel
set_option maxRecDepth 100000 in
theorem ck_204 : zchkm (zmi 204) (zprog.getD 204 []) = true := by decide +kernel
set_option maxRecDepth 100000 in
theorem ck_205 : zchkm (zmi 205) (zprog.getD 205 []) = true := by decide +kernel
set_option maxRecDepth 100000 in
theorem ck_206 : zchkm (zmi 206) (zprog.getD 206 []) = true := by decide +kernel
set_option maxRecDepth 100000 in
theorem ck_207 : zchkm (zmi 207) (zprog.getD 207 []) = true := by decide +kernel
set_option maxRecDepth 100000 in
theorem ck_208 : zchkm (zmi 208) (zprog.getD 208 []) = true := by decide +kernel
set_option maxRecDepth 100000 in
theorem ck_209 : zchkm (zmi 209) (zprog.getD 209 []) = true := by decide +kernel
set_option maxRecDepth 100000 in
theorem ck_210 : zchkm (zmi 210) (zprog.getD 210 []) = true := by decide +kernel
set_option maxRecDepth 100000 in
theorem ck_211 : zchkm (zmi 211) (zprog.getD 211 []) = true := by decide +kernel
set_option maxRecDepth 100000 in
theorem ck_212 : zchkm (zmi 212) (zprog.getD 212 []) = true := by decide +kernel
set_option maxRecDepth 100000 in
theorem ck_213 : zchkm (zmi 213) (zprog.getD 213 []) = true := by decide +kernel
set_option maxRecDepth 100000 in
theorem ck_214 : zchkm (zmi 214) (zprog.getD 214 []) = true := by decide +kernel
set_option maxRecDepth 100000 in
theorem ck_215 : zchkm (zmi 215) (zprog.getD 215 []) = true := by decide +kernel
set_option maxRecDepth 100000 in
theorem ck_216 : zchkm (zmi 216) (zprog.getD 216 []) = true := by decide +kernel
set_option maxRecDepth 100000 in
theorem ck_217 : zchkm (zmi 217) (zprog.getD 217 []) = true := by decide +kernel
set_option maxRecDepth 100000 in
theorem ck_218 : zchkm (zmi 218) (zprog.getD 218 []) = true := by decide +kernel
set_option maxRecDepth 100000 in
theorem ck_219 : zchkm (zmi 219) (zprog.getD 219 []) = true := by decide +kernel
set_option maxRecDepth 100000 in
theorem ck_220 : zchkm (zmi 220) (zprog.getD 220 []) = true := by decide +kernel
set_option maxRecDepth 100000 in
theorem ck_221 : zchkm (zmi 221) (zprog.getD 221 []) = true := by decide +kernel
set_option maxRecDepth 100000 in
theorem ck_222 : zchkm (zmi 222) (zprog.getD 222 []) = true := by decide +kernel
set_option maxRecDepth 100000 in
theorem ck_223 : zchkm (zmi 223) (zprog.getD 223 []) = true := by decide +kernel
set_option maxRecDepth 100000 in
theorem ck_224 : zchkm (zmi 224) (zprog.getD 224 []) = true := by decide +kernel
set_option maxRecDepth 100000 in
theorem ck_225 : zchkm (zmi 225) (zprog.getD 225 []) = true := by decide +kernel
set_option maxRecDepth 100000 in
theorem ck_226 : zchkm (zmi 226) (zprog.getD 226 []) = true := by decide +kernel
set_option maxRecDepth 100000 in
theorem ck_227 : zchkm (zmi 227) (zprog.getD 227 []) = true := by decide +kernel
set_option maxRecDepth 100000 in
theorem ck_228 : zchkm (zmi 228) (zprog.getD 228 []) = true := by decide +kernel
set_option maxRecDepth 100000 in
theorem ck_229 : zchkm (zmi 229) (zprog.getD 229 []) = true := by decide +kernel
set_option maxRecDepth 100000 in
theorem ck_230 : zchkm (zmi 230) (zprog.getD 230 []) = true := by decide +kernel
set_option maxRecDepth 100000 in
theorem ck_231 : zchkm (zmi 231) (zprog.getD 231 []) = true := by decide +kernel
set_option maxRecDepth 100000 in
theorem ck_232 : zchkm (zmi 232) (zprog.getD 232 []) = true := by decide +kernel
set_option maxRecDepth 100000 in
theorem ck_233 : zchkm (zmi 233) (zprog.getD 233 []) = true := by decide +kernel
set_option maxRecDepth 100000 in
theorem ck_234 : zchkm (zmi 234) (zprog.getD 234 []) = true := by decide +kernel
set_option maxRecDepth 100000 in
theorem ck_235 : zchkm (zmi 235) (zprog.getD 235 []) = true := by decide +kernel
set_option maxRecDepth 100000 in
theorem ck_236 : zchkm (zmi 236) (zprog.getD 236 []) = true := by decide +kernel
set_option maxRecDepth 100000 in
theorem ck_237 : zchkm (zmi 237) (zprog.getD 237 []) = true := by decide +kernel
set_option maxRecDepth 100000 in
theorem ck_238 : zchkm (zmi 238) (zprog.getD 238 []) = true := by decide +kernel
set_option maxRecDepth 100000 in
theorem ck_239 : zchkm (zmi 239) (zprog.getD 239 []) = true := by decide +kernel
set_option maxRecDepth 100000 in
theorem ck_240 : zchkm (zmi 240) (zprog.getD 240 []) = true := by decide +kernel
set_option maxRecDepth 100000 in
theorem ck_241 : zchkm (zmi 241) (zprog.getD 241 []) = true := by decide +kernel
set_option maxRecDepth 100000 in
theorem ck_242 : zchkm (zmi 242) (zprog.getD 242 []) = true := by decide +kernel
set_option maxRecDepth 100000 in
theorem ck_243 : zchkm (zmi 243) (zprog.getD 243 []) = true := by decide +kernel
set_option maxRecDepth 100000 in
theorem ck_244 : zchkm (zmi 244) (zprog.getD 244 []) = true := by decide +kernel
set_option maxRecDepth 100000 in
theorem ck_245 : zchkm (zmi 245) (zprog.getD 245 []) = true := by decide +kernel
set_option maxRecDepth 100000 in
theorem ck_246 : zchkm (zmi 246) (zprog.getD 246 []) = true := by decide +kernel
set_option maxRecDepth 100000 in
theorem ck_247 : zchkm (zmi 247) (zprog.getD 247 []) = true := by decide +kernel
set_option maxRecDepth 100000 in
theorem ck_248 : zchkm (zmi 248) (zprog.getD 248 []) = true := by decide +kernel
set_option maxRecDepth 100000 in
theorem ck_249 : zchkm (zmi 249) (zprog.getD 249 []) = true := by decide +kernel
set_option maxRecDepth 100000 in
theorem ck_250 : zchkm (zmi 250) (zprog.getD 250 []) = true := by decide +kernel
set_option maxRecDepth 100000 in
theorem ck_251 : zchkm (zmi 251) (zprog.getD 251 []) = true := by decide +kernel
set_option maxRecDepth 100000 in
theorem ck_252 : zchkm (zmi 252) (zprog.getD 252 []) = true := by decide +kernel
theorem zck_all : ∀ j, j < 253 → zchkm (zmi j) (zprog.getD j []) = true := fun j h => match j, h with
  | 0, _ => ck_0
  | 1, _ => ck_1
  | 2, _ => ck_2
  | 3, _ => ck_3
  | 4, _ => ck_4
  | 5, _ => ck_5
  | 6, _ => ck_6
  | 7, _ => ck_7
  | 8, _ => ck_8
  | 9, _ => ck_9
  | 10, _ => ck_10
  | 11, _ => ck_11
  | 12, _ => ck_12
  | 13, _ => ck_13
  | 14, _ => ck_14
  | 15, _ => ck_15
  | 16, _ => ck_16
  | 17, _ => ck_17
  | 18, _ => ck_18
  | 19, _ => ck_19
  | 20, _ => ck_20
  | 21, _ => ck_21
  | 22, _ => ck_22
  | 23, _ => ck_23
  | 24, _ => ck_24
  | 25, _ => ck_25
  | 26, _ => ck_26
  | 27, _ => ck_27
  | 28, _ => ck_28
  | 29, _ => ck_29
  | 30, _ => ck_30
  | 31, _ => ck_31
  | 32, _ => ck_32
  | 33, _ => ck_33
  | 34, _ => ck_34
  | 35, _ => ck_35
  | 36, _ => ck_36
  | 37, _ => ck_37
  | 38, _ => ck_38
  | 39, _ => ck_39
  | 40, _ => ck_40
  | 41, _ => ck_41
  | 42, _ => ck_42
  | 43, _ => ck_43
  | 44, _ => ck_44
  | 45, _ => ck_45
  | 46, _ => ck_46
  | 47, _ => ck_47
  | 48, _ => ck_48
  | 49, _ => ck_49
  | 50, _ => ck_50
  | 51, _ => ck_51
  | 52, _ => ck_52
  | 53, _ => ck_53
  | 54, _ => ck_54
  | 55, _ => ck_55
  | 56, _ => ck_56
  | 57, _ => ck_57
  | 58, _ => ck_58
  | 59, _ => ck_59
  | 60, _ => ck_60
  | 61, _ => ck_61
  | 62, _ => ck_62
  | 63, _ => ck_63
  | 64, _ => ck_64
  | 65, _ => ck_65
  | 66, _ => ck_66
  | 67, _ => ck_67
  | 68, _ => ck_68
  | 69, _ => ck_69
  | 70, _ => ck_70
  | 71, _ => ck_71
  | 72, _ => ck_72
  | 73, _ => ck_73
  | 74, _ => ck_74
  | 75, _ => ck_75
  | 76, _ => ck_76
  | 77, _ => ck_77
  | 78, _ => ck_78
  | 79, _ => ck_79
  | 80, _ => ck_80
  | 81, _ => ck_81
  | 82, _ => ck_82
  | 83, _ => ck_83
  | 84, _ => ck_84
  | 85, _ => ck_85
  | 86, _ => ck_86
  | 87, _ => ck_87
  | 88, _ => ck_88
  | 89, _ => ck_89
  | 90, _ => ck_90
  | 91, _ => ck_91
  | 92, _ => ck_92
  | 93, _ => ck_93
  | 94, _ => ck_94
  | 95, _ => ck_95
  | 96, _ => ck_96
  | 97, _ => ck_97
  | 98, _ => ck_98
  | 99, _ => ck_99
  | 100, _ => ck_100
  | 101, _ => ck_101
  | 102, _ => ck_102
  | 103, _ => ck_103
  | 104, _ => ck_104
  | 105, _ => ck_105
  | 106, _ => ck_106
  | 107, _ => ck_107
  | 108, _ => ck_108
  | 109, _ => ck_109
  | 110, _ => ck_110
  | 111, _ => ck_111
  | 112, _ => ck_112
  | 113, _ => ck_113
  | 114, _ => ck_114
  | 115, _ => ck_115
  | 116, _ => ck_116
  | 117, _ => ck_117
  | 118, _ => ck_118
  | 119, _ => ck_119
  | 120, _ => ck_120
  | 121, _ => ck_121
  | 122, _ => ck_122
  | 123, _ => ck_123
  | 124, _ => ck_124
  | 125, _ => ck_125
  | 126, _ => ck_126
  | 127, _ => ck_127
  | 128, _ => ck_128
  | 129, _ => ck_129
  | 130, _ => ck_130
  | 131, _ => ck_131
  | 132, _ => ck_132
  | 133, _ => ck_133
  | 134, _ => ck_134
  | 135, _ => ck_135
  | 136, _ => ck_136
  | 137, _ => ck_137
  | 138, _ => ck_138
  | 139, _ => ck_139
  | 140, _ => ck_140
  | 141, _ => ck_141
  | 142, _ => ck_142
  | 143, _ => ck_143
  | 144, _ => ck_144
  | 145, _ => ck_145
  | 146, _ => ck_146
  | 147, _ => ck_147
  | 148, _ => ck_148
  | 149, _ => ck_149
  | 150, _ => ck_150
  | 151, _ => ck_151
  | 152, _ => ck_152
  | 153, _ => ck_153
  | 154, _ => ck_154
  | 155, _ => ck_155
  | 156, _ => ck_156
  | 157, _ => ck_157
  | 158, _ => ck_158
  | 159, _ => ck_159
  | 160, _ => ck_160
  | 161, _ => ck_161
  | 162, _ => ck_162
  | 163, _ => ck_163
  | 164, _ => ck_164
  | 165, _ => ck_165
  | 166, _ => ck_166
  | 167, _ => ck_167
  | 168, _ => ck_168
  | 169, _ => ck_169
  | 170, _ => ck_170
  | 171, _ => ck_171
  | 172, _ => ck_172
  | 173, _ => ck_173
  | 174, _ => ck_174
  | 175, _ => ck_175
  | 176, _ => ck_176
  | 177, _ => ck_177
  | 178, _ => ck_178
  | 179, _ => ck_179
  | 180, _ => ck_180
  | 181, _ => ck_181
  | 182, _ => ck_182
  | 183, _ => ck_183
  | 184, _ => ck_184
  | 185, _ => ck_185
  | 186, _ => ck_186
  | 187, _ => ck_187
  | 188, _ => ck_188
  | 189, _ => ck_189
  | 190, _ => ck_190
  | 191, _ => ck_191
  | 192, _ => ck_192
  | 193, _ => ck_193
  | 194, _ => ck_194
  | 195, _ => ck_195
  | 196, _ => ck_196
  | 197, _ => ck_197
  | 198, _ => ck_198
  | 199, _ => ck_199
  | 200, _ => ck_200
  | 201, _ => ck_201
  | 202, _ => ck_202
  | 203, _ => ck_203
  | 204, _ => ck_204
  | 205, _ => ck_205
  | 206, _ => ck_206
  | 207, _ => ck_207
  | 208, _ => ck_208
  | 209, _ => ck_209
  | 210, _ => ck_210
  | 211, _ => ck_211
  | 212, _ => ck_212
  | 213, _ => ck_213
  | 214, _ => ck_214
  | 215, _ => ck_215
  | 216, _ => ck_216
  | 217, _ => ck_217
  | 218, _ => ck_218
  | 219, _ => ck_219
  | 220, _ => ck_220
  | 221, _ => ck_221
  | 222, _ => ck_222
  | 223, _ => ck_223
  | 224, _ => ck_224
  | 225, _ => ck_225
  | 226, _ => ck_226
  | 227, _ => ck_227
  | 228, _ => ck_228
  | 229, _ => ck_229
  | 230, _ => ck_230
  | 231, _ => ck_231
  | 232, _ => ck_232
  | 233, _ => ck_233
  | 234, _ => ck_234
  | 235, _ => ck_235
  | 236, _ => ck_236
  | 237, _ => ck_237
  | 238, _ => ck_238
  | 239, _ => ck_239
  | 240, _ => ck_240
  | 241, _ => ck_241
  | 242, _ => ck_242
  | 243, _ => ck_243
  | 244, _ => ck_244
  | 245, _ => ck_245
  | 246, _ => ck_246
  | 247, _ => ck_247
  | 248, _ => ck_248
  | 249, _ => ck_249
  | 250, _ => ck_250
  | 251, _ => ck_251
  | 252, _ => ck_252
  | n + 253, h => absurd h (by omega)
