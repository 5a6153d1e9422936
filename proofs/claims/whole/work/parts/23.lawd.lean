/-! the law's stretches are its bytes -/
set_option maxRecDepth 100000 in
theorem ckl_902 : zchk code 19 "law" (some .boolean) 902 s_L_law_902 = true := by decide +kernel
set_option maxRecDepth 100000 in
theorem ckl_910 : zchk code 19 "law" (some .boolean) 910 s_L_law_910 = true := by decide +kernel
set_option maxRecDepth 100000 in
theorem ckl_943 : zchk code 19 "law" (some .boolean) 943 s_L_law_943 = true := by decide +kernel
set_option maxRecDepth 100000 in
theorem ckl_996 : zchk code 19 "law" (some .boolean) 996 s_L_law_996 = true := by decide +kernel
set_option maxRecDepth 100000 in
theorem ckl_1019 : zchk code 19 "law" (some .boolean) 1019 s_L_law_1019 = true := by decide +kernel
set_option maxRecDepth 100000 in
theorem ckl_1042 : zchk code 19 "law" (some .boolean) 1042 s_L_law_1042 = true := by decide +kernel
set_option maxRecDepth 100000 in
theorem ckl_1065 : zchk code 19 "law" (some .boolean) 1065 s_L_law_1065 = true := by decide +kernel
set_option maxRecDepth 100000 in
theorem ckl_1078 : zchk code 19 "law" (some .boolean) 1078 s_L_law_1078 = true := by decide +kernel
set_option maxRecDepth 100000 in
theorem ckl_1101 : zchk code 19 "law" (some .boolean) 1101 s_L_law_1101 = true := by decide +kernel
set_option maxRecDepth 100000 in
theorem ckl_1124 : zchk code 19 "law" (some .boolean) 1124 s_L_law_1124 = true := by decide +kernel
set_option maxRecDepth 100000 in
theorem ckl_1147 : zchk code 19 "law" (some .boolean) 1147 s_L_law_1147 = true := by decide +kernel
set_option maxRecDepth 100000 in
theorem ckl_1190 : zchk code 19 "law" (some .boolean) 1190 s_L_law_1190 = true := by decide +kernel
set_option maxRecDepth 100000 in
theorem ckl_1243 : zchk code 19 "law" (some .boolean) 1243 s_L_law_1243 = true := by decide +kernel
