/-! the law's stretches are its bytes -/
set_option maxRecDepth 100000 in
theorem ckl_650 : zchk code 19 "law" (some .boolean) 650 s_L_law_650 = true := by decide +kernel
set_option maxRecDepth 100000 in
theorem ckl_663 : zchk code 19 "law" (some .boolean) 663 s_L_law_663 = true := by decide +kernel
set_option maxRecDepth 100000 in
theorem ckl_696 : zchk code 19 "law" (some .boolean) 696 s_L_law_696 = true := by decide +kernel
set_option maxRecDepth 100000 in
theorem ckl_739 : zchk code 19 "law" (some .boolean) 739 s_L_law_739 = true := by decide +kernel
set_option maxRecDepth 100000 in
theorem ckl_802 : zchk code 19 "law" (some .boolean) 802 s_L_law_802 = true := by decide +kernel
set_option maxRecDepth 100000 in
theorem ckl_820 : zchk code 19 "law" (some .boolean) 820 s_L_law_820 = true := by decide +kernel
set_option maxRecDepth 100000 in
theorem ckl_821 : zchk code 19 "law" (some .boolean) 821 s_L_law_821 = true := by decide +kernel
set_option maxRecDepth 100000 in
theorem ckl_842 : zchk code 19 "law" (some .boolean) 842 s_L_law_842 = true := by decide +kernel
set_option maxRecDepth 100000 in
theorem ckl_843 : zchk code 19 "law" (some .boolean) 843 s_L_law_843 = true := by decide +kernel
set_option maxRecDepth 100000 in
theorem ckl_851 : zchk code 19 "law" (some .boolean) 851 s_L_law_851 = true := by decide +kernel
set_option maxRecDepth 100000 in
theorem ckl_874 : zchk code 19 "law" (some .boolean) 874 s_L_law_874 = true := by decide +kernel
set_option maxRecDepth 100000 in
theorem ckl_875 : zchk code 19 "law" (some .boolean) 875 s_L_law_875 = true := by decide +kernel
set_option maxRecDepth 100000 in
theorem ckl_901 : zchk code 19 "law" (some .boolean) 901 s_L_law_901 = true := by decide +kernel
