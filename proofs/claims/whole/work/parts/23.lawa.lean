/-! the law's stretches are its bytes -/
set_option maxRecDepth 100000 in
theorem ckl_0 : zchk code 19 "law" (some .boolean) 0 s_L_law_0 = true := by decide +kernel
set_option maxRecDepth 100000 in
theorem ckl_18 : zchk code 19 "law" (some .boolean) 18 s_L_law_18 = true := by decide +kernel
set_option maxRecDepth 100000 in
theorem ckl_196 : zchk code 19 "law" (some .boolean) 196 s_L_law_196 = true := by decide +kernel
set_option maxRecDepth 100000 in
theorem ckl_259 : zchk code 19 "law" (some .boolean) 259 s_L_law_259 = true := by decide +kernel
set_option maxRecDepth 100000 in
theorem ckl_282 : zchk code 19 "law" (some .boolean) 282 s_L_law_282 = true := by decide +kernel
set_option maxRecDepth 100000 in
theorem ckl_305 : zchk code 19 "law" (some .boolean) 305 s_L_law_305 = true := by decide +kernel
set_option maxRecDepth 100000 in
theorem ckl_348 : zchk code 19 "law" (some .boolean) 348 s_L_law_348 = true := by decide +kernel
set_option maxRecDepth 100000 in
theorem ckl_366 : zchk code 19 "law" (some .boolean) 366 s_L_law_366 = true := by decide +kernel
set_option maxRecDepth 100000 in
theorem ckl_367 : zchk code 19 "law" (some .boolean) 367 s_L_law_367 = true := by decide +kernel
set_option maxRecDepth 100000 in
theorem ckl_388 : zchk code 19 "law" (some .boolean) 388 s_L_law_388 = true := by decide +kernel
set_option maxRecDepth 100000 in
theorem ckl_389 : zchk code 19 "law" (some .boolean) 389 s_L_law_389 = true := by decide +kernel
set_option maxRecDepth 100000 in
theorem ckl_397 : zchk code 19 "law" (some .boolean) 397 s_L_law_397 = true := by decide +kernel
set_option maxRecDepth 100000 in
theorem ckl_415 : zchk code 19 "law" (some .boolean) 415 s_L_law_415 = true := by decide +kernel
