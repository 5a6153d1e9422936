/-! the law's stretches are its bytes -/
set_option maxRecDepth 100000 in
theorem ckl_416 : zchk code 19 "law" (some .boolean) 416 s_L_law_416 = true := by decide +kernel
set_option maxRecDepth 100000 in
theorem ckl_437 : zchk code 19 "law" (some .boolean) 437 s_L_law_437 = true := by decide +kernel
set_option maxRecDepth 100000 in
theorem ckl_438 : zchk code 19 "law" (some .boolean) 438 s_L_law_438 = true := by decide +kernel
set_option maxRecDepth 100000 in
theorem ckl_446 : zchk code 19 "law" (some .boolean) 446 s_L_law_446 = true := by decide +kernel
set_option maxRecDepth 100000 in
theorem ckl_469 : zchk code 19 "law" (some .boolean) 469 s_L_law_469 = true := by decide +kernel
set_option maxRecDepth 100000 in
theorem ckl_502 : zchk code 19 "law" (some .boolean) 502 s_L_law_502 = true := by decide +kernel
set_option maxRecDepth 100000 in
theorem ckl_515 : zchk code 19 "law" (some .boolean) 515 s_L_law_515 = true := by decide +kernel
set_option maxRecDepth 100000 in
theorem ckl_516 : zchk code 19 "law" (some .boolean) 516 s_L_law_516 = true := by decide +kernel
set_option maxRecDepth 100000 in
theorem ckl_532 : zchk code 19 "law" (some .boolean) 532 s_L_law_532 = true := by decide +kernel
set_option maxRecDepth 100000 in
theorem ckl_533 : zchk code 19 "law" (some .boolean) 533 s_L_law_533 = true := by decide +kernel
set_option maxRecDepth 100000 in
theorem ckl_541 : zchk code 19 "law" (some .boolean) 541 s_L_law_541 = true := by decide +kernel
set_option maxRecDepth 100000 in
theorem ckl_564 : zchk code 19 "law" (some .boolean) 564 s_L_law_564 = true := by decide +kernel
set_option maxRecDepth 100000 in
theorem ckl_607 : zchk code 19 "law" (some .boolean) 607 s_L_law_607 = true := by decide +kernel
