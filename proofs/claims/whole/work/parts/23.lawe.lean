/-! the law's stretches are its bytes -/
set_option maxRecDepth 100000 in
theorem ckl_1286 : zchk code 19 "law" (some .boolean) 1286 s_L_law_1286 = true := by decide +kernel
set_option maxRecDepth 100000 in
theorem ckl_1329 : zchk code 19 "law" (some .boolean) 1329 s_L_law_1329 = true := by decide +kernel
set_option maxRecDepth 100000 in
theorem ckl_1403 : zchk code 19 "law" (some .boolean) 1403 s_L_law_1403 = true := by decide +kernel
set_option maxRecDepth 100000 in
theorem ckl_1426 : zchk code 19 "law" (some .boolean) 1426 s_L_law_1426 = true := by decide +kernel
set_option maxRecDepth 100000 in
theorem ckl_1459 : zchk code 19 "law" (some .boolean) 1459 s_L_law_1459 = true := by decide +kernel
set_option maxRecDepth 100000 in
theorem ckl_1482 : zchk code 19 "law" (some .boolean) 1482 s_L_law_1482 = true := by decide +kernel
set_option maxRecDepth 100000 in
theorem ckl_1505 : zchk code 19 "law" (some .boolean) 1505 s_L_law_1505 = true := by decide +kernel
set_option maxRecDepth 100000 in
theorem ckl_1528 : zchk code 19 "law" (some .boolean) 1528 s_L_law_1528 = true := by decide +kernel
set_option maxRecDepth 100000 in
theorem ckl_1534 : zchk code 19 "law" (some .boolean) 1534 s_L_law_1534 = true := by decide +kernel
theorem ck_law : p_L_law.all (fun x => zchk code 19 "law" (some .boolean) x.1 x.2) = true := by
  simp only [p_L_law, List.all_cons, List.all_nil, Bool.and_true, Bool.true_and, ckl_0, ckl_18, ckl_196, ckl_259, ckl_282, ckl_305, ckl_348, ckl_366, ckl_367, ckl_388, ckl_389, ckl_397, ckl_415, ckl_416, ckl_437, ckl_438, ckl_446, ckl_469, ckl_502, ckl_515, ckl_516, ckl_532, ckl_533, ckl_541, ckl_564, ckl_607, ckl_650, ckl_663, ckl_696, ckl_739, ckl_802, ckl_820, ckl_821, ckl_842, ckl_843, ckl_851, ckl_874, ckl_875, ckl_901, ckl_902, ckl_910, ckl_943, ckl_996, ckl_1019, ckl_1042, ckl_1065, ckl_1078, ckl_1101, ckl_1124, ckl_1147, ckl_1190, ckl_1243, ckl_1286, ckl_1329, ckl_1403, ckl_1426, ckl_1459, ckl_1482, ckl_1505, ckl_1528, ckl_1534]
