/-! The law is its tree, piece by piece. Written by wip/whole/gen_prog.py. -/
set_option maxRecDepth 100000 in
theorem ck_pL_law_33 : ckT 15 4 false code (some .boolean) pL_law_33 33 = some 152 := by decide +kernel
set_option maxRecDepth 100000 in
theorem ck_pL_law_152 : ckT 15 4 false code (some .boolean) pL_law_152 152 = some 203 := by decide +kernel
set_option maxRecDepth 100000 in
theorem ck_pL_law_203 : ckT 15 4 false code (some .boolean) pL_law_203 203 = some 205 := by decide +kernel
set_option maxRecDepth 100000 in
theorem ck_pL_law_205 : ckT 15 4 false code (some .boolean) pL_law_205 205 = some 246 := by decide +kernel
set_option maxRecDepth 100000 in
theorem ck_pL_law_246 : ckT 15 4 false code (some .boolean) pL_law_246 246 = some 248 := by decide +kernel
set_option maxRecDepth 100000 in
theorem ck_pL_law_248 : ckT 15 4 false code (some .boolean) pL_law_248 248 = some 309 := by decide +kernel
set_option maxRecDepth 100000 in
theorem ck_pL_law_309 : ckT 15 4 false code (some .boolean) pL_law_309 309 = some 311 := by decide +kernel
set_option maxRecDepth 100000 in
theorem ck_pL_law_311 : ckT 15 4 false code (some .boolean) pL_law_311 311 = some 352 := by decide +kernel
set_option maxRecDepth 100000 in
theorem ck_pL_law_352 : ckT 15 4 false code (some .boolean) pL_law_352 352 = some 354 := by decide +kernel
set_option maxRecDepth 100000 in
theorem ck_pL_law_354 : ckT 15 4 false code (some .boolean) pL_law_354 354 = some 395 := by decide +kernel
set_option maxRecDepth 100000 in
theorem ck_pL_law_395 : ckT 15 4 false code (some .boolean) pL_law_395 395 = some 397 := by decide +kernel
set_option maxRecDepth 100000 in
theorem ck_pL_law_397 : ckT 15 4 false code (some .boolean) pL_law_397 397 = some 438 := by decide +kernel
set_option maxRecDepth 100000 in
theorem ck_pL_law_438 : ckT 15 4 false code (some .boolean) pL_law_438 438 = some 440 := by decide +kernel
set_option maxRecDepth 100000 in
theorem ck_pL_law_440 : ckT 15 4 false code (some .boolean) pL_law_440 440 = some 471 := by decide +kernel
set_option maxRecDepth 100000 in
theorem ck_pL_law_471 : ckT 15 4 false code (some .boolean) pL_law_471 471 = some 473 := by decide +kernel
set_option maxRecDepth 100000 in
theorem ck_pL_law_473 : ckT 15 4 false code (some .boolean) pL_law_473 473 = some 504 := by decide +kernel
set_option maxRecDepth 100000 in
theorem ck_pL_law_504 : ckT 15 4 false code (some .boolean) pL_law_504 504 = some 506 := by decide +kernel
set_option maxRecDepth 100000 in
theorem ck_pL_law_506 : ckT 15 4 false code (some .boolean) pL_law_506 506 = some 527 := by decide +kernel
set_option maxRecDepth 100000 in
theorem ck_pL_law_527 : ckT 15 4 false code (some .boolean) pL_law_527 527 = some 529 := by decide +kernel
set_option maxRecDepth 100000 in
theorem ck_pL_law_529 : ckT 15 4 false code (some .boolean) pL_law_529 529 = some 570 := by decide +kernel
