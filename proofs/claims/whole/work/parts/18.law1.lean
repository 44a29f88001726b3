/-! The law is its tree, piece by piece. Written by wip/whole/gen_prog.py. -/
set_option maxRecDepth 100000 in
theorem ck_pL_law_570 : ckT 15 4 false code (some .boolean) pL_law_570 570 = some 572 := by decide +kernel
set_option maxRecDepth 100000 in
theorem ck_pL_law_572 : ckT 15 4 false code (some .boolean) pL_law_572 572 = some 603 := by decide +kernel
set_option maxRecDepth 100000 in
theorem ck_pL_law_603 : ckT 15 4 false code (some .boolean) pL_law_603 603 = some 605 := by decide +kernel
set_option maxRecDepth 100000 in
theorem ck_pL_law_605 : ckT 15 4 false code (some .boolean) pL_law_605 605 = some 646 := by decide +kernel
set_option maxRecDepth 100000 in
theorem ck_pL_law_646 : ckT 15 4 false code (some .boolean) pL_law_646 646 = some 648 := by decide +kernel
set_option maxRecDepth 100000 in
theorem ck_pL_law_648 : ckT 15 4 false code (some .boolean) pL_law_648 648 = some 679 := by decide +kernel
set_option maxRecDepth 100000 in
theorem ck_pL_law_679 : ckT 15 4 false code (some .boolean) pL_law_679 679 = some 681 := by decide +kernel
set_option maxRecDepth 100000 in
theorem ck_pL_law_681 : ckT 15 4 false code (some .boolean) pL_law_681 681 = some 712 := by decide +kernel
set_option maxRecDepth 100000 in
theorem ck_pL_law_712 : ckT 15 4 false code (some .boolean) pL_law_712 712 = some 714 := by decide +kernel
set_option maxRecDepth 100000 in
theorem ck_pL_law_714 : ckT 15 4 false code (some .boolean) pL_law_714 714 = some 755 := by decide +kernel
set_option maxRecDepth 100000 in
theorem ck_pL_law_755 : ckT 15 4 false code (some .boolean) pL_law_755 755 = some 757 := by decide +kernel
set_option maxRecDepth 100000 in
theorem ck_pL_law_757 : ckT 15 4 false code (some .boolean) pL_law_757 757 = some 778 := by decide +kernel
set_option maxRecDepth 100000 in
theorem ck_pL_law_778 : ckT 15 4 false code (some .boolean) pL_law_778 778 = some 780 := by decide +kernel
set_option maxRecDepth 100000 in
theorem ck_pL_law_780 : ckT 15 4 false code (some .boolean) pL_law_780 780 = some 831 := by decide +kernel
set_option maxRecDepth 100000 in
theorem ck_pL_law_831 : ckT 15 4 false code (some .boolean) pL_law_831 831 = some 833 := by decide +kernel
set_option maxRecDepth 100000 in
theorem ck_pL_law_833 : ckT 15 4 false code (some .boolean) pL_law_833 833 = some 864 := by decide +kernel
set_option maxRecDepth 100000 in
theorem ck_pL_law_864 : ckT 15 4 false code (some .boolean) pL_law_864 864 = some 866 := by decide +kernel
set_option maxRecDepth 100000 in
theorem ck_pL_law_866 : ckT 15 4 false code (some .boolean) pL_law_866 866 = some 897 := by decide +kernel
set_option maxRecDepth 100000 in
theorem ck_pL_law_897 : ckT 15 4 false code (some .boolean) pL_law_897 897 = some 899 := by decide +kernel
set_option maxRecDepth 100000 in
theorem ck_pL_law_899 : ckT 15 4 false code (some .boolean) pL_law_899 899 = some 920 := by decide +kernel
