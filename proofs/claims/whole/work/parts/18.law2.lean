/-! The law is its tree, piece by piece. Written by wip/whole/gen_prog.py. -/
set_option maxRecDepth 100000 in
theorem ck_pL_law_920 : ckT 15 4 false code (some .boolean) pL_law_920 920 = some 922 := by decide +kernel
set_option maxRecDepth 100000 in
theorem ck_pL_law_922 : ckT 15 4 false code (some .boolean) pL_law_922 922 = some 933 := by decide +kernel
set_option maxRecDepth 100000 in
theorem ck_pL_law_933 : ckT 15 4 false code (some .boolean) pL_law_933 933 = some 935 := by decide +kernel
set_option maxRecDepth 100000 in
theorem ck_pL_law_935 : ckT 15 4 false code (some .boolean) pL_law_935 935 = some 956 := by decide +kernel
set_option maxRecDepth 100000 in
theorem ck_pL_law_956 : ckT 15 4 false code (some .boolean) pL_law_956 956 = some 958 := by decide +kernel
set_option maxRecDepth 100000 in
theorem ck_pL_law_958 : ckT 15 4 false code (some .boolean) pL_law_958 958 = some 989 := by decide +kernel
set_option maxRecDepth 100000 in
theorem ck_pL_law_989 : ckT 15 4 false code (some .boolean) pL_law_989 989 = some 991 := by decide +kernel
set_option maxRecDepth 100000 in
theorem ck_pL_law_991 : ckT 15 4 false code (some .boolean) pL_law_991 991 = some 1002 := by decide +kernel
set_option maxRecDepth 100000 in
theorem ck_pL_law_1002 : ckT 15 4 false code (some .boolean) pL_law_1002 1002 = some 1004 := by decide +kernel
set_option maxRecDepth 100000 in
theorem ck_pL_law_1004 : ckT 15 4 false code (some .boolean) pL_law_1004 1004 = some 1025 := by decide +kernel
set_option maxRecDepth 100000 in
theorem ck_pL_law_1025 : ckT 15 4 false code (some .boolean) pL_law_1025 1025 = some 1027 := by decide +kernel
set_option maxRecDepth 100000 in
theorem ck_pL_law_1027 : ckT 15 4 false code (some .boolean) pL_law_1027 1027 = some 1039 := by decide +kernel
set_option maxRecDepth 100000 in
theorem ck_pL_law_1039 : ckT 15 4 false code (some .boolean) pL_law_1039 1039 = some 1041 := by decide +kernel
set_option maxRecDepth 100000 in
theorem ck_pL_law_18 : ckT 15 4 false code (some .boolean) pL_law_18 18 = some 27 := by decide +kernel
set_option maxRecDepth 100000 in
theorem ck_pL_law_27 : ckT 15 4 false code (some .boolean) pL_law_27 27 = some 33 := by decide +kernel
set_option maxRecDepth 100000 in
theorem ck_pL_law_1041 : ckT 15 4 false code (some .boolean) pL_law_1041 1041 = some 1047 := by decide +kernel
set_option maxRecDepth 100000 in
theorem ck_pL_law_0 : ckT 15 4 false code (some .boolean) pL_law_0 0 = some 18 := by decide +kernel
set_option maxRecDepth 100000 in
theorem ck_pL_law_1047 : ckT 15 4 false code (some .boolean) pL_law_1047 1047 = some 1049 := by decide +kernel
theorem okT_wL_law_18 : am_okT am_tb (am_own 15) false 4 code (some .boolean) wL_law_18 18 1047 := by
  unfold wL_law_18
  exact ⟨27, ckT_ok pL_law_18 ck_pL_law_18, ⟨33, ckT_ok pL_law_27 ck_pL_law_27, ⟨1041, ⟨⟨1027, ⟨⟨1004, ⟨⟨991, ⟨⟨958, ⟨⟨935, ⟨⟨922, ⟨⟨899, ⟨⟨866, ⟨⟨833, ⟨⟨780, ⟨⟨757, ⟨⟨714, ⟨⟨681, ⟨⟨648, ⟨⟨605, ⟨⟨572, ⟨⟨529, ⟨⟨506, ⟨⟨473, ⟨⟨440, ⟨⟨397, ⟨⟨354, ⟨⟨311, ⟨⟨248, ⟨⟨205, ⟨⟨152, ⟨ckT_ok pL_law_33 ck_pL_law_33, by decide⟩, ⟨203, ckT_ok pL_law_152 ck_pL_law_152, ckT_ok pL_law_203 ck_pL_law_203⟩⟩, by decide⟩, ⟨246, ckT_ok pL_law_205 ck_pL_law_205, ckT_ok pL_law_246 ck_pL_law_246⟩⟩, by decide⟩, ⟨309, ckT_ok pL_law_248 ck_pL_law_248, ckT_ok pL_law_309 ck_pL_law_309⟩⟩, by decide⟩, ⟨352, ckT_ok pL_law_311 ck_pL_law_311, ckT_ok pL_law_352 ck_pL_law_352⟩⟩, by decide⟩, ⟨395, ckT_ok pL_law_354 ck_pL_law_354, ckT_ok pL_law_395 ck_pL_law_395⟩⟩, by decide⟩, ⟨438, ckT_ok pL_law_397 ck_pL_law_397, ckT_ok pL_law_438 ck_pL_law_438⟩⟩, by decide⟩, ⟨471, ckT_ok pL_law_440 ck_pL_law_440, ckT_ok pL_law_471 ck_pL_law_471⟩⟩, by decide⟩, ⟨504, ckT_ok pL_law_473 ck_pL_law_473, ckT_ok pL_law_504 ck_pL_law_504⟩⟩, by decide⟩, ⟨527, ckT_ok pL_law_506 ck_pL_law_506, ckT_ok pL_law_527 ck_pL_law_527⟩⟩, by decide⟩, ⟨570, ckT_ok pL_law_529 ck_pL_law_529, ckT_ok pL_law_570 ck_pL_law_570⟩⟩, by decide⟩, ⟨603, ckT_ok pL_law_572 ck_pL_law_572, ckT_ok pL_law_603 ck_pL_law_603⟩⟩, by decide⟩, ⟨646, ckT_ok pL_law_605 ck_pL_law_605, ckT_ok pL_law_646 ck_pL_law_646⟩⟩, by decide⟩, ⟨679, ckT_ok pL_law_648 ck_pL_law_648, ckT_ok pL_law_679 ck_pL_law_679⟩⟩, by decide⟩, ⟨712, ckT_ok pL_law_681 ck_pL_law_681, ckT_ok pL_law_712 ck_pL_law_712⟩⟩, by decide⟩, ⟨755, ckT_ok pL_law_714 ck_pL_law_714, ckT_ok pL_law_755 ck_pL_law_755⟩⟩, by decide⟩, ⟨778, ckT_ok pL_law_757 ck_pL_law_757, ckT_ok pL_law_778 ck_pL_law_778⟩⟩, by decide⟩, ⟨831, ckT_ok pL_law_780 ck_pL_law_780, ckT_ok pL_law_831 ck_pL_law_831⟩⟩, by decide⟩, ⟨864, ckT_ok pL_law_833 ck_pL_law_833, ckT_ok pL_law_864 ck_pL_law_864⟩⟩, by decide⟩, ⟨897, ckT_ok pL_law_866 ck_pL_law_866, ckT_ok pL_law_897 ck_pL_law_897⟩⟩, by decide⟩, ⟨920, ckT_ok pL_law_899 ck_pL_law_899, ckT_ok pL_law_920 ck_pL_law_920⟩⟩, by decide⟩, ⟨933, ckT_ok pL_law_922 ck_pL_law_922, ckT_ok pL_law_933 ck_pL_law_933⟩⟩, by decide⟩, ⟨956, ckT_ok pL_law_935 ck_pL_law_935, ckT_ok pL_law_956 ck_pL_law_956⟩⟩, by decide⟩, ⟨989, ckT_ok pL_law_958 ck_pL_law_958, ckT_ok pL_law_989 ck_pL_law_989⟩⟩, by decide⟩, ⟨1002, ckT_ok pL_law_991 ck_pL_law_991, ckT_ok pL_law_1002 ck_pL_law_1002⟩⟩, by decide⟩, ⟨1025, ckT_ok pL_law_1004 ck_pL_law_1004, ckT_ok pL_law_1025 ck_pL_law_1025⟩⟩, by decide⟩, ⟨1039, ckT_ok pL_law_1027 ck_pL_law_1027, ckT_ok pL_law_1039 ck_pL_law_1039⟩⟩, by decide⟩, ckT_ok pL_law_1041 ck_pL_law_1041⟩⟩⟩
theorem okT_law : am_okT am_tb (am_own 15) false 4 code (some .boolean) tL_law 0 1049 := by
  unfold tL_law
  exact ⟨18, ckT_ok pL_law_0 ck_pL_law_0, ⟨1047, ⟨⟨okT_wL_law_18, by decide⟩, by decide⟩, ckT_ok pL_law_1047 ck_pL_law_1047⟩⟩
