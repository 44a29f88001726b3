/-! Each method is its tree. Written by wip/whole/gen_prog.py. -/
set_option maxRecDepth 100000 in
theorem ck_X11_replaceOperator : ckT 11 2 false cX11_replaceOperator (some .int) tX11_replaceOperator 0 = some 35 := by decide +kernel
theorem ok_X11_replaceOperator : am_okM am_tb qX11_replaceOperator := ⟨by decide +kernel, 35, ckT_ok tX11_replaceOperator ck_X11_replaceOperator⟩
set_option maxRecDepth 100000 in
theorem ck_X11_bad : ckT 11 1 false cX11_bad (some .int) tX11_bad 0 = some 14 := by decide +kernel
theorem ok_X11_bad : am_okM am_tb qX11_bad := ⟨by decide +kernel, 14, ckT_ok tX11_bad ck_X11_bad⟩
set_option maxRecDepth 100000 in
theorem ck_X11_no : ckT 11 1 false cX11_no (some .int) tX11_no 0 = some 14 := by decide +kernel
theorem ok_X11_no : am_okM am_tb qX11_no := ⟨by decide +kernel, 14, ckT_ok tX11_no ck_X11_no⟩
set_option maxRecDepth 100000 in
theorem ck_X11_full : ckT 11 1 false cX11_full (some .int) tX11_full 0 = some 14 := by decide +kernel
theorem ok_X11_full : am_okM am_tb qX11_full := ⟨by decide +kernel, 14, ckT_ok tX11_full ck_X11_full⟩
set_option maxRecDepth 100000 in
theorem ck_X11_hasBasis : ckT 11 3 false cX11_hasBasis (some .boolean) tX11_hasBasis 0 = some 42 := by decide +kernel
theorem ok_X11_hasBasis : am_okM am_tb qX11_hasBasis := ⟨by decide +kernel, 42, ckT_ok tX11_hasBasis ck_X11_hasBasis⟩
set_option maxRecDepth 100000 in
theorem ck_X11_isOperator : ckT 11 1 false cX11_isOperator (some .boolean) tX11_isOperator 0 = some 16 := by decide +kernel
theorem ok_X11_isOperator : am_okM am_tb qX11_isOperator := ⟨by decide +kernel, 16, ckT_ok tX11_isOperator ck_X11_isOperator⟩
set_option maxRecDepth 100000 in
theorem ck_X11_isPolynomial : ckT 11 1 false cX11_isPolynomial (some .boolean) tX11_isPolynomial 0 = some 15 := by decide +kernel
theorem ok_X11_isPolynomial : am_okM am_tb qX11_isPolynomial := ⟨by decide +kernel, 15, ckT_ok tX11_isPolynomial ck_X11_isPolynomial⟩
set_option maxRecDepth 100000 in
theorem ck_X11_isPower : ckT 11 1 false cX11_isPower (some .boolean) tX11_isPower 0 = some 16 := by decide +kernel
theorem ok_X11_isPower : am_okM am_tb qX11_isPower := ⟨by decide +kernel, 16, ckT_ok tX11_isPower ck_X11_isPower⟩
set_option maxRecDepth 100000 in
theorem ck_X11_isSet : ckT 11 1 false cX11_isSet (some .boolean) tX11_isSet 0 = some 16 := by decide +kernel
theorem ok_X11_isSet : am_okM am_tb qX11_isSet := ⟨by decide +kernel, 16, ckT_ok tX11_isSet ck_X11_isSet⟩
set_option maxRecDepth 100000 in
theorem ck_X11_isInSet : ckT 11 2 false cX11_isInSet (some .boolean) tX11_isInSet 0 = some 15 := by decide +kernel
theorem ok_X11_isInSet : am_okM am_tb qX11_isInSet := ⟨by decide +kernel, 15, ckT_ok tX11_isInSet ck_X11_isInSet⟩
set_option maxRecDepth 100000 in
theorem ck_X12_init : ckT 12 3 true cX12_init none tX12_init 0 = some 247 := by decide +kernel
theorem ok_X12_init : am_okM am_tb qX12_init := ⟨by decide +kernel, 247, ckT_ok tX12_init ck_X12_init⟩
set_option maxRecDepth 100000 in
theorem ck_X12_in : ckT 12 3 false cX12_in (some .boolean) tX12_in 0 = some 16 := by decide +kernel
theorem ok_X12_in : am_okM am_tb qX12_in := ⟨by decide +kernel, 16, ckT_ok tX12_in ck_X12_in⟩
set_option maxRecDepth 100000 in
theorem ck_X12_wordAt : ckT 12 2 false cX12_wordAt (some .int) tX12_wordAt 0 = some 14 := by decide +kernel
theorem ok_X12_wordAt : am_okM am_tb qX12_wordAt := ⟨by decide +kernel, 14, ckT_ok tX12_wordAt ck_X12_wordAt⟩
set_option maxRecDepth 100000 in
theorem ck_X12_restOf : ckT 12 2 false cX12_restOf (some .int) tX12_restOf 0 = some 20 := by decide +kernel
theorem ok_X12_restOf : am_okM am_tb qX12_restOf := ⟨by decide +kernel, 20, ckT_ok tX12_restOf ck_X12_restOf⟩
set_option maxRecDepth 100000 in
theorem ck_X12_tell : ckT 12 1 false cX12_tell (some .int) tX12_tell 0 = some 17 := by decide +kernel
theorem ok_X12_tell : am_okM am_tb qX12_tell := ⟨by decide +kernel, 17, ckT_ok tX12_tell ck_X12_tell⟩
set_option maxRecDepth 100000 in
theorem ck_X12_bad : ckT 12 1 false cX12_bad (some .int) tX12_bad 0 = some 14 := by decide +kernel
theorem ok_X12_bad : am_okM am_tb qX12_bad := ⟨by decide +kernel, 14, ckT_ok tX12_bad ck_X12_bad⟩
set_option maxRecDepth 100000 in
theorem ck_X12_no : ckT 12 1 false cX12_no (some .int) tX12_no 0 = some 14 := by decide +kernel
theorem ok_X12_no : am_okM am_tb qX12_no := ⟨by decide +kernel, 14, ckT_ok tX12_no ck_X12_no⟩
set_option maxRecDepth 100000 in
theorem ck_X12_full : ckT 12 1 false cX12_full (some .int) tX12_full 0 = some 14 := by decide +kernel
theorem ok_X12_full : am_okM am_tb qX12_full := ⟨by decide +kernel, 14, ckT_ok tX12_full ck_X12_full⟩
set_option maxRecDepth 100000 in
theorem ck_X12_remembers : ckT 12 2 false cX12_remembers none tX12_remembers 0 = some 101 := by decide +kernel
theorem ok_X12_remembers : am_okM am_tb qX12_remembers := ⟨by decide +kernel, 101, ckT_ok tX12_remembers ck_X12_remembers⟩
set_option maxRecDepth 100000 in
theorem ck_X12_back : ckT 12 2 false cX12_back (some .int) tX12_back 0 = some 68 := by decide +kernel
theorem ok_X12_back : am_okM am_tb qX12_back := ⟨by decide +kernel, 68, ckT_ok tX12_back ck_X12_back⟩
set_option maxRecDepth 100000 in
theorem ck_X12_isOperator : ckT 12 1 false cX12_isOperator (some .boolean) tX12_isOperator 0 = some 7 := by decide +kernel
theorem ok_X12_isOperator : am_okM am_tb qX12_isOperator := ⟨by decide +kernel, 7, ckT_ok tX12_isOperator ck_X12_isOperator⟩
set_option maxRecDepth 100000 in
theorem ck_X12_isWord : ckT 12 2 false cX12_isWord (some .boolean) tX12_isWord 0 = some 28 := by decide +kernel
theorem ok_X12_isWord : am_okM am_tb qX12_isWord := ⟨by decide +kernel, 28, ckT_ok tX12_isWord ck_X12_isWord⟩
set_option maxRecDepth 100000 in
theorem ck_X12_wipe : ckT 12 3 false cX12_wipe none tX12_wipe 0 = some 29 := by decide +kernel
theorem ok_X12_wipe : am_okM am_tb qX12_wipe := ⟨by decide +kernel, 29, ckT_ok tX12_wipe ck_X12_wipe⟩
set_option maxRecDepth 100000 in
theorem ck_X12_copies : ckT 12 4 false cX12_copies none tX12_copies 0 = some 40 := by decide +kernel
theorem ok_X12_copies : am_okM am_tb qX12_copies := ⟨by decide +kernel, 40, ckT_ok tX12_copies ck_X12_copies⟩
set_option maxRecDepth 100000 in
theorem ck_X12_fetches : ckT 12 4 false cX12_fetches none tX12_fetches 0 = some 43 := by decide +kernel
theorem ok_X12_fetches : am_okM am_tb qX12_fetches := ⟨by decide +kernel, 43, ckT_ok tX12_fetches ck_X12_fetches⟩
set_option maxRecDepth 100000 in
theorem ck_X12_termsIn : ckT 12 4 false cX12_termsIn (some .int) tX12_termsIn 0 = some 42 := by decide +kernel
theorem ok_X12_termsIn : am_okM am_tb qX12_termsIn := ⟨by decide +kernel, 42, ckT_ok tX12_termsIn ck_X12_termsIn⟩
set_option maxRecDepth 100000 in
theorem ck_X12_keeps : ckT 12 4 false cX12_keeps (some .int) tX12_keeps 0 = some 47 := by decide +kernel
theorem ok_X12_keeps : am_okM am_tb qX12_keeps := ⟨by decide +kernel, 47, ckT_ok tX12_keeps ck_X12_keeps⟩
set_option maxRecDepth 100000 in
theorem ck_X12_degreeIn : ckT 12 3 false cX12_degreeIn (some .int) tX12_degreeIn 0 = some 51 := by decide +kernel
theorem ok_X12_degreeIn : am_okM am_tb qX12_degreeIn := ⟨by decide +kernel, 51, ckT_ok tX12_degreeIn ck_X12_degreeIn⟩
set_option maxRecDepth 100000 in
theorem ck_X12_wordBehind : ckT 12 3 false cX12_wordBehind (some .int) tX12_wordBehind 0 = some 29 := by decide +kernel
theorem ok_X12_wordBehind : am_okM am_tb qX12_wordBehind := ⟨by decide +kernel, 29, ckT_ok tX12_wordBehind ck_X12_wordBehind⟩
set_option maxRecDepth 100000 in
theorem ck_X12_leadIn : ckT 12 5 false cX12_leadIn (some .int) tX12_leadIn 0 = some 48 := by decide +kernel
theorem ok_X12_leadIn : am_okM am_tb qX12_leadIn := ⟨by decide +kernel, 48, ckT_ok tX12_leadIn ck_X12_leadIn⟩
set_option maxRecDepth 100000 in
theorem ck_X12_adds : ckT 12 10 false cX12_adds none tX12_adds 0 = some 98 := by decide +kernel
theorem ok_X12_adds : am_okM am_tb qX12_adds := ⟨by decide +kernel, 98, ckT_ok tX12_adds ck_X12_adds⟩
set_option maxRecDepth 100000 in
theorem ck_X12_addsBehind : ckT 12 9 false cX12_addsBehind none tX12_addsBehind 0 = some 85 := by decide +kernel
theorem ok_X12_addsBehind : am_okM am_tb qX12_addsBehind := ⟨by decide +kernel, 85, ckT_ok tX12_addsBehind ck_X12_addsBehind⟩
set_option maxRecDepth 100000 in
theorem ck_X12_multiplies : ckT 12 7 false cX12_multiplies none tX12_multiplies 0 = some 80 := by decide +kernel
theorem ok_X12_multiplies : am_okM am_tb qX12_multiplies := ⟨by decide +kernel, 80, ckT_ok tX12_multiplies ck_X12_multiplies⟩
set_option maxRecDepth 100000 in
theorem ck_X12_isTooMuch : ckT 12 5 false cX12_isTooMuch (some .boolean) tX12_isTooMuch 0 = some 37 := by decide +kernel
theorem ok_X12_isTooMuch : am_okM am_tb qX12_isTooMuch := ⟨by decide +kernel, 37, ckT_ok tX12_isTooMuch ck_X12_isTooMuch⟩
set_option maxRecDepth 100000 in
theorem ck_X12_isPowerTooMuch : ckT 12 3 false cX12_isPowerTooMuch (some .boolean) tX12_isPowerTooMuch 0 = some 18 := by decide +kernel
theorem ok_X12_isPowerTooMuch : am_okM am_tb qX12_isPowerTooMuch := ⟨by decide +kernel, 18, ckT_ok tX12_isPowerTooMuch ck_X12_isPowerTooMuch⟩
set_option maxRecDepth 100000 in
theorem ck_X12_raises : ckT 12 3 false cX12_raises none tX12_raises 0 = some 55 := by decide +kernel
theorem ok_X12_raises : am_okM am_tb qX12_raises := ⟨by decide +kernel, 55, ckT_ok tX12_raises ck_X12_raises⟩
set_option maxRecDepth 100000 in
theorem ck_X12_mixes : ckT 12 7 false cX12_mixes none tX12_mixes 0 = some 68 := by decide +kernel
theorem ok_X12_mixes : am_okM am_tb qX12_mixes := ⟨by decide +kernel, 68, ckT_ok tX12_mixes ck_X12_mixes⟩
set_option maxRecDepth 100000 in
theorem ck_X12_sets : ckT 12 7 false cX12_sets (some .int) tX12_sets 0 = some 63 := by decide +kernel
theorem ok_X12_sets : am_okM am_tb qX12_sets := ⟨by decide +kernel, 63, ckT_ok tX12_sets ck_X12_sets⟩
set_option maxRecDepth 100000 in
theorem ck_X12_at : ckT 12 4 false cX12_at (some .int) tX12_at 0 = some 41 := by decide +kernel
theorem ok_X12_at : am_okM am_tb qX12_at := ⟨by decide +kernel, 41, ckT_ok tX12_at ck_X12_at⟩
set_option maxRecDepth 100000 in
theorem ck_X12_sums : ckT 12 6 false cX12_sums (some .int) tX12_sums 0 = some 69 := by decide +kernel
theorem ok_X12_sums : am_okM am_tb qX12_sums := ⟨by decide +kernel, 69, ckT_ok tX12_sums ck_X12_sums⟩
set_option maxRecDepth 100000 in
theorem ck_X12_times : ckT 12 4 false cX12_times (some .int) tX12_times 0 = some 74 := by decide +kernel
theorem ok_X12_times : am_okM am_tb qX12_times := ⟨by decide +kernel, 74, ckT_ok tX12_times ck_X12_times⟩
set_option maxRecDepth 100000 in
theorem ck_X12_bracket : ckT 12 4 false cX12_bracket (some .int) tX12_bracket 0 = some 98 := by decide +kernel
theorem ok_X12_bracket : am_okM am_tb qX12_bracket := ⟨by decide +kernel, 98, ckT_ok tX12_bracket ck_X12_bracket⟩
set_option maxRecDepth 100000 in
theorem ck_X12_power : ckT 12 4 false cX12_power (some .int) tX12_power 0 = some 64 := by decide +kernel
theorem ok_X12_power : am_okM am_tb qX12_power := ⟨by decide +kernel, 64, ckT_ok tX12_power ck_X12_power⟩
set_option maxRecDepth 100000 in
theorem ck_X12_reversed : ckT 12 5 false cX12_reversed (some .int) tX12_reversed 0 = some 108 := by decide +kernel
theorem ok_X12_reversed : am_okM am_tb qX12_reversed := ⟨by decide +kernel, 108, ckT_ok tX12_reversed ck_X12_reversed⟩
set_option maxRecDepth 100000 in
theorem ck_X12_greatest : ckT 12 7 false cX12_greatest (some .int) tX12_greatest 0 = some 75 := by decide +kernel
theorem ok_X12_greatest : am_okM am_tb qX12_greatest := ⟨by decide +kernel, 75, ckT_ok tX12_greatest ck_X12_greatest⟩
set_option maxRecDepth 100000 in
theorem ck_X12_ofLead : ckT 12 3 false cX12_ofLead (some .int) tX12_ofLead 0 = some 51 := by decide +kernel
theorem ok_X12_ofLead : am_okM am_tb qX12_ofLead := ⟨by decide +kernel, 51, ckT_ok tX12_ofLead ck_X12_ofLead⟩
set_option maxRecDepth 100000 in
theorem ck_X12_aboutOf : ckT 12 4 false cX12_aboutOf (some .int) tX12_aboutOf 0 = some 122 := by decide +kernel
theorem ok_X12_aboutOf : am_okM am_tb qX12_aboutOf := ⟨by decide +kernel, 122, ckT_ok tX12_aboutOf ck_X12_aboutOf⟩
set_option maxRecDepth 100000 in
theorem ck_X12_of : ckT 12 3 false cX12_of (some .int) tX12_of 0 = some 31 := by decide +kernel
theorem ok_X12_of : am_okM am_tb qX12_of := ⟨by decide +kernel, 31, ckT_ok tX12_of ck_X12_of⟩
set_option maxRecDepth 100000 in
theorem ck_X12_order : ckT 12 3 false cX12_order (some .int) tX12_order 0 = some 38 := by decide +kernel
theorem ok_X12_order : am_okM am_tb qX12_order := ⟨by decide +kernel, 38, ckT_ok tX12_order ck_X12_order⟩
set_option maxRecDepth 100000 in
theorem ck_X12_isPolynomial : ckT 12 1 false cX12_isPolynomial (some .boolean) tX12_isPolynomial 0 = some 7 := by decide +kernel
theorem ok_X12_isPolynomial : am_okM am_tb qX12_isPolynomial := ⟨by decide +kernel, 7, ckT_ok tX12_isPolynomial ck_X12_isPolynomial⟩
set_option maxRecDepth 100000 in
theorem ck_X12_rateAt : ckT 12 2 false cX12_rateAt (some .int) tX12_rateAt 0 = some 11 := by decide +kernel
theorem ok_X12_rateAt : am_okM am_tb qX12_rateAt := ⟨by decide +kernel, 11, ckT_ok tX12_rateAt ck_X12_rateAt⟩
set_option maxRecDepth 100000 in
theorem ck_X12_puts : ckT 12 5 false cX12_puts (some .int) tX12_puts 0 = some 58 := by decide +kernel
theorem ok_X12_puts : am_okM am_tb qX12_puts := ⟨by decide +kernel, 58, ckT_ok tX12_puts ck_X12_puts⟩
set_option maxRecDepth 100000 in
theorem ck_X12_rate : ckT 12 3 false cX12_rate (some .int) tX12_rate 0 = some 38 := by decide +kernel
theorem ok_X12_rate : am_okM am_tb qX12_rate := ⟨by decide +kernel, 38, ckT_ok tX12_rate ck_X12_rate⟩
set_option maxRecDepth 100000 in
theorem ck_X12_falls : ckT 12 4 false cX12_falls (some .int) tX12_falls 0 = some 27 := by decide +kernel
theorem ok_X12_falls : am_okM am_tb qX12_falls := ⟨by decide +kernel, 27, ckT_ok tX12_falls ck_X12_falls⟩
set_option maxRecDepth 100000 in
theorem ck_X12_greatestPower : ckT 12 3 false cX12_greatestPower (some .int) tX12_greatestPower 0 = some 28 := by decide +kernel
theorem ok_X12_greatestPower : am_okM am_tb qX12_greatestPower := ⟨by decide +kernel, 28, ckT_ok tX12_greatestPower ck_X12_greatestPower⟩
set_option maxRecDepth 100000 in
theorem ck_X12_canMake : ckT 12 9 false cX12_canMake (some .boolean) tX12_canMake 0 = some 178 := by decide +kernel
theorem ok_X12_canMake : am_okM am_tb qX12_canMake := ⟨by decide +kernel, 178, ckT_ok tX12_canMake ck_X12_canMake⟩
set_option maxRecDepth 100000 in
theorem ck_X12_makes : ckT 12 5 false cX12_makes (some .int) tX12_makes 0 = some 99 := by decide +kernel
theorem ok_X12_makes : am_okM am_tb qX12_makes := ⟨by decide +kernel, 99, ckT_ok tX12_makes ck_X12_makes⟩
set_option maxRecDepth 100000 in
theorem ck_X12_inverseOf : ckT 12 4 false cX12_inverseOf (some .int) tX12_inverseOf 0 = some 48 := by decide +kernel
theorem ok_X12_inverseOf : am_okM am_tb qX12_inverseOf := ⟨by decide +kernel, 48, ckT_ok tX12_inverseOf ck_X12_inverseOf⟩
set_option maxRecDepth 100000 in
theorem ck_X12_laysMatrix : ckT 12 8 false cX12_laysMatrix none tX12_laysMatrix 0 = some 141 := by decide +kernel
theorem ok_X12_laysMatrix : am_okM am_tb qX12_laysMatrix := ⟨by decide +kernel, 141, ckT_ok tX12_laysMatrix ck_X12_laysMatrix⟩
set_option maxRecDepth 100000 in
theorem ck_X12_addsRow : ckT 12 5 false cX12_addsRow none tX12_addsRow 0 = some 60 := by decide +kernel
theorem ok_X12_addsRow : am_okM am_tb qX12_addsRow := ⟨by decide +kernel, 60, ckT_ok tX12_addsRow ck_X12_addsRow⟩
