/-! Each method is its tree. Written by wip/whole/gen_prog.py. -/
set_option maxRecDepth 100000 in
theorem ck_X6_isZero : ckT 6 1 false cX6_isZero (some .boolean) tX6_isZero 0 = some 13 := by decide +kernel
theorem ok_X6_isZero : am_okM am_tb qX6_isZero := ⟨by decide +kernel, 13, ckT_ok tX6_isZero ck_X6_isZero⟩
set_option maxRecDepth 100000 in
theorem ck_X6_degree : ckT 6 2 false cX6_degree (some .int) tX6_degree 0 = some 20 := by decide +kernel
theorem ok_X6_degree : am_okM am_tb qX6_degree := ⟨by decide +kernel, 20, ckT_ok tX6_degree ck_X6_degree⟩
set_option maxRecDepth 100000 in
theorem ck_X6_leadPlace : ckT 6 5 false cX6_leadPlace (some .int) tX6_leadPlace 0 = some 41 := by decide +kernel
theorem ok_X6_leadPlace : am_okM am_tb qX6_leadPlace := ⟨by decide +kernel, 41, ckT_ok tX6_leadPlace ck_X6_leadPlace⟩
set_option maxRecDepth 100000 in
theorem ck_X6_property : ckT 6 4 false cX6_property (some .int) tX6_property 0 = some 127 := by decide +kernel
theorem ok_X6_property : am_okM am_tb qX6_property := ⟨by decide +kernel, 127, ckT_ok tX6_property ck_X6_property⟩
set_option maxRecDepth 100000 in
theorem ck_X6_greatest : ckT 6 5 false cX6_greatest (some .int) tX6_greatest 0 = some 64 := by decide +kernel
theorem ok_X6_greatest : am_okM am_tb qX6_greatest := ⟨by decide +kernel, 64, ckT_ok tX6_greatest ck_X6_greatest⟩
set_option maxRecDepth 100000 in
theorem ck_X6_measure : ckT 6 3 false cX6_measure (some .int) tX6_measure 0 = some 40 := by decide +kernel
theorem ok_X6_measure : am_okM am_tb qX6_measure := ⟨by decide +kernel, 40, ckT_ok tX6_measure ck_X6_measure⟩
set_option maxRecDepth 100000 in
theorem ck_X7_init : ckT 7 4 true cX7_init none tX7_init 0 = some 100 := by decide +kernel
theorem ok_X7_init : am_okM am_tb qX7_init := ⟨by decide +kernel, 100, ckT_ok tX7_init ck_X7_init⟩
set_option maxRecDepth 100000 in
theorem ck_X7_evaluate : ckT 7 2 false cX7_evaluate (some .boolean) tX7_evaluate 0 = some 27 := by decide +kernel
theorem ok_X7_evaluate : am_okM am_tb qX7_evaluate := ⟨by decide +kernel, 27, ckT_ok tX7_evaluate ck_X7_evaluate⟩
set_option maxRecDepth 100000 in
theorem ck_X7_readExpression : ckT 7 5 false cX7_readExpression (some .boolean) tX7_readExpression 0 = some 138 := by decide +kernel
theorem ok_X7_readExpression : am_okM am_tb qX7_readExpression := ⟨by decide +kernel, 138, ckT_ok tX7_readExpression ck_X7_readExpression⟩
set_option maxRecDepth 100000 in
theorem ck_X7_readTerm : ckT 7 4 false cX7_readTerm (some .boolean) tX7_readTerm 0 = some 102 := by decide +kernel
theorem ok_X7_readTerm : am_okM am_tb qX7_readTerm := ⟨by decide +kernel, 102, ckT_ok tX7_readTerm ck_X7_readTerm⟩
set_option maxRecDepth 100000 in
theorem ck_X7_readFactor : ckT 7 4 false cX7_readFactor (some .boolean) tX7_readFactor 0 = some 214 := by decide +kernel
theorem ok_X7_readFactor : am_okM am_tb qX7_readFactor := ⟨by decide +kernel, 214, ckT_ok tX7_readFactor ck_X7_readFactor⟩
set_option maxRecDepth 100000 in
theorem ck_X7_readNumber : ckT 7 4 false cX7_readNumber (some .int) tX7_readNumber 0 = some 38 := by decide +kernel
theorem ok_X7_readNumber : am_okM am_tb qX7_readNumber := ⟨by decide +kernel, 38, ckT_ok tX7_readNumber ck_X7_readNumber⟩
set_option maxRecDepth 100000 in
theorem ck_X7_peek : ckT 7 1 false cX7_peek (some .int) tX7_peek 0 = some 55 := by decide +kernel
theorem ok_X7_peek : am_okM am_tb qX7_peek := ⟨by decide +kernel, 55, ckT_ok tX7_peek ck_X7_peek⟩
set_option maxRecDepth 100000 in
theorem ck_X8_init : ckT 8 2 true cX8_init none tX8_init 0 = some 57 := by decide +kernel
theorem ok_X8_init : am_okM am_tb qX8_init := ⟨by decide +kernel, 57, ckT_ok tX8_init ck_X8_init⟩
set_option maxRecDepth 100000 in
theorem ck_X8_copyFrom : ckT 8 3 false cX8_copyFrom none tX8_copyFrom 0 = some 70 := by decide +kernel
theorem ok_X8_copyFrom : am_okM am_tb qX8_copyFrom := ⟨by decide +kernel, 70, ckT_ok tX8_copyFrom ck_X8_copyFrom⟩
set_option maxRecDepth 100000 in
theorem ck_X9_init : ckT 9 1 true cX9_init none tX9_init 0 = some 28 := by decide +kernel
theorem ok_X9_init : am_okM am_tb qX9_init := ⟨by decide +kernel, 28, ckT_ok tX9_init ck_X9_init⟩
set_option maxRecDepth 100000 in
theorem ck_X9_append : ckT 9 2 false cX9_append none tX9_append 0 = some 30 := by decide +kernel
theorem ok_X9_append : am_okM am_tb qX9_append := ⟨by decide +kernel, 30, ckT_ok tX9_append ck_X9_append⟩
set_option maxRecDepth 100000 in
theorem ck_X9_byteAt : ckT 9 2 false cX9_byteAt (some .int) tX9_byteAt 0 = some 29 := by decide +kernel
theorem ok_X9_byteAt : am_okM am_tb qX9_byteAt := ⟨by decide +kernel, 29, ckT_ok tX9_byteAt ck_X9_byteAt⟩
set_option maxRecDepth 100000 in
theorem ck_X9_isDigit : ckT 9 3 false cX9_isDigit (some .boolean) tX9_isDigit 0 = some 24 := by decide +kernel
theorem ok_X9_isDigit : am_okM am_tb qX9_isDigit := ⟨by decide +kernel, 24, ckT_ok tX9_isDigit ck_X9_isDigit⟩
set_option maxRecDepth 100000 in
theorem ck_X9_fault : ckT 9 4 false cX9_fault (some .int) tX9_fault 0 = some 108 := by decide +kernel
theorem ok_X9_fault : am_okM am_tb qX9_fault := ⟨by decide +kernel, 108, ckT_ok tX9_fault ck_X9_fault⟩
set_option maxRecDepth 100000 in
theorem ck_X9_pass : ckT 9 2 false cX9_pass (some .int) tX9_pass 0 = some 79 := by decide +kernel
theorem ok_X9_pass : am_okM am_tb qX9_pass := ⟨by decide +kernel, 79, ckT_ok tX9_pass ck_X9_pass⟩
set_option maxRecDepth 100000 in
theorem ck_X9_passOperand : ckT 9 4 false cX9_passOperand (some .int) tX9_passOperand 0 = some 100 := by decide +kernel
theorem ok_X9_passOperand : am_okM am_tb qX9_passOperand := ⟨by decide +kernel, 100, ckT_ok tX9_passOperand ck_X9_passOperand⟩
set_option maxRecDepth 100000 in
theorem ck_X9_passExponent : ckT 9 3 false cX9_passExponent (some .int) tX9_passExponent 0 = some 50 := by decide +kernel
theorem ok_X9_passExponent : am_okM am_tb qX9_passExponent := ⟨by decide +kernel, 50, ckT_ok tX9_passExponent ck_X9_passExponent⟩
set_option maxRecDepth 100000 in
theorem ck_X9_passLink : ckT 9 3 false cX9_passLink (some .int) tX9_passLink 0 = some 93 := by decide +kernel
theorem ok_X9_passLink : am_okM am_tb qX9_passLink := ⟨by decide +kernel, 93, ckT_ok tX9_passLink ck_X9_passLink⟩
set_option maxRecDepth 100000 in
theorem ck_X9_countDigits : ckT 9 4 false cX9_countDigits (some .int) tX9_countDigits 0 = some 25 := by decide +kernel
theorem ok_X9_countDigits : am_okM am_tb qX9_countDigits := ⟨by decide +kernel, 25, ckT_ok tX9_countDigits ck_X9_countDigits⟩
set_option maxRecDepth 100000 in
theorem ck_X9_valueOf : ckT 9 5 false cX9_valueOf (some .int) tX9_valueOf 0 = some 36 := by decide +kernel
theorem ok_X9_valueOf : am_okM am_tb qX9_valueOf := ⟨by decide +kernel, 36, ckT_ok tX9_valueOf ck_X9_valueOf⟩
set_option maxRecDepth 100000 in
theorem ck_X10_init : ckT 10 1 true cX10_init none tX10_init 0 = some 18 := by decide +kernel
theorem ok_X10_init : am_okM am_tb qX10_init := ⟨by decide +kernel, 18, ckT_ok tX10_init ck_X10_init⟩
set_option maxRecDepth 100000 in
theorem ck_X10_byteAt : ckT 10 9 false cX10_byteAt (some .int) tX10_byteAt 0 = some 138 := by decide +kernel
theorem ok_X10_byteAt : am_okM am_tb qX10_byteAt := ⟨by decide +kernel, 138, ckT_ok tX10_byteAt ck_X10_byteAt⟩
set_option maxRecDepth 100000 in
theorem ck_X10_writeTerm : ckT 10 8 false cX10_writeTerm none tX10_writeTerm 0 = some 110 := by decide +kernel
theorem ok_X10_writeTerm : am_okM am_tb qX10_writeTerm := ⟨by decide +kernel, 110, ckT_ok tX10_writeTerm ck_X10_writeTerm⟩
set_option maxRecDepth 100000 in
theorem ck_X10_writeLetter : ckT 10 4 false cX10_writeLetter none tX10_writeLetter 0 = some 37 := by decide +kernel
theorem ok_X10_writeLetter : am_okM am_tb qX10_writeLetter := ⟨by decide +kernel, 37, ckT_ok tX10_writeLetter ck_X10_writeLetter⟩
set_option maxRecDepth 100000 in
theorem ck_X10_writeNumber : ckT 10 5 false cX10_writeNumber none tX10_writeNumber 0 = some 55 := by decide +kernel
theorem ok_X10_writeNumber : am_okM am_tb qX10_writeNumber := ⟨by decide +kernel, 55, ckT_ok tX10_writeNumber ck_X10_writeNumber⟩
set_option maxRecDepth 100000 in
theorem ck_X10_write : ckT 10 2 false cX10_write none tX10_write 0 = some 33 := by decide +kernel
theorem ok_X10_write : am_okM am_tb qX10_write := ⟨by decide +kernel, 33, ckT_ok tX10_write ck_X10_write⟩
set_option maxRecDepth 100000 in
theorem ck_X11_init : ckT 11 1 true cX11_init none tX11_init 0 = some 154 := by decide +kernel
theorem ok_X11_init : am_okM am_tb qX11_init := ⟨by decide +kernel, 154, ckT_ok tX11_init ck_X11_init⟩
set_option maxRecDepth 100000 in
theorem ck_X11_sets : ckT 11 7 false cX11_sets (some .int) tX11_sets 0 = some 69 := by decide +kernel
theorem ok_X11_sets : am_okM am_tb qX11_sets := ⟨by decide +kernel, 69, ckT_ok tX11_sets ck_X11_sets⟩
set_option maxRecDepth 100000 in
theorem ck_X11_at : ckT 11 4 false cX11_at (some .int) tX11_at 0 = some 38 := by decide +kernel
theorem ok_X11_at : am_okM am_tb qX11_at := ⟨by decide +kernel, 38, ckT_ok tX11_at ck_X11_at⟩
set_option maxRecDepth 100000 in
theorem ck_X11_sums : ckT 11 6 false cX11_sums (some .int) tX11_sums 0 = some 82 := by decide +kernel
theorem ok_X11_sums : am_okM am_tb qX11_sums := ⟨by decide +kernel, 82, ckT_ok tX11_sums ck_X11_sums⟩
set_option maxRecDepth 100000 in
theorem ck_X11_times : ckT 11 6 false cX11_times (some .int) tX11_times 0 = some 92 := by decide +kernel
theorem ok_X11_times : am_okM am_tb qX11_times := ⟨by decide +kernel, 92, ckT_ok tX11_times ck_X11_times⟩
set_option maxRecDepth 100000 in
theorem ck_X11_bracket : ckT 11 6 false cX11_bracket (some .int) tX11_bracket 0 = some 110 := by decide +kernel
theorem ok_X11_bracket : am_okM am_tb qX11_bracket := ⟨by decide +kernel, 110, ckT_ok tX11_bracket ck_X11_bracket⟩
set_option maxRecDepth 100000 in
theorem ck_X11_power : ckT 11 5 false cX11_power (some .int) tX11_power 0 = some 74 := by decide +kernel
theorem ok_X11_power : am_okM am_tb qX11_power := ⟨by decide +kernel, 74, ckT_ok tX11_power ck_X11_power⟩
set_option maxRecDepth 100000 in
theorem ck_X11_reversed : ckT 11 3 false cX11_reversed (some .int) tX11_reversed 0 = some 45 := by decide +kernel
theorem ok_X11_reversed : am_okM am_tb qX11_reversed := ⟨by decide +kernel, 45, ckT_ok tX11_reversed ck_X11_reversed⟩
set_option maxRecDepth 100000 in
theorem ck_X11_of : ckT 11 3 false cX11_of (some .int) tX11_of 0 = some 43 := by decide +kernel
theorem ok_X11_of : am_okM am_tb qX11_of := ⟨by decide +kernel, 43, ckT_ok tX11_of ck_X11_of⟩
set_option maxRecDepth 100000 in
theorem ck_X11_order : ckT 11 3 false cX11_order (some .int) tX11_order 0 = some 43 := by decide +kernel
theorem ok_X11_order : am_okM am_tb qX11_order := ⟨by decide +kernel, 43, ckT_ok tX11_order ck_X11_order⟩
set_option maxRecDepth 100000 in
theorem ck_X11_puts : ckT 11 5 false cX11_puts (some .int) tX11_puts 0 = some 64 := by decide +kernel
theorem ok_X11_puts : am_okM am_tb qX11_puts := ⟨by decide +kernel, 64, ckT_ok tX11_puts ck_X11_puts⟩
set_option maxRecDepth 100000 in
theorem ck_X11_rate : ckT 11 3 false cX11_rate (some .int) tX11_rate 0 = some 34 := by decide +kernel
theorem ok_X11_rate : am_okM am_tb qX11_rate := ⟨by decide +kernel, 34, ckT_ok tX11_rate ck_X11_rate⟩
set_option maxRecDepth 100000 in
theorem ck_X11_makes : ckT 11 7 false cX11_makes (some .int) tX11_makes 0 = some 138 := by decide +kernel
theorem ok_X11_makes : am_okM am_tb qX11_makes := ⟨by decide +kernel, 138, ckT_ok tX11_makes ck_X11_makes⟩
set_option maxRecDepth 100000 in
theorem ck_X11_kernel : ckT 11 3 false cX11_kernel (some .int) tX11_kernel 0 = some 40 := by decide +kernel
theorem ok_X11_kernel : am_okM am_tb qX11_kernel := ⟨by decide +kernel, 40, ckT_ok tX11_kernel ck_X11_kernel⟩
set_option maxRecDepth 100000 in
theorem ck_X11_kills : ckT 11 6 false cX11_kills (some .int) tX11_kills 0 = some 128 := by decide +kernel
theorem ok_X11_kills : am_okM am_tb qX11_kills := ⟨by decide +kernel, 128, ckT_ok tX11_kills ck_X11_kills⟩
set_option maxRecDepth 100000 in
theorem ck_X11_rest : ckT 11 5 false cX11_rest (some .int) tX11_rest 0 = some 161 := by decide +kernel
theorem ok_X11_rest : am_okM am_tb qX11_rest := ⟨by decide +kernel, 161, ckT_ok tX11_rest ck_X11_rest⟩
set_option maxRecDepth 100000 in
theorem ck_X11_basis : ckT 11 2 false cX11_basis (some .int) tX11_basis 0 = some 41 := by decide +kernel
theorem ok_X11_basis : am_okM am_tb qX11_basis := ⟨by decide +kernel, 41, ckT_ok tX11_basis ck_X11_basis⟩
set_option maxRecDepth 100000 in
theorem ck_X11_based : ckT 11 7 false cX11_based (some .int) tX11_based 0 = some 107 := by decide +kernel
theorem ok_X11_based : am_okM am_tb qX11_based := ⟨by decide +kernel, 107, ckT_ok tX11_based ck_X11_based⟩
set_option maxRecDepth 100000 in
theorem ck_X11_stairs : ckT 11 6 false cX11_stairs (some .int) tX11_stairs 0 = some 85 := by decide +kernel
theorem ok_X11_stairs : am_okM am_tb qX11_stairs := ⟨by decide +kernel, 85, ckT_ok tX11_stairs ck_X11_stairs⟩
set_option maxRecDepth 100000 in
theorem ck_X11_within : ckT 11 5 false cX11_within (some .int) tX11_within 0 = some 134 := by decide +kernel
theorem ok_X11_within : am_okM am_tb qX11_within := ⟨by decide +kernel, 134, ckT_ok tX11_within ck_X11_within⟩
set_option maxRecDepth 100000 in
theorem ck_X11_type : ckT 11 2 false cX11_type (some .int) tX11_type 0 = some 48 := by decide +kernel
theorem ok_X11_type : am_okM am_tb qX11_type := ⟨by decide +kernel, 48, ckT_ok tX11_type ck_X11_type⟩
set_option maxRecDepth 100000 in
theorem ck_X11_clear : ckT 11 2 false cX11_clear (some .int) tX11_clear 0 = some 18 := by decide +kernel
theorem ok_X11_clear : am_okM am_tb qX11_clear := ⟨by decide +kernel, 18, ckT_ok tX11_clear ck_X11_clear⟩
set_option maxRecDepth 100000 in
theorem ck_X11_reads : ckT 11 3 false cX11_reads (some .int) tX11_reads 0 = some 55 := by decide +kernel
theorem ok_X11_reads : am_okM am_tb qX11_reads := ⟨by decide +kernel, 55, ckT_ok tX11_reads ck_X11_reads⟩
set_option maxRecDepth 100000 in
theorem ck_X11_shown : ckT 11 3 false cX11_shown (some .int) tX11_shown 0 = some 41 := by decide +kernel
theorem ok_X11_shown : am_okM am_tb qX11_shown := ⟨by decide +kernel, 41, ckT_ok tX11_shown ck_X11_shown⟩
set_option maxRecDepth 100000 in
theorem ck_X11_back : ckT 11 1 false cX11_back (some .int) tX11_back 0 = some 34 := by decide +kernel
theorem ok_X11_back : am_okM am_tb qX11_back := ⟨by decide +kernel, 34, ckT_ok tX11_back ck_X11_back⟩
set_option maxRecDepth 100000 in
theorem ck_X11_told : ckT 11 2 false cX11_told (some .int) tX11_told 0 = some 84 := by decide +kernel
theorem ok_X11_told : am_okM am_tb qX11_told := ⟨by decide +kernel, 84, ckT_ok tX11_told ck_X11_told⟩
set_option maxRecDepth 100000 in
theorem ck_X11_digest : ckT 11 6 false cX11_digest (some .long) tX11_digest 0 = some 132 := by decide +kernel
theorem ok_X11_digest : am_okM am_tb qX11_digest := ⟨by decide +kernel, 132, ckT_ok tX11_digest ck_X11_digest⟩
set_option maxRecDepth 100000 in
theorem ck_X11_mixed : ckT 11 9 false cX11_mixed (some .long) tX11_mixed 0 = some 48 := by decide +kernel
theorem ok_X11_mixed : am_okM am_tb qX11_mixed := ⟨by decide +kernel, 48, ckT_ok tX11_mixed ck_X11_mixed⟩
