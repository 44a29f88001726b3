/-! Each method is its tree. Written by wip/whole/gen_prog.py. -/
set_option maxRecDepth 100000 in
theorem ck_X12_isFree : ckT 12 7 false cX12_isFree (some .boolean) tX12_isFree 0 = some 114 := by decide +kernel
theorem ok_X12_isFree : am_okM am_tb qX12_isFree := ⟨by decide +kernel, 114, ckT_ok tX12_isFree ck_X12_isFree⟩
set_option maxRecDepth 100000 in
theorem ck_X12_kernel : ckT 12 5 false cX12_kernel (some .int) tX12_kernel 0 = some 69 := by decide +kernel
theorem ok_X12_kernel : am_okM am_tb qX12_kernel := ⟨by decide +kernel, 69, ckT_ok tX12_kernel ck_X12_kernel⟩
set_option maxRecDepth 100000 in
theorem ck_X12_kills : ckT 12 7 false cX12_kills (some .int) tX12_kills 0 = some 167 := by decide +kernel
theorem ok_X12_kills : am_okM am_tb qX12_kills := ⟨by decide +kernel, 167, ckT_ok tX12_kills ck_X12_kills⟩
set_option maxRecDepth 100000 in
theorem ck_X12_findsLeads : ckT 12 2 false cX12_findsLeads none tX12_findsLeads 0 = some 64 := by decide +kernel
theorem ok_X12_findsLeads : am_okM am_tb qX12_findsLeads := ⟨by decide +kernel, 64, ckT_ok tX12_findsLeads ck_X12_findsLeads⟩
set_option maxRecDepth 100000 in
theorem ck_X12_isBelow : ckT 12 3 false cX12_isBelow (some .boolean) tX12_isBelow 0 = some 36 := by decide +kernel
theorem ok_X12_isBelow : am_okM am_tb qX12_isBelow := ⟨by decide +kernel, 36, ckT_ok tX12_isBelow ck_X12_isBelow⟩
set_option maxRecDepth 100000 in
theorem ck_X12_firstBelow : ckT 12 3 false cX12_firstBelow (some .int) tX12_firstBelow 0 = some 32 := by decide +kernel
theorem ok_X12_firstBelow : am_okM am_tb qX12_firstBelow := ⟨by decide +kernel, 32, ckT_ok tX12_firstBelow ck_X12_firstBelow⟩
set_option maxRecDepth 100000 in
theorem ck_X12_rests : ckT 12 6 false cX12_rests none tX12_rests 0 = some 157 := by decide +kernel
theorem ok_X12_rests : am_okM am_tb qX12_rests := ⟨by decide +kernel, 157, ckT_ok tX12_rests ck_X12_rests⟩
set_option maxRecDepth 100000 in
theorem ck_X12_isSet : ckT 12 1 false cX12_isSet (some .boolean) tX12_isSet 0 = some 8 := by decide +kernel
theorem ok_X12_isSet : am_okM am_tb qX12_isSet := ⟨by decide +kernel, 8, ckT_ok tX12_isSet ck_X12_isSet⟩
set_option maxRecDepth 100000 in
theorem ck_X12_rest : ckT 12 5 false cX12_rest (some .int) tX12_rest 0 = some 153 := by decide +kernel
theorem ok_X12_rest : am_okM am_tb qX12_rest := ⟨by decide +kernel, 153, ckT_ok tX12_rest ck_X12_rest⟩
set_option maxRecDepth 100000 in
theorem ck_X12_evens : ckT 12 4 false cX12_evens none tX12_evens 0 = some 66 := by decide +kernel
theorem ok_X12_evens : am_okM am_tb qX12_evens := ⟨by decide +kernel, 66, ckT_ok tX12_evens ck_X12_evens⟩
set_option maxRecDepth 100000 in
theorem ck_X12_areAlike : ckT 12 5 false cX12_areAlike (some .boolean) tX12_areAlike 0 = some 60 := by decide +kernel
theorem ok_X12_areAlike : am_okM am_tb qX12_areAlike := ⟨by decide +kernel, 60, ckT_ok tX12_areAlike ck_X12_areAlike⟩
set_option maxRecDepth 100000 in
theorem ck_X12_rowGoes : ckT 12 3 false cX12_rowGoes none tX12_rowGoes 0 = some 35 := by decide +kernel
theorem ok_X12_rowGoes : am_okM am_tb qX12_rowGoes := ⟨by decide +kernel, 35, ckT_ok tX12_rowGoes ck_X12_rowGoes⟩
set_option maxRecDepth 100000 in
theorem ck_X12_takesBy : ckT 12 3 false cX12_takesBy none tX12_takesBy 0 = some 47 := by decide +kernel
theorem ok_X12_takesBy : am_okM am_tb qX12_takesBy := ⟨by decide +kernel, 47, ckT_ok tX12_takesBy ck_X12_takesBy⟩
set_option maxRecDepth 100000 in
theorem ck_X12_tidies : ckT 12 3 false cX12_tidies none tX12_tidies 0 = some 99 := by decide +kernel
theorem ok_X12_tidies : am_okM am_tb qX12_tidies := ⟨by decide +kernel, 99, ckT_ok tX12_tidies ck_X12_tidies⟩
set_option maxRecDepth 100000 in
theorem ck_X12_isAhead : ckT 12 5 false cX12_isAhead (some .boolean) tX12_isAhead 0 = some 91 := by decide +kernel
theorem ok_X12_isAhead : am_okM am_tb qX12_isAhead := ⟨by decide +kernel, 91, ckT_ok tX12_isAhead ck_X12_isAhead⟩
set_option maxRecDepth 100000 in
theorem ck_X12_exchanges : ckT 12 3 false cX12_exchanges none tX12_exchanges 0 = some 21 := by decide +kernel
theorem ok_X12_exchanges : am_okM am_tb qX12_exchanges := ⟨by decide +kernel, 21, ckT_ok tX12_exchanges ck_X12_exchanges⟩
set_option maxRecDepth 100000 in
theorem ck_X12_sorts : ckT 12 6 false cX12_sorts none tX12_sorts 0 = some 88 := by decide +kernel
theorem ok_X12_sorts : am_okM am_tb qX12_sorts := ⟨by decide +kernel, 88, ckT_ok tX12_sorts ck_X12_sorts⟩
set_option maxRecDepth 100000 in
theorem ck_X12_crosses : ckT 12 7 false cX12_crosses none tX12_crosses 0 = some 144 := by decide +kernel
theorem ok_X12_crosses : am_okM am_tb qX12_crosses := ⟨by decide +kernel, 144, ckT_ok tX12_crosses ck_X12_crosses⟩
set_option maxRecDepth 100000 in
theorem ck_X12_isOneMore : ckT 12 2 false cX12_isOneMore (some .boolean) tX12_isOneMore 0 = some 81 := by decide +kernel
theorem ok_X12_isOneMore : am_okM am_tb qX12_isOneMore := ⟨by decide +kernel, 81, ckT_ok tX12_isOneMore ck_X12_isOneMore⟩
set_option maxRecDepth 100000 in
theorem ck_X12_laysBasis : ckT 12 3 false cX12_laysBasis none tX12_laysBasis 0 = some 100 := by decide +kernel
theorem ok_X12_laysBasis : am_okM am_tb qX12_laysBasis := ⟨by decide +kernel, 100, ckT_ok tX12_laysBasis ck_X12_laysBasis⟩
set_option maxRecDepth 100000 in
theorem ck_X12_isSmall : ckT 12 4 false cX12_isSmall (some .boolean) tX12_isSmall 0 = some 53 := by decide +kernel
theorem ok_X12_isSmall : am_okM am_tb qX12_isSmall := ⟨by decide +kernel, 53, ckT_ok tX12_isSmall ck_X12_isSmall⟩
set_option maxRecDepth 100000 in
theorem ck_X12_basis : ckT 12 2 false cX12_basis (some .int) tX12_basis 0 = some 35 := by decide +kernel
theorem ok_X12_basis : am_okM am_tb qX12_basis := ⟨by decide +kernel, 35, ckT_ok tX12_basis ck_X12_basis⟩
set_option maxRecDepth 100000 in
theorem ck_X12_based : ckT 12 5 false cX12_based (some .int) tX12_based 0 = some 88 := by decide +kernel
theorem ok_X12_based : am_okM am_tb qX12_based := ⟨by decide +kernel, 88, ckT_ok tX12_based ck_X12_based⟩
set_option maxRecDepth 100000 in
theorem ck_X12_stairs : ckT 12 5 false cX12_stairs (some .int) tX12_stairs 0 = some 98 := by decide +kernel
theorem ok_X12_stairs : am_okM am_tb qX12_stairs := ⟨by decide +kernel, 98, ckT_ok tX12_stairs ck_X12_stairs⟩
set_option maxRecDepth 100000 in
theorem ck_X12_within : ckT 12 3 false cX12_within (some .int) tX12_within 0 = some 72 := by decide +kernel
theorem ok_X12_within : am_okM am_tb qX12_within := ⟨by decide +kernel, 72, ckT_ok tX12_within ck_X12_within⟩
set_option maxRecDepth 100000 in
theorem ck_X12_type : ckT 12 2 false cX12_type (some .int) tX12_type 0 = some 54 := by decide +kernel
theorem ok_X12_type : am_okM am_tb qX12_type := ⟨by decide +kernel, 54, ckT_ok tX12_type ck_X12_type⟩
set_option maxRecDepth 100000 in
theorem ck_X12_clear : ckT 12 2 false cX12_clear (some .int) tX12_clear 0 = some 12 := by decide +kernel
theorem ok_X12_clear : am_okM am_tb qX12_clear := ⟨by decide +kernel, 12, ckT_ok tX12_clear ck_X12_clear⟩
set_option maxRecDepth 100000 in
theorem ck_X12_isAt : ckT 12 3 false cX12_isAt (some .boolean) tX12_isAt 0 = some 34 := by decide +kernel
theorem ok_X12_isAt : am_okM am_tb qX12_isAt := ⟨by decide +kernel, 34, ckT_ok tX12_isAt ck_X12_isAt⟩
set_option maxRecDepth 100000 in
theorem ck_X12_blanks : ckT 12 1 false cX12_blanks none tX12_blanks 0 = some 25 := by decide +kernel
theorem ok_X12_blanks : am_okM am_tb qX12_blanks := ⟨by decide +kernel, 25, ckT_ok tX12_blanks ck_X12_blanks⟩
set_option maxRecDepth 100000 in
theorem ck_X12_fails : ckT 12 2 false cX12_fails (some .boolean) tX12_fails 0 = some 7 := by decide +kernel
theorem ok_X12_fails : am_okM am_tb qX12_fails := ⟨by decide +kernel, 7, ckT_ok tX12_fails ck_X12_fails⟩
set_option maxRecDepth 100000 in
theorem ck_X12_opens : ckT 12 1 false cX12_opens none tX12_opens 0 = some 42 := by decide +kernel
theorem ok_X12_opens : am_okM am_tb qX12_opens := ⟨by decide +kernel, 42, ckT_ok tX12_opens ck_X12_opens⟩
set_option maxRecDepth 100000 in
theorem ck_X12_closes : ckT 12 1 false cX12_closes none tX12_closes 0 = some 78 := by decide +kernel
theorem ok_X12_closes : am_okM am_tb qX12_closes := ⟨by decide +kernel, 78, ckT_ok tX12_closes ck_X12_closes⟩
set_option maxRecDepth 100000 in
theorem ck_X12_takes : ckT 12 2 false cX12_takes none tX12_takes 0 = some 162 := by decide +kernel
theorem ok_X12_takes : am_okM am_tb qX12_takes := ⟨by decide +kernel, 162, ckT_ok tX12_takes ck_X12_takes⟩
set_option maxRecDepth 100000 in
theorem ck_X12_takesFigures : ckT 12 3 false cX12_takesFigures (some .boolean) tX12_takesFigures 0 = some 102 := by decide +kernel
theorem ok_X12_takesFigures : am_okM am_tb qX12_takesFigures := ⟨by decide +kernel, 102, ckT_ok tX12_takesFigures ck_X12_takesFigures⟩
set_option maxRecDepth 100000 in
theorem ck_X12_takesPower : ckT 12 3 false cX12_takesPower (some .boolean) tX12_takesPower 0 = some 78 := by decide +kernel
theorem ok_X12_takesPower : am_okM am_tb qX12_takesPower := ⟨by decide +kernel, 78, ckT_ok tX12_takesPower ck_X12_takesPower⟩
set_option maxRecDepth 100000 in
theorem ck_X12_values : ckT 12 4 false cX12_values none tX12_values 0 = some 22 := by decide +kernel
theorem ok_X12_values : am_okM am_tb qX12_values := ⟨by decide +kernel, 22, ckT_ok tX12_values ck_X12_values⟩
set_option maxRecDepth 100000 in
theorem ck_X12_takesFactor : ckT 12 2 false cX12_takesFactor (some .boolean) tX12_takesFactor 0 = some 228 := by decide +kernel
theorem ok_X12_takesFactor : am_okM am_tb qX12_takesFactor := ⟨by decide +kernel, 228, ckT_ok tX12_takesFactor ck_X12_takesFactor⟩
set_option maxRecDepth 100000 in
theorem ck_X12_takesSign : ckT 12 1 false cX12_takesSign (some .boolean) tX12_takesSign 0 = some 178 := by decide +kernel
theorem ok_X12_takesSign : am_okM am_tb qX12_takesSign := ⟨by decide +kernel, 178, ckT_ok tX12_takesSign ck_X12_takesSign⟩
set_option maxRecDepth 100000 in
theorem ck_X12_isRead : ckT 12 2 false cX12_isRead (some .boolean) tX12_isRead 0 = some 101 := by decide +kernel
theorem ok_X12_isRead : am_okM am_tb qX12_isRead := ⟨by decide +kernel, 101, ckT_ok tX12_isRead ck_X12_isRead⟩
set_option maxRecDepth 100000 in
theorem ck_X12_reads : ckT 12 3 false cX12_reads (some .int) tX12_reads 0 = some 61 := by decide +kernel
theorem ok_X12_reads : am_okM am_tb qX12_reads := ⟨by decide +kernel, 61, ckT_ok tX12_reads ck_X12_reads⟩
set_option maxRecDepth 100000 in
theorem ck_X12_writes : ckT 12 2 false cX12_writes none tX12_writes 0 = some 21 := by decide +kernel
theorem ok_X12_writes : am_okM am_tb qX12_writes := ⟨by decide +kernel, 21, ckT_ok tX12_writes ck_X12_writes⟩
set_option maxRecDepth 100000 in
theorem ck_X12_writesNumber : ckT 12 4 false cX12_writesNumber none tX12_writesNumber 0 = some 46 := by decide +kernel
theorem ok_X12_writesNumber : am_okM am_tb qX12_writesNumber := ⟨by decide +kernel, 46, ckT_ok tX12_writesNumber ck_X12_writesNumber⟩
set_option maxRecDepth 100000 in
theorem ck_X12_writesLetter : ckT 12 3 false cX12_writesLetter none tX12_writesLetter 0 = some 22 := by decide +kernel
theorem ok_X12_writesLetter : am_okM am_tb qX12_writesLetter := ⟨by decide +kernel, 22, ckT_ok tX12_writesLetter ck_X12_writesLetter⟩
set_option maxRecDepth 100000 in
theorem ck_X12_writesTerm : ckT 12 5 false cX12_writesTerm none tX12_writesTerm 0 = some 137 := by decide +kernel
theorem ok_X12_writesTerm : am_okM am_tb qX12_writesTerm := ⟨by decide +kernel, 137, ckT_ok tX12_writesTerm ck_X12_writesTerm⟩
set_option maxRecDepth 100000 in
theorem ck_X12_laysLine : ckT 12 6 false cX12_laysLine none tX12_laysLine 0 = some 83 := by decide +kernel
theorem ok_X12_laysLine : am_okM am_tb qX12_laysLine := ⟨by decide +kernel, 83, ckT_ok tX12_laysLine ck_X12_laysLine⟩
set_option maxRecDepth 100000 in
theorem ck_X12_shown : ckT 12 3 false cX12_shown (some .int) tX12_shown 0 = some 42 := by decide +kernel
theorem ok_X12_shown : am_okM am_tb qX12_shown := ⟨by decide +kernel, 42, ckT_ok tX12_shown ck_X12_shown⟩
set_option maxRecDepth 100000 in
theorem ck_X12_toldOf : ckT 12 2 false cX12_toldOf (some .int) tX12_toldOf 0 = some 47 := by decide +kernel
theorem ok_X12_toldOf : am_okM am_tb qX12_toldOf := ⟨by decide +kernel, 47, ckT_ok tX12_toldOf ck_X12_toldOf⟩
set_option maxRecDepth 100000 in
theorem ck_X12_told : ckT 12 2 false cX12_told (some .int) tX12_told 0 = some 22 := by decide +kernel
theorem ok_X12_told : am_okM am_tb qX12_told := ⟨by decide +kernel, 22, ckT_ok tX12_told ck_X12_told⟩
set_option maxRecDepth 100000 in
theorem ck_X12_mix : ckT 12 3 false cX12_mix none tX12_mix 0 = some 15 := by decide +kernel
theorem ok_X12_mix : am_okM am_tb qX12_mix := ⟨by decide +kernel, 15, ckT_ok tX12_mix ck_X12_mix⟩
set_option maxRecDepth 100000 in
theorem ck_X12_digest : ckT 12 3 false cX12_digest (some .long) tX12_digest 0 = some 140 := by decide +kernel
theorem ok_X12_digest : am_okM am_tb qX12_digest := ⟨by decide +kernel, 140, ckT_ok tX12_digest ck_X12_digest⟩
set_option maxRecDepth 100000 in
theorem ck_J9_floorMod_7cf53 : ckT 13 3 false cJ9_floorMod_7cf53 (some .int) tJ9_floorMod_7cf53 0 = some 20 := by decide +kernel
theorem ok_J9_floorMod_7cf53 : am_okM am_tb qJ9_floorMod_7cf53 := ⟨by decide +kernel, 20, ckT_ok tJ9_floorMod_7cf53 ck_J9_floorMod_7cf53⟩
set_option maxRecDepth 100000 in
theorem ck_J9_abs_0f7a4 : ckT 13 1 false cJ9_abs_0f7a4 (some .int) tJ9_abs_0f7a4 0 = some 11 := by decide +kernel
theorem ok_J9_abs_0f7a4 : am_okM am_tb qJ9_abs_0f7a4 := ⟨by decide +kernel, 11, ckT_ok tJ9_abs_0f7a4 ck_J9_abs_0f7a4⟩
set_option maxRecDepth 100000 in
theorem ck_J9_max_7cf53 : ckT 13 2 false cJ9_max_7cf53 (some .int) tJ9_max_7cf53 0 = some 11 := by decide +kernel
theorem ok_J9_max_7cf53 : am_okM am_tb qJ9_max_7cf53 := ⟨by decide +kernel, 11, ckT_ok tJ9_max_7cf53 ck_J9_max_7cf53⟩
set_option maxRecDepth 100000 in
theorem ck_J9_min_7cf53 : ckT 13 2 false cJ9_min_7cf53 (some .int) tJ9_min_7cf53 0 = some 11 := by decide +kernel
theorem ok_J9_min_7cf53 : am_okM am_tb qJ9_min_7cf53 := ⟨by decide +kernel, 11, ckT_ok tJ9_min_7cf53 ck_J9_min_7cf53⟩
set_option maxRecDepth 100000 in
theorem ck_J7_fill_53178 : ckT 14 4 false cJ7_fill_53178 none tJ7_fill_53178 0 = some 21 := by decide +kernel
theorem ok_J7_fill_53178 : am_okM am_tb qJ7_fill_53178 := ⟨by decide +kernel, 21, ckT_ok tJ7_fill_53178 ck_J7_fill_53178⟩
theorem ok_tbl0 : ∀ q ∈ am_tbl0, am_okM am_tb q := List.forall_mem_cons.mpr ⟨ok_X0_init, List.forall_mem_cons.mpr ⟨ok_X0_degree, List.forall_mem_cons.mpr ⟨ok_X0_fits, List.forall_mem_cons.mpr ⟨ok_X0_apply, List.forall_mem_cons.mpr ⟨ok_X0_addImage, List.forall_mem_cons.mpr ⟨ok_X0_kernelDimension, List.forall_mem_cons.mpr ⟨ok_X0_pivotRow, List.forall_mem_cons.mpr ⟨ok_X0_clearBelow, List.forall_mem_cons.mpr ⟨ok_X1_init, List.forall_mem_cons.mpr ⟨ok_X1_residue, List.forall_mem_cons.mpr ⟨ok_X1_balanced, List.forall_mem_cons.mpr ⟨ok_X1_inverse, List.forall_mem_cons.mpr ⟨ok_X1_productFits, List.forall_mem_cons.mpr ⟨ok_X1_powerFits, List.forall_mem_cons.mpr ⟨ok_X1_addProduct, List.forall_mem_cons.mpr ⟨ok_X1_addWordProduct, List.forall_mem_cons.mpr ⟨ok_X1_raise, List.forall_mem_cons.mpr ⟨ok_X1_adjoin, List.forall_mem_cons.mpr ⟨ok_X2_init, List.forall_mem_cons.mpr ⟨ok_X2_covers, List.forall_mem_cons.mpr ⟨ok_X2_isFor, List.forall_mem_cons.mpr ⟨ok_X2_begin, List.forall_mem_cons.mpr ⟨ok_X2_add, List.forall_mem_cons.mpr ⟨ok_X2_sourceCell, List.forall_mem_cons.mpr ⟨ok_X3_init, List.forall_mem_cons.mpr ⟨ok_X3_find, List.forall_mem_cons.mpr ⟨ok_X3_gather, List.forall_mem_cons.mpr ⟨ok_X3_complete, List.forall_mem_cons.mpr ⟨ok_X3_absorb, List.forall_mem_cons.mpr ⟨ok_X3_dismiss, List.forall_mem_cons.mpr ⟨ok_X3_admit, List.forall_mem_cons.mpr ⟨ok_X3_unsettle, List.forall_mem_cons.mpr ⟨ok_X3_cheapestPair, List.forall_mem_cons.mpr ⟨ok_X3_cross, List.forall_mem_cons.mpr ⟨ok_X3_reduceTails, List.forall_mem_cons.mpr ⟨ok_X3_handOver, List.forall_mem_cons.mpr ⟨ok_X4_init, List.forall_mem_cons.mpr ⟨ok_X4_begin, List.forall_mem_cons.mpr ⟨ok_X4_take, List.forall_mem_cons.mpr ⟨ok_X4_reduce, fun _ h => absurd h List.not_mem_nil⟩⟩⟩⟩⟩⟩⟩⟩⟩⟩⟩⟩⟩⟩⟩⟩⟩⟩⟩⟩⟩⟩⟩⟩⟩⟩⟩⟩⟩⟩⟩⟩⟩⟩⟩⟩⟩⟩⟩⟩
theorem ok_tbl1 : ∀ q ∈ am_tbl1, am_okM am_tb q := List.forall_mem_cons.mpr ⟨ok_X4_cancel, List.forall_mem_cons.mpr ⟨ok_X5_init, List.forall_mem_cons.mpr ⟨ok_X5_keep, List.forall_mem_cons.mpr ⟨ok_X5_restore, List.forall_mem_cons.mpr ⟨ok_X6_init, List.forall_mem_cons.mpr ⟨ok_X6_isWord, List.forall_mem_cons.mpr ⟨ok_X6_firstPlace, List.forall_mem_cons.mpr ⟨ok_X6_placeOf, List.forall_mem_cons.mpr ⟨ok_X6_degreeAt, List.forall_mem_cons.mpr ⟨ok_X6_rankedPlace, List.forall_mem_cons.mpr ⟨ok_X6_height, List.forall_mem_cons.mpr ⟨ok_X6_coefficient, List.forall_mem_cons.mpr ⟨ok_X6_setCoefficient, List.forall_mem_cons.mpr ⟨ok_X6_makeZero, List.forall_mem_cons.mpr ⟨ok_X6_makeNumber, List.forall_mem_cons.mpr ⟨ok_X6_copyFrom, List.forall_mem_cons.mpr ⟨ok_X6_addMultiple, List.forall_mem_cons.mpr ⟨ok_X6_scale, List.forall_mem_cons.mpr ⟨ok_X6_countTerms, List.forall_mem_cons.mpr ⟨ok_X6_extent, List.forall_mem_cons.mpr ⟨ok_X6_isZero, List.forall_mem_cons.mpr ⟨ok_X6_degree, List.forall_mem_cons.mpr ⟨ok_X6_leadPlace, List.forall_mem_cons.mpr ⟨ok_X6_property, List.forall_mem_cons.mpr ⟨ok_X6_greatest, List.forall_mem_cons.mpr ⟨ok_X6_measure, List.forall_mem_cons.mpr ⟨ok_X7_init, List.forall_mem_cons.mpr ⟨ok_X7_evaluate, List.forall_mem_cons.mpr ⟨ok_X7_readExpression, List.forall_mem_cons.mpr ⟨ok_X7_readTerm, List.forall_mem_cons.mpr ⟨ok_X7_readFactor, List.forall_mem_cons.mpr ⟨ok_X7_readNumber, List.forall_mem_cons.mpr ⟨ok_X7_peek, List.forall_mem_cons.mpr ⟨ok_X8_init, List.forall_mem_cons.mpr ⟨ok_X8_copyFrom, List.forall_mem_cons.mpr ⟨ok_X9_init, List.forall_mem_cons.mpr ⟨ok_X9_append, List.forall_mem_cons.mpr ⟨ok_X9_byteAt, List.forall_mem_cons.mpr ⟨ok_X9_isDigit, List.forall_mem_cons.mpr ⟨ok_X9_fault, fun _ h => absurd h List.not_mem_nil⟩⟩⟩⟩⟩⟩⟩⟩⟩⟩⟩⟩⟩⟩⟩⟩⟩⟩⟩⟩⟩⟩⟩⟩⟩⟩⟩⟩⟩⟩⟩⟩⟩⟩⟩⟩⟩⟩⟩⟩
theorem ok_tbl2 : ∀ q ∈ am_tbl2, am_okM am_tb q := List.forall_mem_cons.mpr ⟨ok_X9_pass, List.forall_mem_cons.mpr ⟨ok_X9_passOperand, List.forall_mem_cons.mpr ⟨ok_X9_passExponent, List.forall_mem_cons.mpr ⟨ok_X9_passLink, List.forall_mem_cons.mpr ⟨ok_X9_countDigits, List.forall_mem_cons.mpr ⟨ok_X9_valueOf, List.forall_mem_cons.mpr ⟨ok_X10_init, List.forall_mem_cons.mpr ⟨ok_X10_byteAt, List.forall_mem_cons.mpr ⟨ok_X10_writeTerm, List.forall_mem_cons.mpr ⟨ok_X10_writeLetter, List.forall_mem_cons.mpr ⟨ok_X10_writeNumber, List.forall_mem_cons.mpr ⟨ok_X10_write, List.forall_mem_cons.mpr ⟨ok_X11_init, List.forall_mem_cons.mpr ⟨ok_X11_sets, List.forall_mem_cons.mpr ⟨ok_X11_at, List.forall_mem_cons.mpr ⟨ok_X11_sums, List.forall_mem_cons.mpr ⟨ok_X11_times, List.forall_mem_cons.mpr ⟨ok_X11_bracket, List.forall_mem_cons.mpr ⟨ok_X11_power, List.forall_mem_cons.mpr ⟨ok_X11_reversed, List.forall_mem_cons.mpr ⟨ok_X11_of, List.forall_mem_cons.mpr ⟨ok_X11_order, List.forall_mem_cons.mpr ⟨ok_X11_puts, List.forall_mem_cons.mpr ⟨ok_X11_rate, List.forall_mem_cons.mpr ⟨ok_X11_makes, List.forall_mem_cons.mpr ⟨ok_X11_kernel, List.forall_mem_cons.mpr ⟨ok_X11_kills, List.forall_mem_cons.mpr ⟨ok_X11_rest, List.forall_mem_cons.mpr ⟨ok_X11_basis, List.forall_mem_cons.mpr ⟨ok_X11_based, List.forall_mem_cons.mpr ⟨ok_X11_stairs, List.forall_mem_cons.mpr ⟨ok_X11_within, List.forall_mem_cons.mpr ⟨ok_X11_type, List.forall_mem_cons.mpr ⟨ok_X11_clear, List.forall_mem_cons.mpr ⟨ok_X11_reads, List.forall_mem_cons.mpr ⟨ok_X11_shown, List.forall_mem_cons.mpr ⟨ok_X11_back, List.forall_mem_cons.mpr ⟨ok_X11_told, List.forall_mem_cons.mpr ⟨ok_X11_digest, List.forall_mem_cons.mpr ⟨ok_X11_mixed, fun _ h => absurd h List.not_mem_nil⟩⟩⟩⟩⟩⟩⟩⟩⟩⟩⟩⟩⟩⟩⟩⟩⟩⟩⟩⟩⟩⟩⟩⟩⟩⟩⟩⟩⟩⟩⟩⟩⟩⟩⟩⟩⟩⟩⟩⟩
theorem ok_tbl3 : ∀ q ∈ am_tbl3, am_okM am_tb q := List.forall_mem_cons.mpr ⟨ok_X11_replaceOperator, List.forall_mem_cons.mpr ⟨ok_X11_bad, List.forall_mem_cons.mpr ⟨ok_X11_no, List.forall_mem_cons.mpr ⟨ok_X11_full, List.forall_mem_cons.mpr ⟨ok_X11_hasBasis, List.forall_mem_cons.mpr ⟨ok_X11_isOperator, List.forall_mem_cons.mpr ⟨ok_X11_isPolynomial, List.forall_mem_cons.mpr ⟨ok_X11_isPower, List.forall_mem_cons.mpr ⟨ok_X11_isSet, List.forall_mem_cons.mpr ⟨ok_X11_isInSet, List.forall_mem_cons.mpr ⟨ok_X12_init, List.forall_mem_cons.mpr ⟨ok_X12_in, List.forall_mem_cons.mpr ⟨ok_X12_wordAt, List.forall_mem_cons.mpr ⟨ok_X12_restOf, List.forall_mem_cons.mpr ⟨ok_X12_tell, List.forall_mem_cons.mpr ⟨ok_X12_bad, List.forall_mem_cons.mpr ⟨ok_X12_no, List.forall_mem_cons.mpr ⟨ok_X12_full, List.forall_mem_cons.mpr ⟨ok_X12_remembers, List.forall_mem_cons.mpr ⟨ok_X12_back, List.forall_mem_cons.mpr ⟨ok_X12_isOperator, List.forall_mem_cons.mpr ⟨ok_X12_isWord, List.forall_mem_cons.mpr ⟨ok_X12_wipe, List.forall_mem_cons.mpr ⟨ok_X12_copies, List.forall_mem_cons.mpr ⟨ok_X12_fetches, List.forall_mem_cons.mpr ⟨ok_X12_termsIn, List.forall_mem_cons.mpr ⟨ok_X12_keeps, List.forall_mem_cons.mpr ⟨ok_X12_degreeIn, List.forall_mem_cons.mpr ⟨ok_X12_wordBehind, List.forall_mem_cons.mpr ⟨ok_X12_leadIn, List.forall_mem_cons.mpr ⟨ok_X12_adds, List.forall_mem_cons.mpr ⟨ok_X12_addsBehind, List.forall_mem_cons.mpr ⟨ok_X12_multiplies, List.forall_mem_cons.mpr ⟨ok_X12_isTooMuch, List.forall_mem_cons.mpr ⟨ok_X12_isPowerTooMuch, List.forall_mem_cons.mpr ⟨ok_X12_raises, List.forall_mem_cons.mpr ⟨ok_X12_mixes, List.forall_mem_cons.mpr ⟨ok_X12_sets, List.forall_mem_cons.mpr ⟨ok_X12_at, List.forall_mem_cons.mpr ⟨ok_X12_sums, fun _ h => absurd h List.not_mem_nil⟩⟩⟩⟩⟩⟩⟩⟩⟩⟩⟩⟩⟩⟩⟩⟩⟩⟩⟩⟩⟩⟩⟩⟩⟩⟩⟩⟩⟩⟩⟩⟩⟩⟩⟩⟩⟩⟩⟩⟩
theorem ok_tbl4 : ∀ q ∈ am_tbl4, am_okM am_tb q := List.forall_mem_cons.mpr ⟨ok_X12_times, List.forall_mem_cons.mpr ⟨ok_X12_bracket, List.forall_mem_cons.mpr ⟨ok_X12_power, List.forall_mem_cons.mpr ⟨ok_X12_reversed, List.forall_mem_cons.mpr ⟨ok_X12_greatest, List.forall_mem_cons.mpr ⟨ok_X12_ofLead, List.forall_mem_cons.mpr ⟨ok_X12_aboutOf, List.forall_mem_cons.mpr ⟨ok_X12_of, List.forall_mem_cons.mpr ⟨ok_X12_order, List.forall_mem_cons.mpr ⟨ok_X12_isPolynomial, List.forall_mem_cons.mpr ⟨ok_X12_rateAt, List.forall_mem_cons.mpr ⟨ok_X12_puts, List.forall_mem_cons.mpr ⟨ok_X12_rate, List.forall_mem_cons.mpr ⟨ok_X12_falls, List.forall_mem_cons.mpr ⟨ok_X12_greatestPower, List.forall_mem_cons.mpr ⟨ok_X12_canMake, List.forall_mem_cons.mpr ⟨ok_X12_makes, List.forall_mem_cons.mpr ⟨ok_X12_inverseOf, List.forall_mem_cons.mpr ⟨ok_X12_laysMatrix, List.forall_mem_cons.mpr ⟨ok_X12_addsRow, List.forall_mem_cons.mpr ⟨ok_X12_isFree, List.forall_mem_cons.mpr ⟨ok_X12_kernel, List.forall_mem_cons.mpr ⟨ok_X12_kills, List.forall_mem_cons.mpr ⟨ok_X12_findsLeads, List.forall_mem_cons.mpr ⟨ok_X12_isBelow, List.forall_mem_cons.mpr ⟨ok_X12_firstBelow, List.forall_mem_cons.mpr ⟨ok_X12_rests, List.forall_mem_cons.mpr ⟨ok_X12_isSet, List.forall_mem_cons.mpr ⟨ok_X12_rest, List.forall_mem_cons.mpr ⟨ok_X12_evens, List.forall_mem_cons.mpr ⟨ok_X12_areAlike, List.forall_mem_cons.mpr ⟨ok_X12_rowGoes, List.forall_mem_cons.mpr ⟨ok_X12_takesBy, List.forall_mem_cons.mpr ⟨ok_X12_tidies, List.forall_mem_cons.mpr ⟨ok_X12_isAhead, List.forall_mem_cons.mpr ⟨ok_X12_exchanges, List.forall_mem_cons.mpr ⟨ok_X12_sorts, List.forall_mem_cons.mpr ⟨ok_X12_crosses, List.forall_mem_cons.mpr ⟨ok_X12_isOneMore, List.forall_mem_cons.mpr ⟨ok_X12_laysBasis, fun _ h => absurd h List.not_mem_nil⟩⟩⟩⟩⟩⟩⟩⟩⟩⟩⟩⟩⟩⟩⟩⟩⟩⟩⟩⟩⟩⟩⟩⟩⟩⟩⟩⟩⟩⟩⟩⟩⟩⟩⟩⟩⟩⟩⟩⟩
theorem ok_tbl5 : ∀ q ∈ am_tbl5, am_okM am_tb q := List.forall_mem_cons.mpr ⟨ok_X12_isSmall, List.forall_mem_cons.mpr ⟨ok_X12_basis, List.forall_mem_cons.mpr ⟨ok_X12_based, List.forall_mem_cons.mpr ⟨ok_X12_stairs, List.forall_mem_cons.mpr ⟨ok_X12_within, List.forall_mem_cons.mpr ⟨ok_X12_type, List.forall_mem_cons.mpr ⟨ok_X12_clear, List.forall_mem_cons.mpr ⟨ok_X12_isAt, List.forall_mem_cons.mpr ⟨ok_X12_blanks, List.forall_mem_cons.mpr ⟨ok_X12_fails, List.forall_mem_cons.mpr ⟨ok_X12_opens, List.forall_mem_cons.mpr ⟨ok_X12_closes, List.forall_mem_cons.mpr ⟨ok_X12_takes, List.forall_mem_cons.mpr ⟨ok_X12_takesFigures, List.forall_mem_cons.mpr ⟨ok_X12_takesPower, List.forall_mem_cons.mpr ⟨ok_X12_values, List.forall_mem_cons.mpr ⟨ok_X12_takesFactor, List.forall_mem_cons.mpr ⟨ok_X12_takesSign, List.forall_mem_cons.mpr ⟨ok_X12_isRead, List.forall_mem_cons.mpr ⟨ok_X12_reads, List.forall_mem_cons.mpr ⟨ok_X12_writes, List.forall_mem_cons.mpr ⟨ok_X12_writesNumber, List.forall_mem_cons.mpr ⟨ok_X12_writesLetter, List.forall_mem_cons.mpr ⟨ok_X12_writesTerm, List.forall_mem_cons.mpr ⟨ok_X12_laysLine, List.forall_mem_cons.mpr ⟨ok_X12_shown, List.forall_mem_cons.mpr ⟨ok_X12_toldOf, List.forall_mem_cons.mpr ⟨ok_X12_told, List.forall_mem_cons.mpr ⟨ok_X12_mix, List.forall_mem_cons.mpr ⟨ok_X12_digest, List.forall_mem_cons.mpr ⟨ok_J9_floorMod_7cf53, List.forall_mem_cons.mpr ⟨ok_J9_abs_0f7a4, List.forall_mem_cons.mpr ⟨ok_J9_max_7cf53, List.forall_mem_cons.mpr ⟨ok_J9_min_7cf53, List.forall_mem_cons.mpr ⟨ok_J7_fill_53178, fun _ h => absurd h List.not_mem_nil⟩⟩⟩⟩⟩⟩⟩⟩⟩⟩⟩⟩⟩⟩⟩⟩⟩⟩⟩⟩⟩⟩⟩⟩⟩⟩⟩⟩⟩⟩⟩⟩⟩⟩⟩
theorem ok_tbl : ∀ q ∈ am_tbl, am_okM am_tb q := List.forall_mem_append.mpr ⟨ok_tbl0, List.forall_mem_append.mpr ⟨ok_tbl1, List.forall_mem_append.mpr ⟨ok_tbl2, List.forall_mem_append.mpr ⟨ok_tbl3, List.forall_mem_append.mpr ⟨ok_tbl4, ok_tbl5⟩⟩⟩⟩⟩
theorem ok_tb : ∀ k q, am_tb k = some q → am_okM am_tb q := fun k q h => ok_tbl q (List.mem_of_getElem? h)
