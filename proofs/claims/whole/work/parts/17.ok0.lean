/-! Each method is its tree. Written by wip/whole/gen_prog.py. -/
set_option maxRecDepth 100000 in
theorem ck_X0_init : ckT 0 2 true cX0_init none tX0_init 0 = some 33 := by decide +kernel
theorem ok_X0_init : am_okM am_tb qX0_init := ⟨by decide +kernel, 33, ckT_ok tX0_init ck_X0_init⟩
set_option maxRecDepth 100000 in
theorem ck_X0_degree : ckT 0 2 false cX0_degree (some .int) tX0_degree 0 = some 25 := by decide +kernel
theorem ok_X0_degree : am_okM am_tb qX0_degree := ⟨by decide +kernel, 25, ckT_ok tX0_degree ck_X0_degree⟩
set_option maxRecDepth 100000 in
theorem ck_X0_fits : ckT 0 6 false cX0_fits (some .boolean) tX0_fits 0 = some 65 := by decide +kernel
theorem ok_X0_fits : am_okM am_tb qX0_fits := ⟨by decide +kernel, 65, ckT_ok tX0_fits ck_X0_fits⟩
set_option maxRecDepth 100000 in
theorem ck_X0_apply : ckT 0 5 false cX0_apply none tX0_apply 0 = some 51 := by decide +kernel
theorem ok_X0_apply : am_okM am_tb qX0_apply := ⟨by decide +kernel, 51, ckT_ok tX0_apply ck_X0_apply⟩
set_option maxRecDepth 100000 in
theorem ck_X0_addImage : ckT 0 10 false cX0_addImage none tX0_addImage 0 = some 120 := by decide +kernel
theorem ok_X0_addImage : am_okM am_tb qX0_addImage := ⟨by decide +kernel, 120, ckT_ok tX0_addImage ck_X0_addImage⟩
set_option maxRecDepth 100000 in
theorem ck_X0_kernelDimension : ckT 0 8 false cX0_kernelDimension (some .int) tX0_kernelDimension 0 = some 140 := by decide +kernel
theorem ok_X0_kernelDimension : am_okM am_tb qX0_kernelDimension := ⟨by decide +kernel, 140, ckT_ok tX0_kernelDimension ck_X0_kernelDimension⟩
set_option maxRecDepth 100000 in
theorem ck_X0_pivotRow : ckT 0 5 false cX0_pivotRow (some .int) tX0_pivotRow 0 = some 32 := by decide +kernel
theorem ok_X0_pivotRow : am_okM am_tb qX0_pivotRow := ⟨by decide +kernel, 32, ckT_ok tX0_pivotRow ck_X0_pivotRow⟩
set_option maxRecDepth 100000 in
theorem ck_X0_clearBelow : ckT 0 8 false cX0_clearBelow none tX0_clearBelow 0 = some 111 := by decide +kernel
theorem ok_X0_clearBelow : am_okM am_tb qX0_clearBelow := ⟨by decide +kernel, 111, ckT_ok tX0_clearBelow ck_X0_clearBelow⟩
set_option maxRecDepth 100000 in
theorem ck_X1_init : ckT 1 3 true cX1_init none tX1_init 0 = some 180 := by decide +kernel
theorem ok_X1_init : am_okM am_tb qX1_init := ⟨by decide +kernel, 180, ckT_ok tX1_init ck_X1_init⟩
set_option maxRecDepth 100000 in
theorem ck_X1_residue : ckT 1 1 false cX1_residue (some .int) tX1_residue 0 = some 8 := by decide +kernel
theorem ok_X1_residue : am_okM am_tb qX1_residue := ⟨by decide +kernel, 8, ckT_ok tX1_residue ck_X1_residue⟩
set_option maxRecDepth 100000 in
theorem ck_X1_balanced : ckT 1 1 false cX1_balanced (some .int) tX1_balanced 0 = some 17 := by decide +kernel
theorem ok_X1_balanced : am_okM am_tb qX1_balanced := ⟨by decide +kernel, 17, ckT_ok tX1_balanced ck_X1_balanced⟩
set_option maxRecDepth 100000 in
theorem ck_X1_inverse : ckT 1 4 false cX1_inverse (some .int) tX1_inverse 0 = some 44 := by decide +kernel
theorem ok_X1_inverse : am_okM am_tb qX1_inverse := ⟨by decide +kernel, 44, ckT_ok tX1_inverse ck_X1_inverse⟩
set_option maxRecDepth 100000 in
theorem ck_X1_productFits : ckT 1 2 false cX1_productFits (some .boolean) tX1_productFits 0 = some 34 := by decide +kernel
theorem ok_X1_productFits : am_okM am_tb qX1_productFits := ⟨by decide +kernel, 34, ckT_ok tX1_productFits ck_X1_productFits⟩
set_option maxRecDepth 100000 in
theorem ck_X1_powerFits : ckT 1 2 false cX1_powerFits (some .boolean) tX1_powerFits 0 = some 24 := by decide +kernel
theorem ok_X1_powerFits : am_okM am_tb qX1_powerFits := ⟨by decide +kernel, 24, ckT_ok tX1_powerFits ck_X1_powerFits⟩
set_option maxRecDepth 100000 in
theorem ck_X1_addProduct : ckT 1 9 false cX1_addProduct none tX1_addProduct 0 = some 63 := by decide +kernel
theorem ok_X1_addProduct : am_okM am_tb qX1_addProduct := ⟨by decide +kernel, 63, ckT_ok tX1_addProduct ck_X1_addProduct⟩
set_option maxRecDepth 100000 in
theorem ck_X1_addWordProduct : ckT 1 17 false cX1_addWordProduct none tX1_addWordProduct 0 = some 200 := by decide +kernel
theorem ok_X1_addWordProduct : am_okM am_tb qX1_addWordProduct := ⟨by decide +kernel, 200, ckT_ok tX1_addWordProduct ck_X1_addWordProduct⟩
set_option maxRecDepth 100000 in
theorem ck_X1_raise : ckT 1 5 false cX1_raise none tX1_raise 0 = some 47 := by decide +kernel
theorem ok_X1_raise : am_okM am_tb qX1_raise := ⟨by decide +kernel, 47, ckT_ok tX1_raise ck_X1_raise⟩
set_option maxRecDepth 100000 in
theorem ck_X1_adjoin : ckT 1 5 false cX1_adjoin none tX1_adjoin 0 = some 99 := by decide +kernel
theorem ok_X1_adjoin : am_okM am_tb qX1_adjoin := ⟨by decide +kernel, 99, ckT_ok tX1_adjoin ck_X1_adjoin⟩
set_option maxRecDepth 100000 in
theorem ck_X2_init : ckT 2 2 true cX2_init none tX2_init 0 = some 71 := by decide +kernel
theorem ok_X2_init : am_okM am_tb qX2_init := ⟨by decide +kernel, 71, ckT_ok tX2_init ck_X2_init⟩
set_option maxRecDepth 100000 in
theorem ck_X2_covers : ckT 2 4 false cX2_covers (some .boolean) tX2_covers 0 = some 40 := by decide +kernel
theorem ok_X2_covers : am_okM am_tb qX2_covers := ⟨by decide +kernel, 40, ckT_ok tX2_covers ck_X2_covers⟩
set_option maxRecDepth 100000 in
theorem ck_X2_isFor : ckT 2 5 false cX2_isFor (some .boolean) tX2_isFor 0 = some 70 := by decide +kernel
theorem ok_X2_isFor : am_okM am_tb qX2_isFor := ⟨by decide +kernel, 70, ckT_ok tX2_isFor ck_X2_isFor⟩
set_option maxRecDepth 100000 in
theorem ck_X2_begin : ckT 2 5 false cX2_begin none tX2_begin 0 = some 64 := by decide +kernel
theorem ok_X2_begin : am_okM am_tb qX2_begin := ⟨by decide +kernel, 64, ckT_ok tX2_begin ck_X2_begin⟩
set_option maxRecDepth 100000 in
theorem ck_X2_add : ckT 2 3 false cX2_add none tX2_add 0 = some 74 := by decide +kernel
theorem ok_X2_add : am_okM am_tb qX2_add := ⟨by decide +kernel, 74, ckT_ok tX2_add ck_X2_add⟩
set_option maxRecDepth 100000 in
theorem ck_X2_sourceCell : ckT 2 4 false cX2_sourceCell (some .int) tX2_sourceCell 0 = some 24 := by decide +kernel
theorem ok_X2_sourceCell : am_okM am_tb qX2_sourceCell := ⟨by decide +kernel, 24, ckT_ok tX2_sourceCell ck_X2_sourceCell⟩
set_option maxRecDepth 100000 in
theorem ck_X3_init : ckT 3 4 true cX3_init none tX3_init 0 = some 129 := by decide +kernel
theorem ok_X3_init : am_okM am_tb qX3_init := ⟨by decide +kernel, 129, ckT_ok tX3_init ck_X3_init⟩
set_option maxRecDepth 100000 in
theorem ck_X3_find : ckT 3 4 false cX3_find (some (.object "WeylWords$Basis")) tX3_find 0 = some 83 := by decide +kernel
theorem ok_X3_find : am_okM am_tb qX3_find := ⟨by decide +kernel, 83, ckT_ok tX3_find ck_X3_find⟩
set_option maxRecDepth 100000 in
theorem ck_X3_gather : ckT 3 4 false cX3_gather none tX3_gather 0 = some 69 := by decide +kernel
theorem ok_X3_gather : am_okM am_tb qX3_gather := ⟨by decide +kernel, 69, ckT_ok tX3_gather ck_X3_gather⟩
set_option maxRecDepth 100000 in
theorem ck_X3_complete : ckT 3 3 false cX3_complete none tX3_complete 0 = some 51 := by decide +kernel
theorem ok_X3_complete : am_okM am_tb qX3_complete := ⟨by decide +kernel, 51, ckT_ok tX3_complete ck_X3_complete⟩
set_option maxRecDepth 100000 in
theorem ck_X3_absorb : ckT 3 6 false cX3_absorb none tX3_absorb 0 = some 226 := by decide +kernel
theorem ok_X3_absorb : am_okM am_tb qX3_absorb := ⟨by decide +kernel, 226, ckT_ok tX3_absorb ck_X3_absorb⟩
set_option maxRecDepth 100000 in
theorem ck_X3_dismiss : ckT 3 4 false cX3_dismiss none tX3_dismiss 0 = some 125 := by decide +kernel
theorem ok_X3_dismiss : am_okM am_tb qX3_dismiss := ⟨by decide +kernel, 125, ckT_ok tX3_dismiss ck_X3_dismiss⟩
set_option maxRecDepth 100000 in
theorem ck_X3_admit : ckT 3 5 false cX3_admit none tX3_admit 0 = some 163 := by decide +kernel
theorem ok_X3_admit : am_okM am_tb qX3_admit := ⟨by decide +kernel, 163, ckT_ok tX3_admit ck_X3_admit⟩
set_option maxRecDepth 100000 in
theorem ck_X3_unsettle : ckT 3 2 false cX3_unsettle none tX3_unsettle 0 = some 12 := by decide +kernel
theorem ok_X3_unsettle : am_okM am_tb qX3_unsettle := ⟨by decide +kernel, 12, ckT_ok tX3_unsettle ck_X3_unsettle⟩
set_option maxRecDepth 100000 in
theorem ck_X3_cheapestPair : ckT 3 5 false cX3_cheapestPair (some .int) tX3_cheapestPair 0 = some 62 := by decide +kernel
theorem ok_X3_cheapestPair : am_okM am_tb qX3_cheapestPair := ⟨by decide +kernel, 62, ckT_ok tX3_cheapestPair ck_X3_cheapestPair⟩
set_option maxRecDepth 100000 in
theorem ck_X3_cross : ckT 3 9 false cX3_cross none tX3_cross 0 = some 144 := by decide +kernel
theorem ok_X3_cross : am_okM am_tb qX3_cross := ⟨by decide +kernel, 144, ckT_ok tX3_cross ck_X3_cross⟩
set_option maxRecDepth 100000 in
theorem ck_X3_reduceTails : ckT 3 3 false cX3_reduceTails none tX3_reduceTails 0 = some 75 := by decide +kernel
theorem ok_X3_reduceTails : am_okM am_tb qX3_reduceTails := ⟨by decide +kernel, 75, ckT_ok tX3_reduceTails ck_X3_reduceTails⟩
set_option maxRecDepth 100000 in
theorem ck_X3_handOver : ckT 3 8 false cX3_handOver none tX3_handOver 0 = some 110 := by decide +kernel
theorem ok_X3_handOver : am_okM am_tb qX3_handOver := ⟨by decide +kernel, 110, ckT_ok tX3_handOver ck_X3_handOver⟩
set_option maxRecDepth 100000 in
theorem ck_X4_init : ckT 4 2 true cX4_init none tX4_init 0 = some 61 := by decide +kernel
theorem ok_X4_init : am_okM am_tb qX4_init := ⟨by decide +kernel, 61, ckT_ok tX4_init ck_X4_init⟩
set_option maxRecDepth 100000 in
theorem ck_X4_begin : ckT 4 2 false cX4_begin none tX4_begin 0 = some 11 := by decide +kernel
theorem ok_X4_begin : am_okM am_tb qX4_begin := ⟨by decide +kernel, 11, ckT_ok tX4_begin ck_X4_begin⟩
set_option maxRecDepth 100000 in
theorem ck_X4_take : ckT 4 3 false cX4_take none tX4_take 0 = some 103 := by decide +kernel
theorem ok_X4_take : am_okM am_tb qX4_take := ⟨by decide +kernel, 103, ckT_ok tX4_take ck_X4_take⟩
set_option maxRecDepth 100000 in
theorem ck_X4_reduce : ckT 4 5 false cX4_reduce none tX4_reduce 0 = some 57 := by decide +kernel
theorem ok_X4_reduce : am_okM am_tb qX4_reduce := ⟨by decide +kernel, 57, ckT_ok tX4_reduce ck_X4_reduce⟩
set_option maxRecDepth 100000 in
theorem ck_X4_cancel : ckT 4 8 false cX4_cancel none tX4_cancel 0 = some 130 := by decide +kernel
theorem ok_X4_cancel : am_okM am_tb qX4_cancel := ⟨by decide +kernel, 130, ckT_ok tX4_cancel ck_X4_cancel⟩
set_option maxRecDepth 100000 in
theorem ck_X5_init : ckT 5 2 true cX5_init none tX5_init 0 = some 49 := by decide +kernel
theorem ok_X5_init : am_okM am_tb qX5_init := ⟨by decide +kernel, 49, ckT_ok tX5_init ck_X5_init⟩
set_option maxRecDepth 100000 in
theorem ck_X5_keep : ckT 5 2 false cX5_keep none tX5_keep 0 = some 40 := by decide +kernel
theorem ok_X5_keep : am_okM am_tb qX5_keep := ⟨by decide +kernel, 40, ckT_ok tX5_keep ck_X5_keep⟩
set_option maxRecDepth 100000 in
theorem ck_X5_restore : ckT 5 2 false cX5_restore none tX5_restore 0 = some 45 := by decide +kernel
theorem ok_X5_restore : am_okM am_tb qX5_restore := ⟨by decide +kernel, 45, ckT_ok tX5_restore ck_X5_restore⟩
set_option maxRecDepth 100000 in
theorem ck_X6_init : ckT 6 1 true cX6_init none tX6_init 0 = some 13 := by decide +kernel
theorem ok_X6_init : am_okM am_tb qX6_init := ⟨by decide +kernel, 13, ckT_ok tX6_init ck_X6_init⟩
set_option maxRecDepth 100000 in
theorem ck_X6_isWord : ckT 6 2 false cX6_isWord (some .boolean) tX6_isWord 0 = some 34 := by decide +kernel
theorem ok_X6_isWord : am_okM am_tb qX6_isWord := ⟨by decide +kernel, 34, ckT_ok tX6_isWord ck_X6_isWord⟩
set_option maxRecDepth 100000 in
theorem ck_X6_firstPlace : ckT 6 1 false cX6_firstPlace (some .int) tX6_firstPlace 0 = some 8 := by decide +kernel
theorem ok_X6_firstPlace : am_okM am_tb qX6_firstPlace := ⟨by decide +kernel, 8, ckT_ok tX6_firstPlace ck_X6_firstPlace⟩
set_option maxRecDepth 100000 in
theorem ck_X6_placeOf : ckT 6 2 false cX6_placeOf (some .int) tX6_placeOf 0 = some 9 := by decide +kernel
theorem ok_X6_placeOf : am_okM am_tb qX6_placeOf := ⟨by decide +kernel, 9, ckT_ok tX6_placeOf ck_X6_placeOf⟩
set_option maxRecDepth 100000 in
theorem ck_X6_degreeAt : ckT 6 1 false cX6_degreeAt (some .int) tX6_degreeAt 0 = some 12 := by decide +kernel
theorem ok_X6_degreeAt : am_okM am_tb qX6_degreeAt := ⟨by decide +kernel, 12, ckT_ok tX6_degreeAt ck_X6_degreeAt⟩
set_option maxRecDepth 100000 in
theorem ck_X6_rankedPlace : ckT 6 3 false cX6_rankedPlace (some .int) tX6_rankedPlace 0 = some 17 := by decide +kernel
theorem ok_X6_rankedPlace : am_okM am_tb qX6_rankedPlace := ⟨by decide +kernel, 17, ckT_ok tX6_rankedPlace ck_X6_rankedPlace⟩
set_option maxRecDepth 100000 in
theorem ck_X6_height : ckT 6 2 false cX6_height (some .int) tX6_height 0 = some 26 := by decide +kernel
theorem ok_X6_height : am_okM am_tb qX6_height := ⟨by decide +kernel, 26, ckT_ok tX6_height ck_X6_height⟩
set_option maxRecDepth 100000 in
theorem ck_X6_coefficient : ckT 6 3 false cX6_coefficient (some .int) tX6_coefficient 0 = some 23 := by decide +kernel
theorem ok_X6_coefficient : am_okM am_tb qX6_coefficient := ⟨by decide +kernel, 23, ckT_ok tX6_coefficient ck_X6_coefficient⟩
set_option maxRecDepth 100000 in
theorem ck_X6_setCoefficient : ckT 6 4 false cX6_setCoefficient none tX6_setCoefficient 0 = some 20 := by decide +kernel
theorem ok_X6_setCoefficient : am_okM am_tb qX6_setCoefficient := ⟨by decide +kernel, 20, ckT_ok tX6_setCoefficient ck_X6_setCoefficient⟩
set_option maxRecDepth 100000 in
theorem ck_X6_makeZero : ckT 6 1 false cX6_makeZero none tX6_makeZero 0 = some 9 := by decide +kernel
theorem ok_X6_makeZero : am_okM am_tb qX6_makeZero := ⟨by decide +kernel, 9, ckT_ok tX6_makeZero ck_X6_makeZero⟩
set_option maxRecDepth 100000 in
theorem ck_X6_makeNumber : ckT 6 2 false cX6_makeNumber none tX6_makeNumber 0 = some 12 := by decide +kernel
theorem ok_X6_makeNumber : am_okM am_tb qX6_makeNumber := ⟨by decide +kernel, 12, ckT_ok tX6_makeNumber ck_X6_makeNumber⟩
set_option maxRecDepth 100000 in
theorem ck_X6_copyFrom : ckT 6 2 false cX6_copyFrom none tX6_copyFrom 0 = some 16 := by decide +kernel
theorem ok_X6_copyFrom : am_okM am_tb qX6_copyFrom := ⟨by decide +kernel, 16, ckT_ok tX6_copyFrom ck_X6_copyFrom⟩
set_option maxRecDepth 100000 in
theorem ck_X6_addMultiple : ckT 6 4 false cX6_addMultiple none tX6_addMultiple 0 = some 40 := by decide +kernel
theorem ok_X6_addMultiple : am_okM am_tb qX6_addMultiple := ⟨by decide +kernel, 40, ckT_ok tX6_addMultiple ck_X6_addMultiple⟩
set_option maxRecDepth 100000 in
theorem ck_X6_scale : ckT 6 3 false cX6_scale none tX6_scale 0 = some 33 := by decide +kernel
theorem ok_X6_scale : am_okM am_tb qX6_scale := ⟨by decide +kernel, 33, ckT_ok tX6_scale ck_X6_scale⟩
set_option maxRecDepth 100000 in
theorem ck_X6_countTerms : ckT 6 6 false cX6_countTerms (some .int) tX6_countTerms 0 = some 41 := by decide +kernel
theorem ok_X6_countTerms : am_okM am_tb qX6_countTerms := ⟨by decide +kernel, 41, ckT_ok tX6_countTerms ck_X6_countTerms⟩
set_option maxRecDepth 100000 in
theorem ck_X6_extent : ckT 6 2 false cX6_extent (some .int) tX6_extent 0 = some 28 := by decide +kernel
theorem ok_X6_extent : am_okM am_tb qX6_extent := ⟨by decide +kernel, 28, ckT_ok tX6_extent ck_X6_extent⟩
