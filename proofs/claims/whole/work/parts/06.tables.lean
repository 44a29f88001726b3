/-! The words of the tables that all methods use, by their places. -/
theorem am_in9 {w : Cond} (i : Nat) (h : lw_tbl[i]? = some w) : w ∈ lw_tbl := List.mem_of_getElem? h
theorem am_pl9 {ws : List Cond} (ps : List Nat) (h : ws = ps.filterMap (fun i => lw_tbl[i]?)) : ∀ w ∈ ws, w ∈ lw_tbl := by
  subst h
  intro w hw
  obtain ⟨i, -, hi⟩ := List.mem_filterMap.mp hw
  exact List.mem_of_getElem? hi
theorem tb_l0 : ∀ w ∈ u_ws RX0 TX0 3, w ∈ lw_tbl := am_pl9 [344, 346, 348] (by decide +kernel)
theorem tb_i0 : Cond.instantiable RX0 3 ∈ lw_tbl := am_in9 334 (by decide +kernel)
theorem tb_j0 : Cond.initialized RX0 ∈ lw_tbl := am_in9 106 (by decide +kernel)
theorem tb_l1 : ∀ w ∈ u_ws RX1 TX1 3, w ∈ lw_tbl := am_pl9 [221, 223, 225] (by decide +kernel)
theorem tb_i1 : Cond.instantiable RX1 3 ∈ lw_tbl := am_in9 206 (by decide +kernel)
theorem tb_j1 : Cond.initialized RX1 ∈ lw_tbl := am_in9 101 (by decide +kernel)
theorem tb_l2 : ∀ w ∈ u_ws RX2 TX2 6, w ∈ lw_tbl := am_pl9 [284, 286, 288, 290, 292, 294] (by decide +kernel)
theorem tb_i2 : Cond.instantiable RX2 6 ∈ lw_tbl := am_in9 269 (by decide +kernel)
theorem tb_j2 : Cond.initialized RX2 ∈ lw_tbl := am_in9 105 (by decide +kernel)
theorem tb_l3 : ∀ w ∈ u_ws RX3 TX3 11, w ∈ lw_tbl := am_pl9 [310, 312, 314, 316, 318, 320, 322, 324, 326, 328, 330] (by decide +kernel)
theorem tb_i3 : Cond.instantiable RX3 11 ∈ lw_tbl := am_in9 261 (by decide +kernel)
theorem tb_j3 : Cond.initialized RX3 ∈ lw_tbl := am_in9 104 (by decide +kernel)
theorem tb_l4 : ∀ w ∈ u_ws RX4 TX4 8, w ∈ lw_tbl := am_pl9 [243, 245, 247, 249, 251, 253, 255, 257] (by decide +kernel)
theorem tb_i4 : Cond.instantiable RX4 8 ∈ lw_tbl := am_in9 229 (by decide +kernel)
theorem tb_j4 : Cond.initialized RX4 ∈ lw_tbl := am_in9 103 (by decide +kernel)
theorem tb_l5 : ∀ w ∈ u_ws RX5 TX5 3, w ∈ lw_tbl := am_pl9 [177, 179, 181] (by decide +kernel)
theorem tb_i5 : Cond.instantiable RX5 3 ∈ lw_tbl := am_in9 165 (by decide +kernel)
theorem tb_j5 : Cond.initialized RX5 ∈ lw_tbl := am_in9 99 (by decide +kernel)
theorem tb_l6 : ∀ w ∈ u_ws RX6 TX6 1, w ∈ lw_tbl := am_pl9 [143] (by decide +kernel)
theorem tb_i6 : Cond.instantiable RX6 1 ∈ lw_tbl := am_in9 130 (by decide +kernel)
theorem tb_j6 : Cond.initialized RX6 ∈ lw_tbl := am_in9 98 (by decide +kernel)
theorem tb_l7 : ∀ w ∈ u_ws RX7 TX7 7, w ∈ lw_tbl := am_pl9 [366, 368, 370, 372, 374, 376, 378] (by decide +kernel)
theorem tb_i7 : Cond.instantiable RX7 7 ∈ lw_tbl := am_in9 352 (by decide +kernel)
theorem tb_j7 : Cond.initialized RX7 ∈ lw_tbl := am_in9 107 (by decide +kernel)
theorem tb_l8 : ∀ w ∈ u_ws RX8 TX8 3, w ∈ lw_tbl := am_pl9 [157, 159, 161] (by decide +kernel)
theorem tb_i8 : Cond.instantiable RX8 3 ∈ lw_tbl := am_in9 121 (by decide +kernel)
theorem tb_j8 : Cond.initialized RX8 ∈ lw_tbl := am_in9 97 (by decide +kernel)
theorem tb_l9 : ∀ w ∈ u_ws RX9 TX9 4, w ∈ lw_tbl := am_pl9 [196, 198, 200, 202] (by decide +kernel)
theorem tb_i9 : Cond.instantiable RX9 4 ∈ lw_tbl := am_in9 185 (by decide +kernel)
theorem tb_j9 : Cond.initialized RX9 ∈ lw_tbl := am_in9 100 (by decide +kernel)
theorem tb_l10 : ∀ w ∈ u_ws RX10 TX10 2, w ∈ lw_tbl := am_pl9 [389, 391] (by decide +kernel)
theorem tb_i10 : Cond.instantiable RX10 2 ∈ lw_tbl := am_in9 382 (by decide +kernel)
theorem tb_j10 : Cond.initialized RX10 ∈ lw_tbl := am_in9 108 (by decide +kernel)
theorem tb_l11 : ∀ w ∈ u_ws RX11 TX11 13, w ∈ lw_tbl := am_pl9 [409, 411, 413, 415, 417, 419, 421, 423, 425, 427, 429, 431, 433] (by decide +kernel)
theorem tb_i11 : Cond.instantiable RX11 13 ∈ lw_tbl := am_in9 113 (by decide +kernel)
theorem tb_j11 : Cond.initialized RX11 ∈ lw_tbl := am_in9 96 (by decide +kernel)
theorem tb_l12 : ∀ w ∈ u_ws RX12 TX12 31, w ∈ lw_tbl := am_pl9 [1021, 1023, 1025, 1027, 1029, 1031, 1033, 1035, 1037, 1039, 1041, 1043, 1045, 1047, 1049, 1051, 1053, 1055, 1057, 1059, 1061, 1063, 1065, 1067, 1069, 1071, 1073, 1075, 1077, 1079, 1081] (by decide +kernel)
theorem tb_i12 : Cond.instantiable RX12 31 ∈ lw_tbl := am_in9 982 (by decide +kernel)
theorem tb_j12 : Cond.initialized RX12 ∈ lw_tbl := am_in9 109 (by decide +kernel)
theorem tb_q : ∀ c, c < 13 → vwCl[c]? = some (am_q c) ∧ (am_q c).2.2 = am_n c
  | 0, _ => ⟨rfl, rfl⟩
  | 1, _ => ⟨rfl, rfl⟩
  | 2, _ => ⟨rfl, rfl⟩
  | 3, _ => ⟨rfl, rfl⟩
  | 4, _ => ⟨rfl, rfl⟩
  | 5, _ => ⟨rfl, rfl⟩
  | 6, _ => ⟨rfl, rfl⟩
  | 7, _ => ⟨rfl, rfl⟩
  | 8, _ => ⟨rfl, rfl⟩
  | 9, _ => ⟨rfl, rfl⟩
  | 10, _ => ⟨rfl, rfl⟩
  | 11, _ => ⟨rfl, rfl⟩
  | 12, _ => ⟨rfl, rfl⟩
  | n + 13, h => absurd h (by omega)
theorem tb_lay : ∀ c, c < 13 → ∀ w ∈ u_ws (am_q c).1 (am_q c).2.1 (am_n c), w ∈ lw_tbl
  | 0, _ => tb_l0
  | 1, _ => tb_l1
  | 2, _ => tb_l2
  | 3, _ => tb_l3
  | 4, _ => tb_l4
  | 5, _ => tb_l5
  | 6, _ => tb_l6
  | 7, _ => tb_l7
  | 8, _ => tb_l8
  | 9, _ => tb_l9
  | 10, _ => tb_l10
  | 11, _ => tb_l11
  | 12, _ => tb_l12
  | n + 13, h => absurd h (by omega)
theorem tb_nm : ∀ c, c < 13 → ∀ a, a < am_n c → ∀ b, b < am_n c → a ≠ b → ((am_q c).2.1 a).2.1 ≠ ((am_q c).2.1 b).2.1
  | 0, _ => nmX0
  | 1, _ => nmX1
  | 2, _ => nmX2
  | 3, _ => nmX3
  | 4, _ => nmX4
  | 5, _ => nmX5
  | 6, _ => nmX6
  | 7, _ => nmX7
  | 8, _ => nmX8
  | 9, _ => nmX9
  | 10, _ => nmX10
  | 11, _ => nmX11
  | 12, _ => nmX12
  | n + 13, h => absurd h (by omega)
theorem tb_ty : ∀ c, c < 13 → ∀ k, k < am_n c → parseFieldDescriptor ((am_q c).2.1 k).2.2.1 = some (am_ty c k)
  | 0, _ => tyX0_ok
  | 1, _ => tyX1_ok
  | 2, _ => tyX2_ok
  | 3, _ => tyX3_ok
  | 4, _ => tyX4_ok
  | 5, _ => tyX5_ok
  | 6, _ => tyX6_ok
  | 7, _ => tyX7_ok
  | 8, _ => tyX8_ok
  | 9, _ => tyX9_ok
  | 10, _ => tyX10_ok
  | 11, _ => tyX11_ok
  | 12, _ => tyX12_ok
  | n + 13, h => absurd h (by omega)
theorem tb_inst : ∀ c, c < 13 → Cond.instantiable (am_q c).1 (am_n c) ∈ lw_tbl
  | 0, _ => tb_i0
  | 1, _ => tb_i1
  | 2, _ => tb_i2
  | 3, _ => tb_i3
  | 4, _ => tb_i4
  | 5, _ => tb_i5
  | 6, _ => tb_i6
  | 7, _ => tb_i7
  | 8, _ => tb_i8
  | 9, _ => tb_i9
  | 10, _ => tb_i10
  | 11, _ => tb_i11
  | 12, _ => tb_i12
  | n + 13, h => absurd h (by omega)
theorem tb_ini : ∀ c, c < 13 → Cond.initialized (am_q c).1 ∈ lw_tbl
  | 0, _ => tb_j0
  | 1, _ => tb_j1
  | 2, _ => tb_j2
  | 3, _ => tb_j3
  | 4, _ => tb_j4
  | 5, _ => tb_j5
  | 6, _ => tb_j6
  | 7, _ => tb_j7
  | 8, _ => tb_j8
  | 9, _ => tb_j9
  | 10, _ => tb_j10
  | 11, _ => tb_j11
  | 12, _ => tb_j12
  | n + 13, h => absurd h (by omega)
theorem tb_ai : Cond.arrayClass .int ∈ lw_tbl := am_in9 146 (by decide +kernel)
theorem tb_ab : Cond.arrayClass .boolean ∈ lw_tbl := am_in9 297 (by decide +kernel)
theorem tb_aa : Cond.arrayOver (.array .int) ∈ lw_tbl := am_in9 129 (by decide +kernel)
theorem tb_ao23 : Cond.arrayOver (.object "WeylWords$Operator") ∈ lw_tbl := am_in9 127 (by decide +kernel)
theorem tb_ao24 : Cond.arrayOver (.object "WeylWords$State") ∈ lw_tbl := am_in9 171 (by decide +kernel)
theorem tb_ao25 : Cond.arrayOver (.object "WeylWords$Basis") ∈ lw_tbl := am_in9 267 (by decide +kernel)
theorem tb_ao : ∀ t, 23 ≤ t → t ≤ 25 → Cond.arrayOver (.object (am_cn t)) ∈ lw_tbl := by
  intro t h1 h2
  rcases (show t = 23 ∨ t = 24 ∨ t = 25 by omega) with rfl | rfl | rfl
  · exact tb_ao23
  · exact tb_ao24
  · exact tb_ao25
theorem tb_oi : Cond.instanceMethod Lib.objectInit ∈ lw_tbl := am_in9 118 (by decide +kernel)
theorem tb_oc : Cond.code Lib.objectInit ⟨#[0xb1]⟩ 1 none ∈ lw_tbl := am_in9 119 rfl
theorem tb_cn : Cond.native arraycopyName ∈ lw_tbl := am_in9 464 (by decide +kernel)
theorem tb_cs : Cond.static arraycopyName ∈ lw_tbl := am_in9 463 (by decide +kernel)
theorem tb_ci : Cond.initialized "java/lang/System" ∈ lw_tbl := am_in9 110 (by decide +kernel)
