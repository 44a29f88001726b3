/-! The class: floorMod, residue. Written by wip/whole/gen_77.py. -/
theorem xor_sg {a : Int} (h : inR a) : ((Int32.ofInt a ^^^ Int32.ofInt 10007).toInt < 0 ↔ a < 0) ∧ (-2147483648 ≤ (Int32.ofInt a ^^^ Int32.ofInt 10007).toInt ∧ (Int32.ofInt a ^^^ Int32.ofInt 10007).toInt ≤ 2147483647) := by
  have e1 : (Int32.ofInt a).toBitVec.toInt = a := i32_of h
  have m : (Int32.ofInt a ^^^ Int32.ofInt 10007).toBitVec.msb = ((Int32.ofInt a).toBitVec.msb ^^ (Int32.ofInt 10007).toBitVec.msb) := by rw [Int32.toBitVec_xor, BitVec.msb_xor]
  have m2 : (Int32.ofInt 10007).toBitVec.msb = false := by decide
  rw [m2, Bool.xor_false, BitVec.msb_eq_toInt, BitVec.msb_eq_toInt, e1] at m
  have b1 := BitVec.toInt_lt (x := (Int32.ofInt a ^^^ Int32.ofInt 10007).toBitVec)
  have b2 := BitVec.le_toInt (x := (Int32.ofInt a ^^^ Int32.ofInt 10007).toBitVec)
  have e : (Int32.ofInt a ^^^ Int32.ofInt 10007).toInt = (Int32.ofInt a ^^^ Int32.ofInt 10007).toBitVec.toInt := rfl
  rw [e]
  refine ⟨decide_eq_decide.mp m, ?_⟩
  omega
set_option maxRecDepth 10000 in
theorem sj_floorMod {d : Nat} {h : am_H} {v : Int} (h1 : inR v) : am_run am_tb (d + 1) 230 [vI v, vI 10007] h = some ([vI (v % 10007)], h) := by
  refine run_of tb_J9_floorMod_7cf53 (Nat.le_of_ble_eq_true rfl) ?_
  show ∃ ls', am_ev (am_run am_tb (d + 0)) tJ9_floorMod_7cf53 ([vI v, vI 10007, vU], [], h) = some (1, ls', [vI (v % 10007)], h)
  have hx := xor_sg h1
  have e : Int.tmod v 10007 = if 0 ≤ v then v % 10007 else -((-v) % 10007) := by
    by_cases c : 0 ≤ v
    · rw [if_pos c, Int.tmod_eq_emod_of_nonneg c]
    · rw [if_neg c, ← Int.tmod_eq_emod_of_nonneg (by omega), Int.neg_tmod, Int.neg_neg]
  by_cases c : 0 ≤ v
  · rw [if_pos c] at e
    apply Exists.intro
    unfold tJ9_floorMod_7cf53
    apply t_Q
    · apply t_S
      refine x_iload_n rfl ?_
      refine x_iload_n rfl ?_
      refine x_irem (by omega) ?_
      refine x_istore_n rfl ?_
      refine x_iload_n rfl ?_
      refine x_iload_n rfl ?_
      refine x_ixor ?_
      exact rfl
    apply t_Q
    · apply t_K
      apply t_Qs
      apply t_B
      · exact rfl
      exact t_if_ge_t (by omega)
    apply t_B
    · refine x_iload_n rfl ?_
      exact rfl
    exact t_ireq (Or.inl rfl) (by omega) rfl
  · rw [if_neg c] at e
    by_cases c2 : Int.tmod v 10007 = 0
    · skip
      apply Exists.intro
      unfold tJ9_floorMod_7cf53
      apply t_Q
      · apply t_S
        refine x_iload_n rfl ?_
        refine x_iload_n rfl ?_
        refine x_irem (by omega) ?_
        refine x_istore_n rfl ?_
        refine x_iload_n rfl ?_
        refine x_iload_n rfl ?_
        refine x_ixor ?_
        exact rfl
      apply t_Q
      · apply t_K
        apply t_Q
        · apply t_B
          · exact rfl
          exact t_if_ge_f (by omega)
        apply t_Qs
        apply t_B
        · refine x_iload_n rfl ?_
          exact rfl
        exact t_if_eq_t (by omega)
      apply t_B
      · refine x_iload_n rfl ?_
        exact rfl
      exact t_ireq (Or.inl rfl) (by omega) rfl
    · skip
      apply Exists.intro
      unfold tJ9_floorMod_7cf53
      apply t_Q
      · apply t_S
        refine x_iload_n rfl ?_
        refine x_iload_n rfl ?_
        refine x_irem (by omega) ?_
        refine x_istore_n rfl ?_
        refine x_iload_n rfl ?_
        refine x_iload_n rfl ?_
        refine x_ixor ?_
        exact rfl
      apply t_Qs
      apply t_Ks
      · apply t_Q
        · apply t_B
          · exact rfl
          exact t_if_ge_f (by omega)
        apply t_Q
        · apply t_B
          · refine x_iload_n rfl ?_
            exact rfl
          exact t_if_eq_f (by omega)
        apply t_B
        · refine x_iload_n rfl ?_
          refine x_iload_n rfl ?_
          refine x_iadd ?_
          exact rfl
        exact t_ireq (Or.inl rfl) (by omega) rfl
      · decide
set_option maxRecDepth 10000 in
theorem s1_residue {d : Nat} {h : am_H} {v : Int} (h1 : inR v) : am_run am_tb (d + 2) 9 [vI v] h = some ([vI (v % 10007)], h) := by
  refine run_of tb_X1_residue (Nat.le_of_ble_eq_true rfl) ?_
  show ∃ ls', am_ev (am_run am_tb (d + 1)) tX1_residue ([vI v], [], h) = some (1, ls', [vI (v % 10007)], h)
  apply Exists.intro
  unfold tX1_residue
  apply t_B
  · refine x_iload_n rfl ?_
    refine x_sipush ?_
    refine x_S2i (by decide) (Nat.le_of_ble_eq_true rfl) (sj_floorMod (d := d) h1) ?_
    exact rfl
  exact t_ireq (Or.inl rfl) rfl rfl
