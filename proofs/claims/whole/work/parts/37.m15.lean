/-! The reference: back, type, clear, told; small words about rows. Written by wip/whole/gen_37.py. -/
set_option maxRecDepth 10000 in
theorem lp_back {d L : Nat} {I : Nat → Nat → Int} {R : Nat → Nat → Option Nat} {u : Int64} (hF : FixR R) {n : Nat} (hn : I 301 2 = n) (h5 : n < 5) : am_lp (am_ev (am_run am_tb (d + 1)) wX12_back_29) 29 am_F ([vR 301, vI 0], [], LH L I R u) = some (65, ([vR 301, vI 609], [], LH L (au I 302 (fun j => if j < 609 then I 303 (609 * n + j) else I 302 j)) R u)) := by
  skip
  refine lp_up0 (fun k => ([vR 301, vI k], [], LH L (au I 302 (fun j => if j < k then I 303 (609 * n + j) else I 302 j)) R u)) (609) (s3 rfl (au_id.symm.trans (au_c (by funext j; rw [if_neg (by omega)])))) (ltF (by first | decide | omega)) (by show ¬ 65 = 29 + 2; decide) (fun k hk => ?_) ?_
  · unfold wX12_back_29
    apply t_Q
    · apply t_B
      · refine x_iload_n rfl ?_
        refine x_sipush ?_
        exact rfl
      exact t_ic_ge_f (by omega)
    apply t_B
    · refine x_aload_n rfl ?_
      refine x_gr tg_301 rfl (fx_301_0 hF) ?_
      refine x_iload_n rfl ?_
      refine x_aload_n rfl ?_
      refine x_gr tg_301 rfl (fx_301_1 hF) ?_
      refine x_sipush ?_
      refine x_aload_n rfl ?_
      refine x_giv tg_301 rfl (show _ = (n : Int) from hn) ?_
      refine x_imul ?_
      refine x_iload_n rfl ?_
      refine x_iadd ?_
      refine x_ialdv (Or.inl tg_303) (ln_303 L) (by omega) (show _ = I 303 (609 * n + k) from congrArg (I 303) (by omega)) ?_
      refine x_iast tg_302 (ln_302 L) (by omega) ?_
      refine x_iinc rfl rfl ?_
      exact rfl
    exact t_goeq (s3 rfl (au_w (by funext j; simp only [au2, au_i, ↓reduceIte, Nat.reduceEqDiff]; (repeat' split) <;> first | rfl | omega | (congr 1; omega) | (exfalso; omega) | (subst_vars; rfl))))
  · unfold wX12_back_29
    apply t_Qs
    apply t_B
    · refine x_iload_n rfl ?_
      refine x_sipush ?_
      exact rfl
    exact t_ic_ge_t (by omega)
def bkI (I : Nat → Nat → Int) (n : Nat) : Nat → Nat → Int := au (au I 301 (au (au (I 301) 2 n) 17 0)) 302 (fun j => if j < 609 then I 303 (609 * n + j) else I 302 j)
set_option maxRecDepth 10000 in
theorem s_back_no {d L : Nat} {I : Nat → Nat → Int} {R : Nat → Nat → Option Nat} {u : Int64} (hF : FixR R) (hn : I 301 2 = 0) : am_run am_tb (d + 2) 139 [vR 301] (LH L I R u) = some ([vI (-20003)], LH L (rf I 1) R u) := by
  refine run_of tb_X12_back (Nat.le_of_ble_eq_true rfl) ?_
  show ∃ ls', am_ev (am_run am_tb (d + 1)) tX12_back ([vR 301, vU], [], (LH L I R u)) = some (1, ls', [vI (-20003)], LH L (rf I 1) R u)
  apply Exists.intro
  unfold tX12_back
  apply t_Q
  · apply t_S
    refine x_aload_n rfl ?_
    refine x_giv tg_301 rfl hn ?_
    exact rfl
  apply t_Qs
  apply t_Ks
  · apply t_Q
    · apply t_B
      · exact rfl
      exact t_if_ne_f (by omega)
    apply t_B
    · refine x_aload_n rfl ?_
      refine x_V1i tg_301 (Nat.le_of_ble_eq_true rfl) (s_no (d := d) hF) ?_
      exact rfl
    exact t_ireq (Or.inl rfl) rfl rfl
  · decide
set_option maxRecDepth 10000 in
theorem s_back_ok {d L : Nat} {I : Nat → Nat → Int} {R : Nat → Nat → Option Nat} {u : Int64} (hF : FixR R) {n : Nat} (hn : I 301 2 = (n + 1 : Nat)) (h5 : n < 5) : am_run am_tb (d + 2) 139 [vR 301] (LH L I R u) = some ([vI n], LH L (bkI I n) R u) := by
  refine run_of tb_X12_back (Nat.le_of_ble_eq_true rfl) ?_
  show ∃ ls', am_ev (am_run am_tb (d + 1)) tX12_back ([vR 301, vU], [], (LH L I R u)) = some (1, ls', [vI n], LH L (bkI I n) R u)
  apply Exists.intro
  unfold tX12_back
  apply t_Q
  · apply t_S
    refine x_aload_n rfl ?_
    refine x_giv tg_301 rfl hn ?_
    exact rfl
  apply t_Q
  · apply t_K
    apply t_Qs
    apply t_B
    · exact rfl
    exact t_if_ne_t (by omega)
  apply t_Q
  · apply t_S
    refine x_aload_n rfl ?_
    refine x_dup rfl ?_
    refine x_giv tg_301 rfl hn ?_
    refine x_iconst ?_
    refine x_isub ?_
    refine x_pi tg_301 rfl rfl ?_
    refine x_aload_n rfl ?_
    refine x_iconst ?_
    refine x_pi tg_301 rfl rfl ?_
    refine x_iconst ?_
    refine x_istore_n rfl ?_
    exact rfl
  apply t_Q
  · apply t_K
    apply t_W
    exact lp_back (d := d) hF (n := n) (show ((n + 1 : Nat) : Int) - 1 = n from by omega) h5
  apply t_B
  · refine x_aload_n rfl ?_
    refine x_gi tg_301 rfl ?_
    exact rfl
  exact t_ireq (Or.inl rfl) (show ((n + 1 : Nat) : Int) - 1 = n from by omega) (LH_c (by rw [show ((n + 1 : Nat) : Int) - 1 = n by omega]; funext a j; unfold bkI; simp only [au2, au_i, ↓reduceIte, Nat.reduceEqDiff]; (repeat' split) <;> first | rfl | omega | (congr 1; omega) | (exfalso; omega) | (subst_vars; rfl)))
set_option maxRecDepth 10000 in
theorem s_type_bad {d L : Nat} {I : Nat → Nat → Int} {R : Nat → Nat → Option Nat} {u : Int64} (hF : FixR R) {c : Int} (hc : inR c) (hb : ¬ ((0 ≤ c ∧ c ≤ 127))) : am_run am_tb (d + 3) 205 [vR 301, vI c] (LH L I R u) = some ([vI (-20002)], LH L (rf I 0) R u) := by
  refine run_of tb_X12_type (Nat.le_of_ble_eq_true rfl) ?_
  show ∃ ls', am_ev (am_run am_tb (d + 2)) tX12_type ([vR 301, vI c], [], (LH L I R u)) = some (1, ls', [vI (-20002)], LH L (rf I 0) R u)
  have c0 : ¬ (0 ≤ c ∧ c ≤ 127) := by omega
  apply Exists.intro
  unfold tX12_type
  apply t_Q
  · apply t_S
    refine x_iload_n rfl ?_
    refine x_iconst ?_
    refine x_bipush ?_
    refine x_S3i (by decide) (Nat.le_of_ble_eq_true rfl) (ret_f c0 (s_in (d := d + 1) hc (by omega) (by omega))) ?_
    exact rfl
  apply t_Qs
  apply t_Ks
  · apply t_Q
    · apply t_B
      · exact rfl
      exact t_if_ne_f (by omega)
    apply t_B
    · refine x_aload_n rfl ?_
      refine x_V1i tg_301 (Nat.le_of_ble_eq_true rfl) (s_bad (d := d + 1) hF) ?_
      exact rfl
    exact t_ireq (Or.inl rfl) rfl rfl
  · decide
set_option maxRecDepth 10000 in
theorem s_type_full {d L : Nat} {I : Nat → Nat → Int} {R : Nat → Nat → Option Nat} {u : Int64} (hF : FixR R) {c : Int} (hc : 0 ≤ c ∧ c ≤ 127) (hb : I 301 5 = 120) : am_run am_tb (d + 3) 205 [vR 301, vI c] (LH L I R u) = some ([vI (-20004)], LH L (rf I 2) R u) := by
  refine run_of tb_X12_type (Nat.le_of_ble_eq_true rfl) ?_
  show ∃ ls', am_ev (am_run am_tb (d + 2)) tX12_type ([vR 301, vI c], [], (LH L I R u)) = some (1, ls', [vI (-20004)], LH L (rf I 2) R u)
  apply Exists.intro
  unfold tX12_type
  apply t_Q
  · apply t_S
    refine x_iload_n rfl ?_
    refine x_iconst ?_
    refine x_bipush ?_
    refine x_S3i (by decide) (Nat.le_of_ble_eq_true rfl) (ret_t hc (s_in (d := d + 1) (by omega) (by omega) (by omega))) ?_
    exact rfl
  apply t_Q
  · apply t_K
    apply t_Qs
    apply t_B
    · exact rfl
    exact t_if_ne_t (by omega)
  apply t_Q
  · apply t_S
    refine x_aload_n rfl ?_
    refine x_giv tg_301 rfl hb ?_
    refine x_bipush ?_
    exact rfl
  apply t_Qs
  apply t_Ks
  · apply t_Q
    · apply t_B
      · exact rfl
      exact t_ic_ne_f (by omega)
    apply t_B
    · refine x_aload_n rfl ?_
      refine x_V1i tg_301 (Nat.le_of_ble_eq_true rfl) (s_full (d := d + 1) hF) ?_
      exact rfl
    exact t_ireq (Or.inl rfl) rfl rfl
  · decide
def tyI (I : Nat → Nat → Int) (b : Nat) (c : Int) : Nat → Nat → Int := au (au I 305 (au (I 305) b c)) 301 (au (I 301) 5 ((b : Int) + 1))
set_option maxRecDepth 10000 in
theorem s_type_ok {d L : Nat} {I : Nat → Nat → Int} {R : Nat → Nat → Option Nat} {u : Int64} (hF : FixR R) {c : Int} {b : Nat} (hc : 0 ≤ c ∧ c ≤ 127) (hb : I 301 5 = b) (hb2 : b < 120) : am_run am_tb (d + 3) 205 [vR 301, vI c] (LH L I R u) = some ([vI ((b : Int) + 1)], LH L (tyI I b c) R u) := by
  refine run_of tb_X12_type (Nat.le_of_ble_eq_true rfl) ?_
  show ∃ ls', am_ev (am_run am_tb (d + 2)) tX12_type ([vR 301, vI c], [], (LH L I R u)) = some (1, ls', [vI ((b : Int) + 1)], LH L (tyI I b c) R u)
  apply Exists.intro
  unfold tX12_type
  apply t_Q
  · apply t_S
    refine x_iload_n rfl ?_
    refine x_iconst ?_
    refine x_bipush ?_
    refine x_S3i (by decide) (Nat.le_of_ble_eq_true rfl) (ret_t hc (s_in (d := d + 1) (by omega) (by omega) (by omega))) ?_
    exact rfl
  apply t_Q
  · apply t_K
    apply t_Qs
    apply t_B
    · exact rfl
    exact t_if_ne_t (by omega)
  apply t_Q
  · apply t_S
    refine x_aload_n rfl ?_
    refine x_giv tg_301 rfl hb ?_
    refine x_bipush ?_
    exact rfl
  apply t_Q
  · apply t_K
    apply t_Qs
    apply t_B
    · exact rfl
    exact t_ic_ne_t (by omega)
  apply t_B
  · refine x_aload_n rfl ?_
    refine x_gr tg_301 rfl (fx_301_4 hF) ?_
    refine x_aload_n rfl ?_
    refine x_giv tg_301 rfl hb ?_
    refine x_iload_n rfl ?_
    refine x_iast tg_305 (ln_305 L) (by omega) ?_
    refine x_aload_n rfl ?_
    refine x_dup rfl ?_
    refine x_giv tg_301 rfl hb ?_
    refine x_iconst ?_
    refine x_iadd ?_
    refine x_pi tg_301 rfl rfl ?_
    refine x_aload_n rfl ?_
    refine x_gi tg_301 rfl ?_
    exact rfl
  exact t_ireq (Or.inl rfl) rfl rfl
set_option maxRecDepth 10000 in
theorem s_clear {d L : Nat} {I : Nat → Nat → Int} {R : Nat → Nat → Option Nat} {u : Int64} (hF : FixR R) : am_run am_tb (d + 1) 206 [vR 301] (LH L I R u) = some ([vI (I 301 5)], LH L (au I 301 (au (I 301) 5 0)) R u) := by
  refine run_of tb_X12_clear (Nat.le_of_ble_eq_true rfl) ?_
  show ∃ ls', am_ev (am_run am_tb (d + 0)) tX12_clear ([vR 301, vU], [], (LH L I R u)) = some (1, ls', [vI (I 301 5)], LH L (au I 301 (au (I 301) 5 0)) R u)
  apply Exists.intro
  unfold tX12_clear
  apply t_B
  · refine x_aload_n rfl ?_
    refine x_gi tg_301 rfl ?_
    refine x_istore_n rfl ?_
    refine x_aload_n rfl ?_
    refine x_iconst ?_
    refine x_pi tg_301 rfl rfl ?_
    refine x_iload_n rfl ?_
    exact rfl
  exact t_ireq (Or.inl rfl) rfl rfl
def tof (I : Nat → Nat → Int) (w : Int) : Int := if w < 3 then I 304 w.toNat else if w = 3 then I 301 5 else if w = 4 then I 302 608 else I 301 2
set_option maxRecDepth 10000 in
theorem s_toldOf {d L : Nat} {I : Nat → Nat → Int} {R : Nat → Nat → Option Nat} {u : Int64} (hF : FixR R) {w : Int} (hw : 0 ≤ w ∧ w ≤ 5) : am_run am_tb (d + 1) 226 [vR 301, vI w] (LH L I R u) = some ([vI (tof I w)], LH L I R u) := by
  refine run_of tb_X12_toldOf (Nat.le_of_ble_eq_true rfl) ?_
  show ∃ ls', am_ev (am_run am_tb (d + 0)) tX12_toldOf ([vR 301, vI w], [], (LH L I R u)) = some (1, ls', [vI (tof I w)], LH L I R u)
  by_cases c1 : w < 3
  · apply Exists.intro
    unfold tX12_toldOf
    apply t_Q
    · apply t_S
      refine x_iload_n rfl ?_
      refine x_iconst ?_
      exact rfl
    apply t_Q
    · apply t_K
      apply t_Qs
      apply t_Ks
      · apply t_Q
        · apply t_B
          · exact rfl
          exact t_ic_ge_f (by omega)
        apply t_B
        · refine x_aload_n rfl ?_
          refine x_gr tg_301 rfl (fx_301_3 hF) ?_
          refine x_iload_n rfl ?_
          refine x_iald (Or.inl tg_304) (ln_304 L) (by omega) ?_
          exact rfl
        exact t_goto
      · decide
    apply t_B
    · exact rfl
    exact t_ireq (Or.inl rfl) (by unfold tof; rw [if_pos c1]) rfl
  by_cases c2 : w = 3
  · apply Exists.intro
    unfold tX12_toldOf
    apply t_Q
    · apply t_S
      refine x_iload_n rfl ?_
      refine x_iconst ?_
      exact rfl
    apply t_Q
    · apply t_K
      apply t_Q
      · apply t_K
        apply t_Qs
        apply t_B
        · exact rfl
        exact t_ic_ge_t (by omega)
      apply t_Q
      · apply t_S
        refine x_iload_n rfl ?_
        refine x_iconst ?_
        exact rfl
      apply t_Qs
      apply t_Ks
      · apply t_Q
        · apply t_B
          · exact rfl
          exact t_ic_ne_f (by omega)
        apply t_B
        · refine x_aload_n rfl ?_
          refine x_gi tg_301 rfl ?_
          exact rfl
        exact t_goto
      · decide
    apply t_B
    · exact rfl
    exact t_ireq (Or.inl rfl) (by unfold tof; rw [if_neg c1, if_pos c2]) rfl
  by_cases c3 : w = 4
  · apply Exists.intro
    unfold tX12_toldOf
    apply t_Q
    · apply t_S
      refine x_iload_n rfl ?_
      refine x_iconst ?_
      exact rfl
    apply t_Q
    · apply t_K
      apply t_Q
      · apply t_K
        apply t_Qs
        apply t_B
        · exact rfl
        exact t_ic_ge_t (by omega)
      apply t_Q
      · apply t_S
        refine x_iload_n rfl ?_
        refine x_iconst ?_
        exact rfl
      apply t_Q
      · apply t_K
        apply t_Qs
        apply t_B
        · exact rfl
        exact t_ic_ne_t (by omega)
      apply t_Q
      · apply t_S
        refine x_iload_n rfl ?_
        refine x_iconst ?_
        exact rfl
      apply t_Qs
      apply t_Ks
      · apply t_Q
        · apply t_B
          · exact rfl
          exact t_ic_ne_f (by omega)
        apply t_B
        · refine x_aload_n rfl ?_
          refine x_gr tg_301 rfl (fx_301_0 hF) ?_
          refine x_sipush ?_
          refine x_iald (Or.inl tg_302) (ln_302 L) (by omega) ?_
          exact rfl
        exact t_goto
      · decide
    apply t_B
    · exact rfl
    exact t_ireq (Or.inl rfl) (by unfold tof; rw [if_neg c1, if_neg c2, if_pos c3]; rfl) rfl
  apply Exists.intro
  unfold tX12_toldOf
  apply t_Q
  · apply t_S
    refine x_iload_n rfl ?_
    refine x_iconst ?_
    exact rfl
  apply t_Q
  · apply t_Ks
    · apply t_Q
      · apply t_K
        apply t_Qs
        apply t_B
        · exact rfl
        exact t_ic_ge_t (by omega)
      apply t_Q
      · apply t_S
        refine x_iload_n rfl ?_
        refine x_iconst ?_
        exact rfl
      apply t_Q
      · apply t_K
        apply t_Qs
        apply t_B
        · exact rfl
        exact t_ic_ne_t (by omega)
      apply t_Q
      · apply t_S
        refine x_iload_n rfl ?_
        refine x_iconst ?_
        exact rfl
      apply t_Q
      · apply t_K
        apply t_Qs
        apply t_B
        · exact rfl
        exact t_ic_ne_t (by omega)
      apply t_S
      refine x_aload_n rfl ?_
      refine x_gi tg_301 rfl ?_
      exact rfl
    · decide
  apply t_B
  · exact rfl
  exact t_ireq (Or.inl rfl) (by unfold tof; rw [if_neg c1, if_neg c2, if_neg c3]) rfl
set_option maxRecDepth 10000 in
theorem s_told_bad {d L : Nat} {I : Nat → Nat → Int} {R : Nat → Nat → Option Nat} {u : Int64} (hF : FixR R) {w : Int} (hw : inR w) (hb : ¬ ((0 ≤ w ∧ w ≤ 5))) : am_run am_tb (d + 3) 227 [vR 301, vI w] (LH L I R u) = some ([vI (-20002)], LH L (rf I 0) R u) := by
  refine run_of tb_X12_told (Nat.le_of_ble_eq_true rfl) ?_
  show ∃ ls', am_ev (am_run am_tb (d + 2)) tX12_told ([vR 301, vI w], [], (LH L I R u)) = some (1, ls', [vI (-20002)], LH L (rf I 0) R u)
  have c0 : ¬ (0 ≤ w ∧ w ≤ 5) := by omega
  apply Exists.intro
  unfold tX12_told
  apply t_Q
  · apply t_S
    refine x_iload_n rfl ?_
    refine x_iconst ?_
    refine x_iconst ?_
    refine x_S3i (by decide) (Nat.le_of_ble_eq_true rfl) (ret_f c0 (s_in (d := d + 1) hw (by omega) (by omega))) ?_
    exact rfl
  apply t_Q
  · apply t_Ks
    · apply t_Q
      · apply t_K
        apply t_Qs
        apply t_B
        · exact rfl
        exact t_if_eq_t (by omega)
      apply t_S
      refine x_aload_n rfl ?_
      refine x_V1i tg_301 (Nat.le_of_ble_eq_true rfl) (s_bad (d := d + 1) hF) ?_
      exact rfl
    · decide
  apply t_B
  · exact rfl
  exact t_ireq (Or.inl rfl) rfl rfl
set_option maxRecDepth 10000 in
theorem s_told_ok {d L : Nat} {I : Nat → Nat → Int} {R : Nat → Nat → Option Nat} {u : Int64} (hF : FixR R) {w : Int} (hw : 0 ≤ w ∧ w ≤ 5) : am_run am_tb (d + 2) 227 [vR 301, vI w] (LH L I R u) = some ([vI (tof I w)], LH L I R u) := by
  refine run_of tb_X12_told (Nat.le_of_ble_eq_true rfl) ?_
  show ∃ ls', am_ev (am_run am_tb (d + 1)) tX12_told ([vR 301, vI w], [], (LH L I R u)) = some (1, ls', [vI (tof I w)], LH L I R u)
  apply Exists.intro
  unfold tX12_told
  apply t_Q
  · apply t_S
    refine x_iload_n rfl ?_
    refine x_iconst ?_
    refine x_iconst ?_
    refine x_S3i (by decide) (Nat.le_of_ble_eq_true rfl) (ret_t hw (s_in (d := d) (by omega) (by omega) (by omega))) ?_
    exact rfl
  apply t_Q
  · apply t_K
    apply t_Qs
    apply t_Ks
    · apply t_Q
      · apply t_B
        · exact rfl
        exact t_if_eq_f (by omega)
      apply t_B
      · refine x_aload_n rfl ?_
        refine x_iload_n rfl ?_
        refine x_V2i tg_301 (Nat.le_of_ble_eq_true rfl) (s_toldOf (d := d) hF hw) ?_
        exact rfl
      exact t_goto
    · decide
  apply t_B
  · exact rfl
  exact t_ireq (Or.inl rfl) rfl rfl
set_option maxRecDepth 10000 in
theorem s_isSet {d : Nat} {h : am_H} {s : Int} (h1 : inR s) : am_run am_tb (d + 2) 187 [vI s] h = some ([vI (if 1 ≤ s ∧ s ≤ 63 then 1 else 0)], h) := by
  refine run_of tb_X12_isSet (Nat.le_of_ble_eq_true rfl) ?_
  show ∃ ls', am_ev (am_run am_tb (d + 1)) tX12_isSet ([vI s], [], h) = some (1, ls', [vI (if 1 ≤ s ∧ s ≤ 63 then 1 else 0)], h)
  apply Exists.intro
  unfold tX12_isSet
  apply t_B
  · refine x_iload_n rfl ?_
    refine x_iconst ?_
    refine x_bipush ?_
    refine x_S3i (by decide) (Nat.le_of_ble_eq_true rfl) (s_in (d := d) h1 (by omega) (by omega)) ?_
    exact rfl
  exact t_ireq (Or.inr b01) rfl rfl
set_option maxRecDepth 10000 in
theorem s_isBelow {d L : Nat} {I : Nat → Nat → Int} {R : Nat → Nat → Option Nat} {u : Int64} (hF : FixR R) (hT : Tabs I) {l w : Nat} (hl : l < 496) (hw : w < 496) : am_run am_tb (d + 1) 184 [vR 301, vI l, vI w] (LH L I R u) = some ([vI (if xw l ≤ xw w ∧ dw l ≤ dw w then 1 else 0)], LH L I R u) := by
  refine run_of tb_X12_isBelow (Nat.le_of_ble_eq_true rfl) ?_
  show ∃ ls', am_ev (am_run am_tb (d + 0)) tX12_isBelow ([vR 301, vI l, vI w], [], (LH L I R u)) = some (1, ls', [vI (if xw l ≤ xw w ∧ dw l ≤ dw w then 1 else 0)], LH L I R u)
  have b1 := wn_30 hl
  have b2 := wn_30 hw
  have b3 := xw_dw l
  have b4 := xw_dw w
  by_cases c1 : xw w < xw l
  · apply Exists.intro
    unfold tX12_isBelow
    apply t_Q
    · apply t_S
      refine x_aload_n rfl ?_
      refine x_gr tg_301 rfl (fx_301_7 hF) ?_
      refine x_iload_n rfl ?_
      refine x_ialdv (Or.inl tg_307) (ln_307 L) (by omega) (show _ = ((xw l : Nat) : Int) from hT.1 l hl) ?_
      refine x_aload_n rfl ?_
      refine x_gr tg_301 rfl (fx_301_7 hF) ?_
      refine x_iload_n rfl ?_
      refine x_ialdv (Or.inl tg_307) (ln_307 L) (by omega) (show _ = ((xw w : Nat) : Int) from hT.1 w hw) ?_
      exact rfl
    apply t_Q
    · apply t_Ks
      · apply t_Q
        · apply t_K
          apply t_Qs
          apply t_B
          · exact rfl
          exact t_ic_gt_t (by omega)
        apply t_S
        refine x_iconst ?_
        exact rfl
      · decide
    apply t_B
    · exact rfl
    exact t_ireq (Or.inr (Or.inl rfl)) (by rw [if_neg (by omega)]) rfl
  by_cases c2 : dw w < dw l
  · apply Exists.intro
    unfold tX12_isBelow
    apply t_Q
    · apply t_S
      refine x_aload_n rfl ?_
      refine x_gr tg_301 rfl (fx_301_7 hF) ?_
      refine x_iload_n rfl ?_
      refine x_ialdv (Or.inl tg_307) (ln_307 L) (by omega) (show _ = ((xw l : Nat) : Int) from hT.1 l hl) ?_
      refine x_aload_n rfl ?_
      refine x_gr tg_301 rfl (fx_301_7 hF) ?_
      refine x_iload_n rfl ?_
      refine x_ialdv (Or.inl tg_307) (ln_307 L) (by omega) (show _ = ((xw w : Nat) : Int) from hT.1 w hw) ?_
      exact rfl
    apply t_Q
    · apply t_Ks
      · apply t_Q
        · apply t_K
          apply t_Q
          · apply t_B
            · exact rfl
            exact t_ic_gt_f (by omega)
          apply t_Qs
          apply t_B
          · refine x_aload_n rfl ?_
            refine x_gr tg_301 rfl (fx_301_8 hF) ?_
            refine x_iload_n rfl ?_
            refine x_ialdv (Or.inl tg_308) (ln_308 L) (by omega) (show _ = ((dw l : Nat) : Int) from hT.2.1 l hl) ?_
            refine x_aload_n rfl ?_
            refine x_gr tg_301 rfl (fx_301_8 hF) ?_
            refine x_iload_n rfl ?_
            refine x_ialdv (Or.inl tg_308) (ln_308 L) (by omega) (show _ = ((dw w : Nat) : Int) from hT.2.1 w hw) ?_
            exact rfl
          exact t_ic_gt_t (by omega)
        apply t_S
        refine x_iconst ?_
        exact rfl
      · decide
    apply t_B
    · exact rfl
    exact t_ireq (Or.inr (Or.inl rfl)) (by rw [if_neg (by omega)]) rfl
  apply Exists.intro
  unfold tX12_isBelow
  apply t_Q
  · apply t_S
    refine x_aload_n rfl ?_
    refine x_gr tg_301 rfl (fx_301_7 hF) ?_
    refine x_iload_n rfl ?_
    refine x_ialdv (Or.inl tg_307) (ln_307 L) (by omega) (show _ = ((xw l : Nat) : Int) from hT.1 l hl) ?_
    refine x_aload_n rfl ?_
    refine x_gr tg_301 rfl (fx_301_7 hF) ?_
    refine x_iload_n rfl ?_
    refine x_ialdv (Or.inl tg_307) (ln_307 L) (by omega) (show _ = ((xw w : Nat) : Int) from hT.1 w hw) ?_
    exact rfl
  apply t_Q
  · apply t_K
    apply t_Qs
    apply t_Ks
    · apply t_Q
      · apply t_B
        · exact rfl
        exact t_ic_gt_f (by omega)
      apply t_Q
      · apply t_B
        · refine x_aload_n rfl ?_
          refine x_gr tg_301 rfl (fx_301_8 hF) ?_
          refine x_iload_n rfl ?_
          refine x_ialdv (Or.inl tg_308) (ln_308 L) (by omega) (show _ = ((dw l : Nat) : Int) from hT.2.1 l hl) ?_
          refine x_aload_n rfl ?_
          refine x_gr tg_301 rfl (fx_301_8 hF) ?_
          refine x_iload_n rfl ?_
          refine x_ialdv (Or.inl tg_308) (ln_308 L) (by omega) (show _ = ((dw w : Nat) : Int) from hT.2.1 w hw) ?_
          exact rfl
        exact t_ic_gt_f (by omega)
      apply t_B
      · refine x_iconst ?_
        exact rfl
      exact t_goto
    · decide
  apply t_B
  · exact rfl
  exact t_ireq (Or.inr (Or.inr rfl)) (by rw [if_pos (by omega)]) rfl
