/-! The reference: shown. Written by wip/whole/gen_48.py. -/
theorem lin_l {o : Int} {f : Nat → Int} : (lin o f).length ≤ 1366 := by
  have h := lno_l (o := o) (f := f) (Nat.le_refl 13)
  unfold lin
  split
  · rw [List.length_append]; show (lno o f 13).length + 1 ≤ 1366; omega
  · omega
set_option maxRecDepth 10000 in
theorem s_shown_bad {d L : Nat} {I : Nat → Nat → Int} {R : Nat → Nat → Option Nat} {u : Int64} (hF : FixR R) {s i : Int} (hs : inR s) (hi : inR i) (hb : ¬ ((0 ≤ s ∧ s ≤ 5) ∧ 0 ≤ i)) : am_run am_tb (d + 3) 225 [vR 301, vI s, vI i] (LH L I R u) = some ([vI (-20002)], LH L (rf I 0) R u) := by
  refine run_of tb_X12_shown (Nat.le_of_ble_eq_true rfl) ?_
  show ∃ ls', am_ev (am_run am_tb (d + 2)) tX12_shown ([vR 301, vI s, vI i], [], (LH L I R u)) = some (1, ls', [vI (-20002)], LH L (rf I 0) R u)
  by_cases c : 0 ≤ s ∧ s ≤ 5
  · apply Exists.intro
    unfold tX12_shown
    apply t_Q
    · apply t_S
      refine x_iload_n rfl ?_
      refine x_S1i (by decide) (Nat.le_of_ble_eq_true rfl) (ret_t c (s_isOperator (d := d) hs)) ?_
      exact rfl
    apply t_Qs
    apply t_Ks
    · apply t_Q
      · apply t_Ks
        · apply t_Q
          · apply t_B
            · exact rfl
            exact t_if_eq_f (by omega)
          apply t_B
          · refine x_iload_n rfl ?_
            exact rfl
          exact t_if_ge_f (by omega)
        · decide
      apply t_B
      · refine x_aload_n rfl ?_
        refine x_V1i tg_301 (Nat.le_of_ble_eq_true rfl) (s_bad (d := d + 1) hF) ?_
        exact rfl
      exact t_ireq (Or.inl rfl) rfl rfl
    · decide
  apply Exists.intro
  unfold tX12_shown
  apply t_Q
  · apply t_S
    refine x_iload_n rfl ?_
    refine x_S1i (by decide) (Nat.le_of_ble_eq_true rfl) (ret_f c (s_isOperator (d := d) hs)) ?_
    exact rfl
  apply t_Qs
  apply t_Ks
  · apply t_Q
    · apply t_K
      apply t_Qs
      apply t_B
      · exact rfl
      exact t_if_eq_t (by omega)
    apply t_B
    · refine x_aload_n rfl ?_
      refine x_V1i tg_301 (Nat.le_of_ble_eq_true rfl) (s_bad (d := d + 1) hF) ?_
      exact rfl
    exact t_ireq (Or.inl rfl) rfl rfl
  · decide
set_option maxRecDepth 10000 in
theorem s_shown_ok {d L : Nat} {I : Nat → Nat → Int} {R : Nat → Nat → Option Nat} {u : Int64} (hF : FixR R) (hT : Tabs I) (hN : Nr I) {o : Int} (ho : I 302 608 = o) {s : Nat} (hs : s < 6) {i : Int} (hi : 0 ≤ i ∧ i ≤ 2147483647) : am_run am_tb (d + 6) 225 [vR 301, vI s, vI i] (LH L I R u) = some ([vI (if i < ((lin o (opr I s)).length : Nat) then (lin o (opr I s)).getD i.toNat 0 else -20001)], LH L (wrs I (lin o (opr I s))) R u) := by
  refine run_of tb_X12_shown (Nat.le_of_ble_eq_true rfl) ?_
  show ∃ ls', am_ev (am_run am_tb (d + 5)) tX12_shown ([vR 301, vI s, vI i], [], (LH L I R u)) = some (1, ls', [vI (if i < ((lin o (opr I s)).length : Nat) then (lin o (opr I s)).getD i.toNat 0 else -20001)], LH L (wrs I (lin o (opr I s))) R u)
  have hlen := lin_l (o := o) (f := opr I s)
  by_cases c : i < ((lin o (opr I s)).length : Nat)
  · apply Exists.intro
    unfold tX12_shown
    apply t_Q
    · apply t_S
      refine x_iload_n rfl ?_
      refine x_S1i (by decide) (Nat.le_of_ble_eq_true rfl) (ret_t (show 0 ≤ (s : Int) ∧ (s : Int) ≤ 5 from by omega) (s_isOperator (d := d + 3) (by omega))) ?_
      exact rfl
    apply t_Q
    · apply t_K
      apply t_Qs
      apply t_Ks
      · apply t_Q
        · apply t_B
          · exact rfl
          exact t_if_eq_f (by omega)
        apply t_B
        · refine x_iload_n rfl ?_
          exact rfl
        exact t_if_ge_t (by omega)
      · decide
    apply t_Q
    · apply t_S
      refine x_aload_n rfl ?_
      refine x_iload_n rfl ?_
      refine x_V2v tg_301 (Nat.le_of_ble_eq_true rfl) (s_laysLine (d := d) hF hT hN ho hs) ?_
      refine x_iload_n rfl ?_
      refine x_aload_n rfl ?_
      refine x_giv tg_301 rfl (show _ = (((lin o (opr I s)).length : Nat) : Int) from rfl) ?_
      exact rfl
    apply t_Q
    · apply t_K
      apply t_Qs
      apply t_Ks
      · apply t_Q
        · apply t_B
          · exact rfl
          exact t_ic_ge_f (by omega)
        apply t_B
        · refine x_aload_n rfl ?_
          refine x_gr tg_301 rfl (fx_301_28 hF) ?_
          refine x_iload_n rfl ?_
          refine x_ialdv (Or.inl tg_317) (ln_317 L) (by omega) (show _ = (lin o (opr I s)).getD i.toNat 0 from if_pos (show i.toNat < (lin o (opr I s)).length by omega)) ?_
          exact rfl
        exact t_goto
      · decide
    apply t_B
    · exact rfl
    exact t_ireq (Or.inl rfl) (by rw [if_pos c]) rfl
  apply Exists.intro
  unfold tX12_shown
  apply t_Q
  · apply t_S
    refine x_iload_n rfl ?_
    refine x_S1i (by decide) (Nat.le_of_ble_eq_true rfl) (ret_t (show 0 ≤ (s : Int) ∧ (s : Int) ≤ 5 from by omega) (s_isOperator (d := d + 3) (by omega))) ?_
    exact rfl
  apply t_Q
  · apply t_K
    apply t_Qs
    apply t_Ks
    · apply t_Q
      · apply t_B
        · exact rfl
        exact t_if_eq_f (by omega)
      apply t_B
      · refine x_iload_n rfl ?_
        exact rfl
      exact t_if_ge_t (by omega)
    · decide
  apply t_Q
  · apply t_S
    refine x_aload_n rfl ?_
    refine x_iload_n rfl ?_
    refine x_V2v tg_301 (Nat.le_of_ble_eq_true rfl) (s_laysLine (d := d) hF hT hN ho hs) ?_
    refine x_iload_n rfl ?_
    refine x_aload_n rfl ?_
    refine x_giv tg_301 rfl (show _ = (((lin o (opr I s)).length : Nat) : Int) from rfl) ?_
    exact rfl
  apply t_Q
  · apply t_Ks
    · apply t_Q
      · apply t_K
        apply t_Qs
        apply t_B
        · exact rfl
        exact t_ic_ge_t (by omega)
      apply t_S
      refine x_sipush ?_
      exact rfl
    · decide
  apply t_B
  · exact rfl
  exact t_ireq (Or.inl rfl) (by rw [if_neg c]) rfl
