/-! The reference: degrees, leads, products. Written by wip/whole/gen_26.py. -/
theorem x_V7v {G : am_G} {L : Nat} {I : Nat → Nat → Int} {R : Nat → Nat → Option Nat} {u : Int64} {ls st : List am_V} {r : List am_I} {Y : Option am_S} {i k c a : Nat} {h' : am_H} {v2 v3 v4 v5 v6 v7 : am_V} (ht : tg a = c) (hc : am_cats st ≤ 8) (hg : G k [vR a, v2, v3, v4, v5, v6, v7] (LH L I R u) = some ([], h')) (kk : am_L G r (ls, st, h') = Y) : am_L G ((.invokevirtual i, k, 7, c) :: r) (ls, v7 :: v6 :: v5 :: v4 :: v3 :: v2 :: vR a :: st, LH L I R u) = Y := x_invV (Nat.le_add_left 7 st.length) hc (x_rc ht) hg kk
theorem tri_31 : tri 31 = 496 := by decide
theorem wn_30 {k : Nat} (h : k < 496) : wn k ≤ 30 := wn_lt (by rw [tri_31]; exact h)
theorem pl_496 {i j : Nat} (h : i + j ≤ 30) : pl i j < 496 := by have := pl_lt h; rw [tri_31] at this; exact this
theorem wb_496 {o : Int} {n k : Nat} (h : n ≤ 30) (hk : k ≤ n) : wb o n k < 496 := by
  unfold wb; split <;> exact pl_496 (by omega)
set_option maxRecDepth 10000 in
theorem lp_degreeIn {d L : Nat} {I : Nat → Nat → Int} {R : Nat → Nat → Option Nat} {u : Int64} (hF : FixR R) (hR : Res I) {row : Nat} (h1 : row < 46) : am_lp (am_ev (am_run am_tb (d + 1)) wX12_degreeIn_4) 4 am_F ([vR 301, vI row, vI 495], [], LH L I R u) = some (31, ([vR 301, vI row, vI (495 - (zt (gro I row) : Nat))], [], LH L I R u)) := by
  have hle := zt_le (gro I row)
  refine lp_up0 (fun k => ([vR 301, vI row, vI (495 - (k : Int))], [], LH L I R u)) (zt (gro I row)) rfl (ltF (by first | decide | omega)) (by show ¬ 31 = 4 + 2; decide) (fun k hk => ?_) ?_
  · have hv := Res_g hR row (495 - k)
    have hz := zt_no hk
    unfold wX12_degreeIn_4
    apply t_Q
    · apply t_B
      · refine x_iload_n rfl ?_
        exact rfl
      exact t_if_lt_f (by omega)
    apply t_Q
    · apply t_B
      · refine x_aload_n rfl ?_
        refine x_gr tg_301 rfl (fx_301_6 hF) ?_
        refine x_sipush ?_
        refine x_iload_n rfl ?_
        refine x_imul ?_
        refine x_iload_n rfl ?_
        refine x_iadd ?_
        refine x_wld row (495 - k) (by omega) rfl ?_
        exact rfl
      exact t_if_ne_f (by omega)
    apply t_B
    · refine x_iinc rfl rfl ?_
      exact rfl
    exact t_goeq (s3 (congrArg (fun z => [vR 301, vI row, vI z]) (show (495 - (k : Int)) + (-1) = 495 - ((k + 1 : Nat) : Int) by omega)) rfl)
  · by_cases c : zt (gro I row) = 496
    · unfold wX12_degreeIn_4
      apply t_Qs
      apply t_B
      · refine x_iload_n rfl ?_
        exact rfl
      exact t_if_lt_t (by omega)
    have hv := Res_g hR row (495 - zt (gro I row))
    have hz := zt_yes c
    unfold wX12_degreeIn_4
    apply t_Q
    · apply t_B
      · refine x_iload_n rfl ?_
        exact rfl
      exact t_if_lt_f (by omega)
    apply t_Qs
    apply t_B
    · refine x_aload_n rfl ?_
      refine x_gr tg_301 rfl (fx_301_6 hF) ?_
      refine x_sipush ?_
      refine x_iload_n rfl ?_
      refine x_imul ?_
      refine x_iload_n rfl ?_
      refine x_iadd ?_
      refine x_wld row (495 - zt (gro I row)) (by omega) rfl ?_
      exact rfl
    exact t_if_ne_t (by omega)
set_option maxRecDepth 10000 in
theorem s_degreeIn {d L : Nat} {I : Nat → Nat → Int} {R : Nat → Nat → Option Nat} {u : Int64} (hF : FixR R) (hR : Res I) (hT : Tabs I) {row : Nat} (h1 : row < 46) : am_run am_tb (d + 2) 147 [vR 301, vI row] (LH L I R u) = some ([vI (dgr (gro I row))], LH L I R u) := by
  refine run_of tb_X12_degreeIn (Nat.le_of_ble_eq_true rfl) ?_
  show ∃ ls', am_ev (am_run am_tb (d + 1)) tX12_degreeIn ([vR 301, vI row, vU], [], (LH L I R u)) = some (1, ls', [vI (dgr (gro I row))], LH L I R u)
  have hle := zt_le (gro I row)
  by_cases c : zt (gro I row) = 496
  · apply Exists.intro
    unfold tX12_degreeIn
    apply t_Q
    · apply t_S
      refine x_sipush ?_
      refine x_istore_n rfl ?_
      exact rfl
    apply t_Q
    · apply t_K
      apply t_W
      exact lp_degreeIn hF hR h1
    apply t_Q
    · apply t_S
      refine x_iload_n rfl ?_
      exact rfl
    apply t_Q
    · apply t_K
      apply t_Qs
      apply t_Ks
      · apply t_Q
        · apply t_B
          · exact rfl
          exact t_if_ge_f (by omega)
        apply t_B
        · refine x_iconst ?_
          exact rfl
        exact t_goto
      · decide
    apply t_B
    · exact rfl
    exact t_ireq (Or.inl rfl) (by unfold dgr; rw [if_pos c]) rfl
  have hw : 495 - zt (gro I row) < 496 := by omega
  have e : (495 - ((zt (gro I row) : Nat) : Int)).toNat = 495 - zt (gro I row) := by omega
  apply Exists.intro
  unfold tX12_degreeIn
  apply t_Q
  · apply t_S
    refine x_sipush ?_
    refine x_istore_n rfl ?_
    exact rfl
  apply t_Q
  · apply t_K
    apply t_W
    exact lp_degreeIn hF hR h1
  apply t_Q
  · apply t_S
    refine x_iload_n rfl ?_
    exact rfl
  apply t_Q
  · apply t_Ks
    · apply t_Q
      · apply t_K
        apply t_Qs
        apply t_B
        · exact rfl
        exact t_if_ge_t (by omega)
      apply t_S
      refine x_aload_n rfl ?_
      refine x_gr tg_301 rfl (fx_301_7 hF) ?_
      refine x_iload_n rfl ?_
      refine x_ialdv (Or.inl tg_307) (ln_307 L) (by omega) (show _ = ((xw (495 - zt (gro I row)) : Nat) : Int) from by rw [e]; exact hT.1 _ hw) ?_
      refine x_aload_n rfl ?_
      refine x_gr tg_301 rfl (fx_301_8 hF) ?_
      refine x_iload_n rfl ?_
      refine x_ialdv (Or.inl tg_308) (ln_308 L) (by omega) (show _ = ((dw (495 - zt (gro I row)) : Nat) : Int) from by rw [e]; exact hT.2.1 _ hw) ?_
      refine x_iadd ?_
      exact rfl
    · decide
  apply t_B
  · exact rfl
  exact t_ireq (Or.inl rfl) (by unfold dgr; rw [if_neg c, ← xw_dw]; omega) rfl
theorem s_word {d : Nat} {h : am_H} {i j : Int} {a b : Nat} (h1 : i = a) (h2 : j = b) (h3 : a ≤ 100) (h4 : b ≤ 100) : am_run am_tb (d + 1) 132 [vI i, vI j] h = some ([vI (pl a b : Nat)], h) := by
  subst h1; subst h2
  rw [s_wordAt (by omega) (by omega), pl_int]
set_option maxRecDepth 10000 in
theorem s_wordBehind {d L : Nat} {I : Nat → Nat → Int} {R : Nat → Nat → Option Nat} {u : Int64} (hF : FixR R) {o : Int} (ho : I 302 608 = o) (h0 : o = 0 ∨ o = 1) {n k : Nat} (h1 : n ≤ 30) (h2 : k ≤ n) : am_run am_tb (d + 2) 148 [vR 301, vI n, vI k] (LH L I R u) = some ([vI (wb o n k : Nat)], LH L I R u) := by
  refine run_of tb_X12_wordBehind (Nat.le_of_ble_eq_true rfl) ?_
  show ∃ ls', am_ev (am_run am_tb (d + 1)) tX12_wordBehind ([vR 301, vI n, vI k], [], (LH L I R u)) = some (1, ls', [vI (wb o n k : Nat)], LH L I R u)
  by_cases c : o = 0
  · apply Exists.intro
    unfold tX12_wordBehind
    apply t_Q
    · apply t_S
      refine x_aload_n rfl ?_
      refine x_gr tg_301 rfl (fx_301_0 hF) ?_
      refine x_sipush ?_
      refine x_ialdv (Or.inl tg_302) (ln_302 L) (by omega) ho ?_
      exact rfl
    apply t_Q
    · apply t_K
      apply t_Qs
      apply t_Ks
      · apply t_Q
        · apply t_B
          · exact rfl
          exact t_if_ne_f (by omega)
        apply t_B
        · refine x_iload_n rfl ?_
          refine x_iload_n rfl ?_
          refine x_iload_n rfl ?_
          refine x_isub ?_
          refine x_S2i (by decide) (Nat.le_of_ble_eq_true rfl) (s_word (d := d) (a := k) (b := n - k) (by omega) (by omega) (by omega) (by omega)) ?_
          exact rfl
        exact t_goto
      · decide
    apply t_B
    · exact rfl
    exact t_ireq (Or.inl rfl) (by unfold wb; rw [if_pos c]) rfl
  apply Exists.intro
  unfold tX12_wordBehind
  apply t_Q
  · apply t_S
    refine x_aload_n rfl ?_
    refine x_gr tg_301 rfl (fx_301_0 hF) ?_
    refine x_sipush ?_
    refine x_ialdv (Or.inl tg_302) (ln_302 L) (by omega) ho ?_
    exact rfl
  apply t_Q
  · apply t_Ks
    · apply t_Q
      · apply t_K
        apply t_Qs
        apply t_B
        · exact rfl
        exact t_if_ne_t (by omega)
      apply t_S
      refine x_iload_n rfl ?_
      refine x_iload_n rfl ?_
      refine x_isub ?_
      refine x_iload_n rfl ?_
      refine x_S2i (by decide) (Nat.le_of_ble_eq_true rfl) (s_word (d := d) (a := n - k) (b := k) (by omega) (by omega) (by omega) (by omega)) ?_
      exact rfl
    · decide
  apply t_B
  · exact rfl
  exact t_ireq (Or.inl rfl) (by unfold wb; rw [if_neg c]) rfl
def lwv (o : Int) (n : Nat) : Nat → am_V
  | 0 => vU
  | k + 1 => vI (wb o n k : Nat)
def lfn (o : Int) (f : Nat → Int) (n : Nat) : Nat := fnd (fun k => decide (¬ f (wb o n k) = 0)) (n + 1)
theorem lfn_le {o : Int} {f : Nat → Int} {n : Nat} : lfn o f n ≤ n + 1 := fnd_le _ _
theorem lfn_no {o : Int} {f : Nat → Int} {n k : Nat} (h : k < lfn o f n) : f (wb o n k) = 0 := Decidable.not_not.mp (of_decide_eq_false (fnd_no (p := fun k => decide (¬ f (wb o n k) = 0)) h))
theorem lfn_yes {o : Int} {f : Nat → Int} {n : Nat} (h : lfn o f n < n + 1) : ¬ f (wb o n (lfn o f n)) = 0 := of_decide_eq_true (fnd_yes (p := fun k => decide (¬ f (wb o n k) = 0)) h)
theorem led_eq {o : Int} {f : Nat → Int} (h : zt f ≠ 496) : led o f = if lfn o f (wn (495 - zt f)) = wn (495 - zt f) + 1 then (-1 : Int) else ((wb o (wn (495 - zt f)) (lfn o f (wn (495 - zt f))) : Nat) : Int) := by
  unfold led
  rw [if_neg h]
  rfl
set_option maxRecDepth 10000 in
theorem lp_leadIn {d L : Nat} {I : Nat → Nat → Int} {R : Nat → Nat → Option Nat} {u : Int64} (hF : FixR R) (hR : Res I) {o : Int} (ho : I 302 608 = o) (h0 : o = 0 ∨ o = 1) {row n : Nat} (h1 : row < 46) (hn : n ≤ 30) : am_lp (am_ev (am_run am_tb (d + 2)) wX12_leadIn_8) 8 am_F ([vR 301, vI row, vI n, vI 0, vU], [], LH L I R u) = some (if lfn o (gro I row) n = n + 1 then (48, [vR 301, vI row, vI n, vI (lfn o (gro I row) n : Nat), lwv o n (lfn o (gro I row) n)], [], LH L I R u) else (1, [vR 301, vI row, vI n, vI (lfn o (gro I row) n : Nat), vI (wb o n (lfn o (gro I row) n) : Nat)], [vI (wb o n (lfn o (gro I row) n) : Nat)], LH L I R u)) := by
  have hle : lfn o (gro I row) n ≤ n + 1 := lfn_le
  refine lp_up0 (fun k => ([vR 301, vI row, vI n, vI k, lwv o n k], [], LH L I R u)) (lfn o (gro I row) n) rfl (by show lfn o (gro I row) n < 100000000; omega) (by split <;> (first | (show ¬ 48 = 8 + 2; decide) | (show ¬ 1 = 8 + 2; decide))) (fun k hk => ?_) ?_
  · have hz := lfn_no hk
    have hw : wb o n k < 496 := wb_496 hn (by omega)
    unfold wX12_leadIn_8
    apply t_Q
    · apply t_B
      · refine x_iload_n rfl ?_
        refine x_iload_n rfl ?_
        exact rfl
      exact t_ic_gt_f (by omega)
    apply t_Q
    · apply t_S
      refine x_aload_n rfl ?_
      refine x_iload_n rfl ?_
      refine x_iload_n rfl ?_
      refine x_V3i tg_301 (Nat.le_of_ble_eq_true rfl) (s_wordBehind (d := d) hF ho h0 hn (by omega)) ?_
      refine x_istore rfl ?_
      refine x_aload_n rfl ?_
      refine x_gr tg_301 rfl (fx_301_6 hF) ?_
      refine x_sipush ?_
      refine x_iload_n rfl ?_
      refine x_imul ?_
      refine x_iload rfl ?_
      refine x_iadd ?_
      refine x_wld row _ ⟨rfl, h1, hw⟩ rfl ?_
      exact rfl
    apply t_Q
    · apply t_K
      apply t_Qs
      apply t_B
      · exact rfl
      exact t_if_eq_t (by omega)
    apply t_B
    · refine x_iinc rfl rfl ?_
      exact rfl
    exact t_goeq rfl
  · by_cases c : lfn o (gro I row) n = n + 1
    · rw [if_pos c]
      unfold wX12_leadIn_8
      apply t_Qs
      apply t_B
      · refine x_iload_n rfl ?_
        refine x_iload_n rfl ?_
        exact rfl
      exact t_ic_gt_t (by omega)
    · rw [if_neg c]
      have hz := lfn_yes (o := o) (f := gro I row) (n := n) (by omega)
      have hv := Res_g hR row (wb o n (lfn o (gro I row) n))
      have hw : wb o n (lfn o (gro I row) n) < 496 := wb_496 hn (by omega)
      unfold wX12_leadIn_8
      apply t_Q
      · apply t_B
        · refine x_iload_n rfl ?_
          refine x_iload_n rfl ?_
          exact rfl
        exact t_ic_gt_f (by omega)
      apply t_Q
      · apply t_S
        refine x_aload_n rfl ?_
        refine x_iload_n rfl ?_
        refine x_iload_n rfl ?_
        refine x_V3i tg_301 (Nat.le_of_ble_eq_true rfl) (s_wordBehind (d := d) hF ho h0 hn (by omega)) ?_
        refine x_istore rfl ?_
        refine x_aload_n rfl ?_
        refine x_gr tg_301 rfl (fx_301_6 hF) ?_
        refine x_sipush ?_
        refine x_iload_n rfl ?_
        refine x_imul ?_
        refine x_iload rfl ?_
        refine x_iadd ?_
        refine x_wld row _ ⟨rfl, h1, hw⟩ rfl ?_
        exact rfl
      apply t_Qs
      apply t_Ks
      · apply t_Q
        · apply t_B
          · exact rfl
          exact t_if_eq_f (by omega)
        apply t_B
        · refine x_iload rfl ?_
          exact rfl
        exact t_iret (by first | exact Or.inl rfl | exact Or.inr (by omega))
      · decide
set_option maxRecDepth 10000 in
theorem s_leadIn {d L : Nat} {I : Nat → Nat → Int} {R : Nat → Nat → Option Nat} {u : Int64} (hF : FixR R) (hR : Res I) (hT : Tabs I) {o : Int} (ho : I 302 608 = o) (h0 : o = 0 ∨ o = 1) {row : Nat} (h1 : row < 46) : am_run am_tb (d + 3) 149 [vR 301, vI row] (LH L I R u) = some ([vI (led o (gro I row))], LH L I R u) := by
  refine run_of tb_X12_leadIn (Nat.le_of_ble_eq_true rfl) ?_
  show ∃ ls', am_ev (am_run am_tb (d + 2)) tX12_leadIn ([vR 301, vI row, vU, vU, vU], [], (LH L I R u)) = some (1, ls', [vI (led o (gro I row))], LH L I R u)
  have hd : dgr (gro I row) = if zt (gro I row) = 496 then (-1 : Int) else ((wn (495 - zt (gro I row)) : Nat) : Int) := by unfold dgr; rfl
  have hle := zt_le (gro I row)
  by_cases c : zt (gro I row) = 496
  · rw [if_pos c] at hd
    apply Exists.intro
    unfold tX12_leadIn
    apply t_Q
    · apply t_S
      refine x_aload_n rfl ?_
      refine x_iload_n rfl ?_
      refine x_V2i tg_301 (Nat.le_of_ble_eq_true rfl) (s_degreeIn (d := d) hF hR hT h1) ?_
      refine x_istore_n rfl ?_
      refine x_iconst ?_
      refine x_istore_n rfl ?_
      exact rfl
    apply t_Q
    · apply t_K
      apply t_W
      refine lp_up0 (fun _ => _) 0 rfl (by decide) ?_ (fun k hk => absurd hk (Nat.not_lt_zero k)) ?_ (r := (48, [vR 301, vI row, vI (dgr (gro I row)), vI 0, vU], [], LH L I R u))
      · show ¬ 48 = 8 + 2; decide
      · rw [hd]
        unfold wX12_leadIn_8
        apply t_Qs
        apply t_B
        · refine x_iload_n rfl ?_
          refine x_iload_n rfl ?_
          exact rfl
        exact t_ic_gt_t (by omega)
    apply t_B
    · refine x_iconst ?_
      exact rfl
    exact t_ireq (Or.inl rfl) (by unfold led; rw [if_pos c]) rfl
  rw [if_neg c] at hd
  have hn := wn_30 (show 495 - zt (gro I row) < 496 by omega)
  have hl := led_eq (o := o) c
  by_cases c2 : lfn o (gro I row) (wn (495 - zt (gro I row))) = wn (495 - zt (gro I row)) + 1
  · rw [if_pos c2] at hl
    apply Exists.intro
    unfold tX12_leadIn
    apply t_Q
    · apply t_S
      refine x_aload_n rfl ?_
      refine x_iload_n rfl ?_
      refine x_V2i tg_301 (Nat.le_of_ble_eq_true rfl) (hd ▸ s_degreeIn (d := d) hF hR hT h1) ?_
      refine x_istore_n rfl ?_
      refine x_iconst ?_
      refine x_istore_n rfl ?_
      exact rfl
    apply t_Q
    · apply t_K
      apply t_W
      exact (lp_leadIn (d := d) hF hR ho h0 h1 hn).trans (by rw [if_pos c2])
    apply t_B
    · refine x_iconst ?_
      exact rfl
    exact t_ireq (Or.inl rfl) hl.symm rfl
  rw [if_neg c2] at hl
  apply Exists.intro
  unfold tX12_leadIn
  apply t_Q
  · apply t_S
    refine x_aload_n rfl ?_
    refine x_iload_n rfl ?_
    refine x_V2i tg_301 (Nat.le_of_ble_eq_true rfl) (hd ▸ s_degreeIn (d := d) hF hR hT h1) ?_
    refine x_istore_n rfl ?_
    refine x_iconst ?_
    refine x_istore_n rfl ?_
    exact rfl
  apply t_Qs
  apply t_Ks
  · apply t_W
    exact (lp_leadIn (d := d) hF hR ho h0 h1 hn).trans (by rw [if_neg c2, hl])
  · decide
