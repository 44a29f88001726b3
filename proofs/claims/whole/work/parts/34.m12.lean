/-! The reference: kills, the matrix of kernel. Written by wip/whole/gen_34.py. -/
def ki1 (g : Nat → Int) (k : Nat) (h : Nat → Int) : Nat → Int := au h (pl k 1) ((h (pl k 1) + g k) % 10007)
def ki2 (g : Nat → Int) (k : Nat) (h : Nat → Int) : Nat → Int := if k = 0 then h else au h (pl (k - 1) 0) ((h (pl (k - 1) 0) + (10007 - g k) * (k : Int)) % 10007)
def kiF (g : Nat → Int) : Nat → Nat → Int
  | 0 => fun _ => 0
  | k + 1 => ki2 g k (ki1 g k (kiF g k))
theorem ki1_b {g h : Nat → Int} {k : Nat} (hh : resd h) : resd (ki1 g k h) := by
  intro w hw
  unfold ki1 au
  split
  · omega
  · exact hh w hw
theorem ki2_b {g h : Nat → Int} {k : Nat} (hh : resd h) : resd (ki2 g k h) := by
  intro w hw
  unfold ki2
  split
  · exact hh w hw
  · unfold au
    split
    · omega
    · exact hh w hw
theorem kiF_b {g : Nat → Int} (k : Nat) : resd (kiF g k) := by
  induction k with
  | zero => exact fun _ _ => ⟨Int.le_refl 0, show (0 : Int) < 10007 by decide⟩
  | succ k ih => exact ki2_b (ki1_b ih)
def kl6 : Nat → am_V
  | 0 => vU
  | k + 1 => if k = 0 then vI (12400 + (pl k 1 : Nat)) else vI (12400 + (pl (k - 1) 0 : Nat))
set_option maxRecDepth 10000 in
theorem s_kills_bad {d L : Nat} {I : Nat → Nat → Int} {R : Nat → Nat → Option Nat} {u : Int64} (hF : FixR R) {s : Int} {f : Int} (hs : inR s) (hf : inR f) (hb : ¬ ((0 ≤ s ∧ s ≤ 5) ∧ (0 ≤ f ∧ f ≤ 1))) : am_run am_tb (d + 4) 182 [vR 301, vI s, vI f] (LH L I R u) = some ([vI (-20002)], LH L (rf I 0) R u) := by
  refine run_of tb_X12_kills (Nat.le_of_ble_eq_true rfl) ?_
  show ∃ ls', am_ev (am_run am_tb (d + 3)) tX12_kills ([vR 301, vI s, vI f, vU, vU, vU, vU], [], (LH L I R u)) = some (1, ls', [vI (-20002)], LH L (rf I 0) R u)
  by_cases c0 : 0 ≤ s ∧ s ≤ 5
  case neg =>
    apply Exists.intro
    unfold tX12_kills
    apply t_Q
    · apply t_S
      refine x_iload_n rfl ?_
      refine x_S1i (by decide) (Nat.le_of_ble_eq_true rfl) (ret_f c0 (s_isOperator (d := d + 1) hs)) ?_
      exact rfl
    apply t_Qs
    apply t_Ks
    · apply t_Q
      · apply t_K
        apply t_Qs
        apply t_B
        · exact rfl
        exact t_if_eq_t (by omega)
      apply t_B
      · refine x_aload_n rfl ?_
        refine x_V1i tg_301 (Nat.le_of_ble_eq_true rfl) (s_bad (d := d + 2) hF) ?_
        exact rfl
      exact t_ireq (Or.inl rfl) rfl rfl
    · decide
  have c1 : ¬ (0 ≤ f ∧ f ≤ 1) := by omega
  apply Exists.intro
  unfold tX12_kills
  apply t_Q
  · apply t_S
    refine x_iload_n rfl ?_
    refine x_S1i (by decide) (Nat.le_of_ble_eq_true rfl) (ret_t c0 (s_isOperator (d := d + 1) hs)) ?_
    exact rfl
  apply t_Qs
  apply t_Ks
  · apply t_Q
    · apply t_Ks
      · apply t_Q
        · apply t_B
          · exact rfl
          exact t_if_eq_f (by omega)
        apply t_B
        · refine x_iload_n rfl ?_
          refine x_S1i (by decide) (Nat.le_of_ble_eq_true rfl) (ret_f c1 (s_isPolynomial (d := d + 1) hf)) ?_
          exact rfl
        exact t_if_ne_f (by omega)
      · decide
    apply t_B
    · refine x_aload_n rfl ?_
      refine x_V1i tg_301 (Nat.le_of_ble_eq_true rfl) (s_bad (d := d + 2) hF) ?_
      exact rfl
    exact t_ireq (Or.inl rfl) rfl rfl
  · decide
set_option maxRecDepth 10000 in
theorem lp_kills {d L : Nat} {I : Nat → Nat → Int} {R : Nat → Nat → Option Nat} {u : Int64} (hF : FixR R) {s f m : Nat} (hN : Nr I) (hf : f < 2) (hm : m ≤ 11) : am_lp (am_ev (am_run am_tb (d + 1)) wX12_kills_54) 54 am_F ([vR 301, vI s, vI f, vI m, vI 0, vU, vU], [], LH L (sro I 25 (fun _ => 0)) R u) = some (161, ([vR 301, vI s, vI f, vI m, vI ((m + 1 : Nat) : Int), gov (ply I f) (m + 1), kl6 (m + 1)], [], LH L (sro I 25 (kiF (ply I f) (m + 1))) R u)) := by
  skip
  refine lp_up0 (fun k => ([vR 301, vI s, vI f, vI m, vI k, gov (ply I f) k, kl6 k], [], LH L (sro I 25 (kiF (ply I f) k)) R u)) (m + 1) rfl (ltF (by first | decide | omega)) (by show ¬ 161 = 54 + 2; decide) (fun k hk => ?_) ?_
  · have hw : pl k 1 < 496 := pl_496 (by omega)
    have hw2 : pl (k - 1) 0 < 496 := pl_496 (by omega)
    have v : 0 ≤ ply I f k ∧ ply I f k < 10007 := hN.1 _ (by omega)
    have b := kiF_b (g := ply I f) k _ hw
    have b2 : 0 ≤ ki1 (ply I f) k (kiF (ply I f) k) (pl (k - 1) 0) ∧ ki1 (ply I f) k (kiF (ply I f) k) (pl (k - 1) 0) < 10007 := ki1_b (kiF_b (g := ply I f) k) _ hw2
    have m1 := mul_b (a := 10007 - ply I f k) (b := (k : Int)) (m := 10007) (n := 11) (by omega) (by omega)
    have e : kiF (ply I f) (k + 1) = ki2 (ply I f) k (ki1 (ply I f) k (kiF (ply I f) k)) := rfl
    have e6 : kl6 (k + 1) = if k = 0 then vI (12400 + (pl k 1 : Nat)) else vI (12400 + (pl (k - 1) 0 : Nat)) := rfl
    by_cases c : k = 0
    · unfold wX12_kills_54
      apply t_Q
      · apply t_B
        · refine x_iload rfl ?_
          refine x_iload_n rfl ?_
          exact rfl
        exact t_ic_gt_f (by omega)
      apply t_Q
      · apply t_S
        refine x_aload_n rfl ?_
        refine x_gr tg_301 rfl (fx_301_0 hF) ?_
        refine x_iload_n rfl ?_
        refine x_iload rfl ?_
        refine x_S2i (by decide) (Nat.le_of_ble_eq_true rfl) (s_rateAt (d := d)) ?_
        refine x_ialdv (Or.inl tg_302) (ln_302 L) (by omega) (show _ = ply I f k from by rw [sro_o (by decide)]; exact congrArg (I 302) (by omega)) ?_
        refine x_istore rfl ?_
        refine x_sipush ?_
        refine x_iload rfl ?_
        refine x_iconst ?_
        refine x_S2i (by decide) (Nat.le_of_ble_eq_true rfl) (s_word (d := d) (a := k) (b := 1) rfl rfl (by omega) (by omega)) ?_
        refine x_iadd ?_
        refine x_istore rfl ?_
        refine x_aload_n rfl ?_
        refine x_gr tg_301 rfl (fx_301_6 hF) ?_
        refine x_iload rfl ?_
        refine x_aload_n rfl ?_
        refine x_gr tg_301 rfl (fx_301_6 hF) ?_
        refine x_iload rfl ?_
        refine x_wld 25 (pl k 1) (by omega) (gro_s hw) ?_
        refine x_iload rfl ?_
        refine x_iadd ?_
        refine x_sipush ?_
        refine x_irem0 (by omega) ?_
        refine x_wst (pl k 1) (by omega) ?_
        refine x_iload rfl ?_
        exact rfl
      apply t_Q
      · apply t_K
        apply t_Qs
        apply t_B
        · exact rfl
        exact t_if_le_t (by omega)
      apply t_B
      · refine x_iinc rfl rfl ?_
        exact rfl
      exact t_goeq (s3 (by rw [e6, if_pos c]; rfl) (by rw [e]; unfold ki2; rw [if_pos c]; rfl))
    unfold wX12_kills_54
    apply t_Q
    · apply t_B
      · refine x_iload rfl ?_
        refine x_iload_n rfl ?_
        exact rfl
      exact t_ic_gt_f (by omega)
    apply t_Q
    · apply t_S
      refine x_aload_n rfl ?_
      refine x_gr tg_301 rfl (fx_301_0 hF) ?_
      refine x_iload_n rfl ?_
      refine x_iload rfl ?_
      refine x_S2i (by decide) (Nat.le_of_ble_eq_true rfl) (s_rateAt (d := d)) ?_
      refine x_ialdv (Or.inl tg_302) (ln_302 L) (by omega) (show _ = ply I f k from by rw [sro_o (by decide)]; exact congrArg (I 302) (by omega)) ?_
      refine x_istore rfl ?_
      refine x_sipush ?_
      refine x_iload rfl ?_
      refine x_iconst ?_
      refine x_S2i (by decide) (Nat.le_of_ble_eq_true rfl) (s_word (d := d) (a := k) (b := 1) rfl rfl (by omega) (by omega)) ?_
      refine x_iadd ?_
      refine x_istore rfl ?_
      refine x_aload_n rfl ?_
      refine x_gr tg_301 rfl (fx_301_6 hF) ?_
      refine x_iload rfl ?_
      refine x_aload_n rfl ?_
      refine x_gr tg_301 rfl (fx_301_6 hF) ?_
      refine x_iload rfl ?_
      refine x_wld 25 (pl k 1) (by omega) (gro_s hw) ?_
      refine x_iload rfl ?_
      refine x_iadd ?_
      refine x_sipush ?_
      refine x_irem0 (by omega) ?_
      refine x_wst (pl k 1) (by omega) ?_
      refine x_iload rfl ?_
      exact rfl
    apply t_Q
    · apply t_Ks
      · apply t_Q
        · apply t_B
          · exact rfl
          exact t_if_le_f (by omega)
        apply t_S
        refine x_sipush ?_
        refine x_iload rfl ?_
        refine x_iconst ?_
        refine x_isub ?_
        refine x_iconst ?_
        refine x_S2i (by decide) (Nat.le_of_ble_eq_true rfl) (s_word (d := d) (a := k - 1) (b := 0) (by omega) rfl (by omega) (by omega)) ?_
        refine x_iadd ?_
        refine x_istore rfl ?_
        refine x_aload_n rfl ?_
        refine x_gr tg_301 rfl (fx_301_6 hF) ?_
        refine x_iload rfl ?_
        refine x_aload_n rfl ?_
        refine x_gr tg_301 rfl (fx_301_6 hF) ?_
        refine x_iload rfl ?_
        refine x_wld 25 (pl (k - 1) 0) (by omega) ((gro_s hw2).trans (show _ = ki1 (ply I f) k (kiF (ply I f) k) (pl (k - 1) 0) from rfl)) ?_
        refine x_sipush ?_
        refine x_iload rfl ?_
        refine x_isub ?_
        refine x_iload rfl ?_
        refine x_imul ?_
        refine x_iadd ?_
        refine x_sipush ?_
        refine x_irem0 (by omega) ?_
        refine x_wst (pl (k - 1) 0) (by omega) ?_
        exact rfl
      · decide
    apply t_B
    · refine x_iinc rfl rfl ?_
      exact rfl
    exact t_goeq (s3 (by rw [e6, if_neg c]; rfl) (by rw [e]; unfold ki2; rw [if_neg c]; rfl))
  · unfold wX12_kills_54
    apply t_Qs
    apply t_B
    · refine x_iload rfl ?_
      refine x_iload_n rfl ?_
      exact rfl
    exact t_ic_gt_t (by omega)
set_option maxRecDepth 10000 in
theorem s_kills_no {d L : Nat} {I : Nat → Nat → Int} {R : Nat → Nat → Option Nat} {u : Int64} (hF : FixR R) (hR : Res I) (hT : Tabs I) (hN : Nr I) {n : Nat} (hn : I 301 2 = n) (h5 : n ≤ 5) {s f : Nat} (hs : s < 6) (hf : f < 2) (hc : zp (ply I f) = 31) : am_run am_tb (d + 4) 182 [vR 301, vI s, vI f] (LH L I R u) = some ([vI (-20003)], LH L (rf I 1) R u) := by
  refine run_of tb_X12_kills (Nat.le_of_ble_eq_true rfl) ?_
  show ∃ ls', am_ev (am_run am_tb (d + 3)) tX12_kills ([vR 301, vI s, vI f, vU, vU, vU, vU], [], (LH L I R u)) = some (1, ls', [vI (-20003)], LH L (rf I 1) R u)
  apply Exists.intro
  unfold tX12_kills
  apply t_Q
  · apply t_S
    refine x_iload_n rfl ?_
    refine x_S1i (by decide) (Nat.le_of_ble_eq_true rfl) (ret_t (show 0 ≤ (s : Int) ∧ (s : Int) ≤ 5 from by omega) (s_isOperator (d := d + 1) (by omega))) ?_
    exact rfl
  apply t_Q
  · apply t_K
    apply t_Qs
    apply t_Ks
    · apply t_Q
      · apply t_B
        · exact rfl
        exact t_if_eq_f (by omega)
      apply t_B
      · refine x_iload_n rfl ?_
        refine x_S1i (by decide) (Nat.le_of_ble_eq_true rfl) (ret_t (show 0 ≤ (f : Int) ∧ (f : Int) ≤ 1 from by omega) (s_isPolynomial (d := d + 1) (by omega))) ?_
        exact rfl
      exact t_if_ne_t (by omega)
    · decide
  apply t_Q
  · apply t_S
    refine x_aload_n rfl ?_
    refine x_iload_n rfl ?_
    refine x_V2i tg_301 (Nat.le_of_ble_eq_true rfl) (s_greatestPower (d := d + 1) hF hN hf) ?_
    refine x_istore_n rfl ?_
    refine x_iload_n rfl ?_
    exact rfl
  apply t_Qs
  apply t_Ks
  · apply t_Q
    · apply t_B
      · exact rfl
      exact t_if_ge_f (by omega)
    apply t_B
    · refine x_aload_n rfl ?_
      refine x_V1i tg_301 (Nat.le_of_ble_eq_true rfl) (s_no (d := d + 2) hF) ?_
      exact rfl
    exact t_ireq (Or.inl rfl) rfl rfl
  · decide
set_option maxRecDepth 10000 in
theorem s_kills_full {d L : Nat} {I : Nat → Nat → Int} {R : Nat → Nat → Option Nat} {u : Int64} (hF : FixR R) (hR : Res I) (hT : Tabs I) (hN : Nr I) {n : Nat} (hn : I 301 2 = n) (h5 : n ≤ 5) {s f : Nat} (hs : s < 6) (hf : f < 2) (hc : zp (ply I f) < 19) : am_run am_tb (d + 4) 182 [vR 301, vI s, vI f] (LH L I R u) = some ([vI (-20004)], LH L (rf I 2) R u) := by
  refine run_of tb_X12_kills (Nat.le_of_ble_eq_true rfl) ?_
  show ∃ ls', am_ev (am_run am_tb (d + 3)) tX12_kills ([vR 301, vI s, vI f, vU, vU, vU, vU], [], (LH L I R u)) = some (1, ls', [vI (-20004)], LH L (rf I 2) R u)
  apply Exists.intro
  unfold tX12_kills
  apply t_Q
  · apply t_S
    refine x_iload_n rfl ?_
    refine x_S1i (by decide) (Nat.le_of_ble_eq_true rfl) (ret_t (show 0 ≤ (s : Int) ∧ (s : Int) ≤ 5 from by omega) (s_isOperator (d := d + 1) (by omega))) ?_
    exact rfl
  apply t_Q
  · apply t_K
    apply t_Qs
    apply t_Ks
    · apply t_Q
      · apply t_B
        · exact rfl
        exact t_if_eq_f (by omega)
      apply t_B
      · refine x_iload_n rfl ?_
        refine x_S1i (by decide) (Nat.le_of_ble_eq_true rfl) (ret_t (show 0 ≤ (f : Int) ∧ (f : Int) ≤ 1 from by omega) (s_isPolynomial (d := d + 1) (by omega))) ?_
        exact rfl
      exact t_if_ne_t (by omega)
    · decide
  apply t_Q
  · apply t_S
    refine x_aload_n rfl ?_
    refine x_iload_n rfl ?_
    refine x_V2i tg_301 (Nat.le_of_ble_eq_true rfl) (s_greatestPower (d := d + 1) hF hN hf) ?_
    refine x_istore_n rfl ?_
    refine x_iload_n rfl ?_
    exact rfl
  apply t_Q
  · apply t_K
    apply t_Qs
    apply t_B
    · exact rfl
    exact t_if_ge_t (by omega)
  apply t_Q
  · apply t_S
    refine x_iload_n rfl ?_
    refine x_bipush ?_
    exact rfl
  apply t_Qs
  apply t_Ks
  · apply t_Q
    · apply t_B
      · exact rfl
      exact t_ic_le_f (by omega)
    apply t_B
    · refine x_aload_n rfl ?_
      refine x_V1i tg_301 (Nat.le_of_ble_eq_true rfl) (s_full (d := d + 2) hF) ?_
      exact rfl
    exact t_ireq (Or.inl rfl) rfl rfl
  · decide
set_option maxRecDepth 10000 in
theorem s_kills_ok {d L : Nat} {I : Nat → Nat → Int} {R : Nat → Nat → Option Nat} {u : Int64} (hF : FixR R) (hR : Res I) (hT : Tabs I) (hN : Nr I) {n : Nat} (hn : I 301 2 = n) (h5 : n ≤ 5) {s f : Nat} (hs : s < 6) (hf : f < 2) (hc : 19 ≤ zp (ply I f)) (hc2 : zp (ply I f) < 31) : am_run am_tb (d + 4) 182 [vR 301, vI s, vI f] (LH L I R u) = some ([vI (cnt (kiF (ply I f) (31 - zp (ply I f))) 496 : Nat)], LH L (m_put (m_rem (sro I 25 (kiF (ply I f) (31 - zp (ply I f)))) n) s 25) R u) := by
  refine run_of tb_X12_kills (Nat.le_of_ble_eq_true rfl) ?_
  show ∃ ls', am_ev (am_run am_tb (d + 3)) tX12_kills ([vR 301, vI s, vI f, vU, vU, vU, vU], [], (LH L I R u)) = some (1, ls', [vI (cnt (kiF (ply I f) (31 - zp (ply I f))) 496 : Nat)], LH L (m_put (m_rem (sro I 25 (kiF (ply I f) (31 - zp (ply I f)))) n) s 25) R u)
  have hg := s_greatestPower (d := d + 1) (L := L) (u := u) hF hN hf
  rw [show (30 : Int) - ((zp (ply I f) : Nat) : Int) = ((30 - zp (ply I f) : Nat) : Int) by omega] at hg
  have hl := lp_kills (d := d + 2) (L := L) (u := u) (s := s) hF hN hf (m := 30 - zp (ply I f)) (by omega)
  rw [show 30 - zp (ply I f) + 1 = 31 - zp (ply I f) by omega] at hl
  apply Exists.intro
  unfold tX12_kills
  apply t_Q
  · apply t_S
    refine x_iload_n rfl ?_
    refine x_S1i (by decide) (Nat.le_of_ble_eq_true rfl) (ret_t (show 0 ≤ (s : Int) ∧ (s : Int) ≤ 5 from by omega) (s_isOperator (d := d + 1) (by omega))) ?_
    exact rfl
  apply t_Q
  · apply t_K
    apply t_Qs
    apply t_Ks
    · apply t_Q
      · apply t_B
        · exact rfl
        exact t_if_eq_f (by omega)
      apply t_B
      · refine x_iload_n rfl ?_
        refine x_S1i (by decide) (Nat.le_of_ble_eq_true rfl) (ret_t (show 0 ≤ (f : Int) ∧ (f : Int) ≤ 1 from by omega) (s_isPolynomial (d := d + 1) (by omega))) ?_
        exact rfl
      exact t_if_ne_t (by omega)
    · decide
  apply t_Q
  · apply t_S
    refine x_aload_n rfl ?_
    refine x_iload_n rfl ?_
    refine x_V2i tg_301 (Nat.le_of_ble_eq_true rfl) (hg) ?_
    refine x_istore_n rfl ?_
    refine x_iload_n rfl ?_
    exact rfl
  apply t_Q
  · apply t_K
    apply t_Qs
    apply t_B
    · exact rfl
    exact t_if_ge_t (by omega)
  apply t_Q
  · apply t_S
    refine x_iload_n rfl ?_
    refine x_bipush ?_
    exact rfl
  apply t_Q
  · apply t_K
    apply t_Qs
    apply t_B
    · exact rfl
    exact t_ic_le_t (by omega)
  apply t_Q
  · apply t_S
    refine x_aload_n rfl ?_
    refine x_bipush ?_
    refine x_V2v tg_301 (Nat.le_of_ble_eq_true rfl) (s_wip (d := d + 2) hF (row := 25) (by decide)) ?_
    refine x_iconst ?_
    refine x_istore rfl ?_
    exact rfl
  apply t_Q
  · apply t_K
    apply t_W
    exact hl
  apply t_B
  · refine x_aload_n rfl ?_
    refine x_iload_n rfl ?_
    refine x_bipush ?_
    refine x_V3i tg_301 (Nat.le_of_ble_eq_true rfl) (s_keepF (d := d) hF (Res_s hR (kiF_b _)) (fun k hk => gro_s hk) (by rw [sro_o (by decide)]; exact hn) h5 hs (by decide)) ?_
    exact rfl
  exact t_ireq (Or.inl rfl) rfl rfl
