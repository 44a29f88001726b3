/-! The reference: kernel. Written by wip/whole/gen_36.py. -/
/-- the first column of a row that is not 0 -/
def pv (m : Nat → Int) (r : Nat) : Nat := fnd (fun k => decide (¬ m (28 * r + k) = 0)) 28
theorem pv_le (m : Nat → Int) (r : Nat) : pv m r ≤ 28 := fnd_le _ _
theorem pv_no {m : Nat → Int} {r k : Nat} (h : k < pv m r) : m (28 * r + k) = 0 := Decidable.not_not.mp (of_decide_eq_false (fnd_no (p := fun k => decide (¬ m (28 * r + k) = 0)) h))
theorem pv_yes {m : Nat → Int} {r : Nat} (h : pv m r ≠ 28) : m (28 * r + pv m r) ≠ 0 := by
  have h2 := pv_le m r
  exact of_decide_eq_true (fnd_yes (p := fun k => decide (¬ m (28 * r + k) = 0)) (show pv m r < 28 by omega))
def elc (m : Nat → Int) (o k : Nat) (b : Int) : Int := m (28 * o + k) * b % 10007
def elF (m : Nat → Int) (r k : Nat) (b : Int) : Nat → Nat → Int
  | 0 => m
  | t + 1 => arF (elF m r k b t) r (if elc (elF m r k b t) (r + 1 + t) k b = 0 then 0 else 10007 - elc (elF m r k b t) (r + 1 + t) k b) (r + 1 + t)
theorem elF_b {m : Nat → Int} {r k : Nat} {b : Int} (h : resm m) (t : Nat) : resm (elF m r k b t) := by
  induction t with
  | zero => exact h
  | succ t ih => exact arF_b ih
def el6 (m : Nat → Int) (r k : Nat) (b : Int) : Nat → am_V
  | 0 => vU
  | t + 1 => vI (elc (elF m r k b t) (r + 1 + t) k b)
def frF (m : Nat → Int) (r q : Nat) : Nat → Int := if pv m r = 28 then m else elF m r (pv m r) (inv (m (28 * r + pv m r))) (q - (r + 1))
theorem frF_b {m : Nat → Int} {r q : Nat} (h : resm m) : resm (frF m r q) := by
  unfold frF
  split
  · exact h
  · exact elF_b h _
set_option maxRecDepth 10000 in
theorem lp_isFree1 {d L : Nat} {I : Nat → Nat → Int} {R : Nat → Nat → Option Nat} {u : Int64} (hF : FixR R) {m : Nat → Int} {r q : Nat} (hm : resm m) (hr : r < 16) : am_lp (am_ev (am_run am_tb (d + 1)) wX12_isFree_2) 2 am_F ([vR 301, vI r, vI q, vI 0, vU, vU, vU], [], LH L (au I 311 m) R u) = some (30, ([vR 301, vI r, vI q, vI (pv m r : Nat), vU, vU, vU], [], LH L (au I 311 m) R u)) := by
  have hle := pv_le m r
  refine lp_up0 (fun k => ([vR 301, vI r, vI q, vI k, vU, vU, vU], [], LH L (au I 311 m) R u)) (pv m r) rfl (ltF (by first | decide | omega)) (by show ¬ 30 = 2 + 2; decide) (fun k hk => ?_) ?_
  · have hv := hm (28 * r + k) (by omega)
    have hz := pv_no hk
    unfold wX12_isFree_2
    apply t_Q
    · apply t_B
      · refine x_iload_n rfl ?_
        refine x_bipush ?_
        exact rfl
      exact t_ic_ge_f (by omega)
    apply t_Q
    · apply t_B
      · refine x_aload_n rfl ?_
        refine x_gr tg_301 rfl (fx_301_11 hF) ?_
        refine x_bipush ?_
        refine x_iload_n rfl ?_
        refine x_imul ?_
        refine x_iload_n rfl ?_
        refine x_iadd ?_
        refine x_ialdv (Or.inl tg_311) (ln_311 L) (by omega) (show _ = m (28 * r + k) from (congrFun (au_s I 311 m) _).trans (congrArg m (by omega))) ?_
        exact rfl
      exact t_if_ne_f (by omega)
    apply t_B
    · refine x_iinc rfl rfl ?_
      exact rfl
    exact t_goeq rfl
  · by_cases c : pv m r = 28
    · unfold wX12_isFree_2
      apply t_Qs
      apply t_B
      · refine x_iload_n rfl ?_
        refine x_bipush ?_
        exact rfl
      exact t_ic_ge_t (by omega)
    have hv := hm (28 * r + pv m r) (by omega)
    have hz := pv_yes c
    unfold wX12_isFree_2
    apply t_Q
    · apply t_B
      · refine x_iload_n rfl ?_
        refine x_bipush ?_
        exact rfl
      exact t_ic_ge_f (by omega)
    apply t_Qs
    apply t_B
    · refine x_aload_n rfl ?_
      refine x_gr tg_301 rfl (fx_301_11 hF) ?_
      refine x_bipush ?_
      refine x_iload_n rfl ?_
      refine x_imul ?_
      refine x_iload_n rfl ?_
      refine x_iadd ?_
      refine x_ialdv (Or.inl tg_311) (ln_311 L) (by omega) (show _ = m (28 * r + pv m r) from (congrFun (au_s I 311 m) _).trans (congrArg m (by omega))) ?_
      exact rfl
    exact t_if_ne_t (by omega)
set_option maxRecDepth 10000 in
theorem lp_isFree2 {d L : Nat} {I : Nat → Nat → Int} {R : Nat → Nat → Option Nat} {u : Int64} (hF : FixR R) {m : Nat → Int} {r q k : Nat} {b : Int} (hm : resm m) (hb : 0 ≤ b ∧ b < 10007) (hq : q ≤ 16) (hr : r < q) (hk : k < 28) : am_lp (am_ev (am_run am_tb (d + 2)) wX12_isFree_57) 57 am_F ([vR 301, vI r, vI q, vI k, vI b, vI ((r : Int) + 1), vU], [], LH L (au I 311 m) R u) = some (114, [vR 301, vI r, vI q, vI k, vI b, vI ((r + 1 + (q - (r + 1)) : Nat) : Int), el6 m r k b (q - (r + 1))], [], LH L (au I 311 (elF m r k b (q - (r + 1)))) R u) := by
  refine lp_up0 (fun t => ([vR 301, vI r, vI q, vI k, vI b, vI ((r + 1 + t : Nat) : Int), el6 m r k b t], [], LH L (au I 311 (elF m r k b t)) R u)) (q - (r + 1)) rfl (ltF (by omega)) (by show ¬ 114 = 57 + 2; decide) (fun t ht => ?_) ?_
  · have v := elF_b (r := r) (k := k) (b := b) hm t (28 * (r + 1 + t) + k) (by omega)
    have m1 := mul_b (a := elF m r k b t (28 * (r + 1 + t) + k)) (b := b) (m := 10006) (n := 10006) ⟨v.1, by omega⟩ ⟨hb.1, by omega⟩
    have hc : elc (elF m r k b t) (r + 1 + t) k b = elF m r k b t (28 * (r + 1 + t) + k) * b % 10007 := rfl
    by_cases c : elc (elF m r k b t) (r + 1 + t) k b = 0
    · have hcc : 0 ≤ (0 : Int) ∧ (0 : Int) < 10007 := by decide
      unfold wX12_isFree_57
      apply t_Q
      · apply t_B
        · refine x_iload rfl ?_
          refine x_iload_n rfl ?_
          exact rfl
        exact t_ic_ge_f (by omega)
      apply t_Q
      · apply t_S
        refine x_aload_n rfl ?_
        refine x_gr tg_301 rfl (fx_301_11 hF) ?_
        refine x_bipush ?_
        refine x_iload rfl ?_
        refine x_imul ?_
        refine x_iload_n rfl ?_
        refine x_iadd ?_
        refine x_ialdv (Or.inl tg_311) (ln_311 L) (by omega) (show _ = (elF m r k b t) (28 * (r + 1 + t) + k) from (congrFun (au_s I 311 (elF m r k b t)) _).trans (congrArg (elF m r k b t) (by omega))) ?_
        refine x_iload rfl ?_
        refine x_imul ?_
        refine x_sipush ?_
        refine x_irem0 (by omega) ?_
        refine x_istore rfl ?_
        refine x_aload_n rfl ?_
        refine x_iload_n rfl ?_
        refine x_iload rfl ?_
        exact rfl
      apply t_Q
      · apply t_K
        apply t_Qs
        apply t_Ks
        · apply t_Q
          · apply t_B
            · exact rfl
            exact t_if_ne_f (by omega)
          apply t_B
          · refine x_iconst ?_
            exact rfl
          exact t_goto
        · decide
      apply t_B
      · refine x_iload rfl ?_
        refine x_V4v tg_301 (Nat.le_of_ble_eq_true rfl) (s_addsRow (d := d) (to := r + 1 + t) hF (elF_b hm t) hcc (by omega) (by omega) (by omega)) ?_
        refine x_iinc rfl rfl ?_
        exact rfl
      exact t_goeq (s3 rfl (show _ = au I 311 (arF (elF m r k b t) r (if elc (elF m r k b t) (r + 1 + t) k b = 0 then 0 else 10007 - elc (elF m r k b t) (r + 1 + t) k b) (r + 1 + t)) from by rw [if_pos c]))
    have hcc : 0 ≤ 10007 - elc (elF m r k b t) (r + 1 + t) k b ∧ 10007 - elc (elF m r k b t) (r + 1 + t) k b < 10007 := by omega
    unfold wX12_isFree_57
    apply t_Q
    · apply t_B
      · refine x_iload rfl ?_
        refine x_iload_n rfl ?_
        exact rfl
      exact t_ic_ge_f (by omega)
    apply t_Q
    · apply t_S
      refine x_aload_n rfl ?_
      refine x_gr tg_301 rfl (fx_301_11 hF) ?_
      refine x_bipush ?_
      refine x_iload rfl ?_
      refine x_imul ?_
      refine x_iload_n rfl ?_
      refine x_iadd ?_
      refine x_ialdv (Or.inl tg_311) (ln_311 L) (by omega) (show _ = (elF m r k b t) (28 * (r + 1 + t) + k) from (congrFun (au_s I 311 (elF m r k b t)) _).trans (congrArg (elF m r k b t) (by omega))) ?_
      refine x_iload rfl ?_
      refine x_imul ?_
      refine x_sipush ?_
      refine x_irem0 (by omega) ?_
      refine x_istore rfl ?_
      refine x_aload_n rfl ?_
      refine x_iload_n rfl ?_
      refine x_iload rfl ?_
      exact rfl
    apply t_Q
    · apply t_Ks
      · apply t_Q
        · apply t_K
          apply t_Qs
          apply t_B
          · exact rfl
          exact t_if_ne_t (by omega)
        apply t_S
        refine x_sipush ?_
        refine x_iload rfl ?_
        refine x_isub ?_
        exact rfl
      · decide
    apply t_B
    · refine x_iload rfl ?_
      refine x_V4v tg_301 (Nat.le_of_ble_eq_true rfl) (s_addsRow (d := d) (to := r + 1 + t) hF (elF_b hm t) hcc (by omega) (by omega) (by omega)) ?_
      refine x_iinc rfl rfl ?_
      exact rfl
    exact t_goeq (s3 rfl (show _ = au I 311 (arF (elF m r k b t) r (if elc (elF m r k b t) (r + 1 + t) k b = 0 then 0 else 10007 - elc (elF m r k b t) (r + 1 + t) k b) (r + 1 + t)) from by rw [if_neg c]; rfl))
  · unfold wX12_isFree_57
    apply t_Qs
    apply t_B
    · refine x_iload rfl ?_
      refine x_iload_n rfl ?_
      exact rfl
    exact t_ic_ge_t (by omega)
set_option maxRecDepth 10000 in
theorem s_isFree {d L : Nat} {I : Nat → Nat → Int} {R : Nat → Nat → Option Nat} {u : Int64} (hF : FixR R) {m : Nat → Int} {r q : Nat} (hm : resm m) (hq : q ≤ 16) (hr : r < q) : am_run am_tb (d + 3) 180 [vR 301, vI r, vI q] (LH L (au I 311 m) R u) = some ([vI (if pv m r = 28 then 0 else 1)], LH L (au I 311 (frF m r q)) R u) := by
  refine run_of tb_X12_isFree (Nat.le_of_ble_eq_true rfl) ?_
  show ∃ ls', am_ev (am_run am_tb (d + 2)) tX12_isFree ([vR 301, vI r, vI q, vU, vU, vU, vU], [], (LH L (au I 311 m) R u)) = some (1, ls', [vI (if pv m r = 28 then 0 else 1)], LH L (au I 311 (frF m r q)) R u)
  have hle := pv_le m r
  have ef : frF m r q = if pv m r = 28 then m else elF m r (pv m r) (inv (m (28 * r + pv m r))) (q - (r + 1)) := rfl
  by_cases c : pv m r = 28
  · rw [if_pos c] at ef
    apply Exists.intro
    unfold tX12_isFree
    apply t_Q
    · apply t_S
      refine x_iconst ?_
      refine x_istore_n rfl ?_
      exact rfl
    apply t_Q
    · apply t_K
      apply t_W
      exact lp_isFree1 (d := d + 1) hF hm (by omega)
    apply t_Q
    · apply t_S
      refine x_iload_n rfl ?_
      refine x_bipush ?_
      exact rfl
    apply t_Qs
    apply t_Ks
    · apply t_Q
      · apply t_B
        · exact rfl
        exact t_ic_ne_f (by omega)
      apply t_B
      · refine x_iconst ?_
        exact rfl
      exact t_ireq (Or.inr (Or.inl rfl)) (by rw [if_pos c]) (by rw [ef])
    · decide
  rw [if_neg c] at ef
  have hv := hm (28 * r + pv m r) (by omega)
  apply Exists.intro
  unfold tX12_isFree
  apply t_Q
  · apply t_S
    refine x_iconst ?_
    refine x_istore_n rfl ?_
    exact rfl
  apply t_Q
  · apply t_K
    apply t_W
    exact lp_isFree1 (d := d + 1) hF hm (by omega)
  apply t_Q
  · apply t_S
    refine x_iload_n rfl ?_
    refine x_bipush ?_
    exact rfl
  apply t_Q
  · apply t_K
    apply t_Qs
    apply t_B
    · exact rfl
    exact t_ic_ne_t (by omega)
  apply t_Q
  · apply t_S
    refine x_aload_n rfl ?_
    refine x_gr tg_301 rfl (fx_301_11 hF) ?_
    refine x_bipush ?_
    refine x_iload_n rfl ?_
    refine x_imul ?_
    refine x_iload_n rfl ?_
    refine x_iadd ?_
    refine x_ialdv (Or.inl tg_311) (ln_311 L) (by omega) (show _ = m (28 * r + pv m r) from (congrFun (au_s I 311 m) _).trans (congrArg m (by omega))) ?_
    refine x_S1i (by decide) (Nat.le_of_ble_eq_true rfl) (s_inverseOf (d := d) hF hv) ?_
    refine x_istore rfl ?_
    refine x_iload_n rfl ?_
    refine x_iconst ?_
    refine x_iadd ?_
    refine x_istore rfl ?_
    exact rfl
  apply t_Q
  · apply t_K
    apply t_W
    exact lp_isFree2 (d := d) hF hm inv_b hq hr (by omega)
  apply t_B
  · refine x_iconst ?_
    exact rfl
  exact t_ireq (Or.inr (Or.inr rfl)) (by rw [if_neg c]) (by rw [ef])
def keM (m : Nat → Int) (q : Nat) : Nat → Nat → Int
  | 0 => m
  | t + 1 => frF (keM m q t) t q
theorem keM_b {m : Nat → Int} {q : Nat} (h : resm m) (t : Nat) : resm (keM m q t) := by
  induction t with
  | zero => exact h
  | succ t ih => exact frF_b ih
def keN (m : Nat → Int) (q : Nat) : Nat → Nat
  | 0 => 0
  | t + 1 => keN m q t + (if pv (keM m q t) t = 28 then 1 else 0)
theorem keN_le {m : Nat → Int} {q : Nat} (t : Nat) : keN m q t ≤ t := by
  induction t with
  | zero => exact Nat.le_refl 0
  | succ t ih => show keN m q t + (if pv (keM m q t) t = 28 then 1 else 0) ≤ t + 1; split <;> omega
set_option maxRecDepth 10000 in
theorem s_kernel_bad {d L : Nat} {I : Nat → Nat → Int} {R : Nat → Nat → Option Nat} {u : Int64} (hF : FixR R) {s : Int} {n : Int} (hs : inR s) (hn : inR n) (hb : ¬ ((0 ≤ s ∧ s ≤ 5) ∧ (0 ≤ n ∧ n ≤ 15))) : am_run am_tb (d + 5) 181 [vR 301, vI s, vI n] (LH L I R u) = some ([vI (-20002)], LH L (rf I 0) R u) := by
  refine run_of tb_X12_kernel (Nat.le_of_ble_eq_true rfl) ?_
  show ∃ ls', am_ev (am_run am_tb (d + 4)) tX12_kernel ([vR 301, vI s, vI n, vU, vU], [], (LH L I R u)) = some (1, ls', [vI (-20002)], LH L (rf I 0) R u)
  by_cases c0 : 0 ≤ s ∧ s ≤ 5
  case neg =>
    apply Exists.intro
    unfold tX12_kernel
    apply t_Q
    · apply t_S
      refine x_iload_n rfl ?_
      refine x_S1i (by decide) (Nat.le_of_ble_eq_true rfl) (ret_f c0 (s_isOperator (d := d + 2) hs)) ?_
      exact rfl
    apply t_Qs
    apply t_Ks
    · apply t_Q
      · apply t_K
        apply t_Qs
        apply t_B
        · exact rfl
        exact t_if_eq_t (by omega)
      apply t_B
      · refine x_aload_n rfl ?_
        refine x_V1i tg_301 (Nat.le_of_ble_eq_true rfl) (s_bad (d := d + 3) hF) ?_
        exact rfl
      exact t_ireq (Or.inl rfl) rfl rfl
    · decide
  have c1 : ¬ (0 ≤ n ∧ n ≤ 15) := by omega
  apply Exists.intro
  unfold tX12_kernel
  apply t_Q
  · apply t_S
    refine x_iload_n rfl ?_
    refine x_S1i (by decide) (Nat.le_of_ble_eq_true rfl) (ret_t c0 (s_isOperator (d := d + 2) hs)) ?_
    exact rfl
  apply t_Qs
  apply t_Ks
  · apply t_Q
    · apply t_Ks
      · apply t_Q
        · apply t_B
          · exact rfl
          exact t_if_eq_f (by omega)
        apply t_B
        · refine x_iload_n rfl ?_
          refine x_iconst ?_
          refine x_bipush ?_
          refine x_S3i (by decide) (Nat.le_of_ble_eq_true rfl) (ret_f c1 (s_in (d := d + 3) hn (by omega) (by omega))) ?_
          exact rfl
        exact t_if_ne_f (by omega)
      · decide
    apply t_B
    · refine x_aload_n rfl ?_
      refine x_V1i tg_301 (Nat.le_of_ble_eq_true rfl) (s_bad (d := d + 3) hF) ?_
      exact rfl
    exact t_ireq (Or.inl rfl) rfl rfl
  · decide
set_option maxRecDepth 10000 in
theorem lp_kernel {d L : Nat} {I : Nat → Nat → Int} {R : Nat → Nat → Option Nat} {u : Int64} (hF : FixR R) {m : Nat → Int} {s w : Nat} (hm : resm m) (hw : w ≤ 15) : am_lp (am_ev (am_run am_tb (d + 3)) wX12_kernel_35) 35 am_F ([vR 301, vI s, vI w, vI 0, vI 0], [], LH L (au I 311 m) R u) = some (69, ([vR 301, vI s, vI w, vI (keN m (w + 1) (w + 1) : Nat), vI ((w + 1 : Nat) : Int)], [], LH L (au I 311 (keM m (w + 1) (w + 1))) R u)) := by
  skip
  refine lp_up0 (fun k => ([vR 301, vI s, vI w, vI (keN m (w + 1) k : Nat), vI k], [], LH L (au I 311 (keM m (w + 1) k)) R u)) (w + 1) rfl (ltF (by first | decide | omega)) (by show ¬ 69 = 35 + 2; decide) (fun k hk => ?_) ?_
  · by_cases c : pv (keM m (w + 1) k) k = 28
    · unfold wX12_kernel_35
      apply t_Q
      · apply t_B
        · refine x_iload rfl ?_
          refine x_iload_n rfl ?_
          exact rfl
        exact t_ic_gt_f (by omega)
      apply t_Q
      · apply t_S
        refine x_iload_n rfl ?_
        refine x_aload_n rfl ?_
        refine x_iload rfl ?_
        refine x_iload_n rfl ?_
        refine x_iconst ?_
        refine x_iadd ?_
        refine x_V3i tg_301 (Nat.le_of_ble_eq_true rfl) ((s_isFree (d := d) (q := w + 1) (r := k) hF (keM_b hm k) (by omega) (by omega)).trans (show _ = some ([vI 0], _) from by rw [if_pos c])) ?_
        exact rfl
      apply t_Q
      · apply t_Ks
        · apply t_Q
          · apply t_K
            apply t_Qs
            apply t_B
            · exact rfl
            exact t_if_eq_t (by omega)
          apply t_S
          refine x_iconst ?_
          exact rfl
        · decide
      apply t_B
      · refine x_iadd ?_
        refine x_istore_n rfl ?_
        refine x_iinc rfl rfl ?_
        exact rfl
      exact t_goeq (s3 (congrArg (fun z => [vR 301, vI s, vI w, vI z, vI ((k : Int) + 1)]) (by show _ = ((keN m (w + 1) k + (if pv (keM m (w + 1) k) k = 28 then 1 else 0) : Nat) : Int); rw [if_pos c]; rfl)) rfl)
    unfold wX12_kernel_35
    apply t_Q
    · apply t_B
      · refine x_iload rfl ?_
        refine x_iload_n rfl ?_
        exact rfl
      exact t_ic_gt_f (by omega)
    apply t_Q
    · apply t_S
      refine x_iload_n rfl ?_
      refine x_aload_n rfl ?_
      refine x_iload rfl ?_
      refine x_iload_n rfl ?_
      refine x_iconst ?_
      refine x_iadd ?_
      refine x_V3i tg_301 (Nat.le_of_ble_eq_true rfl) ((s_isFree (d := d) (q := w + 1) (r := k) hF (keM_b hm k) (by omega) (by omega)).trans (show _ = some ([vI 1], _) from by rw [if_neg c])) ?_
      exact rfl
    apply t_Q
    · apply t_K
      apply t_Qs
      apply t_Ks
      · apply t_Q
        · apply t_B
          · exact rfl
          exact t_if_eq_f (by omega)
        apply t_B
        · refine x_iconst ?_
          exact rfl
        exact t_goto
      · decide
    apply t_B
    · refine x_iadd ?_
      refine x_istore_n rfl ?_
      refine x_iinc rfl rfl ?_
      exact rfl
    exact t_goeq (s3 (congrArg (fun z => [vR 301, vI s, vI w, vI z, vI ((k : Int) + 1)]) (by show _ = ((keN m (w + 1) k + (if pv (keM m (w + 1) k) k = 28 then 1 else 0) : Nat) : Int); rw [if_neg c]; rfl)) rfl)
  · unfold wX12_kernel_35
    apply t_Qs
    apply t_B
    · refine x_iload rfl ?_
      refine x_iload_n rfl ?_
      exact rfl
    exact t_ic_gt_t (by omega)
set_option maxRecDepth 10000 in
theorem s_kernel_ok {d L : Nat} {I : Nat → Nat → Int} {R : Nat → Nat → Option Nat} {u : Int64} (hF : FixR R) (hT : Tabs I) (hN : Nr I) (hM : resm (I 311)) {s w : Nat} (hs : s < 6) (hw : w ≤ 15) : am_run am_tb (d + 4) 181 [vR 301, vI s, vI w] (LH L I R u) = some ([vI (keN (lmF (opr I s) (w + 1) (mz2 I (w + 1)) (91 * (w + 1))) (w + 1) (w + 1) : Nat)], LH L (au I 311 (keM (lmF (opr I s) (w + 1) (mz2 I (w + 1)) (91 * (w + 1))) (w + 1) (w + 1))) R u) := by
  refine run_of tb_X12_kernel (Nat.le_of_ble_eq_true rfl) ?_
  show ∃ ls', am_ev (am_run am_tb (d + 3)) tX12_kernel ([vR 301, vI s, vI w, vU, vU], [], (LH L I R u)) = some (1, ls', [vI (keN (lmF (opr I s) (w + 1) (mz2 I (w + 1)) (91 * (w + 1))) (w + 1) (w + 1) : Nat)], LH L (au I 311 (keM (lmF (opr I s) (w + 1) (mz2 I (w + 1)) (91 * (w + 1))) (w + 1) (w + 1))) R u)
  apply Exists.intro
  unfold tX12_kernel
  apply t_Q
  · apply t_S
    refine x_iload_n rfl ?_
    refine x_S1i (by decide) (Nat.le_of_ble_eq_true rfl) (ret_t (show 0 ≤ (s : Int) ∧ (s : Int) ≤ 5 from by omega) (s_isOperator (d := d + 1) (by omega))) ?_
    exact rfl
  apply t_Q
  · apply t_K
    apply t_Qs
    apply t_Ks
    · apply t_Q
      · apply t_B
        · exact rfl
        exact t_if_eq_f (by omega)
      apply t_B
      · refine x_iload_n rfl ?_
        refine x_iconst ?_
        refine x_bipush ?_
        refine x_S3i (by decide) (Nat.le_of_ble_eq_true rfl) (ret_t (show 0 ≤ (w : Int) ∧ (w : Int) ≤ 15 from by omega) (s_in (d := d + 2) (by omega) (by omega) (by omega))) ?_
        exact rfl
      exact t_if_ne_t (by omega)
    · decide
  apply t_Q
  · apply t_S
    refine x_aload_n rfl ?_
    refine x_iload_n rfl ?_
    refine x_iload_n rfl ?_
    refine x_iconst ?_
    refine x_iadd ?_
    refine x_V3v tg_301 (Nat.le_of_ble_eq_true rfl) (s_laysMatrix (d := d) (r := w + 1) hF hT hN hM hs (by omega) (by omega)) ?_
    refine x_iconst ?_
    refine x_istore_n rfl ?_
    refine x_iconst ?_
    refine x_istore rfl ?_
    exact rfl
  apply t_Q
  · apply t_K
    apply t_W
    exact lp_kernel (d := d) hF (lmF_b (mz2_b hM) _) hw
  apply t_B
  · refine x_iload_n rfl ?_
    exact rfl
  exact t_ireq (Or.inl rfl) rfl rfl
