/-! The reference: laysLine, shown. Written by wip/whole/gen_46.py. -/
theorem wrs_0 {I : Nat → Nat → Int} : au I 301 (au (I 301) 29 0) = wrs I [] := by
  unfold wrs
  rw [show (fun j => if j < ([] : List Int).length then ([] : List Int).getD j 0 else I 317 j) = I 317 by funext j; exact if_neg (Nat.not_lt_zero j), au_id]
  rfl
def lnk (o : Int) (f : Nat → Int) (n : Nat) (l : List Int) : Nat → List Int
  | 0 => l
  | k + 1 => if f (wb o n k) = 0 then lnk o f n l k else trm (wb o n k) (tl (f (wb o n k))) (lnk o f n l k)
theorem lnk_l {o : Int} {f : Nat → Int} {n : Nat} {l : List Int} (hn : n ≤ 30) {k : Nat} (hk : k ≤ n + 1) : (lnk o f n l k).length ≤ l.length + 15 * k := by
  induction k with
  | zero => exact Nat.le_refl _
  | succ k ih =>
    have i := ih (by omega)
    show (if f (wb o n k) = 0 then lnk o f n l k else trm (wb o n k) (tl (f (wb o n k))) (lnk o f n l k)).length ≤ _
    split
    · omega
    · have := trm_l (v := tl (f (wb o n k))) (l := lnk o f n l k) (wb_496 (o := o) hn (show k ≤ n by omega))
      omega
def lv4 (o : Int) (n : Nat) (a : am_V) : Nat → am_V
  | 0 => a
  | k + 1 => vI (wb o n k : Nat)
def lv5 (o : Int) (f : Nat → Int) (n : Nat) (a : am_V) : Nat → am_V
  | 0 => a
  | k + 1 => vI (f (wb o n k))
theorem wb_91 {o : Int} {n k : Nat} (h : n ≤ 12) (hk : k ≤ n) : wb o n k < 91 := by
  unfold wb; split <;> exact pl_91 (by omega)
set_option maxRecDepth 10000 in
theorem lp_line1 {d L : Nat} {I : Nat → Nat → Int} {R : Nat → Nat → Option Nat} {u : Int64} (hF : FixR R) (hT : Tabs I) (hN : Nr I) {o : Int} (ho : I 302 608 = o) {s n : Nat} {l : List Int} {a4 a5 : am_V} (hs : s < 6) (hn : n ≤ 12) (hl : l.length + 15 * (n + 1) + 30 ≤ 1500) : am_lp (am_ev (am_run am_tb (d + 4)) wX12_laysLine_14) 14 am_F ([vR 301, vI s, vI n, vI 0, a4, a5], [], LH L (wrs I l) R u) = some (65, ([vR 301, vI s, vI n, vI ((n + 1 : Nat) : Int), vI (wb o n n : Nat), vI (opr I s (wb o n n))], [], LH L (wrs I (lnk o (opr I s) n l (n + 1))) R u)) := by
  have h0 : o = 0 ∨ o = 1 := ho ▸ hN.2
  refine lp_up0 (fun k => ([vR 301, vI s, vI n, vI k, lv4 o n a4 k, lv5 o (opr I s) n a5 k], [], LH L (wrs I (lnk o (opr I s) n l k)) R u)) (n + 1) rfl (ltF (by first | decide | omega)) (by show ¬ 65 = 14 + 2; decide) (fun k hk => ?_) ?_
  · have hw := wb_91 (o := o) hn (show k ≤ n by omega)
    have hv : 0 ≤ opr I s (wb o n k) ∧ opr I s (wb o n k) < 10007 := hN.1 _ (by omega)
    have ht := tl_b hv
    have hlen := lnk_l (o := o) (f := opr I s) (l := l) (show n ≤ 30 by omega) (show k ≤ n + 1 by omega)
    have e : lnk o (opr I s) n l (k + 1) = if opr I s (wb o n k) = 0 then lnk o (opr I s) n l k else trm (wb o n k) (tl (opr I s (wb o n k))) (lnk o (opr I s) n l k) := rfl
    by_cases c : opr I s (wb o n k) = 0
    · rw [if_pos c] at e
      unfold wX12_laysLine_14
      apply t_Q
      · apply t_B
        · refine x_iload_n rfl ?_
          refine x_iload_n rfl ?_
          exact rfl
        exact t_ic_gt_f (by omega)
      apply t_Q
      · apply t_S
        refine x_aload_n rfl ?_
        refine x_iload_n rfl ?_
        refine x_iload_n rfl ?_
        refine x_V3i tg_301 (Nat.le_of_ble_eq_true rfl) (s_wordBehind (d := d + 2) (I := wrs I (lnk o (opr I s) n l k)) hF (o := o) ho h0 (n := n) (k := k) (by omega) (by omega)) ?_
        refine x_istore rfl ?_
        refine x_aload_n rfl ?_
        refine x_gr tg_301 rfl (fx_301_0 hF) ?_
        refine x_bipush ?_
        refine x_iload_n rfl ?_
        refine x_imul ?_
        refine x_iload rfl ?_
        refine x_iadd ?_
        refine x_ialdv (Or.inl tg_302) (ln_302 L) (by omega) (show _ = opr I s (wb o n k) from congrArg (I 302) (by omega)) ?_
        refine x_istore rfl ?_
        refine x_iload rfl ?_
        exact rfl
      apply t_Q
      · apply t_K
        apply t_Qs
        apply t_B
        · exact rfl
        exact t_if_eq_t (by omega)
      apply t_B
      · refine x_iinc rfl rfl ?_
        exact rfl
      exact t_goeq (s3 rfl (by rw [e]))
    rw [if_neg c] at e
    unfold wX12_laysLine_14
    apply t_Q
    · apply t_B
      · refine x_iload_n rfl ?_
        refine x_iload_n rfl ?_
        exact rfl
      exact t_ic_gt_f (by omega)
    apply t_Q
    · apply t_S
      refine x_aload_n rfl ?_
      refine x_iload_n rfl ?_
      refine x_iload_n rfl ?_
      refine x_V3i tg_301 (Nat.le_of_ble_eq_true rfl) (s_wordBehind (d := d + 2) (I := wrs I (lnk o (opr I s) n l k)) hF (o := o) ho h0 (n := n) (k := k) (by omega) (by omega)) ?_
      refine x_istore rfl ?_
      refine x_aload_n rfl ?_
      refine x_gr tg_301 rfl (fx_301_0 hF) ?_
      refine x_bipush ?_
      refine x_iload_n rfl ?_
      refine x_imul ?_
      refine x_iload rfl ?_
      refine x_iadd ?_
      refine x_ialdv (Or.inl tg_302) (ln_302 L) (by omega) (show _ = opr I s (wb o n k) from congrArg (I 302) (by omega)) ?_
      refine x_istore rfl ?_
      refine x_iload rfl ?_
      exact rfl
    apply t_Q
    · apply t_Ks
      · apply t_Q
        · apply t_B
          · exact rfl
          exact t_if_eq_f (by omega)
        apply t_S
        refine x_aload_n rfl ?_
        refine x_iload rfl ?_
        refine x_iload rfl ?_
        refine x_S1i (by decide) (Nat.le_of_ble_eq_true rfl) ((s_tell (d := d + 3) (v := opr I s (wb o n k)) (by omega)).trans (show _ = some ([vI (tl (opr I s (wb o n k)))], _) from rfl)) ?_
        refine x_V3v tg_301 (Nat.le_of_ble_eq_true rfl) (s_writesTerm (d := d) (l := lnk o (opr I s) n l k) hF hT (by omega) ht (by omega)) ?_
        exact rfl
      · decide
    apply t_B
    · refine x_iinc rfl rfl ?_
      exact rfl
    exact t_goeq (s3 rfl (by rw [e]))
  · unfold wX12_laysLine_14
    apply t_Qs
    apply t_B
    · refine x_iload_n rfl ?_
      refine x_iload_n rfl ?_
      exact rfl
    exact t_ic_gt_t (by omega)
