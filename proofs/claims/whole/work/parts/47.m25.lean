/-! The reference: laysLine, shown. Written by wip/whole/gen_47.py. -/
def lno (o : Int) (f : Nat → Int) : Nat → List Int
  | 0 => []
  | m + 1 => lnk o f (12 - m) (lno o f m) (12 - m + 1)
theorem lno_l {o : Int} {f : Nat → Int} {m : Nat} (h : m ≤ 13) : (lno o f m).length + 15 * tri (13 - m) ≤ 1365 := by
  induction m with
  | zero => show 0 + 15 * tri 13 ≤ 1365; decide
  | succ m ih =>
    have i := ih (by omega)
    have l := lnk_l (o := o) (f := f) (l := lno o f m) (show 12 - m ≤ 30 by omega) (Nat.le_refl (12 - m + 1))
    rw [show 13 - m = (12 - m) + 1 by omega, tri_s] at i
    rw [show 13 - (m + 1) = 12 - m by omega]
    show (lnk o f (12 - m) (lno o f m) (12 - m + 1)).length + _ ≤ _
    omega
def lx3 : Nat → am_V
  | 0 => vU
  | m + 1 => vI ((12 - m + 1 : Nat) : Int)
def lx4 (o : Int) : Nat → am_V
  | 0 => vU
  | m + 1 => vI (wb o (12 - m) (12 - m) : Nat)
def lx5 (o : Int) (f : Nat → Int) : Nat → am_V
  | 0 => vU
  | m + 1 => vI (f (wb o (12 - m) (12 - m)))
set_option maxRecDepth 10000 in
theorem lp_line2 {d L : Nat} {I : Nat → Nat → Int} {R : Nat → Nat → Option Nat} {u : Int64} (hF : FixR R) (hT : Tabs I) (hN : Nr I) {o : Int} (ho : I 302 608 = o) {s : Nat} (hs : s < 6) : am_lp (am_ev (am_run am_tb (d + 4)) wX12_laysLine_8) 8 am_F ([vR 301, vI s, vI 12, vU, vU, vU], [], LH L (wrs I []) R u) = some (71, ([vR 301, vI s, vI (-1), lx3 13, lx4 o 13, lx5 o (opr I s) 13], [], LH L (wrs I (lno o (opr I s) 13)) R u)) := by
  skip
  refine lp_up0 (fun k => ([vR 301, vI s, vI (12 - (k : Int)), lx3 k, lx4 o k, lx5 o (opr I s) k], [], LH L (wrs I (lno o (opr I s) k)) R u)) (13) rfl (ltF (by first | decide | omega)) (by show ¬ 71 = 8 + 2; decide) (fun k hk => ?_) ?_
  · have hlen := lno_l (o := o) (f := opr I s) (show k ≤ 13 by omega)
    rw [show 13 - k = (12 - k) + 1 by omega, tri_s] at hlen
    have e : (12 : Int) - (k : Int) = ((12 - k : Nat) : Int) := by omega
    simp only [e]
    unfold wX12_laysLine_8
    apply t_Q
    · apply t_B
      · refine x_iload_n rfl ?_
        exact rfl
      exact t_if_lt_f (by omega)
    apply t_Q
    · apply t_S
      refine x_iconst ?_
      refine x_istore_n rfl ?_
      exact rfl
    apply t_Q
    · apply t_K
      apply t_W
      exact lp_line1 (d := d) (n := 12 - k) hF hT hN ho hs (by omega) (by omega)
    apply t_B
    · refine x_iinc rfl rfl ?_
      exact rfl
    exact t_goeq (s3 (congrArg (fun z => [vR 301, vI s, vI z, vI ((12 - k + 1 : Nat) : Int), vI (wb o (12 - k) (12 - k) : Nat), vI (opr I s (wb o (12 - k) (12 - k)))]) (show ((12 - k : Nat) : Int) + (-1) = 12 - ((k + 1 : Nat) : Int) by omega)) rfl)
  · unfold wX12_laysLine_8
    apply t_Qs
    apply t_B
    · refine x_iload_n rfl ?_
      exact rfl
    exact t_if_lt_t (by omega)
def lin (o : Int) (f : Nat → Int) : List Int := if (lno o f 13).length = 0 then lno o f 13 ++ [48] else lno o f 13
set_option maxRecDepth 10000 in
theorem s_laysLine {d L : Nat} {I : Nat → Nat → Int} {R : Nat → Nat → Option Nat} {u : Int64} (hF : FixR R) (hT : Tabs I) (hN : Nr I) {o : Int} (ho : I 302 608 = o) {s : Nat} (hs : s < 6) : am_run am_tb (d + 5) 224 [vR 301, vI s] (LH L I R u) = some ([], LH L (wrs I (lin o (opr I s))) R u) := by
  refine run_of tb_X12_laysLine (Nat.le_of_ble_eq_true rfl) ?_
  show ∃ ls', am_ev (am_run am_tb (d + 4)) tX12_laysLine ([vR 301, vI s, vU, vU, vU, vU], [], (LH L I R u)) = some (1, ls', [], LH L (wrs I (lin o (opr I s))) R u)
  have hlen := lno_l (o := o) (f := opr I s) (Nat.le_refl 13)
  by_cases c : (lno o (opr I s) 13).length = 0
  · apply Exists.intro
    unfold tX12_laysLine
    apply t_Q
    · apply t_S
      refine x_aload_n rfl ?_
      refine x_iconst ?_
      refine x_pi tg_301 rfl rfl ?_
      refine x_bipush ?_
      refine x_istore_n rfl ?_
      exact rfl
    apply t_Q
    · apply t_K
      apply t_W
      rw [wrs_0]
      exact lp_line2 (d := d) hF hT hN ho hs
    apply t_Q
    · apply t_S
      refine x_aload_n rfl ?_
      refine x_giv tg_301 rfl (show _ = (((lno o (opr I s) 13).length : Nat) : Int) from rfl) ?_
      exact rfl
    apply t_Q
    · apply t_Ks
      · apply t_Q
        · apply t_B
          · exact rfl
          exact t_if_ne_f (by omega)
        apply t_S
        refine x_aload_n rfl ?_
        refine x_bipush ?_
        refine x_V2v tg_301 (Nat.le_of_ble_eq_true rfl) (s_writes (d := d + 3) hF (by omega)) ?_
        exact rfl
      · decide
    apply t_B
    · exact rfl
    exact t_vreq (LH_c (by unfold lin; rw [if_pos c]))
  apply Exists.intro
  unfold tX12_laysLine
  apply t_Q
  · apply t_S
    refine x_aload_n rfl ?_
    refine x_iconst ?_
    refine x_pi tg_301 rfl rfl ?_
    refine x_bipush ?_
    refine x_istore_n rfl ?_
    exact rfl
  apply t_Q
  · apply t_K
    apply t_W
    rw [wrs_0]
    exact lp_line2 (d := d) hF hT hN ho hs
  apply t_Q
  · apply t_S
    refine x_aload_n rfl ?_
    refine x_giv tg_301 rfl (show _ = (((lno o (opr I s) 13).length : Nat) : Int) from rfl) ?_
    exact rfl
  apply t_Q
  · apply t_K
    apply t_Qs
    apply t_B
    · exact rfl
    exact t_if_ne_t (by omega)
  apply t_B
  · exact rfl
  exact t_vreq (LH_c (by unfold lin; rw [if_neg c]))
