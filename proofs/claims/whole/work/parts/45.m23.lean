/-! The reference: writesTerm. Written by wip/whole/gen_45.py. -/
theorem sgn_l (v : Int) (l : List Int) : (sgn v l).length ≤ 1 := by unfold sgn; (repeat' split) <;> decide
theorem num_l (v : Int) : (num v).length ≤ 4 := by unfold num; rw [dgp_l]; have := nd_b v; omega
theorem num_2 {v : Int} (h : v < 100) : (num v).length ≤ 2 := by
  unfold num
  rw [dgp_l]
  have : nd v ≤ 1 := by unfold nd; split <;> first | omega | (rw [if_pos h]; exact Nat.le_refl 1)
  omega
theorem ltr_l {c n : Int} (h : n < 100) : (ltr c n).length ≤ 4 := by
  unfold ltr
  split
  · have := num_2 h
    show (num n).length + 1 + 1 ≤ 4
    omega
  · exact Nat.le_of_ble_eq_true rfl
def azt (v : Int) : Int := if v < 0 then - v else v
def hast (w : Nat) (v : Int) : Int := if ¬ azt v = 1 ∨ w = 0 then 1 else 0
def trx (w : Nat) (h : Int) : List Int := if 0 < xw w then (if h = 1 then [42] else []) ++ ltr 120 (xw w : Nat) else []
def trd (w : Nat) (h : Int) : List Int := if 0 < dw w then (if h = 1 ∨ 0 < xw w then [42] else []) ++ ltr 100 (dw w : Nat) else []
def trn (v h : Int) : List Int := if h = 1 then num (azt v) else []
/-- a term behind l -/
def trm (w : Nat) (v : Int) (l : List Int) : List Int := l ++ sgn v l ++ trn v (hast w v) ++ trx w (hast w v) ++ trd w (hast w v)
theorem trn_l (v h : Int) : (trn v h).length ≤ 4 := by
  unfold trn
  split
  · exact num_l _
  · exact Nat.zero_le _
theorem trx_l {w : Nat} {h : Int} (hw : w < 496) : (trx w h).length ≤ 5 := by
  have b1 := wn_30 hw
  have b2 := xw_dw w
  unfold trx
  split
  · rw [List.length_append]
    have := ltr_l (c := 120) (n := (xw w : Nat)) (by omega)
    have : (if h = 1 then [(42 : Int)] else []).length ≤ 1 := by split <;> decide
    omega
  · exact Nat.zero_le _
theorem trd_l {w : Nat} {h : Int} (hw : w < 496) : (trd w h).length ≤ 5 := by
  have b1 := wn_30 hw
  have b2 := xw_dw w
  unfold trd
  split
  · rw [List.length_append]
    have := ltr_l (c := 100) (n := (dw w : Nat)) (by omega)
    have : (if h = 1 ∨ 0 < xw w then [(42 : Int)] else []).length ≤ 1 := by split <;> decide
    omega
  · exact Nat.zero_le _
theorem trm_l {w : Nat} {v : Int} {l : List Int} (hw : w < 496) : (trm w v l).length ≤ l.length + 15 := by
  unfold trm
  have h1 := sgn_l v l
  have h2 := trn_l v (hast w v)
  have h3 := trx_l (h := hast w v) hw
  have h4 := trd_l (h := hast w v) hw
  rw [List.length_append, List.length_append, List.length_append, List.length_append]
  omega
set_option maxRecDepth 10000 in
theorem s_writesTerm {d L : Nat} {I : Nat → Nat → Int} {R : Nat → Nat → Option Nat} {u : Int64} (hF : FixR R) (hT : Tabs I) {w : Nat} {v : Int} {l : List Int} (hw : w < 496) (hv : -5003 ≤ v ∧ v ≤ 5003) (hl : l.length + 30 ≤ 1500) : am_run am_tb (d + 4) 223 [vR 301, vI w, vI v] (LH L (wrs I l) R u) = some ([], LH L (wrs I (trm w v l)) R u) := by
  refine run_of tb_X12_writesTerm (Nat.le_of_ble_eq_true rfl) ?_
  show ∃ ls', am_ev (am_run am_tb (d + 3)) tX12_writesTerm ([vR 301, vI w, vI v, vU, vU], [], (LH L (wrs I l) R u)) = some (1, ls', [], LH L (wrs I (trm w v l)) R u)
  have z1 : 0 ≤ azt v ∧ azt v ≤ 5003 := by unfold azt; split <;> omega
  have z2 : hast w v = 0 ∨ hast w v = 1 := by unfold hast; exact b01
  have l1 := sgn_l v l
  have l2 := trn_l v (hast w v)
  have l3 := trx_l (h := hast w v) hw
  have m1 : (l ++ sgn v l).length ≤ l.length + 1 := by rw [List.length_append]; omega
  have m2 : (l ++ sgn v l ++ trn v (hast w v)).length ≤ l.length + 5 := by rw [List.length_append]; omega
  have m3 : (l ++ sgn v l ++ trn v (hast w v) ++ trx w (hast w v)).length ≤ l.length + 10 := by rw [List.length_append]; omega
  apply Exists.intro
  unfold tX12_writesTerm
  apply t_Q
  · apply t_S
    refine x_iload_n rfl ?_
    exact rfl
  apply t_Q
  · exact wt_sign (d := d + 2) hF hv (by omega)
  apply t_Q
  · apply t_S
    refine x_iload_n rfl ?_
    exact rfl
  apply t_Q
  · exact wt_abs (d := d + 2) (L := L) (u := u) (I := I) (R := R) hF hv rfl
  apply t_Q
  · apply t_S
    refine x_istore_n rfl ?_
    refine x_iload_n rfl ?_
    refine x_iconst ?_
    exact rfl
  apply t_Q
  · exact wt_has (d := d + 2) (L := L) (u := u) (I := I) (R := R) (z := azt v) hF hw z1 rfl
  apply t_Q
  · apply t_S
    refine x_istore rfl ?_
    refine x_iload rfl ?_
    exact rfl
  apply t_Q
  · exact wt_num (d := d + 1) (z := azt v) (h := hast w v) hF z1 z2 (by omega)
  apply t_Q
  · apply t_S
    refine x_aload_n rfl ?_
    refine x_gr tg_301 rfl (fx_301_7 hF) ?_
    refine x_iload_n rfl ?_
    refine x_ialdv (Or.inl tg_307) (ln_307 L) (by omega) (show _ = ((xw w : Nat) : Int) from hT.1 w hw) ?_
    exact rfl
  apply t_Q
  · exact wt_x (d := d) (l := l ++ sgn v l ++ trn v (hast w v)) (z := azt v) (h := hast w v) hF z1 z2 (by omega) hT hw
  apply t_Q
  · apply t_S
    refine x_aload_n rfl ?_
    refine x_gr tg_301 rfl (fx_301_8 hF) ?_
    refine x_iload_n rfl ?_
    refine x_ialdv (Or.inl tg_308) (ln_308 L) (by omega) (show _ = ((dw w : Nat) : Int) from hT.2.1 w hw) ?_
    exact rfl
  apply t_Q
  · exact wt_d (d := d) (l := l ++ sgn v l ++ trn v (hast w v) ++ trx w (hast w v)) (z := azt v) (h := hast w v) hF z1 z2 (by omega) hT hw
  apply t_B
  · exact rfl
  exact rfl
