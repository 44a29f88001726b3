/-! The reference: opens, values. Written by wip/whole/gen_49.py. -/
def opI (I : Nat → Nat → Int) (e : Nat) : Nat → Nat → Int := sro (au (au (au I 301 (au (au (I 301) 21 1) 22 1)) 315 (au (I 315) e 0)) 316 (au (I 316) e 0)) (28 + e) (fun _ => 0)
set_option maxRecDepth 10000 in
theorem s_opens {d L : Nat} {I : Nat → Nat → Int} {R : Nat → Nat → Option Nat} {u : Int64} (hF : FixR R) {e : Nat} (hd : I 301 20 = e) (he : e ≤ 8) : am_run am_tb (d + 2) 210 [vR 301] (LH L I R u) = some ([], LH L (opI I e) R u) := by
  refine run_of tb_X12_opens (Nat.le_of_ble_eq_true rfl) ?_
  show ∃ ls', am_ev (am_run am_tb (d + 1)) tX12_opens ([vR 301], [], (LH L I R u)) = some (1, ls', [], LH L (opI I e) R u)
  apply Exists.intro
  unfold tX12_opens
  apply t_B
  · refine x_aload_n rfl ?_
    refine x_iconst ?_
    refine x_pi tg_301 rfl (by first | rfl | exact decide_eq_true (by omega)) ?_
    refine x_aload_n rfl ?_
    refine x_iconst ?_
    refine x_pi tg_301 rfl (by first | rfl | exact decide_eq_true (by omega)) ?_
    refine x_aload_n rfl ?_
    refine x_gr tg_301 rfl (fx_301_25 hF) ?_
    refine x_aload_n rfl ?_
    refine x_giv tg_301 rfl (show _ = (e : Int) from hd) ?_
    refine x_iconst ?_
    refine x_bast tg_315 (ln_315 L) (by omega) (by first | decide | omega) ?_
    refine x_aload_n rfl ?_
    refine x_gr tg_301 rfl (fx_301_26 hF) ?_
    refine x_aload_n rfl ?_
    refine x_giv tg_301 rfl (show _ = (e : Int) from hd) ?_
    refine x_iconst ?_
    refine x_bast tg_316 (ln_316 L) (by omega) (by first | decide | omega) ?_
    refine x_aload_n rfl ?_
    refine x_bipush ?_
    refine x_aload_n rfl ?_
    refine x_giv tg_301 rfl (show _ = (e : Int) from hd) ?_
    refine x_iadd ?_
    refine x_V2v tg_301 (Nat.le_of_ble_eq_true rfl) (s_wip (d := d) hF (row := 28 + e) (by omega)) ?_
    exact rfl
  exact t_vreq (LH_c (show _ = opI I e from congrArg (fun J => sro J (28 + e) (fun _ => 0)) (by funext a j; simp only [au2, au_i, Int.toNat_natCast, ↓reduceIte, Nat.reduceEqDiff]; (repeat' split) <;> rfl)))
set_option maxRecDepth 10000 in
theorem s_values {d L : Nat} {I : Nat → Nat → Int} {R : Nat → Nat → Option Nat} {u : Int64} (hF : FixR R) {i j : Nat} {c : Int} (h1 : i + j ≤ 30) : am_run am_tb (d + 2) 215 [vR 301, vI i, vI j, vI c] (LH L I R u) = some ([], LH L (sro I 27 (au (fun _ => 0) (pl i j) c)) R u) := by
  refine run_of tb_X12_values (Nat.le_of_ble_eq_true rfl) ?_
  show ∃ ls', am_ev (am_run am_tb (d + 1)) tX12_values ([vR 301, vI i, vI j, vI c], [], (LH L I R u)) = some (1, ls', [], LH L (sro I 27 (au (fun _ => 0) (pl i j) c)) R u)
  have hw := pl_496 h1
  apply Exists.intro
  unfold tX12_values
  apply t_B
  · refine x_aload_n rfl ?_
    refine x_bipush ?_
    refine x_V2v tg_301 (Nat.le_of_ble_eq_true rfl) (s_wip (d := d) hF (row := 27) (by decide)) ?_
    refine x_aload_n rfl ?_
    refine x_gr tg_301 rfl (fx_301_6 hF) ?_
    refine x_sipush ?_
    refine x_iload_n rfl ?_
    refine x_iload_n rfl ?_
    refine x_S2i (by decide) (Nat.le_of_ble_eq_true rfl) (s_word (d := d) (a := i) (b := j) rfl rfl (by omega) (by omega)) ?_
    refine x_iadd ?_
    refine x_iload_n rfl ?_
    refine x_wst (pl i j) (by omega) ?_
    exact rfl
  exact rfl
