/-! The reference: firstBelow, findsLeads, rowGoes. Written by wip/whole/gen_41.py. -/
def blw (l w : Nat) : Prop := xw l ≤ xw w ∧ dw l ≤ dw w
def fbl (ld : Nat → Nat) (b w : Nat) : Nat := fnd (fun k => decide (xw (ld k) ≤ xw w ∧ dw (ld k) ≤ dw w)) b
theorem fbl_le (ld : Nat → Nat) (b w : Nat) : fbl ld b w ≤ b := fnd_le _ _
theorem fbl_no {ld : Nat → Nat} {b w k : Nat} (h : k < fbl ld b w) : ¬ (xw (ld k) ≤ xw w ∧ dw (ld k) ≤ dw w) := of_decide_eq_false (fnd_no (p := fun k => decide (xw (ld k) ≤ xw w ∧ dw (ld k) ≤ dw w)) h)
theorem fbl_yes {ld : Nat → Nat} {b w : Nat} (h : fbl ld b w < b) : xw (ld (fbl ld b w)) ≤ xw w ∧ dw (ld (fbl ld b w)) ≤ dw w := of_decide_eq_true (fnd_yes (p := fun k => decide (xw (ld k) ≤ xw w ∧ dw (ld k) ≤ dw w)) h)
set_option maxRecDepth 10000 in
theorem lp_firstBelow {d L : Nat} {I : Nat → Nat → Int} {R : Nat → Nat → Option Nat} {u : Int64} (hF : FixR R) (hT : Tabs I) {ld : Nat → Nat} {b w : Nat} (hb : I 301 13 = b) (hb2 : b ≤ 24) (hl : ∀ j, j < b → I 313 j = (ld j : Nat) ∧ ld j < 496) (hw : w < 496) : am_lp (am_ev (am_run am_tb (d + 1)) wX12_firstBelow_2) 2 am_F ([vR 301, vI w, vI 0], [], LH L I R u) = some (32, ([vR 301, vI w, vI (fbl ld b w : Nat)], [], LH L I R u)) := by
  have hle := fbl_le ld b w
  refine lp_up0 (fun k => ([vR 301, vI w, vI k], [], LH L I R u)) (fbl ld b w) rfl (ltF (by first | decide | omega)) (by show ¬ 32 = 2 + 2; decide) (fun k hk => ?_) ?_
  · unfold wX12_firstBelow_2
    apply t_Q
    · apply t_B
      · refine x_iload_n rfl ?_
        refine x_aload_n rfl ?_
        refine x_giv tg_301 rfl (show _ = (b : Int) from hb) ?_
        exact rfl
      exact t_ic_ge_f (by omega)
    apply t_Q
    · apply t_B
      · refine x_aload_n rfl ?_
        refine x_aload_n rfl ?_
        refine x_gr tg_301 rfl (fx_301_14 hF) ?_
        refine x_iload_n rfl ?_
        refine x_ialdv (Or.inl tg_313) (ln_313 L) (by omega) (show _ = ((ld (k) : Nat) : Int) from (hl (k) (by omega)).1) ?_
        refine x_iload_n rfl ?_
        refine x_V3i tg_301 (Nat.le_of_ble_eq_true rfl) (ret_f (fbl_no hk) (s_isBelow (d := d) hF hT (hl (k) (by omega)).2 hw)) ?_
        exact rfl
      exact t_if_ne_f (by omega)
    apply t_B
    · refine x_iinc rfl rfl ?_
      exact rfl
    exact t_goeq rfl
  · by_cases c : fbl ld b w = b
    · unfold wX12_firstBelow_2
      apply t_Qs
      apply t_B
      · refine x_iload_n rfl ?_
        refine x_aload_n rfl ?_
        refine x_giv tg_301 rfl (show _ = (b : Int) from hb) ?_
        exact rfl
      exact t_ic_ge_t (by omega)
    unfold wX12_firstBelow_2
    apply t_Q
    · apply t_B
      · refine x_iload_n rfl ?_
        refine x_aload_n rfl ?_
        refine x_giv tg_301 rfl (show _ = (b : Int) from hb) ?_
        exact rfl
      exact t_ic_ge_f (by omega)
    apply t_Qs
    apply t_B
    · refine x_aload_n rfl ?_
      refine x_aload_n rfl ?_
      refine x_gr tg_301 rfl (fx_301_14 hF) ?_
      refine x_iload_n rfl ?_
      refine x_ialdv (Or.inl tg_313) (ln_313 L) (by omega) (show _ = ((ld (fbl ld b w) : Nat) : Int) from (hl (fbl ld b w) (by omega)).1) ?_
      refine x_iload_n rfl ?_
      refine x_V3i tg_301 (Nat.le_of_ble_eq_true rfl) (ret_t (fbl_yes (by omega)) (s_isBelow (d := d) hF hT (hl (fbl ld b w) (by omega)).2 hw)) ?_
      exact rfl
    exact t_if_ne_t (by omega)
set_option maxRecDepth 10000 in
theorem s_firstBelow {d L : Nat} {I : Nat → Nat → Int} {R : Nat → Nat → Option Nat} {u : Int64} (hF : FixR R) (hT : Tabs I) {ld : Nat → Nat} {b w : Nat} (hb : I 301 13 = b) (hb2 : b ≤ 24) (hl : ∀ j, j < b → I 313 j = (ld j : Nat) ∧ ld j < 496) (hw : w < 496) : am_run am_tb (d + 2) 185 [vR 301, vI w] (LH L I R u) = some ([vI (fbl ld b w : Nat)], LH L I R u) := by
  refine run_of tb_X12_firstBelow (Nat.le_of_ble_eq_true rfl) ?_
  show ∃ ls', am_ev (am_run am_tb (d + 1)) tX12_firstBelow ([vR 301, vI w, vU], [], (LH L I R u)) = some (1, ls', [vI (fbl ld b w : Nat)], LH L I R u)
  apply Exists.intro
  unfold tX12_firstBelow
  apply t_Q
  · apply t_S
    refine x_iconst ?_
    refine x_istore_n rfl ?_
    exact rfl
  apply t_Q
  · apply t_K
    apply t_W
    exact lp_firstBelow (d := d) hF hT hb hb2 hl hw
  apply t_B
  · refine x_iload_n rfl ?_
    exact rfl
  exact t_ireq (Or.inl rfl) rfl rfl
def flI (I : Nat → Nat → Int) (rr ld : Nat → Nat) (k : Nat) : Nat → Nat → Int := au (au I 313 (fun j => if j < k then (ld j : Nat) else I 313 j)) 314 (fun j => if j < k then inv (gro I (rr j) (ld j)) else I 314 j)
set_option maxRecDepth 10000 in
theorem lp_findsLeads {d L : Nat} {I : Nat → Nat → Int} {R : Nat → Nat → Option Nat} {u : Int64} (hF : FixR R) (hR : Res I) (hT : Tabs I) {o : Int} (ho : I 302 608 = o) (h0 : o = 0 ∨ o = 1) {rr ld : Nat → Nat} {b : Nat} (hb : I 301 13 = b) (hb2 : b ≤ 24) (hby : ∀ j, j < b → I 312 j = (rr j : Nat) ∧ rr j < 46) (hld : ∀ j, j < b → led o (gro I (rr j)) = (ld j : Nat) ∧ ld j < 496) : am_lp (am_ev (am_run am_tb (d + 3)) wX12_findsLeads_2) 2 am_F ([vR 301, vI 0], [], LH L I R u) = some (65, ([vR 301, vI b], [], LH L (flI I rr ld b) R u)) := by
  skip
  refine lp_up0 (fun k => ([vR 301, vI k], [], LH L (flI I rr ld k) R u)) (b) (s3 rfl (by
    unfold flI
    rw [show (fun j => if j < 0 then ((ld j : Nat) : Int) else I 313 j) = I 313 by funext j; rw [if_neg (by omega)], au_id, show (fun j => if j < 0 then inv (gro I (rr j) (ld j)) else I 314 j) = I 314 by funext j; rw [if_neg (by omega)], au_id])) (ltF (by first | decide | omega)) (by show ¬ 65 = 2 + 2; decide) (fun k hk => ?_) ?_
  · have hB := hby k hk
    have hL := hld k hk
    have hl := s_leadIn (d := d) (L := L) (u := u) (I := flI I rr ld k) hF (show Res (flI I rr ld k) from hR) (show Tabs (flI I rr ld k) from hT) (o := o) ho h0 (row := rr k) hB.2
    rw [show led o (gro (flI I rr ld k) (rr k)) = ((ld k : Nat) : Int) from hL.1] at hl
    unfold wX12_findsLeads_2
    apply t_Q
    · apply t_B
      · refine x_iload_n rfl ?_
        refine x_aload_n rfl ?_
        refine x_giv tg_301 rfl (show _ = (b : Int) from hb) ?_
        exact rfl
      exact t_ic_ge_f (by omega)
    apply t_B
    · refine x_aload_n rfl ?_
      refine x_gr tg_301 rfl (fx_301_14 hF) ?_
      refine x_iload_n rfl ?_
      refine x_aload_n rfl ?_
      refine x_aload_n rfl ?_
      refine x_gr tg_301 rfl (fx_301_12 hF) ?_
      refine x_iload_n rfl ?_
      refine x_ialdv (Or.inl tg_312) (ln_312 L) (by omega) (show _ = ((rr k : Nat) : Int) from (hby k hk).1) ?_
      refine x_V2i tg_301 (Nat.le_of_ble_eq_true rfl) (hl) ?_
      refine x_iast tg_313 (ln_313 L) (by omega) ?_
      refine x_aload_n rfl ?_
      refine x_gr tg_301 rfl (fx_301_15 hF) ?_
      refine x_iload_n rfl ?_
      refine x_aload_n rfl ?_
      refine x_gr tg_301 rfl (fx_301_6 hF) ?_
      refine x_sipush ?_
      refine x_aload_n rfl ?_
      refine x_gr tg_301 rfl (fx_301_12 hF) ?_
      refine x_iload_n rfl ?_
      refine x_ialdv (Or.inl tg_312) (ln_312 L) (by omega) (show _ = ((rr k : Nat) : Int) from (hby k hk).1) ?_
      refine x_imul ?_
      refine x_aload_n rfl ?_
      refine x_gr tg_301 rfl (fx_301_14 hF) ?_
      refine x_iload_n rfl ?_
      refine x_ialdv (Or.inl tg_313) (ln_313 L) (by omega) (show _ = ((ld k : Nat) : Int) from (congrFun (au_s _ 313 _) _).trans (au_s _ _ _)) ?_
      refine x_iadd ?_
      refine x_wld (rr k) (ld k) ⟨rfl, hB.2, hL.2⟩ (show _ = gro I (rr k) (ld k) from rfl) ?_
      refine x_S1i (by decide) (Nat.le_of_ble_eq_true rfl) (s_inverseOf (d := d + 1) hF (Res_g hR (rr k) (ld k))) ?_
      refine x_iast tg_314 (ln_314 L) (by omega) ?_
      refine x_iinc rfl rfl ?_
      exact rfl
    exact t_goeq (s3 rfl (by
        unfold flI
        funext a j
        simp only [au2, au_i, ↓reduceIte, Nat.reduceEqDiff, Int.toNat_natCast]
        by_cases a1 : a = 313
        · subst a1
          simp only [↓reduceIte, Nat.reduceEqDiff]
          by_cases j1 : j = k
          · subst j1; rw [if_pos rfl, if_pos (by omega)]
          · rw [if_neg j1]; (repeat' split) <;> first | rfl | omega
        · by_cases a2 : a = 314
          · subst a2
            simp only [↓reduceIte, Nat.reduceEqDiff]
            by_cases j1 : j = k
            · subst j1; rw [if_pos rfl, if_pos (by omega)]
            · rw [if_neg j1]; (repeat' split) <;> first | rfl | omega
          · simp only [if_neg a1, if_neg a2]))
  · unfold wX12_findsLeads_2
    apply t_Qs
    apply t_B
    · refine x_iload_n rfl ?_
      refine x_aload_n rfl ?_
      refine x_giv tg_301 rfl (show _ = (b : Int) from hb) ?_
      exact rfl
    exact t_ic_ge_t (by omega)
set_option maxRecDepth 10000 in
theorem s_findsLeads {d L : Nat} {I : Nat → Nat → Int} {R : Nat → Nat → Option Nat} {u : Int64} (hF : FixR R) (hR : Res I) (hT : Tabs I) {o : Int} (ho : I 302 608 = o) (h0 : o = 0 ∨ o = 1) {rr ld : Nat → Nat} {b : Nat} (hb : I 301 13 = b) (hb2 : b ≤ 24) (hby : ∀ j, j < b → I 312 j = (rr j : Nat) ∧ rr j < 46) (hld : ∀ j, j < b → led o (gro I (rr j)) = (ld j : Nat) ∧ ld j < 496) : am_run am_tb (d + 4) 183 [vR 301] (LH L I R u) = some ([], LH L (flI I rr ld b) R u) := by
  refine run_of tb_X12_findsLeads (Nat.le_of_ble_eq_true rfl) ?_
  show ∃ ls', am_ev (am_run am_tb (d + 3)) tX12_findsLeads ([vR 301, vU], [], (LH L I R u)) = some (1, ls', [], LH L (flI I rr ld b) R u)
  apply Exists.intro
  unfold tX12_findsLeads
  apply t_Q
  · apply t_S
    refine x_iconst ?_
    refine x_istore_n rfl ?_
    exact rfl
  apply t_Q
  · apply t_K
    apply t_W
    exact lp_findsLeads (d := d) hF hR hT ho h0 hb hb2 hby hld
  apply t_B
  · exact rfl
  exact rfl
def shI (I : Nat → Nat → Int) (row k : Nat) : Nat → Nat → Int := au I 306 (fun j => if 496 * row ≤ j ∧ j < 496 * (row + k) then I 306 (j + 496) else I 306 j)
theorem shI_s {I : Nat → Nat → Int} {row k : Nat} : sro (shI I row k) (row + k) (gro (shI I row k) (row + k + 1)) = shI I row (k + 1) := by
  unfold sro shI
  rw [au_au]
  refine au_c ?_
  funext j
  unfold gro
  rw [au_s]
  by_cases c : j / 496 = row + k
  · rw [if_pos c, if_neg (by omega), if_pos (by omega)]
    exact congrArg (I 306) (by omega)
  · rw [if_neg c]
    by_cases c2 : 496 * row ≤ j ∧ j < 496 * (row + k)
    · rw [if_pos c2, if_pos (by omega)]
    · rw [if_neg c2, if_neg (by omega)]
set_option maxRecDepth 10000 in
theorem lp_rowGoes {d L : Nat} {I : Nat → Nat → Int} {R : Nat → Nat → Option Nat} {u : Int64} (hF : FixR R) {row q : Nat} (hq : I 301 16 = q) (hq2 : q ≤ 24) (hr : row ≤ q) : am_lp (am_ev (am_run am_tb (d + 2)) wX12_rowGoes_12) 12 am_F ([vR 301, vI row, vI row], [], LH L I R u) = some (36, [vR 301, vI row, vI ((row + (q - row) : Nat) : Int)], [], LH L (shI I row (q - row)) R u) := by
  refine lp_up0 (fun k => ([vR 301, vI row, vI ((row + k : Nat) : Int)], [], LH L (shI I row k) R u)) (q - row) (s3 rfl (au_id.symm.trans (au_c (by funext j; rw [if_neg (by omega)])))) (ltF (by omega)) (by show ¬ 36 = 12 + 2; decide) (fun k hk => ?_) ?_
  · have hc := s_copies (d := d) (L := L) (u := u) (I := shI I row k) hF (fr := row + k + 1) (to := row + k) (by omega) (by omega)
    rw [shI_s] at hc
    unfold wX12_rowGoes_12
    apply t_Q
    · apply t_B
      · refine x_iload_n rfl ?_
        refine x_aload_n rfl ?_
        refine x_giv tg_301 rfl (show _ = (q : Int) from hq) ?_
        exact rfl
      exact t_ic_ge_f (by omega)
    apply t_B
    · refine x_aload_n rfl ?_
      refine x_iload_n rfl ?_
      refine x_iconst ?_
      refine x_iadd ?_
      refine x_iload_n rfl ?_
      refine x_V3v tg_301 (Nat.le_of_ble_eq_true rfl) (hc) ?_
      refine x_iinc rfl rfl ?_
      exact rfl
    exact t_goeq rfl
  · unfold wX12_rowGoes_12
    apply t_Qs
    apply t_B
    · refine x_iload_n rfl ?_
      refine x_aload_n rfl ?_
      refine x_giv tg_301 rfl (show _ = (q : Int) from hq) ?_
      exact rfl
    exact t_ic_ge_t (by omega)
set_option maxRecDepth 10000 in
theorem s_rowGoes {d L : Nat} {I : Nat → Nat → Int} {R : Nat → Nat → Option Nat} {u : Int64} (hF : FixR R) {row q : Nat} (hq : I 301 16 = (q + 1 : Nat)) (hq2 : q ≤ 23) (hr : row ≤ q) : am_run am_tb (d + 3) 191 [vR 301, vI row] (LH L I R u) = some ([], LH L (shI (au I 301 (au (I 301) 16 q)) row (q - row)) R u) := by
  refine run_of tb_X12_rowGoes (Nat.le_of_ble_eq_true rfl) ?_
  show ∃ ls', am_ev (am_run am_tb (d + 2)) tX12_rowGoes ([vR 301, vI row, vU], [], (LH L I R u)) = some (1, ls', [], LH L (shI (au I 301 (au (I 301) 16 q)) row (q - row)) R u)
  have e : ((q + 1 : Nat) : Int) - 1 = q := by omega
  apply Exists.intro
  unfold tX12_rowGoes
  apply t_Q
  · apply t_S
    refine x_aload_n rfl ?_
    refine x_dup rfl ?_
    refine x_giv tg_301 rfl hq ?_
    refine x_iconst ?_
    refine x_isub ?_
    rw [e]
    refine x_pi tg_301 rfl rfl ?_
    refine x_iload_n rfl ?_
    refine x_istore_n rfl ?_
    exact rfl
  apply t_Q
  · apply t_K
    apply t_W
    exact lp_rowGoes (d := d) hF (q := q) rfl (by omega) hr
  apply t_B
  · exact rfl
  exact rfl
