/-! The reference: small methods over rows of work. Written by wip/whole/gen_25.py. -/
theorem b01 {c : Prop} [Decidable c] : (if c then (1 : Int) else 0) = 0 ∨ (if c then (1 : Int) else 0) = 1 := by
  split
  · exact Or.inr rfl
  · exact Or.inl rfl
theorem ret_t {c : Prop} [Decidable c] {X : Option (List am_V × am_H)} {h : am_H} (hc : c) (e : X = some ([vI (if c then 1 else 0)], h)) : X = some ([vI 1], h) := by
  rw [e, if_pos hc]
theorem ret_f {c : Prop} [Decidable c] {X : Option (List am_V × am_H)} {h : am_H} (hc : ¬ c) (e : X = some ([vI (if c then 1 else 0)], h)) : X = some ([vI 0], h) := by
  rw [e, if_neg hc]
theorem ltF {n : Nat} (h : n ≤ 100000) : n < am_F := by
  show n < 100000000
  omega
def cnt (f : Nat → Int) : Nat → Nat
  | 0 => 0
  | n + 1 => cnt f n + (if f n = 0 then 0 else 1)
theorem cnt_le (f : Nat → Int) (n : Nat) : cnt f n ≤ n := by
  induction n with
  | zero => exact Nat.le_refl 0
  | succ n ih => show cnt f n + (if f n = 0 then 0 else 1) ≤ n + 1; split <;> omega
/-- how many of the last words are 0 -/
def zt (f : Nat → Int) : Nat := fnd (fun m => decide (¬ f (495 - m) = 0)) 496
def dgr (f : Nat → Int) : Int := if zt f = 496 then -1 else (wn (495 - zt f) : Nat)
theorem zt_le (f : Nat → Int) : zt f ≤ 496 := fnd_le _ _
theorem zt_no {f : Nat → Int} {k : Nat} (h : k < zt f) : f (495 - k) = 0 := by
  have := fnd_no h
  exact Decidable.not_not.mp (of_decide_eq_false this)
theorem zt_yes {f : Nat → Int} (h : zt f ≠ 496) : f (495 - zt f) ≠ 0 := by
  have h2 := zt_le f
  have := fnd_yes (show zt f < 496 by omega)
  exact of_decide_eq_true this
def wb (o : Int) (n k : Nat) : Nat := if o = 0 then pl k (n - k) else pl (n - k) k
def led (o : Int) (f : Nat → Int) : Int := if zt f = 496 then -1 else
  let n := wn (495 - zt f)
  let m := fnd (fun k => decide (¬ f (wb o n k) = 0)) (n + 1)
  if m = n + 1 then -1 else (wb o n m : Nat)
set_option maxRecDepth 10000 in
theorem s_isOperator {d : Nat} {h : am_H} {s : Int} (h1 : inR s) : am_run am_tb (d + 2) 140 [vI s] h = some ([vI (if 0 ≤ s ∧ s ≤ 5 then 1 else 0)], h) := by
  refine run_of tb_X12_isOperator (Nat.le_of_ble_eq_true rfl) ?_
  show ∃ ls', am_ev (am_run am_tb (d + 1)) tX12_isOperator ([vI s], [], h) = some (1, ls', [vI (if 0 ≤ s ∧ s ≤ 5 then 1 else 0)], h)
  apply Exists.intro
  unfold tX12_isOperator
  apply t_B
  · refine x_iload_n rfl ?_
    refine x_iconst ?_
    refine x_iconst ?_
    refine x_S3i (by decide) (Nat.le_of_ble_eq_true rfl) (s_in (d := d) h1 (by omega) (by omega)) ?_
    exact rfl
  exact t_ireq (Or.inr b01) rfl rfl
set_option maxRecDepth 10000 in
theorem s_isPolynomial {d : Nat} {h : am_H} {s : Int} (h1 : inR s) : am_run am_tb (d + 2) 169 [vI s] h = some ([vI (if 0 ≤ s ∧ s ≤ 1 then 1 else 0)], h) := by
  refine run_of tb_X12_isPolynomial (Nat.le_of_ble_eq_true rfl) ?_
  show ∃ ls', am_ev (am_run am_tb (d + 1)) tX12_isPolynomial ([vI s], [], h) = some (1, ls', [vI (if 0 ≤ s ∧ s ≤ 1 then 1 else 0)], h)
  apply Exists.intro
  unfold tX12_isPolynomial
  apply t_B
  · refine x_iload_n rfl ?_
    refine x_iconst ?_
    refine x_iconst ?_
    refine x_S3i (by decide) (Nat.le_of_ble_eq_true rfl) (s_in (d := d) h1 (by omega) (by omega)) ?_
    exact rfl
  exact t_ireq (Or.inr b01) rfl rfl
set_option maxRecDepth 10000 in
theorem s_rateAt {d : Nat} {h : am_H} {f n : Int} : am_run am_tb (d + 1) 170 [vI f, vI n] h = some ([vI (546 + 31 * f + n)], h) := by
  refine run_of tb_X12_rateAt (Nat.le_of_ble_eq_true rfl) ?_
  show ∃ ls', am_ev (am_run am_tb (d + 0)) tX12_rateAt ([vI f, vI n], [], h) = some (1, ls', [vI (546 + 31 * f + n)], h)
  apply Exists.intro
  unfold tX12_rateAt
  apply t_B
  · refine x_sipush ?_
    refine x_bipush ?_
    refine x_iload_n rfl ?_
    refine x_imul ?_
    refine x_iadd ?_
    refine x_iload_n rfl ?_
    refine x_iadd ?_
    exact rfl
  exact t_ireq (Or.inl rfl) rfl rfl
set_option maxRecDepth 10000 in
theorem s_isWord {d : Nat} {h : am_H} {i j : Int} (h1 : inR i) (h2 : inR j) : am_run am_tb (d + 2) 141 [vI i, vI j] h = some ([vI (if (0 ≤ i ∧ i ≤ 12) ∧ 0 ≤ j ∧ j ≤ 12 - i then 1 else 0)], h) := by
  refine run_of tb_X12_isWord (Nat.le_of_ble_eq_true rfl) ?_
  show ∃ ls', am_ev (am_run am_tb (d + 1)) tX12_isWord ([vI i, vI j], [], h) = some (1, ls', [vI (if (0 ≤ i ∧ i ≤ 12) ∧ 0 ≤ j ∧ j ≤ 12 - i then 1 else 0)], h)
  by_cases c1 : 0 ≤ i ∧ i ≤ 12
  · by_cases c2 : 0 ≤ j ∧ j ≤ 12 - i
    · apply Exists.intro
      unfold tX12_isWord
      apply t_Q
      · apply t_S
        refine x_iload_n rfl ?_
        refine x_iconst ?_
        refine x_bipush ?_
        refine x_S3i (by decide) (Nat.le_of_ble_eq_true rfl) (ret_t c1 (s_in (d := d) h1 (by omega) (by omega))) ?_
        exact rfl
      apply t_Q
      · apply t_K
        apply t_Qs
        apply t_Ks
        · apply t_Q
          · apply t_B
            · exact rfl
            exact t_if_eq_f (by omega)
          apply t_Q
          · apply t_B
            · refine x_iload_n rfl ?_
              refine x_iconst ?_
              refine x_bipush ?_
              refine x_iload_n rfl ?_
              refine x_isub ?_
              refine x_S3i (by decide) (Nat.le_of_ble_eq_true rfl) (ret_t c2 (s_in (d := d) h2 (by omega) (by omega))) ?_
              exact rfl
            exact t_if_eq_f (by omega)
          apply t_B
          · refine x_iconst ?_
            exact rfl
          exact t_goto
        · decide
      apply t_B
      · exact rfl
      exact t_ireq (Or.inr (Or.inr rfl)) (by rw [if_pos (by omega)]) rfl
    · apply Exists.intro
      unfold tX12_isWord
      apply t_Q
      · apply t_S
        refine x_iload_n rfl ?_
        refine x_iconst ?_
        refine x_bipush ?_
        refine x_S3i (by decide) (Nat.le_of_ble_eq_true rfl) (ret_t c1 (s_in (d := d) h1 (by omega) (by omega))) ?_
        exact rfl
      apply t_Q
      · apply t_Ks
        · apply t_Q
          · apply t_K
            apply t_Q
            · apply t_B
              · exact rfl
              exact t_if_eq_f (by omega)
            apply t_Qs
            apply t_B
            · refine x_iload_n rfl ?_
              refine x_iconst ?_
              refine x_bipush ?_
              refine x_iload_n rfl ?_
              refine x_isub ?_
              refine x_S3i (by decide) (Nat.le_of_ble_eq_true rfl) (ret_f c2 (s_in (d := d) h2 (by omega) (by omega))) ?_
              exact rfl
            exact t_if_eq_t (by omega)
          apply t_S
          refine x_iconst ?_
          exact rfl
        · decide
      apply t_B
      · exact rfl
      exact t_ireq (Or.inr (Or.inl rfl)) (by rw [if_neg (by omega)]) rfl
  apply Exists.intro
  unfold tX12_isWord
  apply t_Q
  · apply t_S
    refine x_iload_n rfl ?_
    refine x_iconst ?_
    refine x_bipush ?_
    refine x_S3i (by decide) (Nat.le_of_ble_eq_true rfl) (ret_f c1 (s_in (d := d) h1 (by omega) (by omega))) ?_
    exact rfl
  apply t_Q
  · apply t_Ks
    · apply t_Q
      · apply t_K
        apply t_Qs
        apply t_B
        · exact rfl
        exact t_if_eq_t (by omega)
      apply t_S
      refine x_iconst ?_
      exact rfl
    · decide
  apply t_B
  · exact rfl
  exact t_ireq (Or.inr (Or.inl rfl)) (by rw [if_neg (by omega)]) rfl
theorem s_wip {d L : Nat} {I : Nat → Nat → Int} {R : Nat → Nat → Option Nat} {u : Int64} (hF : FixR R) {row : Nat} (h1 : row < 46) : am_run am_tb (d + 1) 142 [vR 301, vI row] (LH L I R u) = some ([], LH L (sro I row (fun _ => 0)) R u) := by
  rw [s_wipe (d := d) hF (row := (row : Int)) (by omega)]
  unfold sro
  rw [show (fun j : Nat => if 496 * (row : Int) ≤ (j : Int) ∧ (j : Int) < 496 * row + 496 then 0 else I 306 j) = (fun j => if j / 496 = row then 0 else I 306 j) by
    funext j
    split
    · rw [if_pos (by omega)]
    · rw [if_neg (by omega)]]
set_option maxRecDepth 10000 in
theorem lp_copies {d L : Nat} {I : Nat → Nat → Int} {R : Nat → Nat → Option Nat} {u : Int64} (hF : FixR R) {fr to : Nat} (h1 : fr < 46) (h2 : to < 46) : am_lp (am_ev (am_run am_tb (d + 1)) wX12_copies_2) 2 am_F ([vR 301, vI fr, vI to, vI 0], [], LH L I R u) = some (41, ([vR 301, vI fr, vI to, vI 496], [], LH L (sro I to (gro I fr)) R u)) := by
  skip
  refine lp_up0 (fun k => ([vR 301, vI fr, vI to, vI k], [], LH L (sro I to (fun j => if j < k then gro I fr j else gro I to j)) R u)) (496) (s3 rfl (sro_id (fun j hj => by rw [if_neg (by omega)])).symm) (ltF (by first | decide | omega)) (by show ¬ 41 = 2 + 2; decide) (fun k hk => ?_) ?_
  · have hv : gro (sro I to (fun j => if j < k then gro I fr j else gro I to j)) fr k = gro I fr k := by
      by_cases e : fr = to
      · subst e; rw [gro_s hk]; split <;> rfl
      · rw [gro_n hk e]
    unfold wX12_copies_2
    apply t_Q
    · apply t_B
      · refine x_iload_n rfl ?_
        refine x_sipush ?_
        exact rfl
      exact t_ic_ge_f (by omega)
    apply t_B
    · refine x_aload_n rfl ?_
      refine x_gr tg_301 rfl (fx_301_6 hF) ?_
      refine x_sipush ?_
      refine x_iload_n rfl ?_
      refine x_imul ?_
      refine x_iload_n rfl ?_
      refine x_iadd ?_
      refine x_aload_n rfl ?_
      refine x_gr tg_301 rfl (fx_301_6 hF) ?_
      refine x_sipush ?_
      refine x_iload_n rfl ?_
      refine x_imul ?_
      refine x_iload_n rfl ?_
      refine x_iadd ?_
      refine x_wld fr k (by omega) hv ?_
      refine x_wst k (by omega) ?_
      refine x_iinc rfl rfl ?_
      exact rfl
    exact t_goeq (s3 rfl (sro_c (fun j hj => by simp only [au2, au_i, ↓reduceIte, Nat.reduceEqDiff, Nat.reduceMul, Nat.reduceAdd, Nat.reduceSub]; (repeat' split) <;> first | rfl | omega | (congr 1; omega) | (exfalso; omega))))
  · rw [show sro I to (gro I fr) = sro I to (fun j => if j < 496 then gro I fr j else gro I to j) from sro_c (fun j hj => by rw [if_pos hj])]
    unfold wX12_copies_2
    apply t_Qs
    apply t_B
    · refine x_iload_n rfl ?_
      refine x_sipush ?_
      exact rfl
    exact t_ic_ge_t (by omega)
set_option maxRecDepth 10000 in
theorem s_copies {d L : Nat} {I : Nat → Nat → Int} {R : Nat → Nat → Option Nat} {u : Int64} (hF : FixR R) {fr to : Nat} (h1 : fr < 46) (h2 : to < 46) : am_run am_tb (d + 2) 143 [vR 301, vI fr, vI to] (LH L I R u) = some ([], LH L (sro I to (gro I fr)) R u) := by
  refine run_of tb_X12_copies (Nat.le_of_ble_eq_true rfl) ?_
  show ∃ ls', am_ev (am_run am_tb (d + 1)) tX12_copies ([vR 301, vI fr, vI to, vU], [], (LH L I R u)) = some (1, ls', [], LH L (sro I to (gro I fr)) R u)
  apply Exists.intro
  unfold tX12_copies
  apply t_Q
  · apply t_S
    refine x_iconst ?_
    refine x_istore_n rfl ?_
    exact rfl
  apply t_Q
  · apply t_K
    apply t_W
    exact lp_copies hF h1 h2
  apply t_B
  · exact rfl
  exact rfl
/-- an operator as a row -/
def fe (I : Nat → Nat → Int) (s : Nat) : Nat → Int := fun j => if j < 91 then I 302 (91 * s + j) else 0
set_option maxRecDepth 10000 in
theorem lp_fetches {d L : Nat} {I : Nat → Nat → Int} {R : Nat → Nat → Option Nat} {u : Int64} (hF : FixR R) {s row : Nat} (h1 : s < 6) (h2 : row < 46) : am_lp (am_ev (am_run am_tb (d + 1)) wX12_fetches_7) 7 am_F ([vR 301, vI s, vI row, vI 0], [], LH L (sro I row (fun _ => 0)) R u) = some (44, ([vR 301, vI s, vI row, vI 91], [], LH L (sro I row (fe I s)) R u)) := by
  skip
  refine lp_up0 (fun k => ([vR 301, vI s, vI row, vI k], [], LH L (sro I row (fun j => if j < k then I 302 (91 * s + j) else 0)) R u)) (91) (s3 rfl (sro_c (fun j hj => by rw [if_neg (by omega)]))) (ltF (by first | decide | omega)) (by show ¬ 44 = 7 + 2; decide) (fun k hk => ?_) ?_
  · unfold wX12_fetches_7
    apply t_Q
    · apply t_B
      · refine x_iload_n rfl ?_
        refine x_bipush ?_
        exact rfl
      exact t_ic_ge_f (by omega)
    apply t_B
    · refine x_aload_n rfl ?_
      refine x_gr tg_301 rfl (fx_301_6 hF) ?_
      refine x_sipush ?_
      refine x_iload_n rfl ?_
      refine x_imul ?_
      refine x_iload_n rfl ?_
      refine x_iadd ?_
      refine x_aload_n rfl ?_
      refine x_gr tg_301 rfl (fx_301_0 hF) ?_
      refine x_bipush ?_
      refine x_iload_n rfl ?_
      refine x_imul ?_
      refine x_iload_n rfl ?_
      refine x_iadd ?_
      refine x_ialdv (Or.inl tg_302) (ln_302 L) (by omega) (show _ = I 302 (91 * s + k) from by rw [sro_o (by decide)]; exact congrArg _ (by omega)) ?_
      refine x_wst k (by omega) ?_
      refine x_iinc rfl rfl ?_
      exact rfl
    exact t_goeq (s3 rfl (sro_c (fun j hj => by simp only [au2, au_i, ↓reduceIte, Nat.reduceEqDiff, Nat.reduceMul, Nat.reduceAdd, Nat.reduceSub]; (repeat' split) <;> first | rfl | omega | (congr 1; omega) | (exfalso; omega))))
  · unfold wX12_fetches_7
    apply t_Qs
    apply t_B
    · refine x_iload_n rfl ?_
      refine x_bipush ?_
      exact rfl
    exact t_ic_ge_t (by omega)
set_option maxRecDepth 10000 in
theorem s_fetches {d L : Nat} {I : Nat → Nat → Int} {R : Nat → Nat → Option Nat} {u : Int64} (hF : FixR R) {s row : Nat} (h1 : s < 6) (h2 : row < 46) : am_run am_tb (d + 2) 144 [vR 301, vI s, vI row] (LH L I R u) = some ([], LH L (sro I row (fe I s)) R u) := by
  refine run_of tb_X12_fetches (Nat.le_of_ble_eq_true rfl) ?_
  show ∃ ls', am_ev (am_run am_tb (d + 1)) tX12_fetches ([vR 301, vI s, vI row, vU], [], (LH L I R u)) = some (1, ls', [], LH L (sro I row (fe I s)) R u)
  apply Exists.intro
  unfold tX12_fetches
  apply t_Q
  · apply t_S
    refine x_aload_n rfl ?_
    refine x_iload_n rfl ?_
    refine x_V2v tg_301 (Nat.le_of_ble_eq_true rfl) (s_wip (d := d) hF h2) ?_
    refine x_iconst ?_
    refine x_istore_n rfl ?_
    exact rfl
  apply t_Q
  · apply t_K
    apply t_W
    exact lp_fetches (d := d) hF h1 h2
  apply t_B
  · exact rfl
  exact rfl
set_option maxRecDepth 10000 in
theorem lp_termsIn {d L : Nat} {I : Nat → Nat → Int} {R : Nat → Nat → Option Nat} {u : Int64} (hF : FixR R) (hR : Res I) {row : Nat} (h1 : row < 46) : am_lp (am_ev (am_run am_tb (d + 1)) wX12_termsIn_4) 4 am_F ([vR 301, vI row, vI 0, vI 0], [], LH L I R u) = some (42, ([vR 301, vI row, vI (cnt (gro I row) 496 : Nat), vI 496], [], LH L I R u)) := by
  skip
  refine lp_up0 (fun k => ([vR 301, vI row, vI (cnt (gro I row) k : Nat), vI k], [], LH L I R u)) (496) rfl (ltF (by first | decide | omega)) (by show ¬ 42 = 4 + 2; decide) (fun k hk => ?_) ?_
  · have hv := Res_g hR row k
    by_cases c : gro I row k = 0
    · unfold wX12_termsIn_4
      apply t_Q
      · apply t_B
        · refine x_iload_n rfl ?_
          refine x_sipush ?_
          exact rfl
        exact t_ic_ge_f (by omega)
      apply t_Q
      · apply t_S
        refine x_iload_n rfl ?_
        refine x_aload_n rfl ?_
        refine x_gr tg_301 rfl (fx_301_6 hF) ?_
        refine x_sipush ?_
        refine x_iload_n rfl ?_
        refine x_imul ?_
        refine x_iload_n rfl ?_
        refine x_iadd ?_
        refine x_wld row k (by omega) rfl ?_
        exact rfl
      apply t_Q
      · apply t_K
        apply t_Qs
        apply t_Ks
        · apply t_Q
          · apply t_B
            · exact rfl
            exact t_if_ne_f (by omega)
          apply t_B
          · refine x_iconst ?_
            exact rfl
          exact t_goto
        · decide
      apply t_B
      · refine x_iadd ?_
        refine x_istore_n rfl ?_
        refine x_iinc rfl rfl ?_
        exact rfl
      exact t_goeq (s3 (congrArg (fun z => [vR 301, vI row, vI z, vI ((k : Int) + 1)]) (by show _ = ((cnt (gro I row) k + (if gro I row k = 0 then 0 else 1) : Nat) : Int); rw [if_pos c]; rfl)) rfl)
    · unfold wX12_termsIn_4
      apply t_Q
      · apply t_B
        · refine x_iload_n rfl ?_
          refine x_sipush ?_
          exact rfl
        exact t_ic_ge_f (by omega)
      apply t_Q
      · apply t_S
        refine x_iload_n rfl ?_
        refine x_aload_n rfl ?_
        refine x_gr tg_301 rfl (fx_301_6 hF) ?_
        refine x_sipush ?_
        refine x_iload_n rfl ?_
        refine x_imul ?_
        refine x_iload_n rfl ?_
        refine x_iadd ?_
        refine x_wld row k (by omega) rfl ?_
        exact rfl
      apply t_Q
      · apply t_Ks
        · apply t_Q
          · apply t_K
            apply t_Qs
            apply t_B
            · exact rfl
            exact t_if_ne_t (by omega)
          apply t_S
          refine x_iconst ?_
          exact rfl
        · decide
      apply t_B
      · refine x_iadd ?_
        refine x_istore_n rfl ?_
        refine x_iinc rfl rfl ?_
        exact rfl
      exact t_goeq (s3 (congrArg (fun z => [vR 301, vI row, vI z, vI ((k : Int) + 1)]) (by show _ = ((cnt (gro I row) k + (if gro I row k = 0 then 0 else 1) : Nat) : Int); rw [if_neg c]; rfl)) rfl)
  · unfold wX12_termsIn_4
    apply t_Qs
    apply t_B
    · refine x_iload_n rfl ?_
      refine x_sipush ?_
      exact rfl
    exact t_ic_ge_t (by omega)
set_option maxRecDepth 10000 in
theorem s_termsIn {d L : Nat} {I : Nat → Nat → Int} {R : Nat → Nat → Option Nat} {u : Int64} (hF : FixR R) (hR : Res I) {row : Nat} (h1 : row < 46) : am_run am_tb (d + 2) 145 [vR 301, vI row] (LH L I R u) = some ([vI (cnt (gro I row) 496 : Nat)], LH L I R u) := by
  refine run_of tb_X12_termsIn (Nat.le_of_ble_eq_true rfl) ?_
  show ∃ ls', am_ev (am_run am_tb (d + 1)) tX12_termsIn ([vR 301, vI row, vU, vU], [], (LH L I R u)) = some (1, ls', [vI (cnt (gro I row) 496 : Nat)], LH L I R u)
  apply Exists.intro
  unfold tX12_termsIn
  apply t_Q
  · apply t_S
    refine x_iconst ?_
    refine x_istore_n rfl ?_
    refine x_iconst ?_
    refine x_istore_n rfl ?_
    exact rfl
  apply t_Q
  · apply t_K
    apply t_W
    exact lp_termsIn hF hR h1
  apply t_B
  · refine x_iload_n rfl ?_
    exact rfl
  exact t_ireq (Or.inl rfl) rfl rfl
def m_put (I : Nat → Nat → Int) (s row : Nat) : Nat → Nat → Int := au I 302 (fun j => if 91 * s ≤ j ∧ j < 91 * s + 91 then gro I row (j - 91 * s) else I 302 j)
set_option maxRecDepth 10000 in
theorem lp_keeps {d L : Nat} {I : Nat → Nat → Int} {R : Nat → Nat → Option Nat} {u : Int64} (hF : FixR R) {s row : Nat} (h1 : s < 6) (h2 : row < 46) : am_lp (am_ev (am_run am_tb (d + 1)) wX12_keeps_6) 6 am_F ([vR 301, vI s, vI row, vI 0], [], LH L I R u) = some (43, ([vR 301, vI s, vI row, vI 91], [], LH L (m_put I s row) R u)) := by
  skip
  refine lp_up0 (fun k => ([vR 301, vI s, vI row, vI k], [], LH L (au I 302 (fun j => if 91 * s ≤ j ∧ j < 91 * s + k then gro I row (j - 91 * s) else I 302 j)) R u)) (91) (s3 rfl (au_id.symm.trans (au_c (by funext j; rw [if_neg (by omega)])))) (ltF (by first | decide | omega)) (by show ¬ 43 = 6 + 2; decide) (fun k hk => ?_) ?_
  · unfold wX12_keeps_6
    apply t_Q
    · apply t_B
      · refine x_iload_n rfl ?_
        refine x_bipush ?_
        exact rfl
      exact t_ic_ge_f (by omega)
    apply t_B
    · refine x_aload_n rfl ?_
      refine x_gr tg_301 rfl (fx_301_0 hF) ?_
      refine x_bipush ?_
      refine x_iload_n rfl ?_
      refine x_imul ?_
      refine x_iload_n rfl ?_
      refine x_iadd ?_
      refine x_aload_n rfl ?_
      refine x_gr tg_301 rfl (fx_301_6 hF) ?_
      refine x_sipush ?_
      refine x_iload_n rfl ?_
      refine x_imul ?_
      refine x_iload_n rfl ?_
      refine x_iadd ?_
      refine x_wld row k (by omega) (show _ = gro I row k from rfl) ?_
      refine x_iast tg_302 (ln_302 L) (by omega) ?_
      refine x_iinc rfl rfl ?_
      exact rfl
    exact t_goeq (s3 rfl (au_w (by funext j; simp only [au2, au_i, ↓reduceIte, Nat.reduceEqDiff, Nat.reduceMul, Nat.reduceAdd, Nat.reduceSub]; (repeat' split) <;> first | rfl | omega | (congr 1; omega) | (exfalso; omega))))
  · unfold wX12_keeps_6
    apply t_Qs
    apply t_B
    · refine x_iload_n rfl ?_
      refine x_bipush ?_
      exact rfl
    exact t_ic_ge_t (by omega)
theorem Res_rem {I : Nat → Nat → Int} {n : Nat} (h : Res I) : Res (m_rem I n) := h
theorem Res_put {I : Nat → Nat → Int} {s row : Nat} (h : Res I) : Res (m_put I s row) := h
set_option maxRecDepth 10000 in
theorem s_keeps {d L : Nat} {I : Nat → Nat → Int} {R : Nat → Nat → Option Nat} {u : Int64} (hF : FixR R) (hR : Res I) {n s row : Nat} (hn : I 301 2 = n) (h5 : n ≤ 5) (h1 : s < 6) (h2 : row < 46) : am_run am_tb (d + 3) 146 [vR 301, vI s, vI row] (LH L I R u) = some ([vI (cnt (gro I row) 496 : Nat)], LH L (m_put (m_rem I n) s row) R u) := by
  refine run_of tb_X12_keeps (Nat.le_of_ble_eq_true rfl) ?_
  show ∃ ls', am_ev (am_run am_tb (d + 2)) tX12_keeps ([vR 301, vI s, vI row, vU], [], (LH L I R u)) = some (1, ls', [vI (cnt (gro I row) 496 : Nat)], LH L (m_put (m_rem I n) s row) R u)
  apply Exists.intro
  unfold tX12_keeps
  apply t_Q
  · apply t_S
    refine x_aload_n rfl ?_
    refine x_V1v tg_301 (Nat.le_of_ble_eq_true rfl) (s_remembers (d := d + 1) hF hn h5) ?_
    refine x_iconst ?_
    refine x_istore_n rfl ?_
    exact rfl
  apply t_Q
  · apply t_K
    apply t_W
    exact lp_keeps (d := d + 1) hF h1 h2
  apply t_B
  · refine x_aload_n rfl ?_
    refine x_iload_n rfl ?_
    refine x_V2i tg_301 (Nat.le_of_ble_eq_true rfl) (s_termsIn (d := d) hF (I := m_put (m_rem I n) s row) hR h2) ?_
    exact rfl
  exact t_ireq (Or.inl rfl) rfl rfl
