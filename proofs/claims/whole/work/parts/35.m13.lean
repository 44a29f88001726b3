/-! The reference: kernel. Written by wip/whole/gen_35.py. -/
def lmt (r k : Nat) : Nat := 28 * (k % r) + (k % r) - dw (k / r) + xw (k / r)
def lmF (f : Nat → Int) (r : Nat) (m0 : Nat → Int) : Nat → Nat → Int
  | 0 => m0
  | k + 1 => if ¬ f (k / r) = 0 ∧ dw (k / r) ≤ k % r then au (lmF f r m0 k) (lmt r k) ((lmF f r m0 k (lmt r k) + f (k / r) * fal (k % r) (dw (k / r))) % 10007) else lmF f r m0 k
abbrev resm (m : Nat → Int) : Prop := ∀ j, j < 448 → 0 ≤ m j ∧ m j < 10007
theorem lmF_b {f m0 : Nat → Int} {r : Nat} (h : resm m0) (k : Nat) : resm (lmF f r m0 k) := by
  induction k with
  | zero => exact h
  | succ k ih =>
    intro j hj
    have e : lmF f r m0 (k + 1) = if ¬ f (k / r) = 0 ∧ dw (k / r) ≤ k % r then au (lmF f r m0 k) (lmt r k) ((lmF f r m0 k (lmt r k) + f (k / r) * fal (k % r) (dw (k / r))) % 10007) else lmF f r m0 k := rfl
    by_cases c : ¬ f (k / r) = 0 ∧ dw (k / r) ≤ k % r
    · rw [e, if_pos c, au_i]
      split
      · omega
      · exact ih j hj
    · rw [e, if_neg c]
      exact ih j hj
def ml4 (r : Nat) : Nat → am_V
  | 0 => vU
  | k + 1 => vI ((k / r : Nat) : Int)
def ml5 (r : Nat) : Nat → am_V
  | 0 => vU
  | k + 1 => vI ((k % r : Nat) : Int)
def ml6 (f : Nat → Int) (r : Nat) : Nat → am_V
  | 0 => vU
  | k + 1 => vI (f (k / r))
def ml7 (f : Nat → Int) (r : Nat) : Nat → am_V
  | 0 => vU
  | k + 1 => if ¬ f (k / r) = 0 ∧ dw (k / r) ≤ k % r then vI (lmt r k : Nat) else ml7 f r k
def mz2 (I : Nat → Nat → Int) (r : Nat) : Nat → Int := fun j => if j < 28 * r then 0 else I 311 j
set_option maxRecDepth 10000 in
theorem lp_lays1 {d L : Nat} {I : Nat → Nat → Int} {R : Nat → Nat → Option Nat} {u : Int64} (hF : FixR R) {s r : Nat} (hr : r ≤ 16) : am_lp (am_ev (am_run am_tb (d + 1)) wX12_laysMatrix_2) 2 am_F ([vR 301, vI s, vI r, vI 0, vU, vU, vU, vU], [], LH L I R u) = some (25, ([vR 301, vI s, vI r, vI ((28 * r : Nat) : Int), vU, vU, vU, vU], [], LH L (au I 311 (mz2 I r)) R u)) := by
  skip
  refine lp_up0 (fun k => ([vR 301, vI s, vI r, vI k, vU, vU, vU, vU], [], LH L (au I 311 (fun j => if j < k then 0 else I 311 j)) R u)) (28 * r) (s3 rfl (au_id.symm.trans (au_c (by funext j; rw [if_neg (by omega)])))) (ltF (by first | decide | omega)) (by show ¬ 25 = 2 + 2; decide) (fun k hk => ?_) ?_
  · unfold wX12_laysMatrix_2
    apply t_Q
    · apply t_B
      · refine x_iload_n rfl ?_
        refine x_bipush ?_
        refine x_iload_n rfl ?_
        refine x_imul ?_
        exact rfl
      exact t_ic_ge_f (by omega)
    apply t_B
    · refine x_aload_n rfl ?_
      refine x_gr tg_301 rfl (fx_301_11 hF) ?_
      refine x_iload_n rfl ?_
      refine x_iconst ?_
      refine x_iast tg_311 (ln_311 L) (by omega) ?_
      refine x_iinc rfl rfl ?_
      exact rfl
    exact t_goeq (s3 rfl (au_w (by funext j; simp only [au_i]; (repeat' split) <;> first | rfl | omega | (exfalso; omega))))
  · unfold wX12_laysMatrix_2
    apply t_Qs
    apply t_B
    · refine x_iload_n rfl ?_
      refine x_bipush ?_
      refine x_iload_n rfl ?_
      refine x_imul ?_
      exact rfl
    exact t_ic_ge_t (by omega)
set_option maxRecDepth 10000 in
theorem lp_lays2 {d L : Nat} {I : Nat → Nat → Int} {R : Nat → Nat → Option Nat} {u : Int64} (hF : FixR R) {s r : Nat} {m : Nat → Int} (hT : Tabs I) (hN : Nr I) (hs : s < 6) (hr1 : 0 < r) (hr : r ≤ 16) (hm0 : resm m) : am_lp (am_ev (am_run am_tb (d + 2)) wX12_laysMatrix_25) 25 am_F ([vR 301, vI s, vI r, vI 0, vU, vU, vU, vU], [], LH L (au I 311 m) R u) = some (142, ([vR 301, vI s, vI r, vI ((91 * r : Nat) : Int), ml4 r (91 * r), ml5 r (91 * r), ml6 (opr I s) r (91 * r), ml7 (opr I s) r (91 * r)], [], LH L (au I 311 (lmF (opr I s) r m (91 * r))) R u)) := by
  skip
  refine lp_up0 (fun k => ([vR 301, vI s, vI r, vI k, ml4 r k, ml5 r k, ml6 (opr I s) r k, ml7 (opr I s) r k], [], LH L (au I 311 (lmF (opr I s) r m k)) R u)) (91 * r) rfl (ltF (by first | decide | omega)) (by show ¬ 142 = 25 + 2; decide) (fun k hk => ?_) ?_
  · have hq : k / r < 91 := Nat.div_lt_of_lt_mul (by rw [Nat.mul_comm]; exact hk)
    have hq2 : k % r < r := Nat.mod_lt _ hr1
    have hd : (k : Int) / (r : Int) = ((k / r : Nat) : Int) := (Int.natCast_ediv k r).symm
    have hm : (k : Int) % (r : Int) = ((k % r : Nat) : Int) := (Int.natCast_emod k r).symm
    have hq0 : 0 ≤ (k : Int) / (r : Int) := by rw [hd]; exact Int.natCast_nonneg _
    have hq3 : 0 ≤ (k : Int) % (r : Int) := by rw [hm]; exact Int.natCast_nonneg _
    have hx := xw_dw (k / r)
    have hw := wn_12 hq
    have v : 0 ≤ opr I s (k / r) ∧ opr I s (k / r) < 10007 := hN.1 _ (by omega)
    have hb := lmF_b (f := (opr I s)) (r := r) hm0 k
    have ht : lmt r k = 28 * (k % r) + (k % r) - dw (k / r) + xw (k / r) := rfl
    have e : lmF (opr I s) r m (k + 1) = if ¬ opr I s (k / r) = 0 ∧ dw (k / r) ≤ k % r then au (lmF (opr I s) r m k) (lmt r k) ((lmF (opr I s) r m k (lmt r k) + opr I s (k / r) * fal (k % r) (dw (k / r))) % 10007) else lmF (opr I s) r m k := rfl
    have e7 : ml7 (opr I s) r (k + 1) = if ¬ opr I s (k / r) = 0 ∧ dw (k / r) ≤ k % r then vI (lmt r k : Nat) else ml7 (opr I s) r k := rfl
    by_cases c0 : opr I s (k / r) = 0
    · rw [if_neg (fun q => q.1 c0)] at e e7
      unfold wX12_laysMatrix_25
      apply t_Q
      · apply t_B
        · refine x_iload_n rfl ?_
          refine x_bipush ?_
          refine x_iload_n rfl ?_
          refine x_imul ?_
          exact rfl
        exact t_ic_ge_f (by omega)
      apply t_Q
      · apply t_S
        refine x_iload_n rfl ?_
        refine x_iload_n rfl ?_
        refine x_idiv0 (by omega) ?_
        rw [hd]
        refine x_istore rfl ?_
        refine x_iload_n rfl ?_
        refine x_iload_n rfl ?_
        refine x_irem0 (by omega) ?_
        rw [hm]
        refine x_istore rfl ?_
        refine x_aload_n rfl ?_
        refine x_gr tg_301 rfl (fx_301_0 hF) ?_
        refine x_bipush ?_
        refine x_iload_n rfl ?_
        refine x_imul ?_
        refine x_iload rfl ?_
        refine x_iadd ?_
        refine x_ialdv (Or.inl tg_302) (ln_302 L) (by omega) (show _ = opr I s (k / r) from congrArg (I 302) (by omega)) ?_
        refine x_istore rfl ?_
        refine x_iload rfl ?_
        exact rfl
      apply t_Q
      · apply t_K
        apply t_Qs
        apply t_B
        · exact rfl
        exact t_if_eq_t (by omega)
      apply t_B
      · refine x_iinc rfl rfl ?_
        exact rfl
      exact t_goeq (s3 (by rw [e7]; rfl) (by rw [e]))
    by_cases c1 : k % r < dw (k / r)
    · rw [if_neg (fun q => by have := q.2; omega)] at e e7
      unfold wX12_laysMatrix_25
      apply t_Q
      · apply t_B
        · refine x_iload_n rfl ?_
          refine x_bipush ?_
          refine x_iload_n rfl ?_
          refine x_imul ?_
          exact rfl
        exact t_ic_ge_f (by omega)
      apply t_Q
      · apply t_S
        refine x_iload_n rfl ?_
        refine x_iload_n rfl ?_
        refine x_idiv0 (by omega) ?_
        rw [hd]
        refine x_istore rfl ?_
        refine x_iload_n rfl ?_
        refine x_iload_n rfl ?_
        refine x_irem0 (by omega) ?_
        rw [hm]
        refine x_istore rfl ?_
        refine x_aload_n rfl ?_
        refine x_gr tg_301 rfl (fx_301_0 hF) ?_
        refine x_bipush ?_
        refine x_iload_n rfl ?_
        refine x_imul ?_
        refine x_iload rfl ?_
        refine x_iadd ?_
        refine x_ialdv (Or.inl tg_302) (ln_302 L) (by omega) (show _ = opr I s (k / r) from congrArg (I 302) (by omega)) ?_
        refine x_istore rfl ?_
        refine x_iload rfl ?_
        exact rfl
      apply t_Q
      · apply t_K
        apply t_Q
        · apply t_B
          · exact rfl
          exact t_if_eq_f (by omega)
        apply t_Qs
        apply t_B
        · refine x_iload rfl ?_
          refine x_aload_n rfl ?_
          refine x_gr tg_301 rfl (fx_301_8 hF) ?_
          refine x_iload rfl ?_
          refine x_ialdv (Or.inl tg_308) (ln_308 L) (by omega) (show _ = ((dw (k / r) : Nat) : Int) from (congrArg (I 308) (Int.toNat_natCast _)).trans (hT.2.1 (k / r) (by omega))) ?_
          exact rfl
        exact t_ic_lt_t (by omega)
      apply t_B
      · refine x_iinc rfl rfl ?_
        exact rfl
      exact t_goeq (s3 (by rw [e7]; rfl) (by rw [e]))
    rw [if_pos ⟨c0, by omega⟩] at e e7
    have eto : 28 * ((k % r : Nat) : Int) + ((k % r : Nat) : Int) - ((dw (k / r) : Nat) : Int) + ((xw (k / r) : Nat) : Int) = ((lmt r k : Nat) : Int) := by omega
    have v3 := hb (lmt r k) (by omega)
    have v4 := fal_b (k % r) (dw (k / r))
    have m2 := mul_b (a := opr I s (k / r)) (b := fal (k % r) (dw (k / r))) (m := 10006) (n := 10006) ⟨by omega, by omega⟩ ⟨v4.1, by omega⟩
    unfold wX12_laysMatrix_25
    apply t_Q
    · apply t_B
      · refine x_iload_n rfl ?_
        refine x_bipush ?_
        refine x_iload_n rfl ?_
        refine x_imul ?_
        exact rfl
      exact t_ic_ge_f (by omega)
    apply t_Q
    · apply t_S
      refine x_iload_n rfl ?_
      refine x_iload_n rfl ?_
      refine x_idiv0 (by omega) ?_
      rw [hd]
      refine x_istore rfl ?_
      refine x_iload_n rfl ?_
      refine x_iload_n rfl ?_
      refine x_irem0 (by omega) ?_
      rw [hm]
      refine x_istore rfl ?_
      refine x_aload_n rfl ?_
      refine x_gr tg_301 rfl (fx_301_0 hF) ?_
      refine x_bipush ?_
      refine x_iload_n rfl ?_
      refine x_imul ?_
      refine x_iload rfl ?_
      refine x_iadd ?_
      refine x_ialdv (Or.inl tg_302) (ln_302 L) (by omega) (show _ = opr I s (k / r) from congrArg (I 302) (by omega)) ?_
      refine x_istore rfl ?_
      refine x_iload rfl ?_
      exact rfl
    apply t_Q
    · apply t_Ks
      · apply t_Q
        · apply t_B
          · exact rfl
          exact t_if_eq_f (by omega)
        apply t_Q
        · apply t_B
          · refine x_iload rfl ?_
            refine x_aload_n rfl ?_
            refine x_gr tg_301 rfl (fx_301_8 hF) ?_
            refine x_iload rfl ?_
            refine x_ialdv (Or.inl tg_308) (ln_308 L) (by omega) (show _ = ((dw (k / r) : Nat) : Int) from (congrArg (I 308) (Int.toNat_natCast _)).trans (hT.2.1 (k / r) (by omega))) ?_
            exact rfl
          exact t_ic_lt_f (by omega)
        apply t_S
        refine x_bipush ?_
        refine x_iload rfl ?_
        refine x_imul ?_
        refine x_iload rfl ?_
        refine x_iadd ?_
        refine x_aload_n rfl ?_
        refine x_gr tg_301 rfl (fx_301_8 hF) ?_
        refine x_iload rfl ?_
        refine x_ialdv (Or.inl tg_308) (ln_308 L) (by omega) (show _ = ((dw (k / r) : Nat) : Int) from (congrArg (I 308) (Int.toNat_natCast _)).trans (hT.2.1 (k / r) (by omega))) ?_
        refine x_isub ?_
        refine x_aload_n rfl ?_
        refine x_gr tg_301 rfl (fx_301_7 hF) ?_
        refine x_iload rfl ?_
        refine x_ialdv (Or.inl tg_307) (ln_307 L) (by omega) (show _ = ((xw (k / r) : Nat) : Int) from (congrArg (I 307) (Int.toNat_natCast _)).trans (hT.1 (k / r) (by omega))) ?_
        refine x_iadd ?_
        refine x_istore rfl ?_
        refine x_aload_n rfl ?_
        refine x_gr tg_301 rfl (fx_301_11 hF) ?_
        refine x_iload rfl ?_
        refine x_aload_n rfl ?_
        refine x_gr tg_301 rfl (fx_301_11 hF) ?_
        refine x_iload rfl ?_
        refine x_ialdv (Or.inl tg_311) (ln_311 L) (by omega) (show _ = (lmF (opr I s) r m k) (lmt r k) from (congrFun (au_s I 311 (lmF (opr I s) r m k)) _).trans (congrArg (lmF (opr I s) r m k) (by omega))) ?_
        refine x_iload rfl ?_
        refine x_iload rfl ?_
        refine x_aload_n rfl ?_
        refine x_gr tg_301 rfl (fx_301_8 hF) ?_
        refine x_iload rfl ?_
        refine x_ialdv (Or.inl tg_308) (ln_308 L) (by omega) (show _ = ((dw (k / r) : Nat) : Int) from (congrArg (I 308) (Int.toNat_natCast _)).trans (hT.2.1 (k / r) (by omega))) ?_
        refine x_S2i (by decide) (Nat.le_of_ble_eq_true rfl) (s_falls (d := d) (p := k % r) (q := dw (k / r)) hF (by omega) (by omega)) ?_
        refine x_imul ?_
        refine x_iadd ?_
        refine x_sipush ?_
        refine x_irem0 (by omega) ?_
        refine x_iast tg_311 (ln_311 L) (by omega) ?_
        exact rfl
      · decide
    apply t_B
    · refine x_iinc rfl rfl ?_
      exact rfl
    exact t_goeq (s3 (by rw [e7, ← eto]; rfl) (by rw [e]; exact au_w (by rw [eto]; rfl)))
  · unfold wX12_laysMatrix_25
    apply t_Qs
    apply t_B
    · refine x_iload_n rfl ?_
      refine x_bipush ?_
      refine x_iload_n rfl ?_
      refine x_imul ?_
      exact rfl
    exact t_ic_ge_t (by omega)
theorem mz2_b {I : Nat → Nat → Int} {r : Nat} (h : resm (I 311)) : resm (mz2 I r) := by
  intro j hj
  unfold mz2
  split
  · exact ⟨Int.le_refl 0, by decide⟩
  · exact h j hj
set_option maxRecDepth 10000 in
theorem s_laysMatrix {d L : Nat} {I : Nat → Nat → Int} {R : Nat → Nat → Option Nat} {u : Int64} (hF : FixR R) {s r : Nat} (hT : Tabs I) (hN : Nr I) (hM : resm (I 311)) (hs : s < 6) (hr1 : 0 < r) (hr : r ≤ 16) : am_run am_tb (d + 3) 178 [vR 301, vI s, vI r] (LH L I R u) = some ([], LH L (au I 311 (lmF (opr I s) r (mz2 I r) (91 * r))) R u) := by
  refine run_of tb_X12_laysMatrix (Nat.le_of_ble_eq_true rfl) ?_
  show ∃ ls', am_ev (am_run am_tb (d + 2)) tX12_laysMatrix ([vR 301, vI s, vI r, vU, vU, vU, vU, vU], [], (LH L I R u)) = some (1, ls', [], LH L (au I 311 (lmF (opr I s) r (mz2 I r) (91 * r))) R u)
  apply Exists.intro
  unfold tX12_laysMatrix
  apply t_Q
  · apply t_S
    refine x_iconst ?_
    refine x_istore_n rfl ?_
    exact rfl
  apply t_Q
  · apply t_K
    apply t_W
    exact lp_lays1 (d := d + 1) hF hr
  apply t_Q
  · apply t_S
    refine x_iconst ?_
    refine x_istore_n rfl ?_
    exact rfl
  apply t_Q
  · apply t_K
    apply t_W
    exact lp_lays2 (d := d) hF hT hN hs hr1 hr (mz2_b hM)
  apply t_B
  · exact rfl
  exact rfl
def arF (m : Nat → Int) (fr : Nat) (c : Int) (to : Nat) : Nat → Int := fun j => if 28 * to ≤ j ∧ j < 28 * to + 28 then (m j + c * m (28 * fr + (j - 28 * to))) % 10007 else m j
theorem arF_b {m : Nat → Int} {fr to : Nat} {c : Int} (h : resm m) : resm (arF m fr c to) := by
  intro j hj
  unfold arF
  split
  · omega
  · exact h j hj
set_option maxRecDepth 10000 in
theorem lp_addsRow {d L : Nat} {I : Nat → Nat → Int} {R : Nat → Nat → Option Nat} {u : Int64} (hF : FixR R) {fr to : Nat} {c : Int} {m : Nat → Int} (hm : resm m) (hc : 0 ≤ c ∧ c < 10007) (h1 : fr < 16) (h2 : to < 16) (hne : fr ≠ to) : am_lp (am_ev (am_run am_tb (d + 1)) wX12_addsRow_3) 3 am_F ([vR 301, vI fr, vI c, vI to, vI 0], [], LH L (au I 311 m) R u) = some (61, ([vR 301, vI fr, vI c, vI to, vI 28], [], LH L (au I 311 (arF m fr c to)) R u)) := by
  skip
  refine lp_up0 (fun k => ([vR 301, vI fr, vI c, vI to, vI k], [], LH L (au I 311 (fun j => if 28 * to ≤ j ∧ j < 28 * to + k then (m j + c * m (28 * fr + (j - 28 * to))) % 10007 else m j)) R u)) (28) (s3 rfl (au_c (by funext j; rw [if_neg (by omega)]))) (ltF (by first | decide | omega)) (by show ¬ 61 = 3 + 2; decide) (fun k hk => ?_) ?_
  · have v1 := hm (28 * to + k) (by omega)
    have v2 := hm (28 * fr + k) (by omega)
    have m1 := mul_b (a := c) (b := m (28 * fr + k)) (m := 10006) (n := 10006) ⟨hc.1, by omega⟩ ⟨v2.1, by omega⟩
    unfold wX12_addsRow_3
    apply t_Q
    · apply t_B
      · refine x_iload rfl ?_
        refine x_bipush ?_
        exact rfl
      exact t_ic_ge_f (by omega)
    apply t_B
    · refine x_aload_n rfl ?_
      refine x_gr tg_301 rfl (fx_301_11 hF) ?_
      refine x_bipush ?_
      refine x_iload_n rfl ?_
      refine x_imul ?_
      refine x_iload rfl ?_
      refine x_iadd ?_
      refine x_aload_n rfl ?_
      refine x_gr tg_301 rfl (fx_301_11 hF) ?_
      refine x_bipush ?_
      refine x_iload_n rfl ?_
      refine x_imul ?_
      refine x_iload rfl ?_
      refine x_iadd ?_
      refine x_ialdv (Or.inl tg_311) (ln_311 L) (by omega) (show _ = m (28 * to + k) from (congrFun (au_s I 311 _) _).trans (by rw [show (28 * (to : Int) + (k : Int)).toNat = 28 * to + k by omega]; exact if_neg (by omega))) ?_
      refine x_iload_n rfl ?_
      refine x_aload_n rfl ?_
      refine x_gr tg_301 rfl (fx_301_11 hF) ?_
      refine x_bipush ?_
      refine x_iload_n rfl ?_
      refine x_imul ?_
      refine x_iload rfl ?_
      refine x_iadd ?_
      refine x_ialdv (Or.inl tg_311) (ln_311 L) (by omega) (show _ = m (28 * fr + k) from (congrFun (au_s I 311 _) _).trans (by rw [show (28 * (fr : Int) + (k : Int)).toNat = 28 * fr + k by omega]; exact if_neg (by omega))) ?_
      refine x_imul ?_
      refine x_iadd ?_
      refine x_sipush ?_
      refine x_irem0 (by omega) ?_
      refine x_iast tg_311 (ln_311 L) (by omega) ?_
      refine x_iinc rfl rfl ?_
      exact rfl
    exact t_goeq (s3 rfl (au_w (by
          funext j
          rw [show (28 * (to : Int) + (k : Int)).toNat = 28 * to + k by omega]
          by_cases e : j = 28 * to + k
          · subst e
            rw [au_s, if_pos (by omega), show 28 * to + k - 28 * to = k by omega]
          · rw [au_n _ _ e]
            by_cases e2 : 28 * to ≤ j ∧ j < 28 * to + k
            · rw [if_pos e2, if_pos (by omega)]
            · rw [if_neg e2, if_neg (by omega)])))
  · unfold wX12_addsRow_3
    apply t_Qs
    apply t_B
    · refine x_iload rfl ?_
      refine x_bipush ?_
      exact rfl
    exact t_ic_ge_t (by omega)
set_option maxRecDepth 10000 in
theorem s_addsRow {d L : Nat} {I : Nat → Nat → Int} {R : Nat → Nat → Option Nat} {u : Int64} (hF : FixR R) {fr to : Nat} {c : Int} {m : Nat → Int} (hm : resm m) (hc : 0 ≤ c ∧ c < 10007) (h1 : fr < 16) (h2 : to < 16) (hne : fr ≠ to) : am_run am_tb (d + 2) 179 [vR 301, vI fr, vI c, vI to] (LH L (au I 311 m) R u) = some ([], LH L (au I 311 (arF m fr c to)) R u) := by
  refine run_of tb_X12_addsRow (Nat.le_of_ble_eq_true rfl) ?_
  show ∃ ls', am_ev (am_run am_tb (d + 1)) tX12_addsRow ([vR 301, vI fr, vI c, vI to, vU], [], (LH L (au I 311 m) R u)) = some (1, ls', [], LH L (au I 311 (arF m fr c to)) R u)
  apply Exists.intro
  unfold tX12_addsRow
  apply t_Q
  · apply t_S
    refine x_iconst ?_
    refine x_istore rfl ?_
    exact rfl
  apply t_Q
  · apply t_K
    apply t_W
    exact lp_addsRow (d := d) hF hm hc h1 h2 hne
  apply t_B
  · exact rfl
  exact rfl
