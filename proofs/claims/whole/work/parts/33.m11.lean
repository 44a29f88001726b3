/-! The reference: makes, kills, inverses. Written by wip/whole/gen_33.py. -/
/-- a polynomial is exchanged -/
def spo (I : Nat → Nat → Int) (g : Nat) (f : Nat → Int) : Nat → Int := fun j => if 546 + 31 * g ≤ j ∧ j < 546 + 31 * g + 31 then f (j - (546 + 31 * g)) else I 302 j
set_option maxRecDepth 10000 in
theorem s_makes_bad {d L : Nat} {I : Nat → Nat → Int} {R : Nat → Nat → Option Nat} {u : Int64} (hF : FixR R) {g : Int} {s : Int} {f : Int} (hg : inR g) (hs : inR s) (hf : inR f) (hb : ¬ ((0 ≤ g ∧ g ≤ 1) ∧ (0 ≤ s ∧ s ≤ 5) ∧ (0 ≤ f ∧ f ≤ 1))) : am_run am_tb (d + 4) 176 [vR 301, vI g, vI s, vI f] (LH L I R u) = some ([vI (-20002)], LH L (rf I 0) R u) := by
  refine run_of tb_X12_makes (Nat.le_of_ble_eq_true rfl) ?_
  show ∃ ls', am_ev (am_run am_tb (d + 3)) tX12_makes ([vR 301, vI g, vI s, vI f, vU], [], (LH L I R u)) = some (1, ls', [vI (-20002)], LH L (rf I 0) R u)
  by_cases c0 : 0 ≤ g ∧ g ≤ 1
  case neg =>
    apply Exists.intro
    unfold tX12_makes
    apply t_Q
    · apply t_S
      refine x_iload_n rfl ?_
      refine x_S1i (by decide) (Nat.le_of_ble_eq_true rfl) (ret_f c0 (s_isPolynomial (d := d + 1) hg)) ?_
      exact rfl
    apply t_Qs
    apply t_Ks
    · apply t_Q
      · apply t_K
        apply t_Qs
        apply t_B
        · exact rfl
        exact t_if_eq_t (by omega)
      apply t_B
      · refine x_aload_n rfl ?_
        refine x_V1i tg_301 (Nat.le_of_ble_eq_true rfl) (s_bad (d := d + 2) hF) ?_
        exact rfl
      exact t_ireq (Or.inl rfl) rfl rfl
    · decide
  by_cases c1 : 0 ≤ s ∧ s ≤ 5
  case neg =>
    apply Exists.intro
    unfold tX12_makes
    apply t_Q
    · apply t_S
      refine x_iload_n rfl ?_
      refine x_S1i (by decide) (Nat.le_of_ble_eq_true rfl) (ret_t c0 (s_isPolynomial (d := d + 1) hg)) ?_
      exact rfl
    apply t_Qs
    apply t_Ks
    · apply t_Q
      · apply t_K
        apply t_Q
        · apply t_B
          · exact rfl
          exact t_if_eq_f (by omega)
        apply t_Qs
        apply t_B
        · refine x_iload_n rfl ?_
          refine x_S1i (by decide) (Nat.le_of_ble_eq_true rfl) (ret_f c1 (s_isOperator (d := d + 1) hs)) ?_
          exact rfl
        exact t_if_eq_t (by omega)
      apply t_B
      · refine x_aload_n rfl ?_
        refine x_V1i tg_301 (Nat.le_of_ble_eq_true rfl) (s_bad (d := d + 2) hF) ?_
        exact rfl
      exact t_ireq (Or.inl rfl) rfl rfl
    · decide
  have c2 : ¬ (0 ≤ f ∧ f ≤ 1) := by omega
  apply Exists.intro
  unfold tX12_makes
  apply t_Q
  · apply t_S
    refine x_iload_n rfl ?_
    refine x_S1i (by decide) (Nat.le_of_ble_eq_true rfl) (ret_t c0 (s_isPolynomial (d := d + 1) hg)) ?_
    exact rfl
  apply t_Qs
  apply t_Ks
  · apply t_Q
    · apply t_Ks
      · apply t_Q
        · apply t_B
          · exact rfl
          exact t_if_eq_f (by omega)
        apply t_Q
        · apply t_B
          · refine x_iload_n rfl ?_
            refine x_S1i (by decide) (Nat.le_of_ble_eq_true rfl) (ret_t c1 (s_isOperator (d := d + 1) hs)) ?_
            exact rfl
          exact t_if_eq_f (by omega)
        apply t_B
        · refine x_iload_n rfl ?_
          refine x_S1i (by decide) (Nat.le_of_ble_eq_true rfl) (ret_f c2 (s_isPolynomial (d := d + 1) hf)) ?_
          exact rfl
        exact t_if_ne_f (by omega)
      · decide
    apply t_B
    · refine x_aload_n rfl ?_
      refine x_V1i tg_301 (Nat.le_of_ble_eq_true rfl) (s_bad (d := d + 2) hF) ?_
      exact rfl
    exact t_ireq (Or.inl rfl) rfl rfl
  · decide
set_option maxRecDepth 10000 in
theorem lp_makes {d L : Nat} {I : Nat → Nat → Int} {R : Nat → Nat → Option Nat} {u : Int64} (hF : FixR R) {g s f : Nat} (hg : g < 2) : am_lp (am_ev (am_run am_tb (d + 1)) wX12_makes_47) 47 am_F ([vR 301, vI g, vI s, vI f, vI 0], [], LH L I R u) = some (80, ([vR 301, vI g, vI s, vI f, vI 31], [], LH L (au I 302 (spo I g (I 310))) R u)) := by
  skip
  refine lp_up0 (fun k => ([vR 301, vI g, vI s, vI f, vI k], [], LH L (au I 302 (fun j => if 546 + 31 * g ≤ j ∧ j < 546 + 31 * g + k then I 310 (j - (546 + 31 * g)) else I 302 j)) R u)) (31) (s3 rfl (au_id.symm.trans (au_c (by funext j; rw [if_neg (by omega)])))) (ltF (by first | decide | omega)) (by show ¬ 80 = 47 + 2; decide) (fun k hk => ?_) ?_
  · unfold wX12_makes_47
    apply t_Q
    · apply t_B
      · refine x_iload rfl ?_
        refine x_bipush ?_
        exact rfl
      exact t_ic_ge_f (by omega)
    apply t_B
    · refine x_aload_n rfl ?_
      refine x_gr tg_301 rfl (fx_301_0 hF) ?_
      refine x_iload_n rfl ?_
      refine x_iload rfl ?_
      refine x_S2i (by decide) (Nat.le_of_ble_eq_true rfl) (s_rateAt (d := d)) ?_
      refine x_aload_n rfl ?_
      refine x_gr tg_301 rfl (fx_301_10 hF) ?_
      refine x_iload rfl ?_
      refine x_ialdv (Or.inl tg_310) (ln_310 L) (by omega) (show _ = I 310 k from rfl) ?_
      refine x_iast tg_302 (ln_302 L) (by omega) ?_
      refine x_iinc rfl rfl ?_
      exact rfl
    exact t_goeq (s3 rfl (au_w (by funext j; simp only [au2, au_i, ↓reduceIte, Nat.reduceEqDiff]; (repeat' split) <;> first | rfl | omega | (congr 1; omega) | (exfalso; omega))))
  · unfold wX12_makes_47
    apply t_Qs
    apply t_B
    · refine x_iload rfl ?_
      refine x_bipush ?_
      exact rfl
    exact t_ic_ge_t (by omega)
def mkI (I : Nat → Nat → Int) (n g s f : Nat) : Nat → Nat → Int := au (m_rem (au I 310 (cmF (opr I s) (ply I f) (mz I) 2821).2) n) 302 (spo I g (cmF (opr I s) (ply I f) (mz I) 2821).2)
theorem Nw_mk {I : Nat → Nat → Int} {n g s f : Nat} (hR : Res I) (hT : Tabs I) : Nw I (mkI I n g s f) n (spo I g (cmF (opr I s) (ply I f) (mz I) 2821).2) := by
  refine ⟨fun b hb => ?_, fun j hj => ?_, fun j => rfl, rfl, rfl, (show Tabs I from hT), hR, rfl, rfl, rfl⟩
  · unfold mkI m_rem
    rw [au_n _ _ (by omega), au_n _ _ (by omega), au_n _ _ (by omega), au_n _ _ (by omega)]
  · unfold mkI
    rw [au_s]
theorem Nr_spo {I J : Nat → Nat → Int} {g : Nat} {f : Nat → Int} (hN : Nr I) (hf : ∀ j, j < 31 → 0 ≤ f j ∧ f j < 10007) (h : J 302 = spo I g f) (hg : g < 2) : Nr J := by
  unfold Nr
  rw [h]
  refine ⟨fun j hj => ?_, ?_⟩
  · unfold spo
    split
    · exact hf _ (by omega)
    · exact hN.1 j hj
  · unfold spo
    rw [if_neg (by omega)]
    exact hN.2
theorem zp_c {f g : Nat → Int} (h : ∀ k, k < 31 → f k = g k) : zp f = zp g := by
  have hp : (fun m => decide (¬ f (30 - m) = 0)) = (fun m => decide (¬ g (30 - m) = 0)) := by
    funext m
    rw [h (30 - m) (by omega)]
  unfold zp
  rw [hp]
theorem mz_b (I : Nat → Nat → Int) (j : Nat) (hj : j < 31) : 0 ≤ mz I j ∧ mz I j < 10007 := by unfold mz; rw [if_pos hj]; exact ⟨Int.le_refl 0, by decide⟩
set_option maxRecDepth 10000 in
theorem s_makes_full {d L : Nat} {I : Nat → Nat → Int} {R : Nat → Nat → Option Nat} {u : Int64} (hF : FixR R) (hR : Res I) (hT : Tabs I) (hN : Nr I) {n : Nat} (hn : I 301 2 = n) (h5 : n ≤ 5) {g s f : Nat} (hg : g < 2) (hs : s < 6) (hf : f < 2) (hc : (cmF (opr I s) (ply I f) (mz I) 2821).1 = 0) : am_run am_tb (d + 4) 176 [vR 301, vI g, vI s, vI f] (LH L I R u) = some ([vI (-20004)], LH L (rf (au I 310 (cmF (opr I s) (ply I f) (mz I) 2821).2) 2) R u) := by
  refine run_of tb_X12_makes (Nat.le_of_ble_eq_true rfl) ?_
  show ∃ ls', am_ev (am_run am_tb (d + 3)) tX12_makes ([vR 301, vI g, vI s, vI f, vU], [], (LH L I R u)) = some (1, ls', [vI (-20004)], LH L (rf (au I 310 (cmF (opr I s) (ply I f) (mz I) 2821).2) 2) R u)
  apply Exists.intro
  unfold tX12_makes
  apply t_Q
  · apply t_S
    refine x_iload_n rfl ?_
    refine x_S1i (by decide) (Nat.le_of_ble_eq_true rfl) (ret_t (show 0 ≤ (g : Int) ∧ (g : Int) ≤ 1 from by omega) (s_isPolynomial (d := d + 1) (by omega))) ?_
    exact rfl
  apply t_Q
  · apply t_K
    apply t_Qs
    apply t_Ks
    · apply t_Q
      · apply t_B
        · exact rfl
        exact t_if_eq_f (by omega)
      apply t_Q
      · apply t_B
        · refine x_iload_n rfl ?_
          refine x_S1i (by decide) (Nat.le_of_ble_eq_true rfl) (ret_t (show 0 ≤ (s : Int) ∧ (s : Int) ≤ 5 from by omega) (s_isOperator (d := d + 1) (by omega))) ?_
          exact rfl
        exact t_if_eq_f (by omega)
      apply t_B
      · refine x_iload_n rfl ?_
        refine x_S1i (by decide) (Nat.le_of_ble_eq_true rfl) (ret_t (show 0 ≤ (f : Int) ∧ (f : Int) ≤ 1 from by omega) (s_isPolynomial (d := d + 1) (by omega))) ?_
        exact rfl
      exact t_if_ne_t (by omega)
    · decide
  apply t_Q
  · apply t_S
    refine x_aload_n rfl ?_
    refine x_iload_n rfl ?_
    refine x_iload_n rfl ?_
    refine x_V3i tg_301 (Nat.le_of_ble_eq_true rfl) ((s_canMake (d := d) hF hT hN hs hf).trans (by rw [hc])) ?_
    exact rfl
  apply t_Qs
  apply t_Ks
  · apply t_Q
    · apply t_B
      · exact rfl
      exact t_if_ne_f (by omega)
    apply t_B
    · refine x_aload_n rfl ?_
      refine x_V1i tg_301 (Nat.le_of_ble_eq_true rfl) (s_full (d := d + 2) hF) ?_
      exact rfl
    exact t_ireq (Or.inl rfl) rfl rfl
  · decide
set_option maxRecDepth 10000 in
theorem s_makes_ok {d L : Nat} {I : Nat → Nat → Int} {R : Nat → Nat → Option Nat} {u : Int64} (hF : FixR R) (hR : Res I) (hT : Tabs I) (hN : Nr I) {n : Nat} (hn : I 301 2 = n) (h5 : n ≤ 5) {g s f : Nat} (hg : g < 2) (hs : s < 6) (hf : f < 2) (hc : (cmF (opr I s) (ply I f) (mz I) 2821).1 = 1) : am_run am_tb (d + 4) 176 [vR 301, vI g, vI s, vI f] (LH L I R u) = some ([vI (if zp (cmF (opr I s) (ply I f) (mz I) 2821).2 = 31 then -20001 else 30 - (zp (cmF (opr I s) (ply I f) (mz I) 2821).2 : Nat))], LH L (mkI I n g s f) R u) := by
  refine run_of tb_X12_makes (Nat.le_of_ble_eq_true rfl) ?_
  show ∃ ls', am_ev (am_run am_tb (d + 3)) tX12_makes ([vR 301, vI g, vI s, vI f, vU], [], (LH L I R u)) = some (1, ls', [vI (if zp (cmF (opr I s) (ply I f) (mz I) 2821).2 = 31 then -20001 else 30 - (zp (cmF (opr I s) (ply I f) (mz I) 2821).2 : Nat))], LH L (mkI I n g s f) R u)
  have hb := cmF_b (f := (opr I s)) (g := (ply I f)) (m0 := mz I) (mz_b I) 2821
  have hN2 : Nr (mkI I n g s f) := Nr_spo hN hb.2 (au_s _ _ _) hg
  have hz : zp (ply (mkI I n g s f) g) = zp (cmF (opr I s) (ply I f) (mz I) 2821).2 := zp_c (fun k hk => by
    show (mkI I n g s f) 302 (546 + 31 * g + k) = _
    unfold mkI
    rw [au_s]
    unfold spo
    rw [if_pos (by omega)]
    exact congrArg _ (by omega))
  have hzl := zp_le (cmF (opr I s) (ply I f) (mz I) 2821).2
  by_cases c : zp (cmF (opr I s) (ply I f) (mz I) 2821).2 = 31
  · apply Exists.intro
    unfold tX12_makes
    apply t_Q
    · apply t_S
      refine x_iload_n rfl ?_
      refine x_S1i (by decide) (Nat.le_of_ble_eq_true rfl) (ret_t (show 0 ≤ (g : Int) ∧ (g : Int) ≤ 1 from by omega) (s_isPolynomial (d := d + 1) (by omega))) ?_
      exact rfl
    apply t_Q
    · apply t_K
      apply t_Qs
      apply t_Ks
      · apply t_Q
        · apply t_B
          · exact rfl
          exact t_if_eq_f (by omega)
        apply t_Q
        · apply t_B
          · refine x_iload_n rfl ?_
            refine x_S1i (by decide) (Nat.le_of_ble_eq_true rfl) (ret_t (show 0 ≤ (s : Int) ∧ (s : Int) ≤ 5 from by omega) (s_isOperator (d := d + 1) (by omega))) ?_
            exact rfl
          exact t_if_eq_f (by omega)
        apply t_B
        · refine x_iload_n rfl ?_
          refine x_S1i (by decide) (Nat.le_of_ble_eq_true rfl) (ret_t (show 0 ≤ (f : Int) ∧ (f : Int) ≤ 1 from by omega) (s_isPolynomial (d := d + 1) (by omega))) ?_
          exact rfl
        exact t_if_ne_t (by omega)
      · decide
    apply t_Q
    · apply t_S
      refine x_aload_n rfl ?_
      refine x_iload_n rfl ?_
      refine x_iload_n rfl ?_
      refine x_V3i tg_301 (Nat.le_of_ble_eq_true rfl) ((s_canMake (d := d) hF hT hN hs hf).trans (by rw [hc])) ?_
      exact rfl
    apply t_Q
    · apply t_K
      apply t_Qs
      apply t_B
      · exact rfl
      exact t_if_ne_t (by omega)
    apply t_Q
    · apply t_S
      refine x_aload_n rfl ?_
      refine x_V1v tg_301 (Nat.le_of_ble_eq_true rfl) (s_remembers (d := d + 2) (n := n) hF hn h5) ?_
      refine x_iconst ?_
      refine x_istore rfl ?_
      exact rfl
    apply t_Q
    · apply t_K
      apply t_W
      exact (lp_makes (d := d + 2) hF hg).trans (show _ = some (80, [vR 301, vI g, vI s, vI f, vI 31], [], LH L (mkI I n g s f) R u) from rfl)
    apply t_Q
    · apply t_S
      refine x_aload_n rfl ?_
      refine x_iload_n rfl ?_
      refine x_V2i tg_301 (Nat.le_of_ble_eq_true rfl) ((s_greatestPower (d := d + 1) hF hN2 hg).trans (by rw [hz])) ?_
      refine x_istore rfl ?_
      refine x_iload rfl ?_
      exact rfl
    apply t_Q
    · apply t_K
      apply t_Qs
      apply t_Ks
      · apply t_Q
        · apply t_B
          · exact rfl
          exact t_if_ge_f (by omega)
        apply t_B
        · refine x_sipush ?_
          exact rfl
        exact t_goto
      · decide
    apply t_B
    · exact rfl
    exact t_ireq (Or.inl rfl) (by rw [if_pos c]) rfl
  apply Exists.intro
  unfold tX12_makes
  apply t_Q
  · apply t_S
    refine x_iload_n rfl ?_
    refine x_S1i (by decide) (Nat.le_of_ble_eq_true rfl) (ret_t (show 0 ≤ (g : Int) ∧ (g : Int) ≤ 1 from by omega) (s_isPolynomial (d := d + 1) (by omega))) ?_
    exact rfl
  apply t_Q
  · apply t_K
    apply t_Qs
    apply t_Ks
    · apply t_Q
      · apply t_B
        · exact rfl
        exact t_if_eq_f (by omega)
      apply t_Q
      · apply t_B
        · refine x_iload_n rfl ?_
          refine x_S1i (by decide) (Nat.le_of_ble_eq_true rfl) (ret_t (show 0 ≤ (s : Int) ∧ (s : Int) ≤ 5 from by omega) (s_isOperator (d := d + 1) (by omega))) ?_
          exact rfl
        exact t_if_eq_f (by omega)
      apply t_B
      · refine x_iload_n rfl ?_
        refine x_S1i (by decide) (Nat.le_of_ble_eq_true rfl) (ret_t (show 0 ≤ (f : Int) ∧ (f : Int) ≤ 1 from by omega) (s_isPolynomial (d := d + 1) (by omega))) ?_
        exact rfl
      exact t_if_ne_t (by omega)
    · decide
  apply t_Q
  · apply t_S
    refine x_aload_n rfl ?_
    refine x_iload_n rfl ?_
    refine x_iload_n rfl ?_
    refine x_V3i tg_301 (Nat.le_of_ble_eq_true rfl) ((s_canMake (d := d) hF hT hN hs hf).trans (by rw [hc])) ?_
    exact rfl
  apply t_Q
  · apply t_K
    apply t_Qs
    apply t_B
    · exact rfl
    exact t_if_ne_t (by omega)
  apply t_Q
  · apply t_S
    refine x_aload_n rfl ?_
    refine x_V1v tg_301 (Nat.le_of_ble_eq_true rfl) (s_remembers (d := d + 2) (n := n) hF hn h5) ?_
    refine x_iconst ?_
    refine x_istore rfl ?_
    exact rfl
  apply t_Q
  · apply t_K
    apply t_W
    exact (lp_makes (d := d + 2) hF hg).trans (show _ = some (80, [vR 301, vI g, vI s, vI f, vI 31], [], LH L (mkI I n g s f) R u) from rfl)
  apply t_Q
  · apply t_S
    refine x_aload_n rfl ?_
    refine x_iload_n rfl ?_
    refine x_V2i tg_301 (Nat.le_of_ble_eq_true rfl) ((s_greatestPower (d := d + 1) hF hN2 hg).trans (by rw [hz])) ?_
    refine x_istore rfl ?_
    refine x_iload rfl ?_
    exact rfl
  apply t_Q
  · apply t_Ks
    · apply t_Q
      · apply t_K
        apply t_Qs
        apply t_B
        · exact rfl
        exact t_if_ge_t (by omega)
      apply t_S
      refine x_iload rfl ?_
      exact rfl
    · decide
  apply t_B
  · exact rfl
  exact t_ireq (Or.inl rfl) (by rw [if_neg c]) rfl
def ivE : Nat → Int
  | 0 => 10005
  | k + 1 => ivE k / 2
def ivB (v : Int) : Nat → Int
  | 0 => v
  | k + 1 => ivB v k * ivB v k % 10007
def ivM (v : Int) : Nat → Int
  | 0 => 1
  | k + 1 => if ivE k % 2 = 1 then ivM v k * ivB v k % 10007 else ivM v k
theorem ivE_b : ∀ k, k < 14 → 0 < ivE k ∧ ivE k ≤ 10005 := by decide
theorem ivB_b {v : Int} (h : 0 ≤ v ∧ v < 10007) (k : Nat) : 0 ≤ ivB v k ∧ ivB v k < 10007 := by
  cases k with
  | zero => exact h
  | succ k => show 0 ≤ ivB v k * ivB v k % 10007 ∧ ivB v k * ivB v k % 10007 < 10007; omega
theorem ivM_b {v : Int} (k : Nat) : 0 ≤ ivM v k ∧ ivM v k < 10007 := by
  induction k with
  | zero => exact ⟨show (0 : Int) ≤ 1 by decide, show (1 : Int) < 10007 by decide⟩
  | succ k ih =>
    show 0 ≤ (if ivE k % 2 = 1 then ivM v k * ivB v k % 10007 else ivM v k) ∧ (if ivE k % 2 = 1 then ivM v k * ivB v k % 10007 else ivM v k) < 10007
    split
    · omega
    · exact ih
def inv (v : Int) : Int := ivM v 14
theorem inv_b {v : Int} : 0 ≤ inv v ∧ inv v < 10007 := ivM_b 14
set_option maxRecDepth 10000 in
theorem lp_inverseOf {d L : Nat} {I : Nat → Nat → Int} {R : Nat → Nat → Option Nat} {u : Int64} (hF : FixR R) {v : Int} (h1 : 0 ≤ v ∧ v < 10007) : am_lp (am_ev (am_run am_tb (d + 1)) wX12_inverseOf_8) 8 am_F ([vI v, vI 1, vI v, vI 10005], [], LH L I R u) = some (48, ([vI v, vI (inv v), vI (ivB v 14), vI (ivE 14)], [], LH L I R u)) := by
  skip
  refine lp_up0 (fun k => ([vI v, vI (ivM v k), vI (ivB v k), vI (ivE k)], [], LH L I R u)) (14) rfl (ltF (by first | decide | omega)) (by show ¬ 48 = 8 + 2; decide) (fun k hk => ?_) ?_
  · have e := ivE_b k hk
    have b := ivB_b h1 k
    have m := ivM_b (v := v) k
    have m1 := mul_b (a := ivM v k) (b := ivB v k) (m := 10006) (n := 10006) ⟨m.1, by omega⟩ ⟨b.1, by omega⟩
    have m2 := mul_b (a := ivB v k) (b := ivB v k) (m := 10006) (n := 10006) ⟨b.1, by omega⟩ ⟨b.1, by omega⟩
    by_cases c : ivE k % 2 = 1
    · unfold wX12_inverseOf_8
      apply t_Q
      · apply t_B
        · refine x_iload_n rfl ?_
          exact rfl
        exact t_if_le_f (by omega)
      apply t_Q
      · apply t_S
        refine x_iload_n rfl ?_
        refine x_iconst ?_
        refine x_irem0 (by omega) ?_
        refine x_iconst ?_
        exact rfl
      apply t_Q
      · apply t_K
        apply t_Qs
        apply t_Ks
        · apply t_Q
          · apply t_B
            · exact rfl
            exact t_ic_ne_f (by omega)
          apply t_B
          · refine x_iload_n rfl ?_
            refine x_iload_n rfl ?_
            refine x_imul ?_
            refine x_sipush ?_
            refine x_irem0 (by omega) ?_
            exact rfl
          exact t_goto
        · decide
      apply t_B
      · refine x_istore_n rfl ?_
        refine x_iload_n rfl ?_
        refine x_iload_n rfl ?_
        refine x_imul ?_
        refine x_sipush ?_
        refine x_irem0 (by omega) ?_
        refine x_istore_n rfl ?_
        refine x_iload_n rfl ?_
        refine x_iconst ?_
        refine x_idiv0 (by omega) ?_
        refine x_istore_n rfl ?_
        exact rfl
      exact t_goeq (s3 (congrArg (fun z => [vI v, vI z, vI (ivB v k * ivB v k % 10007), vI (ivE k / 2)]) (by show _ = (if ivE k % 2 = 1 then ivM v k * ivB v k % 10007 else ivM v k); rw [if_pos c])) rfl)
    unfold wX12_inverseOf_8
    apply t_Q
    · apply t_B
      · refine x_iload_n rfl ?_
        exact rfl
      exact t_if_le_f (by omega)
    apply t_Q
    · apply t_S
      refine x_iload_n rfl ?_
      refine x_iconst ?_
      refine x_irem0 (by omega) ?_
      refine x_iconst ?_
      exact rfl
    apply t_Q
    · apply t_Ks
      · apply t_Q
        · apply t_K
          apply t_Qs
          apply t_B
          · exact rfl
          exact t_ic_ne_t (by omega)
        apply t_S
        refine x_iload_n rfl ?_
        exact rfl
      · decide
    apply t_B
    · refine x_istore_n rfl ?_
      refine x_iload_n rfl ?_
      refine x_iload_n rfl ?_
      refine x_imul ?_
      refine x_sipush ?_
      refine x_irem0 (by omega) ?_
      refine x_istore_n rfl ?_
      refine x_iload_n rfl ?_
      refine x_iconst ?_
      refine x_idiv0 (by omega) ?_
      refine x_istore_n rfl ?_
      exact rfl
    exact t_goeq (s3 (congrArg (fun z => [vI v, vI z, vI (ivB v k * ivB v k % 10007), vI (ivE k / 2)]) (by show _ = (if ivE k % 2 = 1 then ivM v k * ivB v k % 10007 else ivM v k); rw [if_neg c])) rfl)
  · have e14 : ivE 14 = 0 := by decide
    unfold wX12_inverseOf_8
    apply t_Qs
    apply t_B
    · refine x_iload_n rfl ?_
      exact rfl
    exact t_if_le_t (by omega)
set_option maxRecDepth 10000 in
theorem s_inverseOf {d L : Nat} {I : Nat → Nat → Int} {R : Nat → Nat → Option Nat} {u : Int64} (hF : FixR R) {v : Int} (h1 : 0 ≤ v ∧ v < 10007) : am_run am_tb (d + 2) 177 [vI v] (LH L I R u) = some ([vI (inv v)], LH L I R u) := by
  refine run_of tb_X12_inverseOf (Nat.le_of_ble_eq_true rfl) ?_
  show ∃ ls', am_ev (am_run am_tb (d + 1)) tX12_inverseOf ([vI v, vU, vU, vU], [], (LH L I R u)) = some (1, ls', [vI (inv v)], LH L I R u)
  apply Exists.intro
  unfold tX12_inverseOf
  apply t_Q
  · apply t_S
    refine x_iconst ?_
    refine x_istore_n rfl ?_
    refine x_iload_n rfl ?_
    refine x_istore_n rfl ?_
    refine x_sipush ?_
    refine x_istore_n rfl ?_
    exact rfl
  apply t_Q
  · apply t_K
    apply t_W
    exact lp_inverseOf (d := d) hF h1
  apply t_B
  · refine x_iload_n rfl ?_
    exact rfl
  exact t_ireq (Or.inl rfl) rfl rfl
