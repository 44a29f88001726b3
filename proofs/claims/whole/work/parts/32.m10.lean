/-! The reference: makes, inverses. Written by wip/whole/gen_32.py. -/
def fal (p : Nat) : Nat → Int
  | 0 => 1
  | k + 1 => fal p k * ((p : Int) - k) % 10007
theorem fal_b (p k : Nat) : 0 ≤ fal p k ∧ fal p k < 10007 := by
  cases k with
  | zero => exact ⟨show (0 : Int) ≤ 1 by decide, show (1 : Int) < 10007 by decide⟩
  | succ k => show 0 ≤ fal p k * ((p : Int) - k) % 10007 ∧ fal p k * ((p : Int) - k) % 10007 < 10007; omega
set_option maxRecDepth 10000 in
theorem lp_falls {d L : Nat} {I : Nat → Nat → Int} {R : Nat → Nat → Option Nat} {u : Int64} (hF : FixR R) {p q : Nat} (h1 : p ≤ 99) (h2 : q ≤ p) : am_lp (am_ev (am_run am_tb (d + 1)) wX12_falls_4) 4 am_F ([vI p, vI q, vI 1, vI 0], [], LH L I R u) = some (27, ([vI p, vI q, vI (fal p q), vI q], [], LH L I R u)) := by
  skip
  refine lp_up0 (fun k => ([vI p, vI q, vI (fal p k), vI k], [], LH L I R u)) (q) rfl (ltF (by first | decide | omega)) (by show ¬ 27 = 4 + 2; decide) (fun k hk => ?_) ?_
  · have b := fal_b p k
    have m := mul_b (a := fal p k) (b := (p : Int) - k) (m := 10006) (n := 99) ⟨b.1, by omega⟩ (by omega)
    unfold wX12_falls_4
    apply t_Q
    · apply t_B
      · refine x_iload_n rfl ?_
        refine x_iload_n rfl ?_
        exact rfl
      exact t_ic_ge_f (by omega)
    apply t_B
    · refine x_iload_n rfl ?_
      refine x_iload_n rfl ?_
      refine x_iload_n rfl ?_
      refine x_isub ?_
      refine x_imul ?_
      refine x_sipush ?_
      refine x_irem0 (by omega) ?_
      refine x_istore_n rfl ?_
      refine x_iinc rfl rfl ?_
      exact rfl
    exact t_goeq rfl
  · unfold wX12_falls_4
    apply t_Qs
    apply t_B
    · refine x_iload_n rfl ?_
      refine x_iload_n rfl ?_
      exact rfl
    exact t_ic_ge_t (by omega)
set_option maxRecDepth 10000 in
theorem s_falls {d L : Nat} {I : Nat → Nat → Int} {R : Nat → Nat → Option Nat} {u : Int64} (hF : FixR R) {p q : Nat} (h1 : p ≤ 99) (h2 : q ≤ p) : am_run am_tb (d + 2) 173 [vI p, vI q] (LH L I R u) = some ([vI (fal p q)], LH L I R u) := by
  refine run_of tb_X12_falls (Nat.le_of_ble_eq_true rfl) ?_
  show ∃ ls', am_ev (am_run am_tb (d + 1)) tX12_falls ([vI p, vI q, vU, vU], [], (LH L I R u)) = some (1, ls', [vI (fal p q)], LH L I R u)
  apply Exists.intro
  unfold tX12_falls
  apply t_Q
  · apply t_S
    refine x_iconst ?_
    refine x_istore_n rfl ?_
    refine x_iconst ?_
    refine x_istore_n rfl ?_
    exact rfl
  apply t_Q
  · apply t_K
    apply t_W
    exact lp_falls (d := d) hF h1 h2
  apply t_B
  · refine x_iload_n rfl ?_
    exact rfl
  exact t_ireq (Or.inl rfl) rfl rfl
/-- a polynomial; how many of its last powers are 0 -/
def ply (I : Nat → Nat → Int) (f m : Nat) : Int := I 302 (546 + 31 * f + m)
def zp (g : Nat → Int) : Nat := fnd (fun m => decide (¬ g (30 - m) = 0)) 31
theorem zp_le (g : Nat → Int) : zp g ≤ 31 := fnd_le _ _
theorem zp_no {g : Nat → Int} {k : Nat} (h : k < zp g) : g (30 - k) = 0 := Decidable.not_not.mp (of_decide_eq_false (fnd_no (p := fun m => decide (¬ g (30 - m) = 0)) h))
theorem zp_yes {g : Nat → Int} (h : zp g ≠ 31) : g (30 - zp g) ≠ 0 := by
  have h2 := zp_le g
  exact of_decide_eq_true (fnd_yes (p := fun m => decide (¬ g (30 - m) = 0)) (show zp g < 31 by omega))
set_option maxRecDepth 10000 in
theorem lp_greatestPower {d L : Nat} {I : Nat → Nat → Int} {R : Nat → Nat → Option Nat} {u : Int64} (hF : FixR R) {f : Nat} (hN : Nr I) (hf : f < 2) : am_lp (am_ev (am_run am_tb (d + 1)) wX12_greatestPower_3) 3 am_F ([vR 301, vI f, vI 30], [], LH L I R u) = some (28, ([vR 301, vI f, vI (30 - (zp (ply I f) : Nat))], [], LH L I R u)) := by
  have hle := zp_le (ply I f)
  refine lp_up0 (fun k => ([vR 301, vI f, vI (30 - (k : Int))], [], LH L I R u)) (zp (ply I f)) rfl (ltF (by first | decide | omega)) (by show ¬ 28 = 3 + 2; decide) (fun k hk => ?_) ?_
  · have hv : 0 ≤ ply I f (30 - k) ∧ ply I f (30 - k) < 10007 := hN.1 _ (by omega)
    have hz := zp_no hk
    unfold wX12_greatestPower_3
    apply t_Q
    · apply t_B
      · refine x_iload_n rfl ?_
        exact rfl
      exact t_if_lt_f (by omega)
    apply t_Q
    · apply t_B
      · refine x_aload_n rfl ?_
        refine x_gr tg_301 rfl (fx_301_0 hF) ?_
        refine x_iload_n rfl ?_
        refine x_iload_n rfl ?_
        refine x_S2i (by decide) (Nat.le_of_ble_eq_true rfl) (s_rateAt (d := d)) ?_
        refine x_ialdv (Or.inl tg_302) (ln_302 L) (by omega) (show _ = ply I f (30 - k) from congrArg (I 302) (by omega)) ?_
        exact rfl
      exact t_if_ne_f (by omega)
    apply t_B
    · refine x_iinc rfl rfl ?_
      exact rfl
    exact t_goeq (s3 (congrArg (fun z => [vR 301, vI f, vI z]) (show (30 - (k : Int)) + (-1) = 30 - ((k + 1 : Nat) : Int) by omega)) rfl)
  · by_cases c : zp (ply I f) = 31
    · unfold wX12_greatestPower_3
      apply t_Qs
      apply t_B
      · refine x_iload_n rfl ?_
        exact rfl
      exact t_if_lt_t (by omega)
    have hv : 0 ≤ ply I f (30 - zp (ply I f)) ∧ ply I f (30 - zp (ply I f)) < 10007 := hN.1 _ (by omega)
    have hz := zp_yes c
    unfold wX12_greatestPower_3
    apply t_Q
    · apply t_B
      · refine x_iload_n rfl ?_
        exact rfl
      exact t_if_lt_f (by omega)
    apply t_Qs
    apply t_B
    · refine x_aload_n rfl ?_
      refine x_gr tg_301 rfl (fx_301_0 hF) ?_
      refine x_iload_n rfl ?_
      refine x_iload_n rfl ?_
      refine x_S2i (by decide) (Nat.le_of_ble_eq_true rfl) (s_rateAt (d := d)) ?_
      refine x_ialdv (Or.inl tg_302) (ln_302 L) (by omega) (show _ = ply I f (30 - zp (ply I f)) from congrArg (I 302) (by omega)) ?_
      exact rfl
    exact t_if_ne_t (by omega)
set_option maxRecDepth 10000 in
theorem s_greatestPower {d L : Nat} {I : Nat → Nat → Int} {R : Nat → Nat → Option Nat} {u : Int64} (hF : FixR R) {f : Nat} (hN : Nr I) (hf : f < 2) : am_run am_tb (d + 2) 174 [vR 301, vI f] (LH L I R u) = some ([vI (30 - (zp (ply I f) : Nat))], LH L I R u) := by
  refine run_of tb_X12_greatestPower (Nat.le_of_ble_eq_true rfl) ?_
  show ∃ ls', am_ev (am_run am_tb (d + 1)) tX12_greatestPower ([vR 301, vI f, vU], [], (LH L I R u)) = some (1, ls', [vI (30 - (zp (ply I f) : Nat))], LH L I R u)
  apply Exists.intro
  unfold tX12_greatestPower
  apply t_Q
  · apply t_S
    refine x_bipush ?_
    refine x_istore_n rfl ?_
    exact rfl
  apply t_Q
  · apply t_K
    apply t_W
    exact lp_greatestPower (d := d) hF hN hf
  apply t_B
  · refine x_iload_n rfl ?_
    exact rfl
  exact t_ireq (Or.inl rfl) rfl rfl
def cmc (f g : Nat → Int) (k : Nat) : Int := f (k / 31) * g (k % 31) % 10007
def cmt (k : Nat) : Nat := k % 31 - dw (k / 31) + xw (k / 31)
def cmF (f g m0 : Nat → Int) : Nat → Int × (Nat → Int)
  | 0 => (1, m0)
  | k + 1 => if ¬ cmc f g k = 0 ∧ dw (k / 31) ≤ k % 31 then (if (cmF f g m0 k).1 = 1 ∧ cmt k < 31 then (1, au (cmF f g m0 k).2 (cmt k) (((cmF f g m0 k).2 (cmt k) + cmc f g k * fal (k % 31) (dw (k / 31))) % 10007)) else (0, (cmF f g m0 k).2)) else cmF f g m0 k
theorem cmF_b {f g m0 : Nat → Int} (h : ∀ j, j < 31 → 0 ≤ m0 j ∧ m0 j < 10007) (k : Nat) : ((cmF f g m0 k).1 = 0 ∨ (cmF f g m0 k).1 = 1) ∧ ∀ j, j < 31 → 0 ≤ (cmF f g m0 k).2 j ∧ (cmF f g m0 k).2 j < 10007 := by
  induction k with
  | zero => exact ⟨Or.inr rfl, h⟩
  | succ k ih =>
    have e : cmF f g m0 (k + 1) = if ¬ cmc f g k = 0 ∧ dw (k / 31) ≤ k % 31 then (if (cmF f g m0 k).1 = 1 ∧ cmt k < 31 then (1, au (cmF f g m0 k).2 (cmt k) (((cmF f g m0 k).2 (cmt k) + cmc f g k * fal (k % 31) (dw (k / 31))) % 10007)) else (0, (cmF f g m0 k).2)) else cmF f g m0 k := rfl
    rw [e]
    split
    · split
      · refine ⟨Or.inr rfl, fun j hj => ?_⟩
        show 0 ≤ au _ _ _ j ∧ au _ _ _ j < 10007
        unfold au
        split
        · omega
        · exact ih.2 j hj
      · exact ⟨Or.inl rfl, ih.2⟩
    · exact ih
def cl5 : Nat → am_V
  | 0 => vU
  | k + 1 => vI ((k : Int) / 31)
def cl6 : Nat → am_V
  | 0 => vU
  | k + 1 => vI ((k : Int) % 31)
def cl7 (f g : Nat → Int) : Nat → am_V
  | 0 => vU
  | k + 1 => vI (cmc f g k)
def cl8 (f g : Nat → Int) : Nat → am_V
  | 0 => vU
  | k + 1 => if ¬ cmc f g k = 0 ∧ dw (k / 31) ≤ k % 31 then vI (cmt k : Nat) else cl8 f g k
def mz (I : Nat → Nat → Int) : Nat → Int := fun j => if j < 31 then 0 else I 310 j
set_option maxRecDepth 10000 in
theorem lp_canMake1 {d L : Nat} {I : Nat → Nat → Int} {R : Nat → Nat → Option Nat} {u : Int64} (hF : FixR R) {s f : Nat} : am_lp (am_ev (am_run am_tb (d + 1)) wX12_canMake_2) 2 am_F ([vR 301, vI s, vI f, vI 0, vU, vU, vU, vU, vU], [], LH L I R u) = some (23, ([vR 301, vI s, vI f, vI 31, vU, vU, vU, vU, vU], [], LH L (au I 310 (mz I)) R u)) := by
  skip
  refine lp_up0 (fun k => ([vR 301, vI s, vI f, vI k, vU, vU, vU, vU, vU], [], LH L (au I 310 (fun j => if j < k then 0 else I 310 j)) R u)) (31) (s3 rfl (au_id.symm.trans (au_c (by funext j; rw [if_neg (by omega)])))) (ltF (by first | decide | omega)) (by show ¬ 23 = 2 + 2; decide) (fun k hk => ?_) ?_
  · unfold wX12_canMake_2
    apply t_Q
    · apply t_B
      · refine x_iload_n rfl ?_
        refine x_bipush ?_
        exact rfl
      exact t_ic_ge_f (by omega)
    apply t_B
    · refine x_aload_n rfl ?_
      refine x_gr tg_301 rfl (fx_301_10 hF) ?_
      refine x_iload_n rfl ?_
      refine x_iconst ?_
      refine x_iast tg_310 (ln_310 L) (by omega) ?_
      refine x_iinc rfl rfl ?_
      exact rfl
    exact t_goeq (s3 rfl (au_w (by funext j; simp only [au_i]; (repeat' split) <;> first | rfl | omega | (exfalso; omega))))
  · unfold wX12_canMake_2
    apply t_Qs
    apply t_B
    · refine x_iload_n rfl ?_
      refine x_bipush ?_
      exact rfl
    exact t_ic_ge_t (by omega)
set_option maxRecDepth 10000 in
theorem lp_canMake2 {d L : Nat} {I : Nat → Nat → Int} {R : Nat → Nat → Option Nat} {u : Int64} (hF : FixR R) {s f : Nat} (hT : Tabs I) (hN : Nr I) (hs : s < 6) (hf : f < 2) : am_lp (am_ev (am_run am_tb (d + 2)) wX12_canMake_26) 26 am_F ([vR 301, vI s, vI f, vI 1, vI 0, vU, vU, vU, vU], [], LH L (au I 310 (mz I)) R u) = some (178, ([vR 301, vI s, vI f, vI (cmF (opr I s) (ply I f) (mz I) 2821).1, vI 2821, cl5 2821, cl6 2821, cl7 (opr I s) (ply I f) 2821, cl8 (opr I s) (ply I f) 2821], [], LH L (au I 310 (cmF (opr I s) (ply I f) (mz I) 2821).2) R u)) := by
  skip
  refine lp_up0 (fun k => ([vR 301, vI s, vI f, vI (cmF (opr I s) (ply I f) (mz I) k).1, vI k, cl5 k, cl6 k, cl7 (opr I s) (ply I f) k, cl8 (opr I s) (ply I f) k], [], LH L (au I 310 (cmF (opr I s) (ply I f) (mz I) k).2) R u)) (2821) rfl (ltF (by first | decide | omega)) (by show ¬ 178 = 26 + 2; decide) (fun k hk => ?_) ?_
  · have hx := xw_dw (k / 31)
    have hw := wn_12 (show k / 31 < 91 by omega)
    have v1 : 0 ≤ opr I s (k / 31) ∧ opr I s (k / 31) < 10007 := hN.1 _ (by omega)
    have v2 : 0 ≤ ply I f (k % 31) ∧ ply I f (k % 31) < 10007 := hN.1 _ (by omega)
    have m1 := mul_b (a := opr I s (k / 31)) (b := ply I f (k % 31)) (m := 10006) (n := 10006) ⟨v1.1, by omega⟩ ⟨v2.1, by omega⟩
    have hb := cmF_b (f := (opr I s)) (g := (ply I f)) (m0 := mz I) (fun j hj => by unfold mz; rw [if_pos hj]; exact ⟨Int.le_refl 0, by decide⟩) k
    have hc : cmc (opr I s) (ply I f) k = opr I s (k / 31) * ply I f (k % 31) % 10007 := rfl
    have ht : cmt k = k % 31 - dw (k / 31) + xw (k / 31) := rfl
    have e : cmF (opr I s) (ply I f) (mz I) (k + 1) = if ¬ cmc (opr I s) (ply I f) k = 0 ∧ dw (k / 31) ≤ k % 31 then (if (cmF (opr I s) (ply I f) (mz I) k).1 = 1 ∧ cmt k < 31 then (1, au (cmF (opr I s) (ply I f) (mz I) k).2 (cmt k) (((cmF (opr I s) (ply I f) (mz I) k).2 (cmt k) + cmc (opr I s) (ply I f) k * fal (k % 31) (dw (k / 31))) % 10007)) else (0, (cmF (opr I s) (ply I f) (mz I) k).2)) else cmF (opr I s) (ply I f) (mz I) k := rfl
    have e8 : cl8 (opr I s) (ply I f) (k + 1) = if ¬ cmc (opr I s) (ply I f) k = 0 ∧ dw (k / 31) ≤ k % 31 then vI (cmt k : Nat) else cl8 (opr I s) (ply I f) k := rfl
    by_cases c0 : cmc (opr I s) (ply I f) k = 0
    · rw [if_neg (fun q => q.1 c0)] at e e8
      unfold wX12_canMake_26
      apply t_Q
      · apply t_B
        · refine x_iload rfl ?_
          refine x_sipush ?_
          exact rfl
        exact t_ic_ge_f (by omega)
      apply t_Q
      · apply t_S
        refine x_iload rfl ?_
        refine x_bipush ?_
        refine x_idiv0 (by omega) ?_
        refine x_istore rfl ?_
        refine x_iload rfl ?_
        refine x_bipush ?_
        refine x_irem0 (by omega) ?_
        refine x_istore rfl ?_
        refine x_aload_n rfl ?_
        refine x_gr tg_301 rfl (fx_301_0 hF) ?_
        refine x_bipush ?_
        refine x_iload_n rfl ?_
        refine x_imul ?_
        refine x_iload rfl ?_
        refine x_iadd ?_
        refine x_ialdv (Or.inl tg_302) (ln_302 L) (by omega) (show _ = opr I s (k / 31) from congrArg (I 302) (by omega)) ?_
        refine x_aload_n rfl ?_
        refine x_gr tg_301 rfl (fx_301_0 hF) ?_
        refine x_iload_n rfl ?_
        refine x_iload rfl ?_
        refine x_S2i (by decide) (Nat.le_of_ble_eq_true rfl) (s_rateAt (d := d + 1)) ?_
        refine x_ialdv (Or.inl tg_302) (ln_302 L) (by omega) (show _ = ply I f (k % 31) from congrArg (I 302) (by omega)) ?_
        refine x_imul ?_
        refine x_sipush ?_
        refine x_irem0 (by omega) ?_
        refine x_istore rfl ?_
        refine x_iload rfl ?_
        exact rfl
      apply t_Q
      · apply t_K
        apply t_Qs
        apply t_B
        · exact rfl
        exact t_if_eq_t (by omega)
      apply t_B
      · refine x_iinc rfl rfl ?_
        exact rfl
      exact t_goeq (s3 (by rw [e, e8]; rfl) (by rw [e]))
    by_cases c1 : k % 31 < dw (k / 31)
    · rw [if_neg (fun q => by have := q.2; omega)] at e e8
      unfold wX12_canMake_26
      apply t_Q
      · apply t_B
        · refine x_iload rfl ?_
          refine x_sipush ?_
          exact rfl
        exact t_ic_ge_f (by omega)
      apply t_Q
      · apply t_S
        refine x_iload rfl ?_
        refine x_bipush ?_
        refine x_idiv0 (by omega) ?_
        refine x_istore rfl ?_
        refine x_iload rfl ?_
        refine x_bipush ?_
        refine x_irem0 (by omega) ?_
        refine x_istore rfl ?_
        refine x_aload_n rfl ?_
        refine x_gr tg_301 rfl (fx_301_0 hF) ?_
        refine x_bipush ?_
        refine x_iload_n rfl ?_
        refine x_imul ?_
        refine x_iload rfl ?_
        refine x_iadd ?_
        refine x_ialdv (Or.inl tg_302) (ln_302 L) (by omega) (show _ = opr I s (k / 31) from congrArg (I 302) (by omega)) ?_
        refine x_aload_n rfl ?_
        refine x_gr tg_301 rfl (fx_301_0 hF) ?_
        refine x_iload_n rfl ?_
        refine x_iload rfl ?_
        refine x_S2i (by decide) (Nat.le_of_ble_eq_true rfl) (s_rateAt (d := d + 1)) ?_
        refine x_ialdv (Or.inl tg_302) (ln_302 L) (by omega) (show _ = ply I f (k % 31) from congrArg (I 302) (by omega)) ?_
        refine x_imul ?_
        refine x_sipush ?_
        refine x_irem0 (by omega) ?_
        refine x_istore rfl ?_
        refine x_iload rfl ?_
        exact rfl
      apply t_Q
      · apply t_K
        apply t_Q
        · apply t_B
          · exact rfl
          exact t_if_eq_f (by omega)
        apply t_Qs
        apply t_B
        · refine x_iload rfl ?_
          refine x_aload_n rfl ?_
          refine x_gr tg_301 rfl (fx_301_8 hF) ?_
          refine x_iload rfl ?_
          refine x_ialdv (Or.inl tg_308) (ln_308 L) (by omega) (show _ = ((dw (k / 31) : Nat) : Int) from (congrArg (I 308) (by omega)).trans (hT.2.1 (k / 31) (by omega))) ?_
          exact rfl
        exact t_ic_lt_t (by omega)
      apply t_B
      · refine x_iinc rfl rfl ?_
        exact rfl
      exact t_goeq (s3 (by rw [e, e8]; rfl) (by rw [e]))
    rw [if_pos ⟨c0, by omega⟩] at e e8
    have eto : (k : Int) % 31 - ((dw (k / 31) : Nat) : Int) + ((xw (k / 31) : Nat) : Int) = ((cmt k : Nat) : Int) := by omega
    by_cases c2 : (cmF (opr I s) (ply I f) (mz I) k).1 = 0
    · rw [if_neg (fun q => by have := q.1; omega)] at e
      unfold wX12_canMake_26
      apply t_Q
      · apply t_B
        · refine x_iload rfl ?_
          refine x_sipush ?_
          exact rfl
        exact t_ic_ge_f (by omega)
      apply t_Q
      · apply t_S
        refine x_iload rfl ?_
        refine x_bipush ?_
        refine x_idiv0 (by omega) ?_
        refine x_istore rfl ?_
        refine x_iload rfl ?_
        refine x_bipush ?_
        refine x_irem0 (by omega) ?_
        refine x_istore rfl ?_
        refine x_aload_n rfl ?_
        refine x_gr tg_301 rfl (fx_301_0 hF) ?_
        refine x_bipush ?_
        refine x_iload_n rfl ?_
        refine x_imul ?_
        refine x_iload rfl ?_
        refine x_iadd ?_
        refine x_ialdv (Or.inl tg_302) (ln_302 L) (by omega) (show _ = opr I s (k / 31) from congrArg (I 302) (by omega)) ?_
        refine x_aload_n rfl ?_
        refine x_gr tg_301 rfl (fx_301_0 hF) ?_
        refine x_iload_n rfl ?_
        refine x_iload rfl ?_
        refine x_S2i (by decide) (Nat.le_of_ble_eq_true rfl) (s_rateAt (d := d + 1)) ?_
        refine x_ialdv (Or.inl tg_302) (ln_302 L) (by omega) (show _ = ply I f (k % 31) from congrArg (I 302) (by omega)) ?_
        refine x_imul ?_
        refine x_sipush ?_
        refine x_irem0 (by omega) ?_
        refine x_istore rfl ?_
        refine x_iload rfl ?_
        exact rfl
      apply t_Q
      · apply t_K
        apply t_Q
        · apply t_B
          · exact rfl
          exact t_if_eq_f (by omega)
        apply t_Q
        · apply t_B
          · refine x_iload rfl ?_
            refine x_aload_n rfl ?_
            refine x_gr tg_301 rfl (fx_301_8 hF) ?_
            refine x_iload rfl ?_
            refine x_ialdv (Or.inl tg_308) (ln_308 L) (by omega) (show _ = ((dw (k / 31) : Nat) : Int) from (congrArg (I 308) (by omega)).trans (hT.2.1 (k / 31) (by omega))) ?_
            exact rfl
          exact t_ic_lt_f (by omega)
        apply t_Q
        · apply t_S
          refine x_iload rfl ?_
          refine x_aload_n rfl ?_
          refine x_gr tg_301 rfl (fx_301_8 hF) ?_
          refine x_iload rfl ?_
          refine x_ialdv (Or.inl tg_308) (ln_308 L) (by omega) (show _ = ((dw (k / 31) : Nat) : Int) from (congrArg (I 308) (by omega)).trans (hT.2.1 (k / 31) (by omega))) ?_
          refine x_isub ?_
          refine x_aload_n rfl ?_
          refine x_gr tg_301 rfl (fx_301_7 hF) ?_
          refine x_iload rfl ?_
          refine x_ialdv (Or.inl tg_307) (ln_307 L) (by omega) (show _ = ((xw (k / 31) : Nat) : Int) from (congrArg (I 307) (by omega)).trans (hT.1 (k / 31) (by omega))) ?_
          refine x_iadd ?_
          refine x_istore rfl ?_
          refine x_iload_n rfl ?_
          exact rfl
        apply t_Q
        · apply t_Ks
          · apply t_Q
            · apply t_K
              apply t_Qs
              apply t_B
              · exact rfl
              exact t_if_eq_t (by omega)
            apply t_S
            refine x_iconst ?_
            exact rfl
          · decide
        apply t_Qs
        apply t_B
        · refine x_istore_n rfl ?_
          refine x_iload_n rfl ?_
          exact rfl
        exact t_if_eq_t (by omega)
      apply t_B
      · refine x_iinc rfl rfl ?_
        exact rfl
      exact t_goeq (s3 (by rw [e, e8, ← eto]; rfl) (by rw [e]))
    by_cases c3 : 31 ≤ cmt k
    · rw [if_neg (fun q => by have := q.2; omega)] at e
      unfold wX12_canMake_26
      apply t_Q
      · apply t_B
        · refine x_iload rfl ?_
          refine x_sipush ?_
          exact rfl
        exact t_ic_ge_f (by omega)
      apply t_Q
      · apply t_S
        refine x_iload rfl ?_
        refine x_bipush ?_
        refine x_idiv0 (by omega) ?_
        refine x_istore rfl ?_
        refine x_iload rfl ?_
        refine x_bipush ?_
        refine x_irem0 (by omega) ?_
        refine x_istore rfl ?_
        refine x_aload_n rfl ?_
        refine x_gr tg_301 rfl (fx_301_0 hF) ?_
        refine x_bipush ?_
        refine x_iload_n rfl ?_
        refine x_imul ?_
        refine x_iload rfl ?_
        refine x_iadd ?_
        refine x_ialdv (Or.inl tg_302) (ln_302 L) (by omega) (show _ = opr I s (k / 31) from congrArg (I 302) (by omega)) ?_
        refine x_aload_n rfl ?_
        refine x_gr tg_301 rfl (fx_301_0 hF) ?_
        refine x_iload_n rfl ?_
        refine x_iload rfl ?_
        refine x_S2i (by decide) (Nat.le_of_ble_eq_true rfl) (s_rateAt (d := d + 1)) ?_
        refine x_ialdv (Or.inl tg_302) (ln_302 L) (by omega) (show _ = ply I f (k % 31) from congrArg (I 302) (by omega)) ?_
        refine x_imul ?_
        refine x_sipush ?_
        refine x_irem0 (by omega) ?_
        refine x_istore rfl ?_
        refine x_iload rfl ?_
        exact rfl
      apply t_Q
      · apply t_K
        apply t_Q
        · apply t_B
          · exact rfl
          exact t_if_eq_f (by omega)
        apply t_Q
        · apply t_B
          · refine x_iload rfl ?_
            refine x_aload_n rfl ?_
            refine x_gr tg_301 rfl (fx_301_8 hF) ?_
            refine x_iload rfl ?_
            refine x_ialdv (Or.inl tg_308) (ln_308 L) (by omega) (show _ = ((dw (k / 31) : Nat) : Int) from (congrArg (I 308) (by omega)).trans (hT.2.1 (k / 31) (by omega))) ?_
            exact rfl
          exact t_ic_lt_f (by omega)
        apply t_Q
        · apply t_S
          refine x_iload rfl ?_
          refine x_aload_n rfl ?_
          refine x_gr tg_301 rfl (fx_301_8 hF) ?_
          refine x_iload rfl ?_
          refine x_ialdv (Or.inl tg_308) (ln_308 L) (by omega) (show _ = ((dw (k / 31) : Nat) : Int) from (congrArg (I 308) (by omega)).trans (hT.2.1 (k / 31) (by omega))) ?_
          refine x_isub ?_
          refine x_aload_n rfl ?_
          refine x_gr tg_301 rfl (fx_301_7 hF) ?_
          refine x_iload rfl ?_
          refine x_ialdv (Or.inl tg_307) (ln_307 L) (by omega) (show _ = ((xw (k / 31) : Nat) : Int) from (congrArg (I 307) (by omega)).trans (hT.1 (k / 31) (by omega))) ?_
          refine x_iadd ?_
          refine x_istore rfl ?_
          refine x_iload_n rfl ?_
          exact rfl
        apply t_Q
        · apply t_Ks
          · apply t_Q
            · apply t_K
              apply t_Q
              · apply t_B
                · exact rfl
                exact t_if_eq_f (by omega)
              apply t_Qs
              apply t_B
              · refine x_iload rfl ?_
                refine x_bipush ?_
                exact rfl
              exact t_ic_ge_t (by omega)
            apply t_S
            refine x_iconst ?_
            exact rfl
          · decide
        apply t_Qs
        apply t_B
        · refine x_istore_n rfl ?_
          refine x_iload_n rfl ?_
          exact rfl
        exact t_if_eq_t (by omega)
      apply t_B
      · refine x_iinc rfl rfl ?_
        exact rfl
      exact t_goeq (s3 (by rw [e, e8, ← eto]; rfl) (by rw [e]))
    rw [if_pos ⟨by omega, by omega⟩] at e
    have v3 := hb.2 (cmt k) (by omega)
    have v4 := fal_b (k % 31) (dw (k / 31))
    have m2 := mul_b (a := cmc (opr I s) (ply I f) k) (b := fal (k % 31) (dw (k / 31))) (m := 10006) (n := 10006) ⟨by omega, by omega⟩ ⟨v4.1, by omega⟩
    rw [hc] at m2
    unfold wX12_canMake_26
    apply t_Q
    · apply t_B
      · refine x_iload rfl ?_
        refine x_sipush ?_
        exact rfl
      exact t_ic_ge_f (by omega)
    apply t_Q
    · apply t_S
      refine x_iload rfl ?_
      refine x_bipush ?_
      refine x_idiv0 (by omega) ?_
      refine x_istore rfl ?_
      refine x_iload rfl ?_
      refine x_bipush ?_
      refine x_irem0 (by omega) ?_
      refine x_istore rfl ?_
      refine x_aload_n rfl ?_
      refine x_gr tg_301 rfl (fx_301_0 hF) ?_
      refine x_bipush ?_
      refine x_iload_n rfl ?_
      refine x_imul ?_
      refine x_iload rfl ?_
      refine x_iadd ?_
      refine x_ialdv (Or.inl tg_302) (ln_302 L) (by omega) (show _ = opr I s (k / 31) from congrArg (I 302) (by omega)) ?_
      refine x_aload_n rfl ?_
      refine x_gr tg_301 rfl (fx_301_0 hF) ?_
      refine x_iload_n rfl ?_
      refine x_iload rfl ?_
      refine x_S2i (by decide) (Nat.le_of_ble_eq_true rfl) (s_rateAt (d := d + 1)) ?_
      refine x_ialdv (Or.inl tg_302) (ln_302 L) (by omega) (show _ = ply I f (k % 31) from congrArg (I 302) (by omega)) ?_
      refine x_imul ?_
      refine x_sipush ?_
      refine x_irem0 (by omega) ?_
      refine x_istore rfl ?_
      refine x_iload rfl ?_
      exact rfl
    apply t_Q
    · apply t_Ks
      · apply t_Q
        · apply t_B
          · exact rfl
          exact t_if_eq_f (by omega)
        apply t_Q
        · apply t_B
          · refine x_iload rfl ?_
            refine x_aload_n rfl ?_
            refine x_gr tg_301 rfl (fx_301_8 hF) ?_
            refine x_iload rfl ?_
            refine x_ialdv (Or.inl tg_308) (ln_308 L) (by omega) (show _ = ((dw (k / 31) : Nat) : Int) from (congrArg (I 308) (by omega)).trans (hT.2.1 (k / 31) (by omega))) ?_
            exact rfl
          exact t_ic_lt_f (by omega)
        apply t_Q
        · apply t_S
          refine x_iload rfl ?_
          refine x_aload_n rfl ?_
          refine x_gr tg_301 rfl (fx_301_8 hF) ?_
          refine x_iload rfl ?_
          refine x_ialdv (Or.inl tg_308) (ln_308 L) (by omega) (show _ = ((dw (k / 31) : Nat) : Int) from (congrArg (I 308) (by omega)).trans (hT.2.1 (k / 31) (by omega))) ?_
          refine x_isub ?_
          refine x_aload_n rfl ?_
          refine x_gr tg_301 rfl (fx_301_7 hF) ?_
          refine x_iload rfl ?_
          refine x_ialdv (Or.inl tg_307) (ln_307 L) (by omega) (show _ = ((xw (k / 31) : Nat) : Int) from (congrArg (I 307) (by omega)).trans (hT.1 (k / 31) (by omega))) ?_
          refine x_iadd ?_
          refine x_istore rfl ?_
          refine x_iload_n rfl ?_
          exact rfl
        apply t_Q
        · apply t_K
          apply t_Qs
          apply t_Ks
          · apply t_Q
            · apply t_B
              · exact rfl
              exact t_if_eq_f (by omega)
            apply t_Q
            · apply t_B
              · refine x_iload rfl ?_
                refine x_bipush ?_
                exact rfl
              exact t_ic_ge_f (by omega)
            apply t_B
            · refine x_iconst ?_
              exact rfl
            exact t_goto
          · decide
        apply t_Q
        · apply t_B
          · refine x_istore_n rfl ?_
            refine x_iload_n rfl ?_
            exact rfl
          exact t_if_eq_f (by omega)
        apply t_S
        refine x_aload_n rfl ?_
        refine x_gr tg_301 rfl (fx_301_10 hF) ?_
        refine x_iload rfl ?_
        refine x_aload_n rfl ?_
        refine x_gr tg_301 rfl (fx_301_10 hF) ?_
        refine x_iload rfl ?_
        refine x_ialdv (Or.inl tg_310) (ln_310 L) (by omega) (show _ = (cmF (opr I s) (ply I f) (mz I) k).2 (cmt k) from (congrFun (au_s I 310 (cmF (opr I s) (ply I f) (mz I) k).2) _).trans (congrArg (cmF (opr I s) (ply I f) (mz I) k).2 (by omega))) ?_
        refine x_iload rfl ?_
        refine x_iload rfl ?_
        refine x_aload_n rfl ?_
        refine x_gr tg_301 rfl (fx_301_8 hF) ?_
        refine x_iload rfl ?_
        refine x_ialdv (Or.inl tg_308) (ln_308 L) (by omega) (show _ = ((dw (k / 31) : Nat) : Int) from (congrArg (I 308) (by omega)).trans (hT.2.1 (k / 31) (by omega))) ?_
        refine x_S2i (by decide) (Nat.le_of_ble_eq_true rfl) (s_falls (d := d) (p := k % 31) (q := dw (k / 31)) hF (by omega) (by omega)) ?_
        refine x_imul ?_
        refine x_iadd ?_
        refine x_sipush ?_
        refine x_irem0 (by omega) ?_
        refine x_iast tg_310 (ln_310 L) (by omega) ?_
        exact rfl
      · decide
    apply t_B
    · refine x_iinc rfl rfl ?_
      exact rfl
    exact t_goeq (s3 (by rw [e, e8, ← eto]; rfl) (by rw [e]; exact au_w (by rw [eto]; rfl)))
  · unfold wX12_canMake_26
    apply t_Qs
    apply t_B
    · refine x_iload rfl ?_
      refine x_sipush ?_
      exact rfl
    exact t_ic_ge_t (by omega)
set_option maxRecDepth 10000 in
theorem s_canMake {d L : Nat} {I : Nat → Nat → Int} {R : Nat → Nat → Option Nat} {u : Int64} (hF : FixR R) {s f : Nat} (hT : Tabs I) (hN : Nr I) (hs : s < 6) (hf : f < 2) : am_run am_tb (d + 3) 175 [vR 301, vI s, vI f] (LH L I R u) = some ([vI (cmF (opr I s) (ply I f) (mz I) 2821).1], LH L (au I 310 (cmF (opr I s) (ply I f) (mz I) 2821).2) R u) := by
  refine run_of tb_X12_canMake (Nat.le_of_ble_eq_true rfl) ?_
  show ∃ ls', am_ev (am_run am_tb (d + 2)) tX12_canMake ([vR 301, vI s, vI f, vU, vU, vU, vU, vU, vU], [], (LH L I R u)) = some (1, ls', [vI (cmF (opr I s) (ply I f) (mz I) 2821).1], LH L (au I 310 (cmF (opr I s) (ply I f) (mz I) 2821).2) R u)
  have hb := cmF_b (f := (opr I s)) (g := (ply I f)) (m0 := mz I) (fun j hj => by unfold mz; rw [if_pos hj]; exact ⟨Int.le_refl 0, by decide⟩) 2821
  apply Exists.intro
  unfold tX12_canMake
  apply t_Q
  · apply t_S
    refine x_iconst ?_
    refine x_istore_n rfl ?_
    exact rfl
  apply t_Q
  · apply t_K
    apply t_W
    exact lp_canMake1 (d := d + 1) hF
  apply t_Q
  · apply t_S
    refine x_iconst ?_
    refine x_istore_n rfl ?_
    refine x_iconst ?_
    refine x_istore rfl ?_
    exact rfl
  apply t_Q
  · apply t_K
    apply t_W
    exact lp_canMake2 (d := d) hF hT hN hs hf
  apply t_B
  · refine x_iload_n rfl ?_
    exact rfl
  exact t_ireq (Or.inr hb.1) rfl rfl
