/-! The reference: reversed, of. Written by wip/whole/gen_31.py. -/
def rvc (f : Nat → Int) (k : Nat) : Int := if dw k % 2 = 1 then 10007 - f k else f k
def rvF (f : Nat → Int) : Nat → Nat → Int
  | 0 => fun _ => 0
  | k + 1 => if f k = 0 then rvF f k else adF 0 (dw k) (xw k) 0 (rvc f k) (rvF f k) (min (xw k) (dw k) + 1)
theorem rvF_b {f : Nat → Int} (k : Nat) : resd (rvF f k) := by
  induction k with
  | zero => exact fun _ _ => ⟨Int.le_refl 0, show (0 : Int) < 10007 by decide⟩
  | succ k ih =>
    show resd (if f k = 0 then rvF f k else adF 0 (dw k) (xw k) 0 (rvc f k) (rvF f k) (min (xw k) (dw k) + 1))
    split
    · exact ih
    · exact adF_b ih _
def opr (I : Nat → Nat → Int) (s k : Nat) : Int := I 302 (91 * s + k)
theorem opr_fe {I : Nat → Nat → Int} {s k : Nat} (h : k < 91) : opr I s k = fe I s k := by unfold opr fe; rw [if_pos h]
theorem wn_12 {k : Nat} (h : k < 91) : wn k ≤ 12 := wn_lt (by rw [show tri (12 + 1) = 91 by decide]; exact h)
set_option maxRecDepth 10000 in
theorem lp_reversed {d L : Nat} {I : Nat → Nat → Int} {R : Nat → Nat → Option Nat} {u : Int64} (hF : FixR R) {s t : Nat} (hT : Tabs I) (hN : Nr I) (ht : t < 6) : am_lp (am_ev (am_run am_tb (d + 2)) wX12_reversed_27) 27 am_F ([vR 301, vI s, vI t, vI 0, vU], [], LH L (sro I 25 (fun _ => 0)) R u) = some (102, ([vR 301, vI s, vI t, vI 91, gov (opr I t) 91], [], LH L (sro I 25 (rvF (opr I t) 91)) R u)) := by
  skip
  refine lp_up0 (fun k => ([vR 301, vI s, vI t, vI k, gov (opr I t) k], [], LH L (sro I 25 (rvF (opr I t) k)) R u)) (91) rfl (ltF (by first | decide | omega)) (by show ¬ 102 = 27 + 2; decide) (fun k hk => ?_) ?_
  · have hk5 : k < 496 := by omega
    have hwn := wn_12 hk
    have hxd := xw_dw k
    have hv := hN.1 (91 * t + k) (by omega)
    have hv2 : 0 ≤ opr I t k ∧ opr I t k < 10007 := hv
    by_cases c0 : opr I t k = 0
    · unfold wX12_reversed_27
      apply t_Q
      · apply t_B
        · refine x_iload_n rfl ?_
          refine x_bipush ?_
          exact rfl
        exact t_ic_ge_f (by omega)
      apply t_Q
      · apply t_S
        refine x_aload_n rfl ?_
        refine x_gr tg_301 rfl (fx_301_0 hF) ?_
        refine x_bipush ?_
        refine x_iload_n rfl ?_
        refine x_imul ?_
        refine x_iload_n rfl ?_
        refine x_iadd ?_
        refine x_ialdv (Or.inl tg_302) (ln_302 L) (by omega) (show _ = opr I t k from by rw [sro_o (by decide)]; exact congrArg (I 302) (by omega)) ?_
        refine x_istore rfl ?_
        refine x_iload rfl ?_
        exact rfl
      apply t_Q
      · apply t_K
        apply t_Qs
        apply t_B
        · exact rfl
        exact t_if_eq_t (by omega)
      apply t_B
      · refine x_iinc rfl rfl ?_
        exact rfl
      exact t_goeq (s3 rfl (show _ = sro I 25 (rvF (opr I t) (k + 1)) from by show _ = sro I 25 (if _ then _ else _); rw [if_pos c0]))
    have e2 : ((dw k : Nat) : Int) % 2 = ((dw k % 2 : Nat) : Int) := rfl
    by_cases c1 : dw k % 2 = 1
    · have hb2 : 0 ≤ 10007 - opr I t k ∧ 10007 - opr I t k < 10007 := by omega
      unfold wX12_reversed_27
      apply t_Q
      · apply t_B
        · refine x_iload_n rfl ?_
          refine x_bipush ?_
          exact rfl
        exact t_ic_ge_f (by omega)
      apply t_Q
      · apply t_S
        refine x_aload_n rfl ?_
        refine x_gr tg_301 rfl (fx_301_0 hF) ?_
        refine x_bipush ?_
        refine x_iload_n rfl ?_
        refine x_imul ?_
        refine x_iload_n rfl ?_
        refine x_iadd ?_
        refine x_ialdv (Or.inl tg_302) (ln_302 L) (by omega) (show _ = opr I t k from by rw [sro_o (by decide)]; exact congrArg (I 302) (by omega)) ?_
        refine x_istore rfl ?_
        refine x_iload rfl ?_
        exact rfl
      apply t_Q
      · apply t_Ks
        · apply t_Q
          · apply t_B
            · exact rfl
            exact t_if_eq_f (by omega)
          apply t_Q
          · apply t_S
            refine x_aload_n rfl ?_
            refine x_iconst ?_
            refine x_aload_n rfl ?_
            refine x_gr tg_301 rfl (fx_301_8 hF) ?_
            refine x_iload_n rfl ?_
            refine x_ialdv (Or.inl tg_308) (ln_308 L) (by omega) (show _ = ((dw k : Nat) : Int) from by rw [sro_o (by decide)]; exact hT.2.1 k hk5) ?_
            refine x_aload_n rfl ?_
            refine x_gr tg_301 rfl (fx_301_7 hF) ?_
            refine x_iload_n rfl ?_
            refine x_ialdv (Or.inl tg_307) (ln_307 L) (by omega) (show _ = ((xw k : Nat) : Int) from by rw [sro_o (by decide)]; exact hT.1 k hk5) ?_
            refine x_iconst ?_
            refine x_aload_n rfl ?_
            refine x_gr tg_301 rfl (fx_301_8 hF) ?_
            refine x_iload_n rfl ?_
            refine x_ialdv (Or.inl tg_308) (ln_308 L) (by omega) (show _ = ((dw k : Nat) : Int) from by rw [sro_o (by decide)]; exact hT.2.1 k hk5) ?_
            refine x_iconst ?_
            refine x_irem0 (by omega) ?_
            refine x_iconst ?_
            exact rfl
          apply t_Q
          · apply t_K
            apply t_Qs
            apply t_Ks
            · apply t_Q
              · apply t_B
                · exact rfl
                exact t_ic_ne_f (by omega)
              apply t_B
              · refine x_sipush ?_
                refine x_iload rfl ?_
                refine x_isub ?_
                exact rfl
              exact t_goto
            · decide
          apply t_S
          refine x_bipush ?_
          refine x_V7v tg_301 (Nat.le_of_ble_eq_true rfl) (s_adds (d := d) (p := 0) (j := 0) hF (rvF_b k) hT hb2 (by omega) (by decide)) ?_
          exact rfl
        · decide
      apply t_B
      · refine x_iinc rfl rfl ?_
        exact rfl
      exact t_goeq (s3 rfl (show _ = sro I 25 (rvF (opr I t) (k + 1)) from by show _ = sro I 25 (if _ then _ else adF 0 (dw k) (xw k) 0 (if dw k % 2 = 1 then 10007 - opr I t k else opr I t k) _ _); rw [if_neg c0, if_pos c1]))
    have hb2 := hv2
    unfold wX12_reversed_27
    apply t_Q
    · apply t_B
      · refine x_iload_n rfl ?_
        refine x_bipush ?_
        exact rfl
      exact t_ic_ge_f (by omega)
    apply t_Q
    · apply t_S
      refine x_aload_n rfl ?_
      refine x_gr tg_301 rfl (fx_301_0 hF) ?_
      refine x_bipush ?_
      refine x_iload_n rfl ?_
      refine x_imul ?_
      refine x_iload_n rfl ?_
      refine x_iadd ?_
      refine x_ialdv (Or.inl tg_302) (ln_302 L) (by omega) (show _ = opr I t k from by rw [sro_o (by decide)]; exact congrArg (I 302) (by omega)) ?_
      refine x_istore rfl ?_
      refine x_iload rfl ?_
      exact rfl
    apply t_Q
    · apply t_Ks
      · apply t_Q
        · apply t_B
          · exact rfl
          exact t_if_eq_f (by omega)
        apply t_Q
        · apply t_S
          refine x_aload_n rfl ?_
          refine x_iconst ?_
          refine x_aload_n rfl ?_
          refine x_gr tg_301 rfl (fx_301_8 hF) ?_
          refine x_iload_n rfl ?_
          refine x_ialdv (Or.inl tg_308) (ln_308 L) (by omega) (show _ = ((dw k : Nat) : Int) from by rw [sro_o (by decide)]; exact hT.2.1 k hk5) ?_
          refine x_aload_n rfl ?_
          refine x_gr tg_301 rfl (fx_301_7 hF) ?_
          refine x_iload_n rfl ?_
          refine x_ialdv (Or.inl tg_307) (ln_307 L) (by omega) (show _ = ((xw k : Nat) : Int) from by rw [sro_o (by decide)]; exact hT.1 k hk5) ?_
          refine x_iconst ?_
          refine x_aload_n rfl ?_
          refine x_gr tg_301 rfl (fx_301_8 hF) ?_
          refine x_iload_n rfl ?_
          refine x_ialdv (Or.inl tg_308) (ln_308 L) (by omega) (show _ = ((dw k : Nat) : Int) from by rw [sro_o (by decide)]; exact hT.2.1 k hk5) ?_
          refine x_iconst ?_
          refine x_irem0 (by omega) ?_
          refine x_iconst ?_
          exact rfl
        apply t_Q
        · apply t_Ks
          · apply t_Q
            · apply t_K
              apply t_Qs
              apply t_B
              · exact rfl
              exact t_ic_ne_t (by omega)
            apply t_S
            refine x_iload rfl ?_
            exact rfl
          · decide
        apply t_S
        refine x_bipush ?_
        refine x_V7v tg_301 (Nat.le_of_ble_eq_true rfl) (s_adds (d := d) (p := 0) (j := 0) hF (rvF_b k) hT hb2 (by omega) (by decide)) ?_
        exact rfl
      · decide
    apply t_B
    · refine x_iinc rfl rfl ?_
      exact rfl
    exact t_goeq (s3 rfl (show _ = sro I 25 (rvF (opr I t) (k + 1)) from by show _ = sro I 25 (if _ then _ else adF 0 (dw k) (xw k) 0 (if dw k % 2 = 1 then 10007 - opr I t k else opr I t k) _ _); rw [if_neg c0, if_neg c1]))
  · unfold wX12_reversed_27
    apply t_Qs
    apply t_B
    · refine x_iload_n rfl ?_
      refine x_bipush ?_
      exact rfl
    exact t_ic_ge_t (by omega)
set_option maxRecDepth 10000 in
theorem s_reversed_ok {d L : Nat} {I : Nat → Nat → Int} {R : Nat → Nat → Option Nat} {u : Int64} (hF : FixR R) (hR : Res I) (hT : Tabs I) (hN : Nr I) {n : Nat} (hn : I 301 2 = n) (h5 : n ≤ 5) {s t : Nat} (hs : s < 6) (ht : t < 6) : am_run am_tb (d + 4) 163 [vR 301, vI s, vI t] (LH L I R u) = some ([vI (cnt (rvF (opr I t) 91) 496 : Nat)], LH L (m_put (m_rem (sro I 25 (rvF (opr I t) 91)) n) s 25) R u) := by
  refine run_of tb_X12_reversed (Nat.le_of_ble_eq_true rfl) ?_
  show ∃ ls', am_ev (am_run am_tb (d + 3)) tX12_reversed ([vR 301, vI s, vI t, vU, vU], [], (LH L I R u)) = some (1, ls', [vI (cnt (rvF (opr I t) 91) 496 : Nat)], LH L (m_put (m_rem (sro I 25 (rvF (opr I t) 91)) n) s 25) R u)
  apply Exists.intro
  unfold tX12_reversed
  apply t_Q
  · apply t_S
    refine x_iload_n rfl ?_
    refine x_S1i (by decide) (Nat.le_of_ble_eq_true rfl) (ret_t (show 0 ≤ (s : Int) ∧ (s : Int) ≤ 5 from by omega) (s_isOperator (d := d + 1) (by omega))) ?_
    exact rfl
  apply t_Q
  · apply t_K
    apply t_Qs
    apply t_Ks
    · apply t_Q
      · apply t_B
        · exact rfl
        exact t_if_eq_f (by omega)
      apply t_B
      · refine x_iload_n rfl ?_
        refine x_S1i (by decide) (Nat.le_of_ble_eq_true rfl) (ret_t (show 0 ≤ (t : Int) ∧ (t : Int) ≤ 5 from by omega) (s_isOperator (d := d + 1) (by omega))) ?_
        exact rfl
      exact t_if_ne_t (by omega)
    · decide
  apply t_Q
  · apply t_S
    refine x_aload_n rfl ?_
    refine x_bipush ?_
    refine x_V2v tg_301 (Nat.le_of_ble_eq_true rfl) (s_wip (d := d + 2) hF (row := 25) (by decide)) ?_
    refine x_iconst ?_
    refine x_istore_n rfl ?_
    exact rfl
  apply t_Q
  · apply t_K
    apply t_W
    exact lp_reversed (d := d + 1) hF hT hN ht
  apply t_B
  · refine x_aload_n rfl ?_
    refine x_iload_n rfl ?_
    refine x_bipush ?_
    refine x_V3i tg_301 (Nat.le_of_ble_eq_true rfl) (s_keepF (d := d) hF (Res_s hR (rvF_b 91)) (fun k hk => gro_s hk) (by rw [sro_o (by decide)]; exact hn) h5 hs (by decide)) ?_
    exact rfl
  exact t_ireq (Or.inl rfl) rfl rfl
def grF (f : Nat → Int) (a b : Int) : Nat → Int
  | 0 => -99
  | k + 1 => if ¬ f k = 0 ∧ grF f a b k < a * (xw k : Nat) + b * (dw k : Nat) then a * (xw k : Nat) + b * (dw k : Nat) else grF f a b k
def gvv (a b : Int) : Nat → am_V
  | 0 => vU
  | k + 1 => vI (a * (xw k : Nat) + b * (dw k : Nat))
theorem m1b {a x : Int} (h1 : -1 ≤ a ∧ a ≤ 1) (h2 : 0 ≤ x) : -x ≤ a * x ∧ a * x ≤ x := by
  rcases (show a = -1 ∨ a = 0 ∨ a = 1 by omega) with e | e | e <;> subst e <;> omega
theorem grF_b {f : Nat → Int} {a b : Int} (ha : -1 ≤ a ∧ a ≤ 1) (hb : -1 ≤ b ∧ b ≤ 1) {k : Nat} (hk : k ≤ 91) : -99 ≤ grF f a b k ∧ grF f a b k ≤ 24 := by
  induction k with
  | zero => exact ⟨Int.le_refl _, show (-99 : Int) ≤ 24 by decide⟩
  | succ k ih =>
    have i := ih (by omega)
    have hx := xw_dw k
    have hw := wn_12 (show k < 91 by omega)
    have p := m1b (x := (xw k : Nat)) ha (by omega)
    have q := m1b (x := (dw k : Nat)) hb (by omega)
    have e : grF f a b (k + 1) = if ¬ f k = 0 ∧ grF f a b k < a * (xw k : Nat) + b * (dw k : Nat) then a * (xw k : Nat) + b * (dw k : Nat) else grF f a b k := rfl
    by_cases c : ¬ f k = 0 ∧ grF f a b k < a * (xw k : Nat) + b * (dw k : Nat)
    · rw [e, if_pos c]; omega
    · rw [e, if_neg c]; omega
set_option maxRecDepth 10000 in
theorem lp_greatest {d L : Nat} {I : Nat → Nat → Int} {R : Nat → Nat → Option Nat} {u : Int64} (hF : FixR R) {s : Nat} {a b : Int} (hT : Tabs I) (hN : Nr I) (hs : s < 6) (ha : -1 ≤ a ∧ a ≤ 1) (hb : -1 ≤ b ∧ b ≤ 1) : am_lp (am_ev (am_run am_tb (d + 1)) wX12_greatest_7) 7 am_F ([vR 301, vI s, vI a, vI b, vI (-99), vI 0, vU], [], LH L I R u) = some (74, ([vR 301, vI s, vI a, vI b, vI (grF (opr I s) a b 91), vI 91, gvv a b 91], [], LH L I R u)) := by
  skip
  refine lp_up0 (fun k => ([vR 301, vI s, vI a, vI b, vI (grF (opr I s) a b k), vI k, gvv a b k], [], LH L I R u)) (91) rfl (ltF (by first | decide | omega)) (by show ¬ 74 = 7 + 2; decide) (fun k hk => ?_) ?_
  · have hk5 : k < 496 := by omega
    have hx := xw_dw k
    have hw := wn_12 hk
    have p := m1b (x := (xw k : Nat)) ha (by omega)
    have q := m1b (x := (dw k : Nat)) hb (by omega)
    have g := grF_b (f := opr I s) ha hb (show k ≤ 91 by omega)
    have hv : 0 ≤ opr I s k ∧ opr I s k < 10007 := hN.1 (91 * s + k) (by omega)
    by_cases c0 : opr I s k = 0
    · unfold wX12_greatest_7
      apply t_Q
      · apply t_B
        · refine x_iload rfl ?_
          refine x_bipush ?_
          exact rfl
        exact t_ic_ge_f (by omega)
      apply t_Q
      · apply t_S
        refine x_iload_n rfl ?_
        refine x_aload_n rfl ?_
        refine x_gr tg_301 rfl (fx_301_7 hF) ?_
        refine x_iload rfl ?_
        refine x_ialdv (Or.inl tg_307) (ln_307 L) (by omega) (show _ = ((xw k : Nat) : Int) from hT.1 k hk5) ?_
        refine x_imul ?_
        refine x_iload_n rfl ?_
        refine x_aload_n rfl ?_
        refine x_gr tg_301 rfl (fx_301_8 hF) ?_
        refine x_iload rfl ?_
        refine x_ialdv (Or.inl tg_308) (ln_308 L) (by omega) (show _ = ((dw k : Nat) : Int) from hT.2.1 k hk5) ?_
        refine x_imul ?_
        refine x_iadd ?_
        refine x_istore rfl ?_
        refine x_aload_n rfl ?_
        refine x_gr tg_301 rfl (fx_301_0 hF) ?_
        refine x_bipush ?_
        refine x_iload_n rfl ?_
        refine x_imul ?_
        refine x_iload rfl ?_
        refine x_iadd ?_
        refine x_ialdv (Or.inl tg_302) (ln_302 L) (by omega) (show _ = opr I s k from congrArg (I 302) (by omega)) ?_
        exact rfl
      apply t_Q
      · apply t_Ks
        · apply t_Q
          · apply t_K
            apply t_Qs
            apply t_B
            · exact rfl
            exact t_if_eq_t (by omega)
          apply t_S
          refine x_iload rfl ?_
          exact rfl
        · decide
      apply t_B
      · refine x_istore rfl ?_
        refine x_iinc rfl rfl ?_
        exact rfl
      exact t_goeq (s3 (congrArg (fun z => [vR 301, vI s, vI a, vI b, vI z, vI ((k : Int) + 1), vI (a * (xw k : Nat) + b * (dw k : Nat))]) (by show _ = (if ¬ opr I s k = 0 ∧ grF (opr I s) a b k < a * (xw k : Nat) + b * (dw k : Nat) then _ else _); rw [if_neg (fun q => q.1 c0)])) rfl)
    by_cases c1 : grF (opr I s) a b k < a * (xw k : Nat) + b * (dw k : Nat)
    · unfold wX12_greatest_7
      apply t_Q
      · apply t_B
        · refine x_iload rfl ?_
          refine x_bipush ?_
          exact rfl
        exact t_ic_ge_f (by omega)
      apply t_Q
      · apply t_S
        refine x_iload_n rfl ?_
        refine x_aload_n rfl ?_
        refine x_gr tg_301 rfl (fx_301_7 hF) ?_
        refine x_iload rfl ?_
        refine x_ialdv (Or.inl tg_307) (ln_307 L) (by omega) (show _ = ((xw k : Nat) : Int) from hT.1 k hk5) ?_
        refine x_imul ?_
        refine x_iload_n rfl ?_
        refine x_aload_n rfl ?_
        refine x_gr tg_301 rfl (fx_301_8 hF) ?_
        refine x_iload rfl ?_
        refine x_ialdv (Or.inl tg_308) (ln_308 L) (by omega) (show _ = ((dw k : Nat) : Int) from hT.2.1 k hk5) ?_
        refine x_imul ?_
        refine x_iadd ?_
        refine x_istore rfl ?_
        refine x_aload_n rfl ?_
        refine x_gr tg_301 rfl (fx_301_0 hF) ?_
        refine x_bipush ?_
        refine x_iload_n rfl ?_
        refine x_imul ?_
        refine x_iload rfl ?_
        refine x_iadd ?_
        refine x_ialdv (Or.inl tg_302) (ln_302 L) (by omega) (show _ = opr I s k from congrArg (I 302) (by omega)) ?_
        exact rfl
      apply t_Q
      · apply t_K
        apply t_Qs
        apply t_Ks
        · apply t_Q
          · apply t_B
            · exact rfl
            exact t_if_eq_f (by omega)
          apply t_Q
          · apply t_B
            · refine x_iload rfl ?_
              refine x_iload rfl ?_
              exact rfl
            exact t_ic_le_f (by omega)
          apply t_B
          · refine x_iload rfl ?_
            exact rfl
          exact t_goto
        · decide
      apply t_B
      · refine x_istore rfl ?_
        refine x_iinc rfl rfl ?_
        exact rfl
      exact t_goeq (s3 (congrArg (fun z => [vR 301, vI s, vI a, vI b, vI z, vI ((k : Int) + 1), vI (a * (xw k : Nat) + b * (dw k : Nat))]) (by show _ = (if ¬ opr I s k = 0 ∧ grF (opr I s) a b k < a * (xw k : Nat) + b * (dw k : Nat) then _ else _); rw [if_pos ⟨c0, c1⟩])) rfl)
    unfold wX12_greatest_7
    apply t_Q
    · apply t_B
      · refine x_iload rfl ?_
        refine x_bipush ?_
        exact rfl
      exact t_ic_ge_f (by omega)
    apply t_Q
    · apply t_S
      refine x_iload_n rfl ?_
      refine x_aload_n rfl ?_
      refine x_gr tg_301 rfl (fx_301_7 hF) ?_
      refine x_iload rfl ?_
      refine x_ialdv (Or.inl tg_307) (ln_307 L) (by omega) (show _ = ((xw k : Nat) : Int) from hT.1 k hk5) ?_
      refine x_imul ?_
      refine x_iload_n rfl ?_
      refine x_aload_n rfl ?_
      refine x_gr tg_301 rfl (fx_301_8 hF) ?_
      refine x_iload rfl ?_
      refine x_ialdv (Or.inl tg_308) (ln_308 L) (by omega) (show _ = ((dw k : Nat) : Int) from hT.2.1 k hk5) ?_
      refine x_imul ?_
      refine x_iadd ?_
      refine x_istore rfl ?_
      refine x_aload_n rfl ?_
      refine x_gr tg_301 rfl (fx_301_0 hF) ?_
      refine x_bipush ?_
      refine x_iload_n rfl ?_
      refine x_imul ?_
      refine x_iload rfl ?_
      refine x_iadd ?_
      refine x_ialdv (Or.inl tg_302) (ln_302 L) (by omega) (show _ = opr I s k from congrArg (I 302) (by omega)) ?_
      exact rfl
    apply t_Q
    · apply t_Ks
      · apply t_Q
        · apply t_K
          apply t_Q
          · apply t_B
            · exact rfl
            exact t_if_eq_f (by omega)
          apply t_Qs
          apply t_B
          · refine x_iload rfl ?_
            refine x_iload rfl ?_
            exact rfl
          exact t_ic_le_t (by omega)
        apply t_S
        refine x_iload rfl ?_
        exact rfl
      · decide
    apply t_B
    · refine x_istore rfl ?_
      refine x_iinc rfl rfl ?_
      exact rfl
    exact t_goeq (s3 (congrArg (fun z => [vR 301, vI s, vI a, vI b, vI z, vI ((k : Int) + 1), vI (a * (xw k : Nat) + b * (dw k : Nat))]) (by show _ = (if ¬ opr I s k = 0 ∧ grF (opr I s) a b k < a * (xw k : Nat) + b * (dw k : Nat) then _ else _); rw [if_neg (fun q => c1 q.2)])) rfl)
  · unfold wX12_greatest_7
    apply t_Qs
    apply t_B
    · refine x_iload rfl ?_
      refine x_bipush ?_
      exact rfl
    exact t_ic_ge_t (by omega)
set_option maxRecDepth 10000 in
theorem s_greatest {d L : Nat} {I : Nat → Nat → Int} {R : Nat → Nat → Option Nat} {u : Int64} (hF : FixR R) {s : Nat} {a b : Int} (hT : Tabs I) (hN : Nr I) (hs : s < 6) (ha : -1 ≤ a ∧ a ≤ 1) (hb : -1 ≤ b ∧ b ≤ 1) : am_run am_tb (d + 2) 164 [vR 301, vI s, vI a, vI b] (LH L I R u) = some ([vI (grF (opr I s) a b 91)], LH L I R u) := by
  refine run_of tb_X12_greatest (Nat.le_of_ble_eq_true rfl) ?_
  show ∃ ls', am_ev (am_run am_tb (d + 1)) tX12_greatest ([vR 301, vI s, vI a, vI b, vU, vU, vU], [], (LH L I R u)) = some (1, ls', [vI (grF (opr I s) a b 91)], LH L I R u)
  apply Exists.intro
  unfold tX12_greatest
  apply t_Q
  · apply t_S
    refine x_bipush ?_
    refine x_istore rfl ?_
    refine x_iconst ?_
    refine x_istore rfl ?_
    exact rfl
  apply t_Q
  · apply t_K
    apply t_W
    exact lp_greatest (d := d) hF hT hN hs ha hb
  apply t_B
  · refine x_iload rfl ?_
    exact rfl
  exact t_ireq (Or.inl rfl) rfl rfl
theorem led_some {o : Int} {f : Nat → Int} (h : zt f ≠ 496) : ∃ w, w < 496 ∧ led o f = (w : Nat) ∧ f w ≠ 0 := by
  have hle := zt_le f
  have hy := zt_yes h
  have hlt : 495 - zt f < 496 := by omega
  have hn := wn_30 hlt
  have hx := xw_dw (495 - zt f)
  have key : ∃ k, k < wn (495 - zt f) + 1 ∧ wb o (wn (495 - zt f)) k = 495 - zt f := by
    by_cases c : o = 0
    · refine ⟨xw (495 - zt f), by omega, ?_⟩
      unfold wb
      rw [if_pos c, show wn (495 - zt f) - xw (495 - zt f) = dw (495 - zt f) by omega]
      exact pl_w _
    · refine ⟨dw (495 - zt f), by omega, ?_⟩
      unfold wb
      rw [if_neg c, show wn (495 - zt f) - dw (495 - zt f) = xw (495 - zt f) by omega]
      exact pl_w _
  obtain ⟨k, hk, e⟩ := key
  have hne : lfn o f (wn (495 - zt f)) ≠ wn (495 - zt f) + 1 := by
    intro q
    have := lfn_no (o := o) (f := f) (n := wn (495 - zt f)) (k := k) (by omega)
    rw [e] at this
    exact hy this
  have hl := lfn_le (o := o) (f := f) (n := wn (495 - zt f))
  refine ⟨wb o (wn (495 - zt f)) (lfn o f (wn (495 - zt f))), wb_496 hn (by omega), ?_, lfn_yes (by omega)⟩
  rw [led_eq h, if_neg hne]
theorem cnt_0 {f : Nat → Int} {n : Nat} (h : cnt f n = 0) : ∀ k, k < n → f k = 0 := by
  induction n with
  | zero => intro k hk; omega
  | succ n ih =>
    change cnt f n + (if f n = 0 then 0 else 1) = 0 at h
    intro k hk
    by_cases e : k = n
    · subst e
      refine Decidable.byContradiction fun q => ?_
      rw [if_neg q] at h
      omega
    · exact ih (by omega) k (by omega)
theorem cnt_zt {f : Nat → Int} (h : cnt f 496 ≠ 0) : zt f ≠ 496 := by
  intro q
  apply h
  have hz : ∀ n, n ≤ 496 → cnt f n = 0 := by
    intro n
    induction n with
    | zero => intro _; rfl
    | succ n ih =>
      intro hn
      show cnt f n + (if f n = 0 then 0 else 1) = 0
      have := zt_no (f := f) (k := 495 - n) (by omega)
      rw [show 495 - (495 - n) = n by omega] at this
      rw [ih (by omega), if_pos this]
  exact hz 496 (Nat.le_refl _)
/-- what a call of 'of' asks of a lead -/
def ofl (f : Nat → Int) (w : Nat) (what : Int) : Int := if what = 6 then (xw w : Nat) else if what = 7 then (dw w : Nat) else tl (f w)
set_option maxRecDepth 10000 in
theorem s_ofLead {d L : Nat} {I : Nat → Nat → Int} {R : Nat → Nat → Option Nat} {u : Int64} (hF : FixR R) (hR : Res I) (hT : Tabs I) {o : Int} (ho : I 302 608 = o) (h0 : o = 0 ∨ o = 1) {w : Nat} {what : Int} (hw : w < 496) (hl : led o (gro I 24) = (w : Nat)) (hq : inR what) : am_run am_tb (d + 4) 165 [vR 301, vI what] (LH L I R u) = some ([vI (ofl (gro I 24) w what)], LH L I R u) := by
  refine run_of tb_X12_ofLead (Nat.le_of_ble_eq_true rfl) ?_
  show ∃ ls', am_ev (am_run am_tb (d + 3)) tX12_ofLead ([vR 301, vI what, vU], [], (LH L I R u)) = some (1, ls', [vI (ofl (gro I 24) w what)], LH L I R u)
  have hv := Res_g hR 24 w
  by_cases c6 : what = 6
  · apply Exists.intro
    unfold tX12_ofLead
    apply t_Q
    · apply t_S
      refine x_aload_n rfl ?_
      refine x_bipush ?_
      refine x_V2i tg_301 (Nat.le_of_ble_eq_true rfl) ((s_leadIn (d := d) hF hR hT ho h0 (row := 24) (by decide)).trans (by rw [hl])) ?_
      refine x_istore_n rfl ?_
      refine x_iload_n rfl ?_
      refine x_bipush ?_
      exact rfl
    apply t_Q
    · apply t_K
      apply t_Qs
      apply t_Ks
      · apply t_Q
        · apply t_B
          · exact rfl
          exact t_ic_ne_f (by omega)
        apply t_B
        · refine x_aload_n rfl ?_
          refine x_gr tg_301 rfl (fx_301_7 hF) ?_
          refine x_iload_n rfl ?_
          refine x_ialdv (Or.inl tg_307) (ln_307 L) (by omega) (show _ = ((xw w : Nat) : Int) from hT.1 w hw) ?_
          exact rfl
        exact t_goto
      · decide
    apply t_B
    · exact rfl
    exact t_ireq (Or.inl rfl) (by unfold ofl; rw [if_pos c6]) rfl
  by_cases c7 : what = 7
  · apply Exists.intro
    unfold tX12_ofLead
    apply t_Q
    · apply t_S
      refine x_aload_n rfl ?_
      refine x_bipush ?_
      refine x_V2i tg_301 (Nat.le_of_ble_eq_true rfl) ((s_leadIn (d := d) hF hR hT ho h0 (row := 24) (by decide)).trans (by rw [hl])) ?_
      refine x_istore_n rfl ?_
      refine x_iload_n rfl ?_
      refine x_bipush ?_
      exact rfl
    apply t_Q
    · apply t_K
      apply t_Q
      · apply t_K
        apply t_Qs
        apply t_B
        · exact rfl
        exact t_ic_ne_t (by omega)
      apply t_Q
      · apply t_S
        refine x_iload_n rfl ?_
        refine x_bipush ?_
        exact rfl
      apply t_Qs
      apply t_Ks
      · apply t_Q
        · apply t_B
          · exact rfl
          exact t_ic_ne_f (by omega)
        apply t_B
        · refine x_aload_n rfl ?_
          refine x_gr tg_301 rfl (fx_301_8 hF) ?_
          refine x_iload_n rfl ?_
          refine x_ialdv (Or.inl tg_308) (ln_308 L) (by omega) (show _ = ((dw w : Nat) : Int) from hT.2.1 w hw) ?_
          exact rfl
        exact t_goto
      · decide
    apply t_B
    · exact rfl
    exact t_ireq (Or.inl rfl) (by unfold ofl; rw [if_neg c6, if_pos c7]) rfl
  apply Exists.intro
  unfold tX12_ofLead
  apply t_Q
  · apply t_S
    refine x_aload_n rfl ?_
    refine x_bipush ?_
    refine x_V2i tg_301 (Nat.le_of_ble_eq_true rfl) ((s_leadIn (d := d) hF hR hT ho h0 (row := 24) (by decide)).trans (by rw [hl])) ?_
    refine x_istore_n rfl ?_
    refine x_iload_n rfl ?_
    refine x_bipush ?_
    exact rfl
  apply t_Q
  · apply t_Ks
    · apply t_Q
      · apply t_K
        apply t_Qs
        apply t_B
        · exact rfl
        exact t_ic_ne_t (by omega)
      apply t_Q
      · apply t_S
        refine x_iload_n rfl ?_
        refine x_bipush ?_
        exact rfl
      apply t_Q
      · apply t_K
        apply t_Qs
        apply t_B
        · exact rfl
        exact t_ic_ne_t (by omega)
      apply t_S
      refine x_aload_n rfl ?_
      refine x_gr tg_301 rfl (fx_301_6 hF) ?_
      refine x_sipush ?_
      refine x_iload_n rfl ?_
      refine x_iadd ?_
      refine x_wld 24 w (by omega) rfl ?_
      refine x_S1i (by decide) (Nat.le_of_ble_eq_true rfl) (s_tell (d := d + 2) (by omega)) ?_
      exact rfl
    · decide
  apply t_B
  · exact rfl
  exact t_ireq (Or.inl rfl) (by unfold ofl; rw [if_neg c6, if_neg c7]; rfl) rfl
def abt (o : Int) (f : Nat → Int) (what : Int) : Int := if what = 0 ∨ cnt f 496 = 0 then (if what = 0 ∨ what = 8 then ((cnt f 496 : Nat) : Int) else -20001) else if what = 1 then dgr f else if what = 2 then grF f 1 0 91 else if what = 3 then grF f 0 1 91 else if what = 4 then grF f (-1) 1 91 else if what = 5 then - grF f 1 (-1) 91 else ofl f (led o f).toNat what
theorem grF_c {f g : Nat → Int} {a b : Int} {k : Nat} (h : ∀ j, j < k → f j = g j) : grF f a b k = grF g a b k := by
  induction k with
  | zero => rfl
  | succ k ih =>
    show (if ¬ f k = 0 ∧ grF f a b k < _ then _ else grF f a b k) = (if ¬ g k = 0 ∧ grF g a b k < _ then _ else grF g a b k)
    rw [ih (fun j hj => h j (by omega)), h k (by omega)]
theorem led_c {o : Int} {f g : Nat → Int} (h : ∀ k, k < 496 → f k = g k) : led o f = led o g := by
  have hz := zt_c h
  by_cases c : zt f = 496
  · unfold led
    rw [if_pos c, if_pos (hz ▸ c)]
  · have hn := wn_30 (show 495 - zt f < 496 by have := zt_le f; omega)
    have hl : lfn o f (wn (495 - zt f)) = lfn o g (wn (495 - zt g)) := by
      unfold lfn
      rw [← hz]
      have : ∀ m, m ≤ wn (495 - zt f) + 1 → fnd (fun k => decide (¬ f (wb o (wn (495 - zt f)) k) = 0)) m = fnd (fun k => decide (¬ g (wb o (wn (495 - zt f)) k) = 0)) m := by
        intro m
        induction m with
        | zero => intro _; rfl
        | succ m ih =>
          intro hm
          show (if fnd _ m < m then fnd _ m else if decide (¬ f (wb o (wn (495 - zt f)) m) = 0) = true then m else m + 1) = (if fnd _ m < m then fnd _ m else if decide (¬ g (wb o (wn (495 - zt f)) m) = 0) = true then m else m + 1)
          rw [ih (by omega), h _ (wb_496 hn (by omega))]
      exact this _ (Nat.le_refl _)
    rw [led_eq c, led_eq (hz ▸ c), hl, hz]
set_option maxRecDepth 10000 in
theorem s_aboutOf {d L : Nat} {I : Nat → Nat → Int} {R : Nat → Nat → Option Nat} {u : Int64} (hF : FixR R) (hR : Res I) (hT : Tabs I) (hN : Nr I) {o : Int} (ho : I 302 608 = o) {s : Nat} (hs : s < 6) {what : Int} (hq : 0 ≤ what ∧ what ≤ 8) : am_run am_tb (d + 5) 166 [vR 301, vI s, vI what] (LH L I R u) = some ([vI (abt o (fe I s) what)], LH L (sro I 24 (fe I s)) R u) := by
  refine run_of tb_X12_aboutOf (Nat.le_of_ble_eq_true rfl) ?_
  show ∃ ls', am_ev (am_run am_tb (d + 4)) tX12_aboutOf ([vR 301, vI s, vI what, vU], [], (LH L I R u)) = some (1, ls', [vI (abt o (fe I s) what)], LH L (sro I 24 (fe I s)) R u)
  have hA : ∀ k, k < 496 → gro (sro I 24 (fe I s)) 24 k = fe I s k := fun k hk => gro_s hk
  have hR2 : Res (sro I 24 (fe I s)) := Res_s hR (fe_b hN hs)
  have hT2 : Tabs (sro I 24 (fe I s)) := Tabs_s hT
  have ho2 : (sro I 24 (fe I s)) 302 608 = o := by rw [sro_o (by decide)]; exact ho
  have h0 : o = 0 ∨ o = 1 := ho ▸ hN.2
  have hN2 : Nr (sro I 24 (fe I s)) := by unfold Nr; rw [sro_o (by decide)]; exact hN
  have hcl := cnt_le (fe I s) 496
  have hop : ∀ a b, grF (opr (sro I 24 (fe I s)) s) a b 91 = grF (fe I s) a b 91 := fun a b => grF_c (fun j hj => by unfold opr; rw [sro_o (by decide)]; exact opr_fe hj)
  by_cases c0 : what = 0
  · apply Exists.intro
    unfold tX12_aboutOf
    apply t_Q
    · apply t_S
      refine x_aload_n rfl ?_
      refine x_iload_n rfl ?_
      refine x_bipush ?_
      refine x_V3v tg_301 (Nat.le_of_ble_eq_true rfl) (s_fetches (d := d + 2) hF (s := s) (row := 24) hs (by decide)) ?_
      refine x_aload_n rfl ?_
      refine x_bipush ?_
      refine x_V2i tg_301 (Nat.le_of_ble_eq_true rfl) ((s_termsIn (d := d + 2) hF hR2 (row := 24) (by decide)).trans (show _ = some ([vI (cnt (fe I s) 496 : Nat)], _) from by rw [cnt_c hA])) ?_
      refine x_istore_n rfl ?_
      refine x_iload_n rfl ?_
      exact rfl
    apply t_Qs
    apply t_Ks
    · apply t_Q
      · apply t_K
        apply t_Qs
        apply t_B
        · exact rfl
        exact t_if_eq_t (by omega)
      apply t_Q
      · apply t_S
        refine x_iload_n rfl ?_
        exact rfl
      apply t_Q
      · apply t_K
        apply t_Qs
        apply t_Ks
        · apply t_Q
          · apply t_K
            apply t_Qs
            apply t_B
            · exact rfl
            exact t_if_eq_t (by omega)
          apply t_B
          · refine x_iload_n rfl ?_
            exact rfl
          exact t_goto
        · decide
      apply t_B
      · exact rfl
      exact t_ireq (Or.inl rfl) (by unfold abt; rw [if_pos (Or.inl c0), if_pos (Or.inl c0)]) rfl
    · decide
  by_cases ct : cnt (fe I s) 496 = 0
  · by_cases c8 : what = 8
    · apply Exists.intro
      unfold tX12_aboutOf
      apply t_Q
      · apply t_S
        refine x_aload_n rfl ?_
        refine x_iload_n rfl ?_
        refine x_bipush ?_
        refine x_V3v tg_301 (Nat.le_of_ble_eq_true rfl) (s_fetches (d := d + 2) hF (s := s) (row := 24) hs (by decide)) ?_
        refine x_aload_n rfl ?_
        refine x_bipush ?_
        refine x_V2i tg_301 (Nat.le_of_ble_eq_true rfl) ((s_termsIn (d := d + 2) hF hR2 (row := 24) (by decide)).trans (show _ = some ([vI (cnt (fe I s) 496 : Nat)], _) from by rw [cnt_c hA])) ?_
        refine x_istore_n rfl ?_
        refine x_iload_n rfl ?_
        exact rfl
      apply t_Qs
      apply t_Ks
      · apply t_Q
        · apply t_Ks
          · apply t_Q
            · apply t_B
              · exact rfl
              exact t_if_eq_f (by omega)
            apply t_B
            · refine x_iload_n rfl ?_
              exact rfl
            exact t_if_ne_f (by omega)
          · decide
        apply t_Q
        · apply t_S
          refine x_iload_n rfl ?_
          exact rfl
        apply t_Q
        · apply t_K
          apply t_Qs
          apply t_Ks
          · apply t_Q
            · apply t_Ks
              · apply t_Q
                · apply t_B
                  · exact rfl
                  exact t_if_eq_f (by omega)
                apply t_B
                · refine x_iload_n rfl ?_
                  refine x_bipush ?_
                  exact rfl
                exact t_ic_ne_f (by omega)
              · decide
            apply t_B
            · refine x_iload_n rfl ?_
              exact rfl
            exact t_goto
          · decide
        apply t_B
        · exact rfl
        exact t_ireq (Or.inl rfl) (by unfold abt; rw [if_pos (Or.inr ct), if_pos (Or.inr c8)]) rfl
      · decide
    apply Exists.intro
    unfold tX12_aboutOf
    apply t_Q
    · apply t_S
      refine x_aload_n rfl ?_
      refine x_iload_n rfl ?_
      refine x_bipush ?_
      refine x_V3v tg_301 (Nat.le_of_ble_eq_true rfl) (s_fetches (d := d + 2) hF (s := s) (row := 24) hs (by decide)) ?_
      refine x_aload_n rfl ?_
      refine x_bipush ?_
      refine x_V2i tg_301 (Nat.le_of_ble_eq_true rfl) ((s_termsIn (d := d + 2) hF hR2 (row := 24) (by decide)).trans (show _ = some ([vI (cnt (fe I s) 496 : Nat)], _) from by rw [cnt_c hA])) ?_
      refine x_istore_n rfl ?_
      refine x_iload_n rfl ?_
      exact rfl
    apply t_Qs
    apply t_Ks
    · apply t_Q
      · apply t_Ks
        · apply t_Q
          · apply t_B
            · exact rfl
            exact t_if_eq_f (by omega)
          apply t_B
          · refine x_iload_n rfl ?_
            exact rfl
          exact t_if_ne_f (by omega)
        · decide
      apply t_Q
      · apply t_S
        refine x_iload_n rfl ?_
        exact rfl
      apply t_Q
      · apply t_Ks
        · apply t_Q
          · apply t_K
            apply t_Qs
            apply t_Ks
            · apply t_Q
              · apply t_B
                · exact rfl
                exact t_if_eq_f (by omega)
              apply t_B
              · refine x_iload_n rfl ?_
                refine x_bipush ?_
                exact rfl
              exact t_ic_ne_t (by omega)
            · decide
          apply t_S
          refine x_sipush ?_
          exact rfl
        · decide
      apply t_B
      · exact rfl
      exact t_ireq (Or.inl rfl) (by unfold abt; rw [if_pos (Or.inr ct), if_neg (by omega)]) rfl
    · decide
  have cc : ¬ (what = 0 ∨ cnt (fe I s) 496 = 0) := by omega
  by_cases c1 : what = 1
  · subst c1
    apply Exists.intro
    unfold tX12_aboutOf
    apply t_Q
    · apply t_S
      refine x_aload_n rfl ?_
      refine x_iload_n rfl ?_
      refine x_bipush ?_
      refine x_V3v tg_301 (Nat.le_of_ble_eq_true rfl) (s_fetches (d := d + 2) hF (s := s) (row := 24) hs (by decide)) ?_
      refine x_aload_n rfl ?_
      refine x_bipush ?_
      refine x_V2i tg_301 (Nat.le_of_ble_eq_true rfl) ((s_termsIn (d := d + 2) hF hR2 (row := 24) (by decide)).trans (show _ = some ([vI (cnt (fe I s) 496 : Nat)], _) from by rw [cnt_c hA])) ?_
      refine x_istore_n rfl ?_
      refine x_iload_n rfl ?_
      exact rfl
    apply t_Q
    · apply t_K
      apply t_Qs
      apply t_Ks
      · apply t_Q
        · apply t_B
          · exact rfl
          exact t_if_eq_f (by omega)
        apply t_B
        · refine x_iload_n rfl ?_
          exact rfl
        exact t_if_ne_t (by omega)
      · decide
    apply t_Q
    · apply t_S
      refine x_iload_n rfl ?_
      exact rfl
    apply t_Qs
    apply t_Ks
    · apply t_Qs
      apply t_Ks
      · apply t_Qs
        apply t_Ks
        · apply t_Qs
          apply t_Ks
          · apply t_Qs
            apply t_Ks
            · apply t_Q
              · apply t_K
                apply t_B
                · exact rfl
                exact t_swi (by omega) rfl
              apply t_B
              · refine x_aload_n rfl ?_
                refine x_bipush ?_
                refine x_V2i tg_301 (Nat.le_of_ble_eq_true rfl) ((s_degreeIn (d := d + 2) hF hR2 hT2 (row := 24) (by decide)).trans (by rw [dgr_c hA])) ?_
                exact rfl
              exact t_ireq (Or.inl rfl) (by unfold abt; rw [if_neg cc, if_pos rfl]) rfl
            · decide
          · decide
        · decide
      · decide
    · decide
  by_cases c2 : what = 2
  · subst c2
    apply Exists.intro
    unfold tX12_aboutOf
    apply t_Q
    · apply t_S
      refine x_aload_n rfl ?_
      refine x_iload_n rfl ?_
      refine x_bipush ?_
      refine x_V3v tg_301 (Nat.le_of_ble_eq_true rfl) (s_fetches (d := d + 2) hF (s := s) (row := 24) hs (by decide)) ?_
      refine x_aload_n rfl ?_
      refine x_bipush ?_
      refine x_V2i tg_301 (Nat.le_of_ble_eq_true rfl) ((s_termsIn (d := d + 2) hF hR2 (row := 24) (by decide)).trans (show _ = some ([vI (cnt (fe I s) 496 : Nat)], _) from by rw [cnt_c hA])) ?_
      refine x_istore_n rfl ?_
      refine x_iload_n rfl ?_
      exact rfl
    apply t_Q
    · apply t_K
      apply t_Qs
      apply t_Ks
      · apply t_Q
        · apply t_B
          · exact rfl
          exact t_if_eq_f (by omega)
        apply t_B
        · refine x_iload_n rfl ?_
          exact rfl
        exact t_if_ne_t (by omega)
      · decide
    apply t_Q
    · apply t_S
      refine x_iload_n rfl ?_
      exact rfl
    apply t_Qs
    apply t_Ks
    · apply t_Qs
      apply t_Ks
      · apply t_Qs
        apply t_Ks
        · apply t_Qs
          apply t_Ks
          · apply t_Q
            · apply t_K
              apply t_Qs
              apply t_Ks
              · apply t_B
                · exact rfl
                exact t_swi (by omega) rfl
              · decide
            apply t_B
            · refine x_aload_n rfl ?_
              refine x_iload_n rfl ?_
              refine x_iconst ?_
              refine x_iconst ?_
              refine x_V4i tg_301 (Nat.le_of_ble_eq_true rfl) ((s_greatest (d := d + 2) hF (I := (sro I 24 (fe I s))) (a := 1) (b := 0) hT2 hN2 hs (by omega) (by omega)).trans (by rw [hop])) ?_
              exact rfl
            exact t_ireq (Or.inl rfl) (by unfold abt; rw [if_neg cc, if_neg (by decide), if_pos rfl]) rfl
          · decide
        · decide
      · decide
    · decide
  by_cases c3 : what = 3
  · subst c3
    apply Exists.intro
    unfold tX12_aboutOf
    apply t_Q
    · apply t_S
      refine x_aload_n rfl ?_
      refine x_iload_n rfl ?_
      refine x_bipush ?_
      refine x_V3v tg_301 (Nat.le_of_ble_eq_true rfl) (s_fetches (d := d + 2) hF (s := s) (row := 24) hs (by decide)) ?_
      refine x_aload_n rfl ?_
      refine x_bipush ?_
      refine x_V2i tg_301 (Nat.le_of_ble_eq_true rfl) ((s_termsIn (d := d + 2) hF hR2 (row := 24) (by decide)).trans (show _ = some ([vI (cnt (fe I s) 496 : Nat)], _) from by rw [cnt_c hA])) ?_
      refine x_istore_n rfl ?_
      refine x_iload_n rfl ?_
      exact rfl
    apply t_Q
    · apply t_K
      apply t_Qs
      apply t_Ks
      · apply t_Q
        · apply t_B
          · exact rfl
          exact t_if_eq_f (by omega)
        apply t_B
        · refine x_iload_n rfl ?_
          exact rfl
        exact t_if_ne_t (by omega)
      · decide
    apply t_Q
    · apply t_S
      refine x_iload_n rfl ?_
      exact rfl
    apply t_Qs
    apply t_Ks
    · apply t_Qs
      apply t_Ks
      · apply t_Qs
        apply t_Ks
        · apply t_Q
          · apply t_K
            apply t_Qs
            apply t_Ks
            · apply t_Qs
              apply t_Ks
              · apply t_B
                · exact rfl
                exact t_swi (by omega) rfl
              · decide
            · decide
          apply t_B
          · refine x_aload_n rfl ?_
            refine x_iload_n rfl ?_
            refine x_iconst ?_
            refine x_iconst ?_
            refine x_V4i tg_301 (Nat.le_of_ble_eq_true rfl) ((s_greatest (d := d + 2) hF (I := (sro I 24 (fe I s))) (a := 0) (b := 1) hT2 hN2 hs (by omega) (by omega)).trans (by rw [hop])) ?_
            exact rfl
          exact t_ireq (Or.inl rfl) (by unfold abt; rw [if_neg cc, if_neg (by decide), if_neg (by decide), if_pos rfl]) rfl
        · decide
      · decide
    · decide
  by_cases c4 : what = 4
  · subst c4
    apply Exists.intro
    unfold tX12_aboutOf
    apply t_Q
    · apply t_S
      refine x_aload_n rfl ?_
      refine x_iload_n rfl ?_
      refine x_bipush ?_
      refine x_V3v tg_301 (Nat.le_of_ble_eq_true rfl) (s_fetches (d := d + 2) hF (s := s) (row := 24) hs (by decide)) ?_
      refine x_aload_n rfl ?_
      refine x_bipush ?_
      refine x_V2i tg_301 (Nat.le_of_ble_eq_true rfl) ((s_termsIn (d := d + 2) hF hR2 (row := 24) (by decide)).trans (show _ = some ([vI (cnt (fe I s) 496 : Nat)], _) from by rw [cnt_c hA])) ?_
      refine x_istore_n rfl ?_
      refine x_iload_n rfl ?_
      exact rfl
    apply t_Q
    · apply t_K
      apply t_Qs
      apply t_Ks
      · apply t_Q
        · apply t_B
          · exact rfl
          exact t_if_eq_f (by omega)
        apply t_B
        · refine x_iload_n rfl ?_
          exact rfl
        exact t_if_ne_t (by omega)
      · decide
    apply t_Q
    · apply t_S
      refine x_iload_n rfl ?_
      exact rfl
    apply t_Qs
    apply t_Ks
    · apply t_Qs
      apply t_Ks
      · apply t_Q
        · apply t_K
          apply t_Qs
          apply t_Ks
          · apply t_Qs
            apply t_Ks
            · apply t_Qs
              apply t_Ks
              · apply t_B
                · exact rfl
                exact t_swi (by omega) rfl
              · decide
            · decide
          · decide
        apply t_B
        · refine x_aload_n rfl ?_
          refine x_iload_n rfl ?_
          refine x_iconst ?_
          refine x_iconst ?_
          refine x_V4i tg_301 (Nat.le_of_ble_eq_true rfl) ((s_greatest (d := d + 2) hF (I := (sro I 24 (fe I s))) (a := -1) (b := 1) hT2 hN2 hs (by omega) (by omega)).trans (by rw [hop])) ?_
          exact rfl
        exact t_ireq (Or.inl rfl) (by unfold abt; rw [if_neg cc, if_neg (by decide), if_neg (by decide), if_neg (by decide), if_pos rfl]) rfl
      · decide
    · decide
  by_cases c5 : what = 5
  · subst c5
    apply Exists.intro
    unfold tX12_aboutOf
    apply t_Q
    · apply t_S
      refine x_aload_n rfl ?_
      refine x_iload_n rfl ?_
      refine x_bipush ?_
      refine x_V3v tg_301 (Nat.le_of_ble_eq_true rfl) (s_fetches (d := d + 2) hF (s := s) (row := 24) hs (by decide)) ?_
      refine x_aload_n rfl ?_
      refine x_bipush ?_
      refine x_V2i tg_301 (Nat.le_of_ble_eq_true rfl) ((s_termsIn (d := d + 2) hF hR2 (row := 24) (by decide)).trans (show _ = some ([vI (cnt (fe I s) 496 : Nat)], _) from by rw [cnt_c hA])) ?_
      refine x_istore_n rfl ?_
      refine x_iload_n rfl ?_
      exact rfl
    apply t_Q
    · apply t_K
      apply t_Qs
      apply t_Ks
      · apply t_Q
        · apply t_B
          · exact rfl
          exact t_if_eq_f (by omega)
        apply t_B
        · refine x_iload_n rfl ?_
          exact rfl
        exact t_if_ne_t (by omega)
      · decide
    apply t_Q
    · apply t_S
      refine x_iload_n rfl ?_
      exact rfl
    apply t_Qs
    apply t_Ks
    · apply t_Q
      · apply t_K
        apply t_Qs
        apply t_Ks
        · apply t_Qs
          apply t_Ks
          · apply t_Qs
            apply t_Ks
            · apply t_Qs
              apply t_Ks
              · apply t_B
                · exact rfl
                exact t_swi (by omega) rfl
              · decide
            · decide
          · decide
        · decide
      apply t_B
      · refine x_aload_n rfl ?_
        refine x_iload_n rfl ?_
        refine x_iconst ?_
        refine x_iconst ?_
        refine x_V4i tg_301 (Nat.le_of_ble_eq_true rfl) ((s_greatest (d := d + 2) hF (I := (sro I 24 (fe I s))) (a := 1) (b := -1) hT2 hN2 hs (by omega) (by omega)).trans (by rw [hop])) ?_
        refine x_ineg ?_
        exact rfl
      exact t_ireq (Or.inl rfl) (by unfold abt; rw [if_neg cc, if_neg (by decide), if_neg (by decide), if_neg (by decide), if_neg (by decide), if_pos rfl]) rfl
    · decide
  obtain ⟨w, hw, hl, _⟩ := led_some (o := o) (cnt_zt ct)
  have e2 : ofl (gro (sro I 24 (fe I s)) 24) w what = ofl (fe I s) w what := by unfold ofl; rw [hA w hw]
  apply Exists.intro
  unfold tX12_aboutOf
  apply t_Q
  · apply t_S
    refine x_aload_n rfl ?_
    refine x_iload_n rfl ?_
    refine x_bipush ?_
    refine x_V3v tg_301 (Nat.le_of_ble_eq_true rfl) (s_fetches (d := d + 2) hF (s := s) (row := 24) hs (by decide)) ?_
    refine x_aload_n rfl ?_
    refine x_bipush ?_
    refine x_V2i tg_301 (Nat.le_of_ble_eq_true rfl) ((s_termsIn (d := d + 2) hF hR2 (row := 24) (by decide)).trans (show _ = some ([vI (cnt (fe I s) 496 : Nat)], _) from by rw [cnt_c hA])) ?_
    refine x_istore_n rfl ?_
    refine x_iload_n rfl ?_
    exact rfl
  apply t_Q
  · apply t_K
    apply t_Qs
    apply t_Ks
    · apply t_Q
      · apply t_B
        · exact rfl
        exact t_if_eq_f (by omega)
      apply t_B
      · refine x_iload_n rfl ?_
        exact rfl
      exact t_if_ne_t (by omega)
    · decide
  apply t_Q
  · apply t_S
    refine x_iload_n rfl ?_
    exact rfl
  apply t_Q
  · apply t_K
    apply t_Qs
    apply t_Ks
    · apply t_Qs
      apply t_Ks
      · apply t_Qs
        apply t_Ks
        · apply t_Qs
          apply t_Ks
          · apply t_Qs
            apply t_Ks
            · apply t_B
              · exact rfl
              exact t_swo (by omega)
            · decide
          · decide
        · decide
      · decide
    · decide
  apply t_B
  · refine x_aload_n rfl ?_
    refine x_iload_n rfl ?_
    refine x_V2i tg_301 (Nat.le_of_ble_eq_true rfl) ((s_ofLead (d := d) hF hR2 hT2 ho2 h0 hw (by rw [led_c hA]; exact hl) (by omega)).trans (by rw [e2])) ?_
    exact rfl
  exact t_ireq (Or.inl rfl) (by unfold abt; rw [if_neg cc, if_neg c1, if_neg c2, if_neg c3, if_neg c4, if_neg c5, hl]; rfl) rfl
set_option maxRecDepth 10000 in
theorem s_of_ok {d L : Nat} {I : Nat → Nat → Int} {R : Nat → Nat → Option Nat} {u : Int64} (hF : FixR R) (hR : Res I) (hT : Tabs I) (hN : Nr I) {o : Int} (ho : I 302 608 = o) {s : Nat} (hs : s < 6) {what : Int} (hq : 0 ≤ what ∧ what ≤ 8) : am_run am_tb (d + 6) 167 [vR 301, vI s, vI what] (LH L I R u) = some ([vI (abt o (fe I s) what)], LH L (sro I 24 (fe I s)) R u) := by
  refine run_of tb_X12_of (Nat.le_of_ble_eq_true rfl) ?_
  show ∃ ls', am_ev (am_run am_tb (d + 5)) tX12_of ([vR 301, vI s, vI what], [], (LH L I R u)) = some (1, ls', [vI (abt o (fe I s) what)], LH L (sro I 24 (fe I s)) R u)
  apply Exists.intro
  unfold tX12_of
  apply t_Q
  · apply t_S
    refine x_iload_n rfl ?_
    refine x_S1i (by decide) (Nat.le_of_ble_eq_true rfl) (ret_t (show 0 ≤ (s : Int) ∧ (s : Int) ≤ 5 from by omega) (s_isOperator (d := d + 3) (by omega))) ?_
    exact rfl
  apply t_Q
  · apply t_K
    apply t_Qs
    apply t_Ks
    · apply t_Q
      · apply t_B
        · exact rfl
        exact t_if_eq_f (by omega)
      apply t_Q
      · apply t_B
        · refine x_iload_n rfl ?_
          refine x_iconst ?_
          refine x_bipush ?_
          refine x_S3i (by decide) (Nat.le_of_ble_eq_true rfl) (ret_t hq (s_in (d := d + 4) (by omega) (by omega) (by omega))) ?_
          exact rfl
        exact t_if_eq_f (by omega)
      apply t_B
      · refine x_aload_n rfl ?_
        refine x_iload_n rfl ?_
        refine x_iload_n rfl ?_
        refine x_V3i tg_301 (Nat.le_of_ble_eq_true rfl) (s_aboutOf (d := d) hF hR hT hN ho hs hq) ?_
        exact rfl
      exact t_goto
    · decide
  apply t_B
  · exact rfl
  exact t_ireq (Or.inl rfl) rfl rfl
