/-! The reference: rows that are compared, exchanged, evened. Written by wip/whole/gen_39.py. -/
def ahd (o : Int) (w v : Nat) : Prop := wn v < wn w ∨ (wn w = wn v ∧ (o = 0 ∧ dw v < dw w ∨ o ≠ 0 ∧ xw v < xw w))

set_option maxRecDepth 10000 in
theorem s_isAhead {d L : Nat} {I : Nat → Nat → Int} {R : Nat → Nat → Option Nat} {u : Int64} (hF : FixR R) (hT : Tabs I) {o : Int} (ho : I 302 608 = o) (h0 : o = 0 ∨ o = 1) {w v : Nat} (hw : w < 496) (hv : v < 496) : am_run am_tb (d + 1) 194 [vR 301, vI w, vI v] (LH L I R u) = some ([vI (if wn v < wn w ∨ (wn w = wn v ∧ (o = 0 ∧ dw v < dw w ∨ o ≠ 0 ∧ xw v < xw w)) then 1 else 0)], LH L I R u) := by
  refine run_of tb_X12_isAhead (Nat.le_of_ble_eq_true rfl) ?_
  show ∃ ls', am_ev (am_run am_tb (d + 0)) tX12_isAhead ([vR 301, vI w, vI v, vU, vU], [], (LH L I R u)) = some (1, ls', [vI (if wn v < wn w ∨ (wn w = wn v ∧ (o = 0 ∧ dw v < dw w ∨ o ≠ 0 ∧ xw v < xw w)) then 1 else 0)], LH L I R u)
  have b1 := wn_30 hv
  have b2 := wn_30 hw
  have b3 := xw_dw v
  have b4 := xw_dw w
  by_cases c1 : wn v < wn w
  · apply Exists.intro
    unfold tX12_isAhead
    apply t_Q
    · apply t_S
      refine x_aload_n rfl ?_
      refine x_gr tg_301 rfl (fx_301_7 hF) ?_
      refine x_iload_n rfl ?_
      refine x_ialdv (Or.inl tg_307) (ln_307 L) (by omega) (show _ = ((xw w : Nat) : Int) from hT.1 w hw) ?_
      refine x_aload_n rfl ?_
      refine x_gr tg_301 rfl (fx_301_8 hF) ?_
      refine x_iload_n rfl ?_
      refine x_ialdv (Or.inl tg_308) (ln_308 L) (by omega) (show _ = ((dw w : Nat) : Int) from hT.2.1 w hw) ?_
      refine x_iadd ?_
      refine x_istore_n rfl ?_
      refine x_aload_n rfl ?_
      refine x_gr tg_301 rfl (fx_301_7 hF) ?_
      refine x_iload_n rfl ?_
      refine x_ialdv (Or.inl tg_307) (ln_307 L) (by omega) (show _ = ((xw v : Nat) : Int) from hT.1 v hv) ?_
      refine x_aload_n rfl ?_
      refine x_gr tg_301 rfl (fx_301_8 hF) ?_
      refine x_iload_n rfl ?_
      refine x_ialdv (Or.inl tg_308) (ln_308 L) (by omega) (show _ = ((dw v : Nat) : Int) from hT.2.1 v hv) ?_
      refine x_iadd ?_
      refine x_istore rfl ?_
      refine x_iload_n rfl ?_
      refine x_iload rfl ?_
      exact rfl
    apply t_Q
    · apply t_K
      apply t_Qs
      apply t_Ks
      · apply t_Q
        · apply t_K
          apply t_Qs
          apply t_B
          · exact rfl
          exact t_ic_gt_t (by omega)
        apply t_B
        · refine x_iconst ?_
          exact rfl
        exact t_goto
      · decide
    apply t_B
    · exact rfl
    exact t_ireq (Or.inr (Or.inr rfl)) (by rw [if_pos (by omega)]) rfl
  by_cases c2 : wn w = wn v
  · by_cases c3 : o = 0
    · by_cases c4 : dw v < dw w
      · apply Exists.intro
        unfold tX12_isAhead
        apply t_Q
        · apply t_S
          refine x_aload_n rfl ?_
          refine x_gr tg_301 rfl (fx_301_7 hF) ?_
          refine x_iload_n rfl ?_
          refine x_ialdv (Or.inl tg_307) (ln_307 L) (by omega) (show _ = ((xw w : Nat) : Int) from hT.1 w hw) ?_
          refine x_aload_n rfl ?_
          refine x_gr tg_301 rfl (fx_301_8 hF) ?_
          refine x_iload_n rfl ?_
          refine x_ialdv (Or.inl tg_308) (ln_308 L) (by omega) (show _ = ((dw w : Nat) : Int) from hT.2.1 w hw) ?_
          refine x_iadd ?_
          refine x_istore_n rfl ?_
          refine x_aload_n rfl ?_
          refine x_gr tg_301 rfl (fx_301_7 hF) ?_
          refine x_iload_n rfl ?_
          refine x_ialdv (Or.inl tg_307) (ln_307 L) (by omega) (show _ = ((xw v : Nat) : Int) from hT.1 v hv) ?_
          refine x_aload_n rfl ?_
          refine x_gr tg_301 rfl (fx_301_8 hF) ?_
          refine x_iload_n rfl ?_
          refine x_ialdv (Or.inl tg_308) (ln_308 L) (by omega) (show _ = ((dw v : Nat) : Int) from hT.2.1 v hv) ?_
          refine x_iadd ?_
          refine x_istore rfl ?_
          refine x_iload_n rfl ?_
          refine x_iload rfl ?_
          exact rfl
        apply t_Q
        · apply t_K
          apply t_Qs
          apply t_Ks
          · apply t_Q
            · apply t_K
              apply t_Q
              · apply t_B
                · exact rfl
                exact t_ic_gt_f (by omega)
              apply t_Q
              · apply t_B
                · refine x_iload_n rfl ?_
                  refine x_iload rfl ?_
                  exact rfl
                exact t_ic_ne_f (by omega)
              apply t_Q
              · apply t_S
                refine x_aload_n rfl ?_
                refine x_gr tg_301 rfl (fx_301_0 hF) ?_
                refine x_sipush ?_
                refine x_ialdv (Or.inl tg_302) (ln_302 L) (by omega) ho ?_
                exact rfl
              apply t_Qs
              apply t_Ks
              · apply t_Q
                · apply t_B
                  · exact rfl
                  exact t_if_ne_f (by omega)
                apply t_Q
                · apply t_B
                  · refine x_aload_n rfl ?_
                    refine x_gr tg_301 rfl (fx_301_8 hF) ?_
                    refine x_iload_n rfl ?_
                    refine x_ialdv (Or.inl tg_308) (ln_308 L) (by omega) (show _ = ((dw w : Nat) : Int) from hT.2.1 w hw) ?_
                    refine x_aload_n rfl ?_
                    refine x_gr tg_301 rfl (fx_301_8 hF) ?_
                    refine x_iload_n rfl ?_
                    refine x_ialdv (Or.inl tg_308) (ln_308 L) (by omega) (show _ = ((dw v : Nat) : Int) from hT.2.1 v hv) ?_
                    exact rfl
                  exact t_ic_le_f (by omega)
                apply t_B
                · exact rfl
                exact t_goto
              · decide
            apply t_B
            · refine x_iconst ?_
              exact rfl
            exact t_goto
          · decide
        apply t_B
        · exact rfl
        exact t_ireq (Or.inr (Or.inr rfl)) (by rw [if_pos (by omega)]) rfl
      apply Exists.intro
      unfold tX12_isAhead
      apply t_Q
      · apply t_S
        refine x_aload_n rfl ?_
        refine x_gr tg_301 rfl (fx_301_7 hF) ?_
        refine x_iload_n rfl ?_
        refine x_ialdv (Or.inl tg_307) (ln_307 L) (by omega) (show _ = ((xw w : Nat) : Int) from hT.1 w hw) ?_
        refine x_aload_n rfl ?_
        refine x_gr tg_301 rfl (fx_301_8 hF) ?_
        refine x_iload_n rfl ?_
        refine x_ialdv (Or.inl tg_308) (ln_308 L) (by omega) (show _ = ((dw w : Nat) : Int) from hT.2.1 w hw) ?_
        refine x_iadd ?_
        refine x_istore_n rfl ?_
        refine x_aload_n rfl ?_
        refine x_gr tg_301 rfl (fx_301_7 hF) ?_
        refine x_iload_n rfl ?_
        refine x_ialdv (Or.inl tg_307) (ln_307 L) (by omega) (show _ = ((xw v : Nat) : Int) from hT.1 v hv) ?_
        refine x_aload_n rfl ?_
        refine x_gr tg_301 rfl (fx_301_8 hF) ?_
        refine x_iload_n rfl ?_
        refine x_ialdv (Or.inl tg_308) (ln_308 L) (by omega) (show _ = ((dw v : Nat) : Int) from hT.2.1 v hv) ?_
        refine x_iadd ?_
        refine x_istore rfl ?_
        refine x_iload_n rfl ?_
        refine x_iload rfl ?_
        exact rfl
      apply t_Q
      · apply t_Ks
        · apply t_Q
          · apply t_K
            apply t_Qs
            apply t_Ks
            · apply t_Q
              · apply t_B
                · exact rfl
                exact t_ic_gt_f (by omega)
              apply t_Q
              · apply t_B
                · refine x_iload_n rfl ?_
                  refine x_iload rfl ?_
                  exact rfl
                exact t_ic_ne_f (by omega)
              apply t_Q
              · apply t_S
                refine x_aload_n rfl ?_
                refine x_gr tg_301 rfl (fx_301_0 hF) ?_
                refine x_sipush ?_
                refine x_ialdv (Or.inl tg_302) (ln_302 L) (by omega) ho ?_
                exact rfl
              apply t_Qs
              apply t_Ks
              · apply t_Q
                · apply t_B
                  · exact rfl
                  exact t_if_ne_f (by omega)
                apply t_Qs
                apply t_B
                · refine x_aload_n rfl ?_
                  refine x_gr tg_301 rfl (fx_301_8 hF) ?_
                  refine x_iload_n rfl ?_
                  refine x_ialdv (Or.inl tg_308) (ln_308 L) (by omega) (show _ = ((dw w : Nat) : Int) from hT.2.1 w hw) ?_
                  refine x_aload_n rfl ?_
                  refine x_gr tg_301 rfl (fx_301_8 hF) ?_
                  refine x_iload_n rfl ?_
                  refine x_ialdv (Or.inl tg_308) (ln_308 L) (by omega) (show _ = ((dw v : Nat) : Int) from hT.2.1 v hv) ?_
                  exact rfl
                exact t_ic_le_t (by omega)
              · decide
            · decide
          apply t_S
          refine x_iconst ?_
          exact rfl
        · decide
      apply t_B
      · exact rfl
      exact t_ireq (Or.inr (Or.inl rfl)) (by rw [if_neg (by omega)]) rfl
    by_cases c4 : xw v < xw w
    · apply Exists.intro
      unfold tX12_isAhead
      apply t_Q
      · apply t_S
        refine x_aload_n rfl ?_
        refine x_gr tg_301 rfl (fx_301_7 hF) ?_
        refine x_iload_n rfl ?_
        refine x_ialdv (Or.inl tg_307) (ln_307 L) (by omega) (show _ = ((xw w : Nat) : Int) from hT.1 w hw) ?_
        refine x_aload_n rfl ?_
        refine x_gr tg_301 rfl (fx_301_8 hF) ?_
        refine x_iload_n rfl ?_
        refine x_ialdv (Or.inl tg_308) (ln_308 L) (by omega) (show _ = ((dw w : Nat) : Int) from hT.2.1 w hw) ?_
        refine x_iadd ?_
        refine x_istore_n rfl ?_
        refine x_aload_n rfl ?_
        refine x_gr tg_301 rfl (fx_301_7 hF) ?_
        refine x_iload_n rfl ?_
        refine x_ialdv (Or.inl tg_307) (ln_307 L) (by omega) (show _ = ((xw v : Nat) : Int) from hT.1 v hv) ?_
        refine x_aload_n rfl ?_
        refine x_gr tg_301 rfl (fx_301_8 hF) ?_
        refine x_iload_n rfl ?_
        refine x_ialdv (Or.inl tg_308) (ln_308 L) (by omega) (show _ = ((dw v : Nat) : Int) from hT.2.1 v hv) ?_
        refine x_iadd ?_
        refine x_istore rfl ?_
        refine x_iload_n rfl ?_
        refine x_iload rfl ?_
        exact rfl
      apply t_Q
      · apply t_K
        apply t_Qs
        apply t_Ks
        · apply t_Q
          · apply t_Ks
            · apply t_Q
              · apply t_B
                · exact rfl
                exact t_ic_gt_f (by omega)
              apply t_Q
              · apply t_B
                · refine x_iload_n rfl ?_
                  refine x_iload rfl ?_
                  exact rfl
                exact t_ic_ne_f (by omega)
              apply t_Q
              · apply t_S
                refine x_aload_n rfl ?_
                refine x_gr tg_301 rfl (fx_301_0 hF) ?_
                refine x_sipush ?_
                refine x_ialdv (Or.inl tg_302) (ln_302 L) (by omega) ho ?_
                exact rfl
              apply t_Q
              · apply t_K
                apply t_Qs
                apply t_B
                · exact rfl
                exact t_if_ne_t (by omega)
              apply t_B
              · refine x_aload_n rfl ?_
                refine x_gr tg_301 rfl (fx_301_7 hF) ?_
                refine x_iload_n rfl ?_
                refine x_ialdv (Or.inl tg_307) (ln_307 L) (by omega) (show _ = ((xw w : Nat) : Int) from hT.1 w hw) ?_
                refine x_aload_n rfl ?_
                refine x_gr tg_301 rfl (fx_301_7 hF) ?_
                refine x_iload_n rfl ?_
                refine x_ialdv (Or.inl tg_307) (ln_307 L) (by omega) (show _ = ((xw v : Nat) : Int) from hT.1 v hv) ?_
                exact rfl
              exact t_ic_le_f (by omega)
            · decide
          apply t_B
          · refine x_iconst ?_
            exact rfl
          exact t_goto
        · decide
      apply t_B
      · exact rfl
      exact t_ireq (Or.inr (Or.inr rfl)) (by rw [if_pos (by omega)]) rfl
    apply Exists.intro
    unfold tX12_isAhead
    apply t_Q
    · apply t_S
      refine x_aload_n rfl ?_
      refine x_gr tg_301 rfl (fx_301_7 hF) ?_
      refine x_iload_n rfl ?_
      refine x_ialdv (Or.inl tg_307) (ln_307 L) (by omega) (show _ = ((xw w : Nat) : Int) from hT.1 w hw) ?_
      refine x_aload_n rfl ?_
      refine x_gr tg_301 rfl (fx_301_8 hF) ?_
      refine x_iload_n rfl ?_
      refine x_ialdv (Or.inl tg_308) (ln_308 L) (by omega) (show _ = ((dw w : Nat) : Int) from hT.2.1 w hw) ?_
      refine x_iadd ?_
      refine x_istore_n rfl ?_
      refine x_aload_n rfl ?_
      refine x_gr tg_301 rfl (fx_301_7 hF) ?_
      refine x_iload_n rfl ?_
      refine x_ialdv (Or.inl tg_307) (ln_307 L) (by omega) (show _ = ((xw v : Nat) : Int) from hT.1 v hv) ?_
      refine x_aload_n rfl ?_
      refine x_gr tg_301 rfl (fx_301_8 hF) ?_
      refine x_iload_n rfl ?_
      refine x_ialdv (Or.inl tg_308) (ln_308 L) (by omega) (show _ = ((dw v : Nat) : Int) from hT.2.1 v hv) ?_
      refine x_iadd ?_
      refine x_istore rfl ?_
      refine x_iload_n rfl ?_
      refine x_iload rfl ?_
      exact rfl
    apply t_Q
    · apply t_Ks
      · apply t_Q
        · apply t_K
          apply t_Qs
          apply t_Ks
          · apply t_Q
            · apply t_B
              · exact rfl
              exact t_ic_gt_f (by omega)
            apply t_Q
            · apply t_B
              · refine x_iload_n rfl ?_
                refine x_iload rfl ?_
                exact rfl
              exact t_ic_ne_f (by omega)
            apply t_Q
            · apply t_S
              refine x_aload_n rfl ?_
              refine x_gr tg_301 rfl (fx_301_0 hF) ?_
              refine x_sipush ?_
              refine x_ialdv (Or.inl tg_302) (ln_302 L) (by omega) ho ?_
              exact rfl
            apply t_Q
            · apply t_K
              apply t_Qs
              apply t_B
              · exact rfl
              exact t_if_ne_t (by omega)
            apply t_B
            · refine x_aload_n rfl ?_
              refine x_gr tg_301 rfl (fx_301_7 hF) ?_
              refine x_iload_n rfl ?_
              refine x_ialdv (Or.inl tg_307) (ln_307 L) (by omega) (show _ = ((xw w : Nat) : Int) from hT.1 w hw) ?_
              refine x_aload_n rfl ?_
              refine x_gr tg_301 rfl (fx_301_7 hF) ?_
              refine x_iload_n rfl ?_
              refine x_ialdv (Or.inl tg_307) (ln_307 L) (by omega) (show _ = ((xw v : Nat) : Int) from hT.1 v hv) ?_
              exact rfl
            exact t_ic_le_t (by omega)
          · decide
        apply t_S
        refine x_iconst ?_
        exact rfl
      · decide
    apply t_B
    · exact rfl
    exact t_ireq (Or.inr (Or.inl rfl)) (by rw [if_neg (by omega)]) rfl
  apply Exists.intro
  unfold tX12_isAhead
  apply t_Q
  · apply t_S
    refine x_aload_n rfl ?_
    refine x_gr tg_301 rfl (fx_301_7 hF) ?_
    refine x_iload_n rfl ?_
    refine x_ialdv (Or.inl tg_307) (ln_307 L) (by omega) (show _ = ((xw w : Nat) : Int) from hT.1 w hw) ?_
    refine x_aload_n rfl ?_
    refine x_gr tg_301 rfl (fx_301_8 hF) ?_
    refine x_iload_n rfl ?_
    refine x_ialdv (Or.inl tg_308) (ln_308 L) (by omega) (show _ = ((dw w : Nat) : Int) from hT.2.1 w hw) ?_
    refine x_iadd ?_
    refine x_istore_n rfl ?_
    refine x_aload_n rfl ?_
    refine x_gr tg_301 rfl (fx_301_7 hF) ?_
    refine x_iload_n rfl ?_
    refine x_ialdv (Or.inl tg_307) (ln_307 L) (by omega) (show _ = ((xw v : Nat) : Int) from hT.1 v hv) ?_
    refine x_aload_n rfl ?_
    refine x_gr tg_301 rfl (fx_301_8 hF) ?_
    refine x_iload_n rfl ?_
    refine x_ialdv (Or.inl tg_308) (ln_308 L) (by omega) (show _ = ((dw v : Nat) : Int) from hT.2.1 v hv) ?_
    refine x_iadd ?_
    refine x_istore rfl ?_
    refine x_iload_n rfl ?_
    refine x_iload rfl ?_
    exact rfl
  apply t_Q
  · apply t_Ks
    · apply t_Q
      · apply t_K
        apply t_Qs
        apply t_Ks
        · apply t_Q
          · apply t_B
            · exact rfl
            exact t_ic_gt_f (by omega)
          apply t_Qs
          apply t_B
          · refine x_iload_n rfl ?_
            refine x_iload rfl ?_
            exact rfl
          exact t_ic_ne_t (by omega)
        · decide
      apply t_S
      refine x_iconst ?_
      exact rfl
    · decide
  apply t_B
  · exact rfl
  exact t_ireq (Or.inr (Or.inl rfl)) (by rw [if_neg (by omega)]) rfl
def exI (I : Nat → Nat → Int) (t w : Nat) : Nat → Nat → Int := sro (sro (sro I 26 (gro I t)) t (gro I w)) w (gro I t)
set_option maxRecDepth 10000 in
theorem s_exchanges {d L : Nat} {I : Nat → Nat → Int} {R : Nat → Nat → Option Nat} {u : Int64} (hF : FixR R) {t w : Nat} (ht : t < 24) (hw : w < 24) (hne : t ≠ w) : am_run am_tb (d + 3) 195 [vR 301, vI t, vI w] (LH L I R u) = some ([], LH L (exI I t w) R u) := by
  refine run_of tb_X12_exchanges (Nat.le_of_ble_eq_true rfl) ?_
  show ∃ ls', am_ev (am_run am_tb (d + 2)) tX12_exchanges ([vR 301, vI t, vI w], [], (LH L I R u)) = some (1, ls', [], LH L (exI I t w) R u)
  have h1 := s_copies (d := d) (L := L) (u := u) (I := I) hF (fr := t) (to := 26) (by omega) (by decide)
  have h2 := s_copies (d := d) (L := L) (u := u) (I := sro I 26 (gro I t)) hF (fr := w) (to := t) (by omega) (by omega)
  rw [show sro (sro I 26 (gro I t)) t (gro (sro I 26 (gro I t)) w) = sro (sro I 26 (gro I t)) t (gro I w) from sro_c (fun k hk => gro_n hk (by omega))] at h2
  have h3 := s_copies (d := d) (L := L) (u := u) (I := sro (sro I 26 (gro I t)) t (gro I w)) hF (fr := 26) (to := w) (by decide) (by omega)
  rw [show sro (sro (sro I 26 (gro I t)) t (gro I w)) w (gro (sro (sro I 26 (gro I t)) t (gro I w)) 26) = exI I t w from sro_c (fun k hk => by rw [gro_n hk (by omega), gro_s hk])] at h3
  apply Exists.intro
  unfold tX12_exchanges
  apply t_B
  · refine x_aload_n rfl ?_
    refine x_iload_n rfl ?_
    refine x_bipush ?_
    refine x_V3v tg_301 (Nat.le_of_ble_eq_true rfl) (h1) ?_
    refine x_aload_n rfl ?_
    refine x_iload_n rfl ?_
    refine x_iload_n rfl ?_
    refine x_V3v tg_301 (Nat.le_of_ble_eq_true rfl) (h2) ?_
    refine x_aload_n rfl ?_
    refine x_bipush ?_
    refine x_iload_n rfl ?_
    refine x_V3v tg_301 (Nat.le_of_ble_eq_true rfl) (h3) ?_
    exact rfl
  exact rfl
def evF (f : Nat → Int) (c : Int) : Nat → Int := fun j => f j * c % 10007
theorem evF_b {f : Nat → Int} {c : Int} : resd (evF f c) := fun k _ => by unfold evF; omega
set_option maxRecDepth 10000 in
theorem lp_evens {d L : Nat} {I : Nat → Nat → Int} {R : Nat → Nat → Option Nat} {u : Int64} (hF : FixR R) {row : Nat} {c : Int} (hR : Res I) (hc : 0 ≤ c ∧ c < 10007) (h1 : row < 46) : am_lp (am_ev (am_run am_tb (d + 1)) wX12_evens_22) 22 am_F ([vR 301, vI row, vI c, vI 0], [], LH L I R u) = some (67, ([vR 301, vI row, vI c, vI 496], [], LH L (sro I row (evF (gro I row) c)) R u)) := by
  skip
  refine lp_up0 (fun k => ([vR 301, vI row, vI c, vI k], [], LH L (sro I row (fun j => if j < k then evF (gro I row) c j else gro I row j)) R u)) (496) (s3 rfl (sro_id (fun j hj => by rw [if_neg (by omega)])).symm) (ltF (by first | decide | omega)) (by show ¬ 67 = 22 + 2; decide) (fun k hk => ?_) ?_
  · have v := Res_g hR row k
    have m := mul_b (a := gro I row k) (b := c) (m := 10006) (n := 10006) ⟨v.1, by omega⟩ ⟨hc.1, by omega⟩
    unfold wX12_evens_22
    apply t_Q
    · apply t_B
      · refine x_iload_n rfl ?_
        refine x_sipush ?_
        exact rfl
      exact t_ic_ge_f (by omega)
    apply t_B
    · refine x_aload_n rfl ?_
      refine x_gr tg_301 rfl (fx_301_6 hF) ?_
      refine x_sipush ?_
      refine x_iload_n rfl ?_
      refine x_imul ?_
      refine x_iload_n rfl ?_
      refine x_iadd ?_
      refine x_aload_n rfl ?_
      refine x_gr tg_301 rfl (fx_301_6 hF) ?_
      refine x_sipush ?_
      refine x_iload_n rfl ?_
      refine x_imul ?_
      refine x_iload_n rfl ?_
      refine x_iadd ?_
      refine x_wld row k (by omega) ((gro_s hk).trans (if_neg (by omega))) ?_
      refine x_iload_n rfl ?_
      refine x_imul ?_
      refine x_sipush ?_
      refine x_irem0 (by omega) ?_
      refine x_wst k (by omega) ?_
      refine x_iinc rfl rfl ?_
      exact rfl
    exact t_goeq (s3 rfl (sro_c (fun j hj => by
          by_cases e : j = k
          · subst e; rw [au_s, if_pos (by omega)]; rfl
          · rw [au_n _ _ e]
            by_cases e2 : j < k
            · rw [if_pos e2, if_pos (by omega)]
            · rw [if_neg e2, if_neg (by omega)])))
  · rw [show sro I row (evF (gro I row) c) = sro I row (fun j => if j < 496 then evF (gro I row) c j else gro I row j) from sro_c (fun j hj => by rw [if_pos hj])]
    unfold wX12_evens_22
    apply t_Qs
    apply t_B
    · refine x_iload_n rfl ?_
      refine x_sipush ?_
      exact rfl
    exact t_ic_ge_t (by omega)
set_option maxRecDepth 10000 in
theorem s_evens {d L : Nat} {I : Nat → Nat → Int} {R : Nat → Nat → Option Nat} {u : Int64} (hF : FixR R) (hR : Res I) (hT : Tabs I) {o : Int} (ho : I 302 608 = o) (h0 : o = 0 ∨ o = 1) {row w : Nat} (h1 : row < 46) (hw : w < 496) (hl : led o (gro I row) = (w : Nat)) : am_run am_tb (d + 4) 189 [vR 301, vI row] (LH L I R u) = some ([], LH L (sro I row (evF (gro I row) (inv (gro I row w)))) R u) := by
  refine run_of tb_X12_evens (Nat.le_of_ble_eq_true rfl) ?_
  show ∃ ls', am_ev (am_run am_tb (d + 3)) tX12_evens ([vR 301, vI row, vU, vU], [], (LH L I R u)) = some (1, ls', [], LH L (sro I row (evF (gro I row) (inv (gro I row w)))) R u)
  have v := Res_g hR row w
  apply Exists.intro
  unfold tX12_evens
  apply t_Q
  · apply t_S
    refine x_aload_n rfl ?_
    refine x_gr tg_301 rfl (fx_301_6 hF) ?_
    refine x_sipush ?_
    refine x_iload_n rfl ?_
    refine x_imul ?_
    refine x_aload_n rfl ?_
    refine x_iload_n rfl ?_
    refine x_V2i tg_301 (Nat.le_of_ble_eq_true rfl) ((s_leadIn (d := d) hF hR hT ho h0 h1).trans (by rw [hl])) ?_
    refine x_iadd ?_
    refine x_wld row w ⟨rfl, h1, hw⟩ rfl ?_
    refine x_S1i (by decide) (Nat.le_of_ble_eq_true rfl) (s_inverseOf (d := d + 1) hF v) ?_
    refine x_istore_n rfl ?_
    refine x_iconst ?_
    refine x_istore_n rfl ?_
    exact rfl
  apply t_Q
  · apply t_K
    apply t_W
    exact lp_evens (d := d + 2) hF hR inv_b h1
  apply t_B
  · exact rfl
  exact rfl
def alk (f g : Nat → Int) : Nat → Int
  | 0 => 1
  | k + 1 => if alk f g k = 1 ∧ f k = g k then 1 else 0
theorem alk_b (f g : Nat → Int) (k : Nat) : alk f g k = 0 ∨ alk f g k = 1 := by
  cases k with
  | zero => exact Or.inr rfl
  | succ k => show (if alk f g k = 1 ∧ f k = g k then (1 : Int) else 0) = 0 ∨ (if alk f g k = 1 ∧ f k = g k then (1 : Int) else 0) = 1; exact b01
theorem alk_1 {f g : Nat → Int} {n : Nat} : alk f g n = 1 ↔ ∀ k, k < n → f k = g k := by
  induction n with
  | zero => exact ⟨fun _ k hk => absurd hk (Nat.not_lt_zero k), fun _ => rfl⟩
  | succ n ih =>
    show (if alk f g n = 1 ∧ f n = g n then (1 : Int) else 0) = 1 ↔ _
    by_cases c : alk f g n = 1 ∧ f n = g n
    · rw [if_pos c]
      refine ⟨fun _ k hk => ?_, fun _ => rfl⟩
      by_cases e : k = n
      · subst e; exact c.2
      · exact ih.mp c.1 k (by omega)
    · rw [if_neg c]
      refine ⟨fun q => absurd q (by decide), fun q => ?_⟩
      exact absurd ⟨ih.mpr (fun k hk => q k (by omega)), q n (by omega)⟩ c
set_option maxRecDepth 10000 in
theorem lp_areAlike {d L : Nat} {I : Nat → Nat → Int} {R : Nat → Nat → Option Nat} {u : Int64} (hF : FixR R) {t w : Nat} (hR : Res I) (h1 : t < 46) (h2 : w < 46) : am_lp (am_ev (am_run am_tb (d + 1)) wX12_areAlike_5) 5 am_F ([vR 301, vI t, vI w, vI 1, vI 0], [], LH L I R u) = some (60, ([vR 301, vI t, vI w, vI (alk (gro I t) (gro I w) 496), vI 496], [], LH L I R u)) := by
  skip
  refine lp_up0 (fun k => ([vR 301, vI t, vI w, vI (alk (gro I t) (gro I w) k), vI k], [], LH L I R u)) (496) rfl (ltF (by first | decide | omega)) (by show ¬ 60 = 5 + 2; decide) (fun k hk => ?_) ?_
  · have v1 := Res_g hR t k
    have v2 := Res_g hR w k
    have b := alk_b (gro I t) (gro I w) k
    by_cases c : alk (gro I t) (gro I w) k = 0
    · unfold wX12_areAlike_5
      apply t_Q
      · apply t_B
        · refine x_iload rfl ?_
          refine x_sipush ?_
          exact rfl
        exact t_ic_ge_f (by omega)
      apply t_Q
      · apply t_S
        refine x_iload_n rfl ?_
        exact rfl
      apply t_Q
      · apply t_Ks
        · apply t_Q
          · apply t_K
            apply t_Qs
            apply t_B
            · exact rfl
            exact t_if_eq_t (by omega)
          apply t_S
          refine x_iconst ?_
          exact rfl
        · decide
      apply t_B
      · refine x_istore_n rfl ?_
        refine x_iinc rfl rfl ?_
        exact rfl
      exact t_goeq (s3 (congrArg (fun z => [vR 301, vI t, vI w, vI z, vI ((k : Int) + 1)]) (by show _ = (if alk (gro I t) (gro I w) k = 1 ∧ gro I t k = gro I w k then (1 : Int) else 0); rw [if_neg (fun q => by have := q.1; omega)])) rfl)
    by_cases c2 : gro I t k = gro I w k
    · unfold wX12_areAlike_5
      apply t_Q
      · apply t_B
        · refine x_iload rfl ?_
          refine x_sipush ?_
          exact rfl
        exact t_ic_ge_f (by omega)
      apply t_Q
      · apply t_S
        refine x_iload_n rfl ?_
        exact rfl
      apply t_Q
      · apply t_K
        apply t_Qs
        apply t_Ks
        · apply t_Q
          · apply t_B
            · exact rfl
            exact t_if_eq_f (by omega)
          apply t_Q
          · apply t_B
            · refine x_aload_n rfl ?_
              refine x_gr tg_301 rfl (fx_301_6 hF) ?_
              refine x_sipush ?_
              refine x_iload_n rfl ?_
              refine x_imul ?_
              refine x_iload rfl ?_
              refine x_iadd ?_
              refine x_wld t k (by omega) rfl ?_
              refine x_aload_n rfl ?_
              refine x_gr tg_301 rfl (fx_301_6 hF) ?_
              refine x_sipush ?_
              refine x_iload_n rfl ?_
              refine x_imul ?_
              refine x_iload rfl ?_
              refine x_iadd ?_
              refine x_wld w k (by omega) rfl ?_
              exact rfl
            exact t_ic_ne_f (by omega)
          apply t_B
          · refine x_iconst ?_
            exact rfl
          exact t_goto
        · decide
      apply t_B
      · refine x_istore_n rfl ?_
        refine x_iinc rfl rfl ?_
        exact rfl
      exact t_goeq (s3 (congrArg (fun z => [vR 301, vI t, vI w, vI z, vI ((k : Int) + 1)]) (by show _ = (if alk (gro I t) (gro I w) k = 1 ∧ gro I t k = gro I w k then (1 : Int) else 0); rw [if_pos ⟨by omega, c2⟩])) rfl)
    unfold wX12_areAlike_5
    apply t_Q
    · apply t_B
      · refine x_iload rfl ?_
        refine x_sipush ?_
        exact rfl
      exact t_ic_ge_f (by omega)
    apply t_Q
    · apply t_S
      refine x_iload_n rfl ?_
      exact rfl
    apply t_Q
    · apply t_Ks
      · apply t_Q
        · apply t_K
          apply t_Q
          · apply t_B
            · exact rfl
            exact t_if_eq_f (by omega)
          apply t_Qs
          apply t_B
          · refine x_aload_n rfl ?_
            refine x_gr tg_301 rfl (fx_301_6 hF) ?_
            refine x_sipush ?_
            refine x_iload_n rfl ?_
            refine x_imul ?_
            refine x_iload rfl ?_
            refine x_iadd ?_
            refine x_wld t k (by omega) rfl ?_
            refine x_aload_n rfl ?_
            refine x_gr tg_301 rfl (fx_301_6 hF) ?_
            refine x_sipush ?_
            refine x_iload_n rfl ?_
            refine x_imul ?_
            refine x_iload rfl ?_
            refine x_iadd ?_
            refine x_wld w k (by omega) rfl ?_
            exact rfl
          exact t_ic_ne_t (by omega)
        apply t_S
        refine x_iconst ?_
        exact rfl
      · decide
    apply t_B
    · refine x_istore_n rfl ?_
      refine x_iinc rfl rfl ?_
      exact rfl
    exact t_goeq (s3 (congrArg (fun z => [vR 301, vI t, vI w, vI z, vI ((k : Int) + 1)]) (by show _ = (if alk (gro I t) (gro I w) k = 1 ∧ gro I t k = gro I w k then (1 : Int) else 0); rw [if_neg (fun q => c2 q.2)])) rfl)
  · unfold wX12_areAlike_5
    apply t_Qs
    apply t_B
    · refine x_iload rfl ?_
      refine x_sipush ?_
      exact rfl
    exact t_ic_ge_t (by omega)
set_option maxRecDepth 10000 in
theorem s_areAlike {d L : Nat} {I : Nat → Nat → Int} {R : Nat → Nat → Option Nat} {u : Int64} (hF : FixR R) {t w : Nat} (hR : Res I) (h1 : t < 46) (h2 : w < 46) : am_run am_tb (d + 2) 190 [vR 301, vI t, vI w] (LH L I R u) = some ([vI (alk (gro I t) (gro I w) 496)], LH L I R u) := by
  refine run_of tb_X12_areAlike (Nat.le_of_ble_eq_true rfl) ?_
  show ∃ ls', am_ev (am_run am_tb (d + 1)) tX12_areAlike ([vR 301, vI t, vI w, vU, vU], [], (LH L I R u)) = some (1, ls', [vI (alk (gro I t) (gro I w) 496)], LH L I R u)
  apply Exists.intro
  unfold tX12_areAlike
  apply t_Q
  · apply t_S
    refine x_iconst ?_
    refine x_istore_n rfl ?_
    refine x_iconst ?_
    refine x_istore rfl ?_
    exact rfl
  apply t_Q
  · apply t_K
    apply t_W
    exact lp_areAlike (d := d) hF hR h1 h2
  apply t_B
  · refine x_iload_n rfl ?_
    exact rfl
  exact t_ireq (Or.inr (alk_b _ _ _)) rfl rfl
