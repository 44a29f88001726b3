/-! The reference: writesTerm, in pieces. Written by wip/whole/gen_44.py. -/
def sgn (v : Int) (l : List Int) : List Int := if v < 0 then [45] else if l.length = 0 then [] else [43]
set_option maxRecDepth 10000 in
theorem wt_sign {d L : Nat} {I : Nat → Nat → Int} {R : Nat → Nat → Option Nat} {u : Int64} (hF : FixR R) {w : Nat} {v : Int} {a3 a4 : am_V} {l : List Int} (hv : -5003 ≤ v ∧ v ≤ 5003) (hl : l.length < 1500) : am_ev (am_run am_tb (d + 1)) (tK 26 (tQ (tK 11 (tQ (tB [] (.ifCond .lt 10) [11]) (tB [(.aload_n 0, 0, 0, 0), (.getfield 313, 12, 29, 0)] (.ifCond .le 18) [26]))) (tQ (tS [(.aload_n 0, 0, 0, 0), (.iload_n 2, 0, 0, 0)]) (tQ (tK 23 (tQ (tK 21 (tQ (tB [] (.ifCond .ge 8) [21]) (tB [(.bipush 45, 0, 0, 0)] (.goto 5) [23]))) (tS [(.bipush 43, 0, 0, 0)]))) (tS [(.invokevirtual 316, 220, 2, 12)]))))) ([vR 301, vI w, vI v, a3, a4], [vI v], LH L (wrs I l) R u) = some (0, ([vR 301, vI w, vI v, a3, a4], [], LH L (wrs I (l ++ sgn v l)) R u)) := by
  by_cases c : v < 0
  · apply t_Ks
    · apply t_Q
      · apply t_K
        apply t_Qs
        apply t_B
        · exact rfl
        exact t_if_lt_t (by omega)
      apply t_Q
      · apply t_S
        refine x_aload_n rfl ?_
        refine x_iload_n rfl ?_
        exact rfl
      apply t_Q
      · apply t_K
        apply t_Qs
        apply t_Ks
        · apply t_Q
          · apply t_B
            · exact rfl
            exact t_if_ge_f (by omega)
          apply t_B
          · refine x_bipush ?_
            exact rfl
          exact t_goto
        · decide
      apply t_S
      refine x_V2v tg_301 (Nat.le_of_ble_eq_true rfl) (s_writes (d := d) hF hl) ?_
      exact congrArg (fun z => some ([vR 301, vI w, vI v, a3, a4], [], LH L (wrs I z) R u)) (show _ = l ++ sgn v l from by unfold sgn; rw [if_pos c])
    · decide
  by_cases c2 : l.length = 0
  · rw [show l ++ sgn v l = l from by unfold sgn; rw [if_neg c, if_pos c2, List.append_nil]]
    apply t_K
    apply t_Qs
    apply t_Ks
    · apply t_Q
      · apply t_B
        · exact rfl
        exact t_if_lt_f (by omega)
      apply t_B
      · refine x_aload_n rfl ?_
        refine x_giv tg_301 rfl (show _ = ((l.length : Nat) : Int) from rfl) ?_
        exact rfl
      exact t_if_le_t (by omega)
    · decide
  apply t_Ks
  · apply t_Q
    · apply t_Ks
      · apply t_Q
        · apply t_B
          · exact rfl
          exact t_if_lt_f (by omega)
        apply t_B
        · refine x_aload_n rfl ?_
          refine x_giv tg_301 rfl (show _ = ((l.length : Nat) : Int) from rfl) ?_
          exact rfl
        exact t_if_le_f (by omega)
      · decide
    apply t_Q
    · apply t_S
      refine x_aload_n rfl ?_
      refine x_iload_n rfl ?_
      exact rfl
    apply t_Q
    · apply t_Ks
      · apply t_Q
        · apply t_K
          apply t_Qs
          apply t_B
          · exact rfl
          exact t_if_ge_t (by omega)
        apply t_S
        refine x_bipush ?_
        exact rfl
      · decide
    apply t_S
    refine x_V2v tg_301 (Nat.le_of_ble_eq_true rfl) (s_writes (d := d) hF hl) ?_
    exact congrArg (fun z => some ([vR 301, vI w, vI v, a3, a4], [], LH L (wrs I z) R u)) (show _ = l ++ sgn v l from by unfold sgn; rw [if_neg c, if_neg c2])
  · decide
set_option maxRecDepth 10000 in
theorem wt_abs {d L : Nat} {I : Nat → Nat → Int} {R : Nat → Nat → Option Nat} {u : Int64} (hF : FixR R) {v : Int} {ls : List am_V} {h : am_H} (hv : -5003 ≤ v ∧ v ≤ 5003) (hg : lget ls 2 = vI v) : am_ev (am_run am_tb (d + 1)) (tK 36 (tQ (tK 35 (tQ (tB [] (.ifCond .ge 8) [35]) (tB [(.iload_n 2, 0, 0, 0), (.ineg, 0, 0, 0)] (.goto 4) [36]))) (tS [(.iload_n 2, 0, 0, 0)]))) (ls, [vI v], h) = some (0, (ls, [vI (if v < 0 then - v else v)], h)) := by
  by_cases c : v < 0
  · rw [if_pos c]
    apply t_K
    apply t_Qs
    apply t_Ks
    · apply t_Q
      · apply t_B
        · exact rfl
        exact t_if_ge_f (by omega)
      apply t_B
      · refine x_iload_n hg ?_
        refine x_ineg ?_
        exact rfl
      exact t_goto
    · decide
  rw [if_neg c]
  apply t_Ks
  · apply t_Q
    · apply t_K
      apply t_Qs
      apply t_B
      · exact rfl
      exact t_if_ge_t (by omega)
    apply t_S
    refine x_iload_n hg ?_
    exact rfl
  · decide
set_option maxRecDepth 10000 in
theorem wt_has {d L : Nat} {I : Nat → Nat → Int} {R : Nat → Nat → Option Nat} {u : Int64} (hF : FixR R) {w : Nat} {z : Int} {ls : List am_V} {h : am_H} (hw : w < 496) (hz : 0 ≤ z ∧ z ≤ 5003) (hg : lget ls 1 = vI w) : am_ev (am_run am_tb (d + 1)) (tK 51 (tQ (tK 50 (tQ (tK 46 (tQ (tB [] (.if_icmp .ne 7) [46]) (tB [(.iload_n 1, 0, 0, 0)] (.ifCond .ne 7) [50]))) (tB [(.iconst 1, 0, 0, 0)] (.goto 4) [51]))) (tS [(.iconst 0, 0, 0, 0)]))) (ls, [vI 1, vI z], h) = some (0, (ls, [vI (if ¬ z = 1 ∨ w = 0 then 1 else 0)], h)) := by
  by_cases c : z = 1
  · by_cases c2 : w = 0
    · rw [if_pos (Or.inr c2)]
      apply t_K
      apply t_Qs
      apply t_Ks
      · apply t_Q
        · apply t_Ks
          · apply t_Q
            · apply t_B
              · exact rfl
              exact t_ic_ne_f (by omega)
            apply t_B
            · refine x_iload_n hg ?_
              exact rfl
            exact t_if_ne_f (by omega)
          · decide
        apply t_B
        · refine x_iconst ?_
          exact rfl
        exact t_goto
      · decide
    rw [if_neg (fun q => q.elim (fun q => q c) c2)]
    apply t_Ks
    · apply t_Q
      · apply t_K
        apply t_Qs
        apply t_Ks
        · apply t_Q
          · apply t_B
            · exact rfl
            exact t_ic_ne_f (by omega)
          apply t_B
          · refine x_iload_n hg ?_
            exact rfl
          exact t_if_ne_t (by omega)
        · decide
      apply t_S
      refine x_iconst ?_
      exact rfl
    · decide
  rw [if_pos (Or.inl c)]
  apply t_K
  apply t_Qs
  apply t_Ks
  · apply t_Q
    · apply t_K
      apply t_Qs
      apply t_B
      · exact rfl
      exact t_ic_ne_t (by omega)
    apply t_B
    · refine x_iconst ?_
      exact rfl
    exact t_goto
  · decide
set_option maxRecDepth 10000 in
theorem wt_num {d L : Nat} {I : Nat → Nat → Int} {R : Nat → Nat → Option Nat} {u : Int64} (hF : FixR R) {w : Nat} {v z h : Int} {l : List Int} (hz : 0 ≤ z ∧ z ≤ 5003) (hh : h = 0 ∨ h = 1) (hl : l.length + 10 ≤ 1500) : am_ev (am_run am_tb (d + 2)) (tK 63 (tQ (tB [] (.ifCond .eq 8) [63]) (tS [(.aload_n 0, 0, 0, 0), (.iload_n 3, 0, 0, 0), (.invokevirtual 319, 221, 2, 12)]))) ([vR 301, vI w, vI v, vI z, vI h], [vI h], LH L (wrs I l) R u) = some (0, ([vR 301, vI w, vI v, vI z, vI h], [], LH L (wrs I (l ++ (if h = 1 then num z else []))) R u)) := by
  by_cases c : h = 1
  · rw [if_pos c]
    apply t_Ks
    · apply t_Q
      · apply t_B
        · exact rfl
        exact t_if_eq_f (by omega)
      apply t_S
      refine x_aload_n rfl ?_
      refine x_iload_n rfl ?_
      refine x_V2v tg_301 (Nat.le_of_ble_eq_true rfl) (s_writesNumber (d := d) hF (by omega) (by omega)) ?_
      exact rfl
    · decide
  rw [if_neg c, List.append_nil]
  apply t_K
  apply t_Qs
  apply t_B
  · exact rfl
  exact t_if_eq_t (by omega)
set_option maxRecDepth 10000 in
theorem wt_x {d L : Nat} {I : Nat → Nat → Int} {R : Nat → Nat → Option Nat} {u : Int64} (hF : FixR R) {w : Nat} {v z h : Int} {l : List Int} (hz : 0 ≤ z ∧ z ≤ 5003) (hh : h = 0 ∨ h = 1) (hl : l.length + 10 ≤ 1500) (hT : Tabs I) (hw : w < 496) : am_ev (am_run am_tb (d + 3)) (tK 95 (tQ (tB [] (.ifCond .le 26) [95]) (tQ (tS [(.iload 4, 0, 0, 0)]) (tQ (tK 83 (tQ (tB [] (.ifCond .eq 9) [83]) (tS [(.aload_n 0, 0, 0, 0), (.bipush 42, 0, 0, 0), (.invokevirtual 316, 220, 2, 12)]))) (tS [(.aload_n 0, 0, 0, 0), (.bipush 120, 0, 0, 0), (.aload_n 0, 0, 0, 0), (.getfield 25, 12, 7, 0), (.iload_n 1, 0, 0, 0), (.iaload, 0, 0, 0), (.invokevirtual 322, 222, 3, 12)]))))) ([vR 301, vI w, vI v, vI z, vI h], [vI (xw w : Nat)], LH L (wrs I l) R u) = some (0, ([vR 301, vI w, vI v, vI z, vI h], [], LH L (wrs I (l ++ (if 0 < xw w then (if h = 1 then [42] else []) ++ ltr 120 (xw w : Nat) else []))) R u)) := by
  have b1 := wn_30 hw
  have b2 := xw_dw w
  have h1 : (l ++ [42]).length = l.length + 1 := by rw [List.length_append]; rfl
  by_cases c : 0 < xw w
  · rw [if_pos c]
    by_cases c2 : h = 1
    · rw [if_pos c2, ← List.append_assoc]
      apply t_Ks
      · apply t_Q
        · apply t_B
          · exact rfl
          exact t_if_le_f (by omega)
        apply t_Q
        · apply t_S
          refine x_iload rfl ?_
          exact rfl
        apply t_Q
        · apply t_Ks
          · apply t_Q
            · apply t_B
              · exact rfl
              exact t_if_eq_f (by omega)
            apply t_S
            refine x_aload_n rfl ?_
            refine x_bipush ?_
            refine x_V2v tg_301 (Nat.le_of_ble_eq_true rfl) (s_writes (d := d + 2) hF (by omega)) ?_
            exact rfl
          · decide
        apply t_S
        refine x_aload_n rfl ?_
        refine x_bipush ?_
        refine x_aload_n rfl ?_
        refine x_gr tg_301 rfl (fx_301_7 hF) ?_
        refine x_iload_n rfl ?_
        refine x_ialdv (Or.inl tg_307) (ln_307 L) (by omega) (show _ = ((xw w : Nat) : Int) from hT.1 w hw) ?_
        refine x_V3v tg_301 (Nat.le_of_ble_eq_true rfl) (s_writesLetter (d := d) hF (by omega) (by omega)) ?_
        exact rfl
      · decide
    rw [if_neg c2, List.nil_append]
    apply t_Ks
    · apply t_Q
      · apply t_B
        · exact rfl
        exact t_if_le_f (by omega)
      apply t_Q
      · apply t_S
        refine x_iload rfl ?_
        exact rfl
      apply t_Q
      · apply t_K
        apply t_Qs
        apply t_B
        · exact rfl
        exact t_if_eq_t (by omega)
      apply t_S
      refine x_aload_n rfl ?_
      refine x_bipush ?_
      refine x_aload_n rfl ?_
      refine x_gr tg_301 rfl (fx_301_7 hF) ?_
      refine x_iload_n rfl ?_
      refine x_ialdv (Or.inl tg_307) (ln_307 L) (by omega) (show _ = ((xw w : Nat) : Int) from hT.1 w hw) ?_
      refine x_V3v tg_301 (Nat.le_of_ble_eq_true rfl) (s_writesLetter (d := d) hF (by omega) (by omega)) ?_
      exact rfl
    · decide
  rw [if_neg c, List.append_nil]
  apply t_K
  apply t_Qs
  apply t_B
  · exact rfl
  exact t_if_le_t (by omega)
set_option maxRecDepth 10000 in
theorem wt_d {d L : Nat} {I : Nat → Nat → Int} {R : Nat → Nat → Option Nat} {u : Int64} (hF : FixR R) {w : Nat} {v z h : Int} {l : List Int} (hz : 0 ≤ z ∧ z ≤ 5003) (hh : h = 0 ∨ h = 1) (hl : l.length + 10 ≤ 1500) (hT : Tabs I) (hw : w < 496) : am_ev (am_run am_tb (d + 3)) (tK 136 (tQ (tB [] (.ifCond .le 35) [136]) (tQ (tS [(.iload 4, 0, 0, 0)]) (tQ (tK 124 (tQ (tK 118 (tQ (tB [] (.ifCond .ne 12) [118]) (tB [(.aload_n 0, 0, 0, 0), (.getfield 25, 12, 7, 0), (.iload_n 1, 0, 0, 0), (.iaload, 0, 0, 0)] (.ifCond .le 9) [124]))) (tS [(.aload_n 0, 0, 0, 0), (.bipush 42, 0, 0, 0), (.invokevirtual 316, 220, 2, 12)]))) (tS [(.aload_n 0, 0, 0, 0), (.bipush 100, 0, 0, 0), (.aload_n 0, 0, 0, 0), (.getfield 28, 12, 8, 0), (.iload_n 1, 0, 0, 0), (.iaload, 0, 0, 0), (.invokevirtual 322, 222, 3, 12)]))))) ([vR 301, vI w, vI v, vI z, vI h], [vI (dw w : Nat)], LH L (wrs I l) R u) = some (0, ([vR 301, vI w, vI v, vI z, vI h], [], LH L (wrs I (l ++ (if 0 < dw w then (if h = 1 ∨ 0 < xw w then [42] else []) ++ ltr 100 (dw w : Nat) else []))) R u)) := by
  have b1 := wn_30 hw
  have b2 := xw_dw w
  have h1 : (l ++ [42]).length = l.length + 1 := by rw [List.length_append]; rfl
  by_cases c : 0 < dw w
  · rw [if_pos c]
    by_cases c2 : h = 1
    · rw [if_pos (Or.inl c2), ← List.append_assoc]
      apply t_Ks
      · apply t_Q
        · apply t_B
          · exact rfl
          exact t_if_le_f (by omega)
        apply t_Q
        · apply t_S
          refine x_iload rfl ?_
          exact rfl
        apply t_Q
        · apply t_Ks
          · apply t_Q
            · apply t_K
              apply t_Qs
              apply t_B
              · exact rfl
              exact t_if_ne_t (by omega)
            apply t_S
            refine x_aload_n rfl ?_
            refine x_bipush ?_
            refine x_V2v tg_301 (Nat.le_of_ble_eq_true rfl) (s_writes (d := d + 2) hF (by omega)) ?_
            exact rfl
          · decide
        apply t_S
        refine x_aload_n rfl ?_
        refine x_bipush ?_
        refine x_aload_n rfl ?_
        refine x_gr tg_301 rfl (fx_301_8 hF) ?_
        refine x_iload_n rfl ?_
        refine x_ialdv (Or.inl tg_308) (ln_308 L) (by omega) (show _ = ((dw w : Nat) : Int) from hT.2.1 w hw) ?_
        refine x_V3v tg_301 (Nat.le_of_ble_eq_true rfl) (s_writesLetter (d := d) hF (by omega) (by omega)) ?_
        exact rfl
      · decide
    by_cases c3 : 0 < xw w
    · rw [if_pos (Or.inr c3), ← List.append_assoc]
      apply t_Ks
      · apply t_Q
        · apply t_B
          · exact rfl
          exact t_if_le_f (by omega)
        apply t_Q
        · apply t_S
          refine x_iload rfl ?_
          exact rfl
        apply t_Q
        · apply t_Ks
          · apply t_Q
            · apply t_Ks
              · apply t_Q
                · apply t_B
                  · exact rfl
                  exact t_if_ne_f (by omega)
                apply t_B
                · refine x_aload_n rfl ?_
                  refine x_gr tg_301 rfl (fx_301_7 hF) ?_
                  refine x_iload_n rfl ?_
                  refine x_ialdv (Or.inl tg_307) (ln_307 L) (by omega) (show _ = ((xw w : Nat) : Int) from hT.1 w hw) ?_
                  exact rfl
                exact t_if_le_f (by omega)
              · decide
            apply t_S
            refine x_aload_n rfl ?_
            refine x_bipush ?_
            refine x_V2v tg_301 (Nat.le_of_ble_eq_true rfl) (s_writes (d := d + 2) hF (by omega)) ?_
            exact rfl
          · decide
        apply t_S
        refine x_aload_n rfl ?_
        refine x_bipush ?_
        refine x_aload_n rfl ?_
        refine x_gr tg_301 rfl (fx_301_8 hF) ?_
        refine x_iload_n rfl ?_
        refine x_ialdv (Or.inl tg_308) (ln_308 L) (by omega) (show _ = ((dw w : Nat) : Int) from hT.2.1 w hw) ?_
        refine x_V3v tg_301 (Nat.le_of_ble_eq_true rfl) (s_writesLetter (d := d) hF (by omega) (by omega)) ?_
        exact rfl
      · decide
    rw [if_neg (fun q => q.elim c2 c3), List.nil_append]
    apply t_Ks
    · apply t_Q
      · apply t_B
        · exact rfl
        exact t_if_le_f (by omega)
      apply t_Q
      · apply t_S
        refine x_iload rfl ?_
        exact rfl
      apply t_Q
      · apply t_K
        apply t_Qs
        apply t_Ks
        · apply t_Q
          · apply t_B
            · exact rfl
            exact t_if_ne_f (by omega)
          apply t_B
          · refine x_aload_n rfl ?_
            refine x_gr tg_301 rfl (fx_301_7 hF) ?_
            refine x_iload_n rfl ?_
            refine x_ialdv (Or.inl tg_307) (ln_307 L) (by omega) (show _ = ((xw w : Nat) : Int) from hT.1 w hw) ?_
            exact rfl
          exact t_if_le_t (by omega)
        · decide
      apply t_S
      refine x_aload_n rfl ?_
      refine x_bipush ?_
      refine x_aload_n rfl ?_
      refine x_gr tg_301 rfl (fx_301_8 hF) ?_
      refine x_iload_n rfl ?_
      refine x_ialdv (Or.inl tg_308) (ln_308 L) (by omega) (show _ = ((dw w : Nat) : Int) from hT.2.1 w hw) ?_
      refine x_V3v tg_301 (Nat.le_of_ble_eq_true rfl) (s_writesLetter (d := d) hF (by omega) (by omega)) ?_
      exact rfl
    · decide
  rw [if_neg c, List.append_nil]
  apply t_K
  apply t_Qs
  apply t_B
  · exact rfl
  exact t_if_le_t (by omega)
