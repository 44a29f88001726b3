/-! The class: terms written, shown. Written by wip/whole/gen_97.py. -/
def sgb (v b : Int) : List Int := if v < 0 then [45] else if b = 1 then [] else [43]
theorem sgb_l (v b : Int) : (sgb v b).length ≤ 1 := by
  unfold sgb
  split
  · decide
  · split <;> decide
def flg (w : Nat) (h : Int) : Int := if h = 1 ∨ 0 < xw w then 1 else 0
/-- a term -/
def tms (w : Nat) (v b : Int) : List Int := sgb v b ++ trn v (hast w v) ++ wlt 120 (xw w : Nat) (hast w v) ++ wlt 100 (dw w : Nat) (flg w (hast w v))
theorem tms_trm {w : Nat} {v : Int} {l : List Int} : trm w v l = l ++ tms w v (if l.length = 0 then 1 else 0) := by
  have e1 : sgn v l = sgb v (if l.length = 0 then 1 else 0) := by
    unfold sgn sgb
    by_cases c : l.length = 0
    · rw [if_pos c, if_pos c, if_pos rfl]
    · rw [if_neg c, if_neg c, if_neg (show ¬ (0 : Int) = 1 by decide)]
  have e2 : trx w (hast w v) = wlt 120 (xw w : Nat) (hast w v) := by
    unfold trx wlt
    by_cases c : 0 < xw w
    · rw [if_pos c, if_neg (show ¬ ((xw w : Nat) : Int) = 0 by omega)]
    · rw [if_neg c, if_pos (show ((xw w : Nat) : Int) = 0 by omega)]
  have e3 : trd w (hast w v) = wlt 100 (dw w : Nat) (flg w (hast w v)) := by
    unfold trd wlt flg
    by_cases c : 0 < dw w
    · rw [if_pos c, if_neg (show ¬ ((dw w : Nat) : Int) = 0 by omega)]
      by_cases c2 : hast w v = 1 ∨ 0 < xw w
      · rw [if_pos c2, if_pos c2, if_pos rfl]
      · rw [if_neg c2, if_neg c2, if_neg (show ¬ (0 : Int) = 1 by decide)]
    · rw [if_neg c, if_pos (show ((dw w : Nat) : Int) = 0 by omega)]
  unfold trm tms
  rw [e1, e2, e3]
  simp only [List.append_assoc]
set_option maxRecDepth 10000 in
theorem wc_sign {d L : Nat} {I : Nat → Nat → Int} {R : Nat → Nat → Option Nat} {u : Int64} (hF : FixR R) {w : Nat} {v b : Int} {a4 a5 a6 a7 : am_V} (hv : -5003 ≤ v ∧ v ≤ 5003) (hb : b = 0 ∨ b = 1) : am_ev (am_run am_tb (d + 1)) (tK 28 (tQ (tK 18 (tQ (tB [] (.ifCond .ge 12) [18]) (tB [(.aload_n 0, 0, 0, 0), (.bipush 45, 0, 0, 0), (.invokevirtual 42, 91, 2, 10)] (.goto 13) [28]))) (tQ (tB [(.iload_n 3, 0, 0, 0)] (.ifCond .ne 9) [28]) (tS [(.aload_n 0, 0, 0, 0), (.bipush 43, 0, 0, 0), (.invokevirtual 42, 91, 2, 10)])))) ([vR 297, vI v, vI w, vI b, a4, a5, a6, a7], [vI v], LH L (wrc I []) R u) = some (0, ([vR 297, vI v, vI w, vI b, a4, a5, a6, a7], [], LH L (wrc I (sgb v b)) R u)) := by
  by_cases c : v < 0
  · apply t_K
    apply t_Qs
    apply t_Ks
    · apply t_Q
      · apply t_B
        · exact rfl
        exact t_if_ge_f (by omega)
      apply t_B
      · refine x_aload_n rfl ?_
        refine x_bipush ?_
        refine x_V2v tg_297 (Nat.le_of_ble_eq_true rfl) (s10_write (d := d) hF (l := []) (by decide)) ?_
        exact congrArg (fun z => some ([vR 297, vI v, vI w, vI b, a4, a5, a6, a7], [], LH L (wrc I z) R u)) (show [] ++ _ = sgb v b from by unfold sgb; rw [if_pos c]; rfl)
      exact t_goto
    · decide
  by_cases c2 : b = 1
  · rw [show sgb v b = [] from by unfold sgb; rw [if_neg c, if_pos c2]]
    apply t_K
    apply t_Q
    · apply t_K
      apply t_Qs
      apply t_B
      · exact rfl
      exact t_if_ge_t (by omega)
    apply t_Qs
    apply t_B
    · refine x_iload_n rfl ?_
      exact rfl
    exact t_if_ne_t (by omega)
  apply t_Ks
  · apply t_Q
    · apply t_K
      apply t_Qs
      apply t_B
      · exact rfl
      exact t_if_ge_t (by omega)
    apply t_Q
    · apply t_B
      · refine x_iload_n rfl ?_
        exact rfl
      exact t_if_ne_f (by omega)
    apply t_S
    refine x_aload_n rfl ?_
    refine x_bipush ?_
    refine x_V2v tg_297 (Nat.le_of_ble_eq_true rfl) (s10_write (d := d) hF (l := []) (by decide)) ?_
    exact congrArg (fun z => some ([vR 297, vI v, vI w, vI b, a4, a5, a6, a7], [], LH L (wrc I z) R u)) (show [] ++ _ = sgb v b from by unfold sgb; rw [if_neg c, if_neg c2]; rfl)
  · decide
set_option maxRecDepth 10000 in
theorem wc_has {d L : Nat} {I : Nat → Nat → Int} {R : Nat → Nat → Option Nat} {u : Int64} (hF : FixR R) {w : Nat} {z : Int} {ls : List am_V} {h : am_H} (hw : w < 91) (hz : 0 ≤ z ∧ z ≤ 5003) (hg : lget ls 2 = vI w) : am_ev (am_run am_tb (d + 1)) (tK 49 (tQ (tK 48 (tQ (tK 44 (tQ (tB [] (.if_icmp .ne 7) [44]) (tB [(.iload_n 2, 0, 0, 0)] (.ifCond .ne 7) [48]))) (tB [(.iconst 1, 0, 0, 0)] (.goto 4) [49]))) (tS [(.iconst 0, 0, 0, 0)]))) (ls, [vI 1, vI z], h) = some (0, (ls, [vI (if ¬ z = 1 ∨ w = 0 then 1 else 0)], h)) := by
  by_cases c : z = 1
  · by_cases c2 : w = 0
    · rw [if_pos (Or.inr c2)]
      apply t_K
      apply t_Qs
      apply t_Ks
      · apply t_Q
        · apply t_Ks
          · apply t_Q
            · apply t_B
              · exact rfl
              exact t_ic_ne_f (by omega)
            apply t_B
            · refine x_iload_n hg ?_
              exact rfl
            exact t_if_ne_f (by omega)
          · decide
        apply t_B
        · refine x_iconst ?_
          exact rfl
        exact t_goto
      · decide
    rw [if_neg (fun q => q.elim (fun q => q c) c2)]
    apply t_Ks
    · apply t_Q
      · apply t_K
        apply t_Qs
        apply t_Ks
        · apply t_Q
          · apply t_B
            · exact rfl
            exact t_ic_ne_f (by omega)
          apply t_B
          · refine x_iload_n hg ?_
            exact rfl
          exact t_if_ne_t (by omega)
        · decide
      apply t_S
      refine x_iconst ?_
      exact rfl
    · decide
  rw [if_pos (Or.inl c)]
  apply t_K
  apply t_Qs
  apply t_Ks
  · apply t_Q
    · apply t_K
      apply t_Qs
      apply t_B
      · exact rfl
      exact t_ic_ne_t (by omega)
    apply t_B
    · refine x_iconst ?_
      exact rfl
    exact t_goto
  · decide
set_option maxRecDepth 10000 in
theorem wc_num {d L : Nat} {I : Nat → Nat → Int} {R : Nat → Nat → Option Nat} {u : Int64} (hF : FixR R) {w : Nat} {v b z h : Int} {a6 a7 : am_V} {l : List Int} (hz : 1 ≤ z ∧ z ≤ 5003) (hh : h = 0 ∨ h = 1) (hl : l.length ≤ 1) : am_ev (am_run am_tb (d + 2)) (tK 62 (tQ (tB [] (.ifCond .eq 9) [62]) (tS [(.aload_n 0, 0, 0, 0), (.iload 4, 0, 0, 0), (.invokevirtual 51, 90, 2, 10)]))) ([vR 297, vI v, vI w, vI b, vI z, vI h, a6, a7], [vI h], LH L (wrc I l) R u) = some (0, ([vR 297, vI v, vI w, vI b, vI z, vI h, a6, a7], [], LH L (wrc I (l ++ (if h = 1 then num z else []))) R u)) := by
  have := num_l z
  by_cases c : h = 1
  · rw [if_pos c]
    apply t_Ks
    · apply t_Q
      · apply t_B
        · exact rfl
        exact t_if_eq_f (by omega)
      apply t_S
      refine x_aload_n rfl ?_
      refine x_iload rfl ?_
      refine x_V2v tg_297 (Nat.le_of_ble_eq_true rfl) (s10_number (d := d) hF (by omega) (by omega)) ?_
      exact rfl
    · decide
  rw [if_neg c, List.append_nil]
  apply t_K
  apply t_Qs
  apply t_B
  · exact rfl
  exact t_if_eq_t (by omega)
set_option maxRecDepth 10000 in
theorem wc_flg {d L : Nat} {I : Nat → Nat → Int} {R : Nat → Nat → Option Nat} {u : Int64} (hF : FixR R) {w : Nat} {h : Int} {ls st : List am_V} {hh : am_H} (hh1 : h = 0 ∨ h = 1) (hw : w < 91) (hg : lget ls 6 = vI (xw w : Nat)) : am_ev (am_run am_tb (d + 1)) (tK 106 (tQ (tK 105 (tQ (tK 101 (tQ (tB [] (.ifCond .ne 8) [101]) (tB [(.iload 6, 0, 0, 0)] (.ifCond .le 7) [105]))) (tB [(.iconst 1, 0, 0, 0)] (.goto 4) [106]))) (tS [(.iconst 0, 0, 0, 0)]))) (ls, vI h :: st, hh) = some (0, (ls, vI (if h = 1 ∨ 0 < xw w then 1 else 0) :: st, hh)) := by
  have h12 := wn_12 hw
  have hxd := xw_dw w
  by_cases c : h = 1
  · rw [if_pos (Or.inl c)]
    apply t_K
    apply t_Qs
    apply t_Ks
    · apply t_Q
      · apply t_K
        apply t_Qs
        apply t_B
        · exact rfl
        exact t_if_ne_t (by omega)
      apply t_B
      · refine x_iconst ?_
        exact rfl
      exact t_goto
    · decide
  by_cases c2 : 0 < xw w
  · rw [if_pos (Or.inr c2)]
    apply t_K
    apply t_Qs
    apply t_Ks
    · apply t_Q
      · apply t_Ks
        · apply t_Q
          · apply t_B
            · exact rfl
            exact t_if_ne_f (by omega)
          apply t_B
          · refine x_iload hg ?_
            exact rfl
          exact t_if_le_f (by omega)
        · decide
      apply t_B
      · refine x_iconst ?_
        exact rfl
      exact t_goto
    · decide
  rw [if_neg (fun q => q.elim c c2)]
  apply t_Ks
  · apply t_Q
    · apply t_K
      apply t_Qs
      apply t_Ks
      · apply t_Q
        · apply t_B
          · exact rfl
          exact t_if_ne_f (by omega)
        apply t_B
        · refine x_iload hg ?_
          exact rfl
        exact t_if_le_t (by omega)
      · decide
    apply t_S
    refine x_iconst ?_
    exact rfl
  · decide
set_option maxRecDepth 10000 in
theorem s10_term {d L : Nat} {I : Nat → Nat → Int} {R : Nat → Nat → Option Nat} {u : Int64} (hF : FixR R) (hC : Tabc I) {w : Nat} {v b : Int} (hw : w < 91) (hv : -5003 ≤ v ∧ v ≤ 5003) (hv0 : v ≠ 0) (hb : b = 0 ∨ b = 1) : am_run am_tb (d + 4) 88 [vR 297, vI v, vI w, vI b] (LH L I R u) = some ([], LH L (wrc I (tms w v b)) R u) := by
  refine run_of tb_X10_writeTerm (Nat.le_of_ble_eq_true rfl) ?_
  show ∃ ls', am_ev (am_run am_tb (d + 3)) tX10_writeTerm ([vR 297, vI v, vI w, vI b, vU, vU, vU, vU], [], (LH L I R u)) = some (1, ls', [], LH L (wrc I (tms w v b)) R u)
  have z1 : 1 ≤ azt v ∧ azt v ≤ 5003 := by unfold azt; split <;> omega
  have z2 : hast w v = 0 ∨ hast w v = 1 := by unfold hast; exact b01
  have h12 := wn_12 hw
  have hxd := xw_dw w
  have l1 := sgb_l v b
  have l2 := trn_l v (hast w v)
  have l3 := wlt_l (c := 120) (n := (xw w : Nat)) (b := hast w v) (by omega)
  have m2 : (sgb v b ++ trn v (hast w v)).length ≤ 5 := by rw [List.length_append]; omega
  have m3 : (sgb v b ++ trn v (hast w v) ++ wlt 120 (xw w : Nat) (hast w v)).length ≤ 10 := by rw [List.length_append]; omega
  have hfl : flg w (hast w v) = 0 ∨ flg w (hast w v) = 1 := by unfold flg; exact b01
  have k1 := wc_sign (d := d + 2) (L := L) (u := u) (I := I) (w := w) (a4 := vU) (a5 := vU) (a6 := vU) (a7 := vU) hF hv hb
  have k2 := wc_num (d := d + 1) (L := L) (u := u) (I := I) (w := w) (v := v) (b := b) (z := azt v) (h := hast w v) (a6 := vU) (a7 := vU) (l := sgb v b) hF z1 z2 l1
  have k3 := s10_letter (d := d) (L := L) (u := u) (I := I) hF (c := 120) (n := (xw w : Nat)) (b := hast w v) (by omega) z2 (l := sgb v b ++ trn v (hast w v)) (by omega)
  have k4 := s10_letter (d := d) (L := L) (u := u) (I := I) hF (c := 100) (n := (dw w : Nat)) (b := flg w (hast w v)) (by omega) hfl (l := sgb v b ++ trn v (hast w v) ++ wlt 120 (xw w : Nat) (hast w v)) (by omega)
  apply Exists.intro
  unfold tX10_writeTerm
  apply t_Q
  · apply t_S
    refine x_aload_n rfl ?_
    refine x_iconst ?_
    refine x_pi tg_297 rfl rfl ?_
    rw [wrc_0]
    refine x_iload_n rfl ?_
    exact rfl
  apply t_Q
  · exact k1
  apply t_Q
  · apply t_S
    refine x_iload_n rfl ?_
    refine x_S1i (by decide) (Nat.le_of_ble_eq_true rfl) (sj_abs (d := d + 2) (by omega)) ?_
    refine x_istore rfl ?_
    refine x_iload rfl ?_
    refine x_iconst ?_
    exact rfl
  apply t_Q
  · exact wc_has (d := d + 2) (L := L) (u := u) (I := I) (R := R) (z := azt v) hF hw (by omega) rfl
  apply t_Q
  · apply t_S
    refine x_istore rfl ?_
    refine x_iload rfl ?_
    exact rfl
  apply t_Q
  · exact k2
  apply t_Q
  · apply t_S
    refine x_getstatic ?_
    refine x_iload_n rfl ?_
    refine x_ialdv (Or.inr tg_1) (ln_1 L) (by omega) (show _ = ((xw w : Nat) : Int) from (congrFun (wrc_o (by decide) (by decide)) _).trans (hC.1 w hw)) ?_
    refine x_istore rfl ?_
    refine x_getstatic ?_
    refine x_iload_n rfl ?_
    refine x_ialdv (Or.inr tg_2) (ln_2 L) (by omega) (show _ = ((dw w : Nat) : Int) from (congrFun (wrc_o (by decide) (by decide)) _).trans (hC.2 w hw)) ?_
    refine x_istore rfl ?_
    refine x_aload_n rfl ?_
    refine x_bipush ?_
    refine x_iload rfl ?_
    refine x_iload rfl ?_
    refine x_V4v tg_297 (Nat.le_of_ble_eq_true rfl) (k3) ?_
    refine x_aload_n rfl ?_
    refine x_bipush ?_
    refine x_iload rfl ?_
    refine x_iload rfl ?_
    exact rfl
  apply t_Q
  · exact wc_flg (d := d + 2) (L := L) (u := u) (I := I) (R := R) (h := hast w v) hF z2 hw rfl
  apply t_B
  · refine x_V4v tg_297 (Nat.le_of_ble_eq_true rfl) (k4) ?_
    exact rfl
  exact rfl
/-- the text of an operator, its first t words -/
def txt (o : Int) (f : Nat → Int) : Nat → List Int
  | 0 => []
  | t + 1 => if f (unr o (90 - t)) = 0 then txt o f t else trm (unr o (90 - t)) (tl (f (unr o (90 - t)))) (txt o f t)
theorem txt_lnk {o : Int} {f : Nat → Int} {n k : Nat} (hn : n ≤ 12) (hk : k ≤ n + 1) : lnk o f n (txt o f (91 - tri (n + 1))) k = txt o f (91 - tri (n + 1) + k) := by
  have htr := tri_m (show n + 1 ≤ 13 by omega)
  rw [tri_13] at htr
  have hts := tri_s n
  induction k with
  | zero => rfl
  | succ k ih =>
    show (if f (wb o n k) = 0 then lnk o f n (txt o f (91 - tri (n + 1))) k else trm (wb o n k) (tl (f (wb o n k))) (lnk o f n (txt o f (91 - tri (n + 1))) k)) = (if f (unr o (90 - (91 - tri (n + 1) + k))) = 0 then txt o f (91 - tri (n + 1) + k) else trm (unr o (90 - (91 - tri (n + 1) + k))) (tl (f (unr o (90 - (91 - tri (n + 1) + k))))) (txt o f (91 - tri (n + 1) + k)))
    rw [ih (by omega), show 90 - (91 - tri (n + 1) + k) = tri (n + 1) - 1 - k by omega, unr_wb (by omega)]
theorem txt_lno {o : Int} {f : Nat → Int} {m : Nat} (hm : m ≤ 13) : lno o f m = txt o f (91 - tri (13 - m)) := by
  induction m with
  | zero => show [] = txt o f (91 - tri 13); rw [tri_13]; rfl
  | succ m ih =>
    have hts := tri_s (12 - m)
    have htr := tri_m (show 12 - m + 1 ≤ 13 by omega)
    rw [tri_13] at htr
    show lnk o f (12 - m) (lno o f m) (12 - m + 1) = _
    rw [ih (by omega), show 13 - m = 12 - m + 1 by omega, txt_lnk (by omega) (Nat.le_refl _), show 13 - (m + 1) = 12 - m by omega, show 91 - tri (12 - m + 1) + (12 - m + 1) = 91 - tri (12 - m) by omega]
theorem txt_13 (o : Int) (f : Nat → Int) : lno o f 13 = txt o f 91 := txt_lno (Nat.le_refl _)
theorem txt_p {o : Int} {f : Nat → Int} (t s : Nat) : ∃ l, txt o f (t + s) = txt o f t ++ l := by
  induction s with
  | zero => exact ⟨[], (List.append_nil _).symm⟩
  | succ s ih =>
    obtain ⟨l, e⟩ := ih
    show ∃ l, (if f (unr o (90 - (t + s))) = 0 then txt o f (t + s) else trm (unr o (90 - (t + s))) (tl (f (unr o (90 - (t + s))))) (txt o f (t + s))) = txt o f t ++ l
    split
    · exact ⟨l, e⟩
    · rw [tms_trm, e, List.append_assoc]; exact ⟨_, rfl⟩
theorem txt_g {o : Int} {f : Nat → Int} {t j : Nat} (ht : t ≤ 91) (hj : j < (txt o f t).length) : j < (txt o f 91).length ∧ (txt o f 91).getD j 0 = (txt o f t).getD j 0 := by
  obtain ⟨l, e⟩ := txt_p (o := o) (f := f) t (91 - t)
  rw [show t + (91 - t) = 91 by omega] at e
  rw [e, List.length_append]
  refine ⟨by omega, ?_⟩
  rw [List.getD_eq_getElem?_getD, List.getD_eq_getElem?_getD, List.getElem?_append_left hj]
theorem txt_z {o : Int} {f : Nat → Int} {T t : Nat} (hT : T ≤ 91) (hf : ∀ w, w < 91 → T ≤ rk o w → f w = 0) (ht : t ≤ 91 - T) : txt o f t = [] := by
  induction t with
  | zero => rfl
  | succ t ih =>
    show (if f (unr o (90 - t)) = 0 then txt o f t else _) = []
    rw [if_pos (hf _ (unr_91 (by omega)) (by rw [rk_unr]; omega))]
    exact ih (by omega)
theorem num_p (v : Int) : 0 < (num v).length := by unfold num; rw [dgp_l]; omega
theorem tms_p {w : Nat} {v b : Int} : 0 < (tms w v b).length := by
  unfold tms
  rw [List.length_append, List.length_append, List.length_append]
  by_cases h : hast w v = 1
  · have : trn v (hast w v) = num (azt v) := if_pos h
    rw [this]
    have := num_p (azt v)
    omega
  · have hw : w ≠ 0 := fun z => h (by unfold hast; rw [if_pos (Or.inr z)])
    have hx := xw_dw w
    have hp := pl_w w
    by_cases c : xw w = 0
    · by_cases c2 : dw w = 0
      · rw [c, c2] at hp
        exact absurd hp.symm hw
      · have : 0 < (wlt 100 (dw w : Nat) (flg w (hast w v))).length := by
          unfold wlt ltr
          rw [if_neg (by omega), List.length_append, List.length_cons]
          omega
        omega
    · have : 0 < (wlt 120 (xw w : Nat) (hast w v)).length := by
        unfold wlt ltr
        rw [if_neg (by omega), List.length_append, List.length_cons]
        omega
      omega
theorem txt_n {o : Int} {f : Nat → Int} {w : Nat} (hw : w < 91) (hf : f w ≠ 0) : 0 < (txt o f 91).length := by
  have h1 := rk_91 (o := o) hw
  obtain ⟨l, e⟩ := txt_p (o := o) (f := f) (90 - rk o w + 1) (rk o w)
  rw [show 90 - rk o w + 1 + rk o w = 91 by omega] at e
  rw [e, List.length_append]
  have : 0 < (txt o f (90 - rk o w + 1)).length := by
    show 0 < (if f (unr o (90 - (90 - rk o w))) = 0 then txt o f (90 - rk o w) else trm (unr o (90 - (90 - rk o w))) (tl (f (unr o (90 - (90 - rk o w))))) (txt o f (90 - rk o w))).length
    rw [show 90 - (90 - rk o w) = rk o w by omega, unr_rk, if_neg hf, tms_trm, List.length_append]
    have := tms_p (w := w) (v := tl (f w)) (b := if (txt o f (90 - rk o w)).length = 0 then 1 else 0)
    omega
  omega
theorem txt_len {o : Int} {f : Nat → Int} {t : Nat} (ht : t ≤ 91) : (txt o f t).length ≤ 15 * t := by
  induction t with
  | zero => exact Nat.le_refl _
  | succ t ih =>
    have i := ih (by omega)
    show (if f (unr o (90 - t)) = 0 then txt o f t else trm (unr o (90 - t)) (tl (f (unr o (90 - t)))) (txt o f t)).length ≤ _
    split
    · omega
    · have hu : unr o (90 - t) < 91 := unr_91 (by omega)
      have := trm_l (w := unr o (90 - t)) (v := tl (f (unr o (90 - t)))) (l := txt o f t) (by omega)
      omega
theorem tl_0 {v : Int} (h : 0 ≤ v ∧ v < 10007) (h0 : v ≠ 0) : tl v ≠ 0 := by unfold tl; split <;> omega
set_option maxRecDepth 10000 in
theorem lp10_byi {d L : Nat} {I : Nat → Nat → Int} {R : Nat → Nat → Option Nat} {u : Int64} (hF : FixR R) (hC : Tabc I) {a c : Nat} (ha : Opx R a c) (hc7 : c < 297 ∨ 298 < c) (hc : Rsc I c) {o : Int} (h0 : o = 0 ∨ o = 1) {p : Int} (hp : 0 ≤ p ∧ p ≤ 2147483647) {D : Nat} (hD12 : D ≤ 12) {m4 : Int} {w8 : am_V} {J0 : Nat → Nat → Int} (hJ0 : (∀ x, x ≠ 297 → x ≠ 298 → J0 x = I x)) (hl0 : ((txt o (cl I c) (91 - tri (D + 1))).length : Nat) ≤ p) : ∃ r, am_lp (am_ev (am_run am_tb (d + 4)) wX10_byteAt_39) 39 am_F ([vR 297, vR a, vI o, vI p, vI m4, vI ((txt o (cl I c) (91 - tri (D + 1))).length : Nat), vI D, vI 0, w8], [], LH L J0 R u) = some r ∧ ((∃ J l8, r = (130, [vR 297, vR a, vI o, vI p, vI m4, vI ((txt o (cl I c) (91 - tri D)).length : Nat), vI D, vI ((D + 1 : Nat) : Int), l8], [], LH L J R u) ∧ ((txt o (cl I c) (91 - tri D)).length : Nat) ≤ p ∧ (∀ x, x ≠ 297 → x ≠ 298 → J x = I x)) ∨ ∃ ls J t, r = (1, ls, [vI ((txt o (cl I c) t).getD p.toNat 0)], LH L J R u) ∧ t ≤ 91 ∧ p < ((txt o (cl I c) t).length : Nat) ∧ (∀ x, x ≠ 297 → x ≠ 298 → J x = I x)) := by
  have htr := tri_m (show D + 1 ≤ 13 by omega)
  rw [tri_13] at htr
  have hts := tri_s D
  refine lp_meas (fun N y => ∃ k J l8, N = D + 1 - k ∧ k ≤ D + 1 ∧ y = ([vR 297, vR a, vI o, vI p, vI m4, vI ((txt o (cl I c) (91 - tri (D + 1) + k)).length : Nat), vI D, vI k, l8], [], LH L J R u) ∧ ((txt o (cl I c) (91 - tri (D + 1) + k)).length : Nat) ≤ p ∧ (∀ x, x ≠ 297 → x ≠ 298 → J x = I x)) _ (fun N y hy => ?_) am_F (D + 1) _ (ltF (by omega)) ⟨0, J0, w8, rfl, by omega, rfl, hl0, hJ0⟩
  obtain ⟨k, J, l8, eN, hk, ey, hlp, hJ⟩ := hy
  subst ey
  have hlen := txt_len (o := o) (f := cl I c) (t := 91 - tri (D + 1) + k) (by omega)
  by_cases ck : k = D + 1
  · subst ck
    refine ⟨(130, [vR 297, vR a, vI o, vI p, vI m4, vI ((txt o (cl I c) (91 - tri D)).length : Nat), vI D, vI ((D + 1 : Nat) : Int), l8], [], LH L J R u), ?_, Or.inr ⟨by show ¬ 130 = 39 + 2; decide, Or.inl ⟨J, l8, rfl, ?_, hJ⟩⟩⟩
    · rw [show 91 - tri (D + 1) + (D + 1) = 91 - tri D by omega]
      unfold wX10_byteAt_39
      apply t_Qs
      apply t_B
      · refine x_iload rfl ?_
        refine x_iload rfl ?_
        exact rfl
      exact t_ic_gt_t (by omega)
    · rw [show 91 - tri (D + 1) + (D + 1) = 91 - tri D by omega] at hlp; exact hlp
  have hwb : wb o D k < 91 := by
    rw [← unr_wb (by omega)]; exact unr_91 (by omega)
  have hcw := cl_a hc (wb o D k)
  have hst : txt o (cl I c) (91 - tri (D + 1) + (k + 1)) = if cl I c (wb o D k) = 0 then txt o (cl I c) (91 - tri (D + 1) + k) else trm (wb o D k) (tl (cl I c (wb o D k))) (txt o (cl I c) (91 - tri (D + 1) + k)) := by
    rw [← unr_wb (o := o) (show k ≤ D by omega), show tri (D + 1) - 1 - k = 90 - (91 - tri (D + 1) + k) by omega]
    rfl
  by_cases q0 : cl I c (wb o D k) = 0
  · rw [if_pos q0] at hst
    refine ⟨(39 + 2, [vR 297, vR a, vI o, vI p, vI m4, vI ((txt o (cl I c) (91 - tri (D + 1) + (k + 1))).length : Nat), vI D, vI ((k + 1 : Nat) : Int), vI (wb o D k : Nat)], [], LH L J R u), ?_, Or.inl ⟨rfl, D + 1 - (k + 1), by omega, k + 1, J, _, rfl, by omega, rfl, by rw [hst]; exact hlp, hJ⟩⟩
    rw [hst]
    unfold wX10_byteAt_39
    apply t_Q
    · apply t_B
      · refine x_iload rfl ?_
        refine x_iload rfl ?_
        exact rfl
      exact t_ic_gt_f (by omega)
    apply t_Q
    · apply t_S
      refine x_iload_n rfl ?_
      refine x_iload rfl ?_
      refine x_iload rfl ?_
      refine x_S3i (by decide) (Nat.le_of_ble_eq_true rfl) (s6_rankedPlace (d := d + 2) h0 (n := D) (k := k) (by omega) (by omega)) ?_
      refine x_istore rfl ?_
      refine x_aload_n rfl ?_
      refine x_gr ha.1 rfl ha.2.1 ?_
      refine x_iload rfl ?_
      refine x_ialdv (Or.inl ha.2.2.1) (ha.2.2.2 L) (by omega) (show _ = cl I c (wb o D k) from (congrFun (hJ c (by omega) (by omega)) _).trans (cl_s hwb).symm) ?_
      exact rfl
    apply t_Q
    · apply t_K
      apply t_Qs
      apply t_B
      · exact rfl
      exact t_if_eq_t (by omega)
    apply t_B
    · refine x_iinc rfl rfl ?_
      exact rfl
    exact t_goeq rfl
  rw [if_neg q0, tms_trm] at hst
  have htb := tl_b hcw
  have htn := tl_0 hcw q0
  have hwt : ∀ b, (b = 0 ∨ b = 1) → am_run am_tb (d + 4) 88 [vR 297, vI (tl (cl I c (wb o D k))), vI (wb o D k : Nat), vI b] (LH L J R u) = some ([], LH L (wrc J (tms (wb o D k) (tl (cl I c (wb o D k))) b)) R u) := fun b hb => s10_term (d := d) (L := L) (u := u) (I := J) hF ⟨fun w hw => by rw [hJ 1 (by decide) (by decide)]; exact hC.1 w hw, fun w hw => by rw [hJ 2 (by decide) (by decide)]; exact hC.2 w hw⟩ hwb htb htn hb
  have hbb : (if (txt o (cl I c) (91 - tri (D + 1) + k)).length = 0 then (1 : Int) else 0) = 0 ∨ (if (txt o (cl I c) (91 - tri (D + 1) + k)).length = 0 then (1 : Int) else 0) = 1 := b01
  replace hwt := hwt _ hbb
  have hlen2 : (txt o (cl I c) (91 - tri (D + 1) + (k + 1))).length = (txt o (cl I c) (91 - tri (D + 1) + k)).length + (tms (wb o D k) (tl (cl I c (wb o D k))) (if (txt o (cl I c) (91 - tri (D + 1) + k)).length = 0 then 1 else 0)).length := by rw [hst, List.length_append]
  have hlen3 := txt_len (o := o) (f := cl I c) (t := 91 - tri (D + 1) + (k + 1)) (by omega)
  have hgd : ∀ j, (txt o (cl I c) (91 - tri (D + 1) + (k + 1))).getD ((txt o (cl I c) (91 - tri (D + 1) + k)).length + j) 0 = (tms (wb o D k) (tl (cl I c (wb o D k))) (if (txt o (cl I c) (91 - tri (D + 1) + k)).length = 0 then 1 else 0)).getD j 0 := fun j => by
    rw [hst, List.getD_eq_getElem?_getD, List.getD_eq_getElem?_getD, List.getElem?_append_right (by omega), Nat.add_sub_cancel_left]
  have hJ2 : ∀ l, (∀ x, x ≠ 297 → x ≠ 298 → (wrc J l) x = I x) := fun l x h1 h2 => by rw [wrc_o h1 h2]; exact hJ x h1 h2
  have ht91 : 91 - tri (D + 1) + (k + 1) ≤ 91 := by omega
  generalize hTM : tms (wb o D k) (tl (cl I c (wb o D k))) (if (txt o (cl I c) (91 - tri (D + 1) + k)).length = 0 then 1 else 0) = TM at *
  by_cases q1 : p - ((txt o (cl I c) (91 - tri (D + 1) + k)).length : Nat) < (TM.length : Nat)
  · have hres : (TM.getD (p - ((txt o (cl I c) (91 - tri (D + 1) + k)).length : Nat)).toNat 0) = (txt o (cl I c) (91 - tri (D + 1) + (k + 1))).getD p.toNat 0 := by
      rw [← hgd]
      congr 1
      omega
    have key : ∃ ls, am_ev (am_run am_tb (d + 4)) wX10_byteAt_39 ([vR 297, vR a, vI o, vI p, vI m4, vI ((txt o (cl I c) (91 - tri (D + 1) + k)).length : Nat), vI D, vI k, l8], [], LH L J R u) = some (1, ls, [vI (TM.getD (p - ((txt o (cl I c) (91 - tri (D + 1) + k)).length : Nat)).toNat 0)], LH L (wrc J TM) R u) := by
      have hg2 : wrc J TM 298 (p - ((txt o (cl I c) (91 - tri (D + 1) + k)).length : Nat)).toNat = TM.getD (p - ((txt o (cl I c) (91 - tri (D + 1) + k)).length : Nat)).toNat 0 := wrc_g (by omega)
      have hTl : TM.length ≤ 20 := by
        have := trm_l (w := wb o D k) (v := tl (cl I c (wb o D k))) (l := txt o (cl I c) (91 - tri (D + 1) + k)) (by omega)
        rw [tms_trm, hTM, List.length_append] at this
        omega
      by_cases q2 : (txt o (cl I c) (91 - tri (D + 1) + k)).length = 0
      · rw [if_pos q2] at hwt
        apply Exists.intro
        unfold wX10_byteAt_39
        apply t_Q
        · apply t_B
          · refine x_iload rfl ?_
            refine x_iload rfl ?_
            exact rfl
          exact t_ic_gt_f (by omega)
        apply t_Q
        · apply t_S
          refine x_iload_n rfl ?_
          refine x_iload rfl ?_
          refine x_iload rfl ?_
          refine x_S3i (by decide) (Nat.le_of_ble_eq_true rfl) (s6_rankedPlace (d := d + 2) h0 (n := D) (k := k) (by omega) (by omega)) ?_
          refine x_istore rfl ?_
          refine x_aload_n rfl ?_
          refine x_gr ha.1 rfl ha.2.1 ?_
          refine x_iload rfl ?_
          refine x_ialdv (Or.inl ha.2.2.1) (ha.2.2.2 L) (by omega) (show _ = cl I c (wb o D k) from (congrFun (hJ c (by omega) (by omega)) _).trans (cl_s hwb).symm) ?_
          exact rfl
        apply t_Qs
        apply t_Ks
        · apply t_Q
          · apply t_B
            · exact rfl
            exact t_if_eq_f (by omega)
          apply t_Q
          · apply t_S
            refine x_aload_n rfl ?_
            refine x_aload_n rfl ?_
            refine x_gr ha.1 rfl ha.2.1 ?_
            refine x_iload rfl ?_
            refine x_ialdv (Or.inl ha.2.2.1) (ha.2.2.2 L) (by omega) (show _ = cl I c (wb o D k) from (congrFun (hJ c (by omega) (by omega)) _).trans (cl_s hwb).symm) ?_
            refine x_S1i (by decide) (Nat.le_of_ble_eq_true rfl) (s1_balanced (d := d + 3) (by omega)) ?_
            refine x_iload rfl ?_
            refine x_iload rfl ?_
            exact rfl
          apply t_Q
          · apply t_K
            apply t_Qs
            apply t_Ks
            · apply t_Q
              · apply t_B
                · exact rfl
                exact t_if_ne_f (by omega)
              apply t_B
              · refine x_iconst ?_
                exact rfl
              exact t_goto
            · decide
          apply t_Q
          · apply t_S
            refine x_V4v tg_297 (Nat.le_of_ble_eq_true rfl) (hwt) ?_
            refine x_iload_n rfl ?_
            refine x_iload rfl ?_
            refine x_isub ?_
            refine x_aload_n rfl ?_
            refine x_giv tg_297 rfl (show _ = ((TM.length : Nat) : Int) from wrc_n) ?_
            exact rfl
          apply t_Qs
          apply t_Ks
          · apply t_Q
            · apply t_B
              · exact rfl
              exact t_ic_ge_f (by omega)
            apply t_B
            · refine x_aload_n rfl ?_
              refine x_gr tg_297 rfl (fx_297_0 hF) ?_
              refine x_iload_n rfl ?_
              refine x_iload rfl ?_
              refine x_isub ?_
              refine x_ialdv (Or.inl tg_298) (ln_298 L) (by omega) hg2 ?_
              exact rfl
            exact t_ireq (Or.inl rfl) rfl rfl
          · decide
        · decide
      · rw [if_neg q2] at hwt
        apply Exists.intro
        unfold wX10_byteAt_39
        apply t_Q
        · apply t_B
          · refine x_iload rfl ?_
            refine x_iload rfl ?_
            exact rfl
          exact t_ic_gt_f (by omega)
        apply t_Q
        · apply t_S
          refine x_iload_n rfl ?_
          refine x_iload rfl ?_
          refine x_iload rfl ?_
          refine x_S3i (by decide) (Nat.le_of_ble_eq_true rfl) (s6_rankedPlace (d := d + 2) h0 (n := D) (k := k) (by omega) (by omega)) ?_
          refine x_istore rfl ?_
          refine x_aload_n rfl ?_
          refine x_gr ha.1 rfl ha.2.1 ?_
          refine x_iload rfl ?_
          refine x_ialdv (Or.inl ha.2.2.1) (ha.2.2.2 L) (by omega) (show _ = cl I c (wb o D k) from (congrFun (hJ c (by omega) (by omega)) _).trans (cl_s hwb).symm) ?_
          exact rfl
        apply t_Qs
        apply t_Ks
        · apply t_Q
          · apply t_B
            · exact rfl
            exact t_if_eq_f (by omega)
          apply t_Q
          · apply t_S
            refine x_aload_n rfl ?_
            refine x_aload_n rfl ?_
            refine x_gr ha.1 rfl ha.2.1 ?_
            refine x_iload rfl ?_
            refine x_ialdv (Or.inl ha.2.2.1) (ha.2.2.2 L) (by omega) (show _ = cl I c (wb o D k) from (congrFun (hJ c (by omega) (by omega)) _).trans (cl_s hwb).symm) ?_
            refine x_S1i (by decide) (Nat.le_of_ble_eq_true rfl) (s1_balanced (d := d + 3) (by omega)) ?_
            refine x_iload rfl ?_
            refine x_iload rfl ?_
            exact rfl
          apply t_Q
          · apply t_Ks
            · apply t_Q
              · apply t_K
                apply t_Qs
                apply t_B
                · exact rfl
                exact t_if_ne_t (by omega)
              apply t_S
              refine x_iconst ?_
              exact rfl
            · decide
          apply t_Q
          · apply t_S
            refine x_V4v tg_297 (Nat.le_of_ble_eq_true rfl) (hwt) ?_
            refine x_iload_n rfl ?_
            refine x_iload rfl ?_
            refine x_isub ?_
            refine x_aload_n rfl ?_
            refine x_giv tg_297 rfl (show _ = ((TM.length : Nat) : Int) from wrc_n) ?_
            exact rfl
          apply t_Qs
          apply t_Ks
          · apply t_Q
            · apply t_B
              · exact rfl
              exact t_ic_ge_f (by omega)
            apply t_B
            · refine x_aload_n rfl ?_
              refine x_gr tg_297 rfl (fx_297_0 hF) ?_
              refine x_iload_n rfl ?_
              refine x_iload rfl ?_
              refine x_isub ?_
              refine x_ialdv (Or.inl tg_298) (ln_298 L) (by omega) hg2 ?_
              exact rfl
            exact t_ireq (Or.inl rfl) rfl rfl
          · decide
        · decide
    obtain ⟨ls, key⟩ := key
    exact ⟨_, key, Or.inr ⟨by show ¬ 1 = 39 + 2; decide, Or.inr ⟨ls, _, 91 - tri (D + 1) + (k + 1), by rw [hres], ht91, by omega, hJ2 _⟩⟩⟩
  · refine ⟨(39 + 2, [vR 297, vR a, vI o, vI p, vI m4, vI ((txt o (cl I c) (91 - tri (D + 1) + (k + 1))).length : Nat), vI D, vI ((k + 1 : Nat) : Int), vI (wb o D k : Nat)], [], LH L (wrc J TM) R u), ?_, Or.inl ⟨rfl, D + 1 - (k + 1), by omega, k + 1, _, _, rfl, by omega, rfl, by omega, hJ2 _⟩⟩
    rw [show (((txt o (cl I c) (91 - tri (D + 1) + (k + 1))).length : Nat) : Int) = ((txt o (cl I c) (91 - tri (D + 1) + k)).length : Nat) + (TM.length : Nat) by omega]
    by_cases q2 : (txt o (cl I c) (91 - tri (D + 1) + k)).length = 0
    · rw [if_pos q2] at hwt
      unfold wX10_byteAt_39
      apply t_Q
      · apply t_B
        · refine x_iload rfl ?_
          refine x_iload rfl ?_
          exact rfl
        exact t_ic_gt_f (by omega)
      apply t_Q
      · apply t_S
        refine x_iload_n rfl ?_
        refine x_iload rfl ?_
        refine x_iload rfl ?_
        refine x_S3i (by decide) (Nat.le_of_ble_eq_true rfl) (s6_rankedPlace (d := d + 2) h0 (n := D) (k := k) (by omega) (by omega)) ?_
        refine x_istore rfl ?_
        refine x_aload_n rfl ?_
        refine x_gr ha.1 rfl ha.2.1 ?_
        refine x_iload rfl ?_
        refine x_ialdv (Or.inl ha.2.2.1) (ha.2.2.2 L) (by omega) (show _ = cl I c (wb o D k) from (congrFun (hJ c (by omega) (by omega)) _).trans (cl_s hwb).symm) ?_
        exact rfl
      apply t_Q
      · apply t_Ks
        · apply t_Q
          · apply t_B
            · exact rfl
            exact t_if_eq_f (by omega)
          apply t_Q
          · apply t_S
            refine x_aload_n rfl ?_
            refine x_aload_n rfl ?_
            refine x_gr ha.1 rfl ha.2.1 ?_
            refine x_iload rfl ?_
            refine x_ialdv (Or.inl ha.2.2.1) (ha.2.2.2 L) (by omega) (show _ = cl I c (wb o D k) from (congrFun (hJ c (by omega) (by omega)) _).trans (cl_s hwb).symm) ?_
            refine x_S1i (by decide) (Nat.le_of_ble_eq_true rfl) (s1_balanced (d := d + 3) (by omega)) ?_
            refine x_iload rfl ?_
            refine x_iload rfl ?_
            exact rfl
          apply t_Q
          · apply t_K
            apply t_Qs
            apply t_Ks
            · apply t_Q
              · apply t_B
                · exact rfl
                exact t_if_ne_f (by omega)
              apply t_B
              · refine x_iconst ?_
                exact rfl
              exact t_goto
            · decide
          apply t_Q
          · apply t_S
            refine x_V4v tg_297 (Nat.le_of_ble_eq_true rfl) (hwt) ?_
            refine x_iload_n rfl ?_
            refine x_iload rfl ?_
            refine x_isub ?_
            refine x_aload_n rfl ?_
            refine x_giv tg_297 rfl (show _ = ((TM.length : Nat) : Int) from wrc_n) ?_
            exact rfl
          apply t_Q
          · apply t_K
            apply t_Qs
            apply t_B
            · exact rfl
            exact t_ic_ge_t (by omega)
          apply t_S
          refine x_iload rfl ?_
          refine x_aload_n rfl ?_
          refine x_giv tg_297 rfl (show _ = ((TM.length : Nat) : Int) from wrc_n) ?_
          refine x_iadd ?_
          refine x_istore rfl ?_
          exact rfl
        · decide
      apply t_B
      · refine x_iinc rfl rfl ?_
        exact rfl
      exact t_goeq rfl
    · rw [if_neg q2] at hwt
      unfold wX10_byteAt_39
      apply t_Q
      · apply t_B
        · refine x_iload rfl ?_
          refine x_iload rfl ?_
          exact rfl
        exact t_ic_gt_f (by omega)
      apply t_Q
      · apply t_S
        refine x_iload_n rfl ?_
        refine x_iload rfl ?_
        refine x_iload rfl ?_
        refine x_S3i (by decide) (Nat.le_of_ble_eq_true rfl) (s6_rankedPlace (d := d + 2) h0 (n := D) (k := k) (by omega) (by omega)) ?_
        refine x_istore rfl ?_
        refine x_aload_n rfl ?_
        refine x_gr ha.1 rfl ha.2.1 ?_
        refine x_iload rfl ?_
        refine x_ialdv (Or.inl ha.2.2.1) (ha.2.2.2 L) (by omega) (show _ = cl I c (wb o D k) from (congrFun (hJ c (by omega) (by omega)) _).trans (cl_s hwb).symm) ?_
        exact rfl
      apply t_Q
      · apply t_Ks
        · apply t_Q
          · apply t_B
            · exact rfl
            exact t_if_eq_f (by omega)
          apply t_Q
          · apply t_S
            refine x_aload_n rfl ?_
            refine x_aload_n rfl ?_
            refine x_gr ha.1 rfl ha.2.1 ?_
            refine x_iload rfl ?_
            refine x_ialdv (Or.inl ha.2.2.1) (ha.2.2.2 L) (by omega) (show _ = cl I c (wb o D k) from (congrFun (hJ c (by omega) (by omega)) _).trans (cl_s hwb).symm) ?_
            refine x_S1i (by decide) (Nat.le_of_ble_eq_true rfl) (s1_balanced (d := d + 3) (by omega)) ?_
            refine x_iload rfl ?_
            refine x_iload rfl ?_
            exact rfl
          apply t_Q
          · apply t_Ks
            · apply t_Q
              · apply t_K
                apply t_Qs
                apply t_B
                · exact rfl
                exact t_if_ne_t (by omega)
              apply t_S
              refine x_iconst ?_
              exact rfl
            · decide
          apply t_Q
          · apply t_S
            refine x_V4v tg_297 (Nat.le_of_ble_eq_true rfl) (hwt) ?_
            refine x_iload_n rfl ?_
            refine x_iload rfl ?_
            refine x_isub ?_
            refine x_aload_n rfl ?_
            refine x_giv tg_297 rfl (show _ = ((TM.length : Nat) : Int) from wrc_n) ?_
            exact rfl
          apply t_Q
          · apply t_K
            apply t_Qs
            apply t_B
            · exact rfl
            exact t_ic_ge_t (by omega)
          apply t_S
          refine x_iload rfl ?_
          refine x_aload_n rfl ?_
          refine x_giv tg_297 rfl (show _ = ((TM.length : Nat) : Int) from wrc_n) ?_
          refine x_iadd ?_
          refine x_istore rfl ?_
          exact rfl
        · decide
      apply t_B
      · refine x_iinc rfl rfl ?_
        exact rfl
      exact t_goeq rfl
theorem s3' {α β : Type} {x y : α} {z : β} (h : x = y) : (x, z) = (y, z) := by rw [h]
set_option maxRecDepth 10000 in
theorem lp10_byo {d L : Nat} {I : Nat → Nat → Int} {R : Nat → Nat → Option Nat} {u : Int64} (hF : FixR R) (hC : Tabc I) {a c : Nat} (ha : Opx R a c) (hc7 : c < 297 ∨ 298 < c) (hc : Rsc I c) {o : Int} (h0 : o = 0 ∨ o = 1) {p : Int} (hp : 0 ≤ p ∧ p ≤ 2147483647) {m4 : Int} {N : Nat} (hN13 : N ≤ 13) (hz : txt o (cl I c) (91 - tri N) = []) : ∃ r, am_lp (am_ev (am_run am_tb (d + 4)) wX10_byteAt_31) 31 am_F ([vR 297, vR a, vI o, vI p, vI m4, vI 0, vI ((N : Int) - 1), vU, vU], [], LH L I R u) = some r ∧ ((∃ J ls, r = (136, ls, [], LH L J R u) ∧ ((txt o (cl I c) 91).length : Nat) ≤ p ∧ (∀ x, x ≠ 297 → x ≠ 298 → J x = I x)) ∨ ∃ ls J t, r = (1, ls, [vI ((txt o (cl I c) t).getD p.toNat 0)], LH L J R u) ∧ t ≤ 91 ∧ p < ((txt o (cl I c) t).length : Nat) ∧ (∀ x, x ≠ 297 → x ≠ 298 → J x = I x)) := by
  have htr := tri_m hN13
  rw [tri_13] at htr
  refine lp_meas (fun M y => ∃ i J l7 l8, M = N - i ∧ i ≤ N ∧ y = ([vR 297, vR a, vI o, vI p, vI m4, vI ((txt o (cl I c) (91 - tri (N - i))).length : Nat), vI ((N : Int) - 1 - (i : Int)), l7, l8], [], LH L J R u) ∧ ((txt o (cl I c) (91 - tri (N - i))).length : Nat) ≤ p ∧ (∀ x, x ≠ 297 → x ≠ 298 → J x = I x)) _ (fun M y hy => ?_) am_F N _ (ltF (by omega)) ⟨0, I, vU, vU, rfl, by omega, ?_, by rw [Nat.sub_zero, hz]; exact hp.1, fun _ _ _ => rfl⟩
  · obtain ⟨i, J, l7, l8, eM, hi, ey, hlp, hJ⟩ := hy
    subst ey
    by_cases ci : i = N
    · subst ci
      rw [Nat.sub_self, show 91 - tri 0 = 91 from rfl] at hlp ⊢
      refine ⟨(136, [vR 297, vR a, vI o, vI p, vI m4, vI ((txt o (cl I c) (91)).length : Nat), vI ((i : Int) - 1 - (i : Int)), l7, l8], [], LH L J R u), ?_, Or.inr ⟨by show ¬ 136 = 31 + 2; decide, Or.inl ⟨J, _, rfl, hlp, hJ⟩⟩⟩
      unfold wX10_byteAt_31
      apply t_Qs
      apply t_B
      · refine x_iload rfl ?_
        exact rfl
      exact t_if_lt_t (by omega)
    · have e1 : N - 1 - i + 1 = N - i := by omega
      have e2 : (N : Int) - 1 - (i : Int) = ((N - 1 - i : Nat) : Int) := by omega
      obtain ⟨r, hl, hr⟩ := lp10_byi (d := d) (L := L) (u := u) hF hC ha hc7 hc h0 hp (D := N - 1 - i) (by omega) (m4 := m4) (w8 := l8) hJ (by rw [show N - 1 - i + 1 = N - i by omega]; exact hlp)
      rw [e1] at hl
      rw [e2]
      rcases hr with ⟨J2, m8, er, h1, h2⟩ | ⟨ls, J2, t, er, h1, h2, h3⟩
      · subst er
        refine ⟨(31 + 2, [vR 297, vR a, vI o, vI p, vI m4, vI ((txt o (cl I c) (91 - tri (N - 1 - i))).length : Nat), vI (((N - 1 - i : Nat) : Int) + -1), vI ((N - 1 - i + 1 : Nat) : Int), m8], [], LH L J2 R u), ?_, Or.inl ⟨rfl, N - (i + 1), by omega, i + 1, J2, _, _, rfl, by omega, s3' (by rw [show N - (i + 1) = N - 1 - i by omega, show ((N - 1 - i : Nat) : Int) + -1 = (N : Int) - 1 - ((i + 1 : Nat) : Int) by omega]), by rw [show N - (i + 1) = N - 1 - i by omega]; exact h1, h2⟩⟩
        unfold wX10_byteAt_31
        apply t_Q
        · apply t_B
          · refine x_iload rfl ?_
            exact rfl
          exact t_if_lt_f (by omega)
        apply t_Q
        · apply t_S
          refine x_iconst ?_
          refine x_istore rfl ?_
          exact rfl
        apply t_Q
        · apply t_K
          apply t_W
          exact hl
        apply t_B
        · refine x_iinc rfl rfl ?_
          exact rfl
        exact t_goeq rfl
      · subst er
        have key : ∃ ls, am_ev (am_run am_tb (d + 4)) wX10_byteAt_31 ([vR 297, vR a, vI o, vI p, vI m4, vI ((txt o (cl I c) (91 - tri (N - i))).length : Nat), vI (((N - 1 - i : Nat) : Int)), l7, l8], [], LH L J R u) = some (1, ls, [vI ((txt o (cl I c) t).getD p.toNat 0)], LH L J2 R u) := by
          apply Exists.intro
          unfold wX10_byteAt_31
          apply t_Q
          · apply t_B
            · refine x_iload rfl ?_
              exact rfl
            exact t_if_lt_f (by omega)
          apply t_Q
          · apply t_S
            refine x_iconst ?_
            refine x_istore rfl ?_
            exact rfl
          apply t_Qs
          apply t_Ks
          · apply t_W
            exact hl
          · decide
        obtain ⟨ls2, key⟩ := key
        exact ⟨_, key, Or.inr ⟨by show ¬ 1 = 31 + 2; decide, Or.inr ⟨ls2, J2, t, rfl, h1, h2, h3⟩⟩⟩
  · rw [Nat.sub_zero, hz, show (N : Int) - 1 - ((0 : Nat) : Int) = (N : Int) - 1 by omega]
    rfl
set_option maxRecDepth 10000 in
theorem s10_byteAt {d L : Nat} {I : Nat → Nat → Int} {R : Nat → Nat → Option Nat} {u : Int64} (hF : FixR R) (hC : Tabc I) {a c : Nat} (ha : Opx R a c) (hc7 : c < 297 ∨ 298 < c) (hc : Rsc I c) {o : Int} (h0 : o = 0 ∨ o = 1) {p : Int} (hp : 0 ≤ p ∧ p ≤ 2147483647) : ∃ J, am_run am_tb (d + 5) 87 [vR 297, vR a, vI o, vI p] (LH L I R u) = some ([vI (if p < ((lin o (cl I c)).length : Nat) then (lin o (cl I c)).getD p.toNat 0 else -20001)], LH L J R u) ∧ (∀ x, x ≠ 297 → x ≠ 298 → J x = I x) := by
  have hdg := s6_degree (d := d + 2) (L := L) (u := u) hC ha hc
  have hdb := dgr_b (cl I c)
  have hd12 := clD (I := I) (c := c)
  by_cases z : dgr (cl I c) < 0
  · have hall := led_neg (o := o).mp (dgr_neg.mp z)
    have ht0 : lno o (cl I c) 13 = [] := by
      rw [txt_13]
      exact txt_z (T := 0) (by omega) (fun w hw _ => hall w (by omega)) (by omega)
    have hln : lin o (cl I c) = [48] := by unfold lin; rw [ht0]; rfl
    refine ⟨I, ?_, fun _ _ _ => rfl⟩
    refine run_of tb_X10_byteAt (Nat.le_of_ble_eq_true rfl) ?_
    show ∃ ls', am_ev (am_run am_tb (d + 4)) tX10_byteAt ([vR 297, vR a, vI o, vI p, vU, vU, vU, vU, vU], [], LH L I R u) = _
    rw [hln]
    by_cases q : p = 0
    · rw [if_pos (show p < (([48] : List Int).length : Nat) by rw [q]; decide), q]
      apply Exists.intro
      unfold tX10_byteAt
      apply t_Q
      · apply t_S
        refine x_aload_n rfl ?_
        refine x_V1i ha.1 (Nat.le_of_ble_eq_true rfl) (hdg) ?_
        refine x_istore rfl ?_
        refine x_iload rfl ?_
        exact rfl
      apply t_Qs
      apply t_Ks
      · apply t_Q
        · apply t_B
          · exact rfl
          exact t_if_ge_f (by omega)
        apply t_Q
        · apply t_S
          refine x_iload_n rfl ?_
          exact rfl
        apply t_Q
        · apply t_K
          apply t_Qs
          apply t_Ks
          · apply t_Q
            · apply t_B
              · exact rfl
              exact t_if_ne_f (by omega)
            apply t_B
            · refine x_bipush ?_
              exact rfl
            exact t_goto
          · decide
        apply t_B
        · exact rfl
        exact t_ireq (Or.inl rfl) rfl rfl
      · decide
    · rw [if_neg (show ¬ p < (([48] : List Int).length : Nat) by rw [show (([48] : List Int).length : Nat) = 1 from rfl]; omega)]
      apply Exists.intro
      unfold tX10_byteAt
      apply t_Q
      · apply t_S
        refine x_aload_n rfl ?_
        refine x_V1i ha.1 (Nat.le_of_ble_eq_true rfl) (hdg) ?_
        refine x_istore rfl ?_
        refine x_iload rfl ?_
        exact rfl
      apply t_Qs
      apply t_Ks
      · apply t_Q
        · apply t_B
          · exact rfl
          exact t_if_ge_f (by omega)
        apply t_Q
        · apply t_S
          refine x_iload_n rfl ?_
          exact rfl
        apply t_Q
        · apply t_Ks
          · apply t_Q
            · apply t_K
              apply t_Qs
              apply t_B
              · exact rfl
              exact t_if_ne_t (by omega)
            apply t_S
            refine x_sipush ?_
            exact rfl
          · decide
        apply t_B
        · exact rfl
        exact t_ireq (Or.inl rfl) rfl rfl
      · decide
  · obtain ⟨N, hNd⟩ : ∃ N : Nat, (N : Int) = dgr (cl I c) + 1 := ⟨(dgr (cl I c) + 1).toNat, by omega⟩
    obtain ⟨w, hw, hl, hne, hmax⟩ := led_get (o := o) (f := cl I c) (fun k => z (dgr_neg.mpr k))
    have hw9 : w < 91 := Nat.not_le.mp fun k => hne (cl_z k)
    have htn := txt_n (o := o) hw9 hne
    have hln : lin o (cl I c) = txt o (cl I c) 91 := by unfold lin; rw [txt_13, if_neg (by omega)]
    rw [hln]
    have htr := tri_m (show N ≤ 13 by omega)
    rw [tri_13] at htr
    obtain ⟨r, hlp, hr⟩ := lp10_byo (d := d) (L := L) (u := u) hF hC ha hc7 hc h0 hp (m4 := (N : Int) - 1) (N := N) (by omega) (txt_z (T := tri N) htr (fun v hv hrk => dgr_z (by omega) (by
      have h2 := (rk_b o v).2
      have h3 : ¬ wn v < N := fun q => by
        have := tri_m (show wn v + 1 ≤ N by omega)
        omega
      omega)) (Nat.le_refl _))
    rw [show dgr (cl I c) = (N : Int) - 1 by omega] at hdg
    rcases hr with ⟨J, ls, er, h1, h2⟩ | ⟨ls, J, t, er, h1, h2, h3⟩
    · subst er
      refine ⟨J, ?_, h2⟩
      rw [if_neg (by omega)]
      refine run_of tb_X10_byteAt (Nat.le_of_ble_eq_true rfl) ?_
      show ∃ ls', am_ev (am_run am_tb (d + 4)) tX10_byteAt ([vR 297, vR a, vI o, vI p, vU, vU, vU, vU, vU], [], LH L I R u) = _
      apply Exists.intro
      unfold tX10_byteAt
      apply t_Q
      · apply t_S
        refine x_aload_n rfl ?_
        refine x_V1i ha.1 (Nat.le_of_ble_eq_true rfl) (hdg) ?_
        refine x_istore rfl ?_
        refine x_iload rfl ?_
        exact rfl
      apply t_Q
      · apply t_K
        apply t_Qs
        apply t_B
        · exact rfl
        exact t_if_ge_t (by omega)
      apply t_Q
      · apply t_S
        refine x_iconst ?_
        refine x_istore rfl ?_
        refine x_iload rfl ?_
        refine x_istore rfl ?_
        exact rfl
      apply t_Q
      · apply t_K
        apply t_W
        exact hlp
      apply t_B
      · refine x_sipush ?_
        exact rfl
      exact t_ireq (Or.inl rfl) rfl rfl
    · subst er
      have hg := txt_g (o := o) (f := cl I c) (t := t) (j := p.toNat) h1 (by omega)
      refine ⟨J, ?_, h3⟩
      rw [if_pos (by omega), hg.2]
      refine run_of tb_X10_byteAt (Nat.le_of_ble_eq_true rfl) ?_
      show ∃ ls', am_ev (am_run am_tb (d + 4)) tX10_byteAt ([vR 297, vR a, vI o, vI p, vU, vU, vU, vU, vU], [], LH L I R u) = _
      apply Exists.intro
      unfold tX10_byteAt
      apply t_Q
      · apply t_S
        refine x_aload_n rfl ?_
        refine x_V1i ha.1 (Nat.le_of_ble_eq_true rfl) (hdg) ?_
        refine x_istore rfl ?_
        refine x_iload rfl ?_
        exact rfl
      apply t_Q
      · apply t_K
        apply t_Qs
        apply t_B
        · exact rfl
        exact t_if_ge_t (by omega)
      apply t_Q
      · apply t_S
        refine x_iconst ?_
        refine x_istore rfl ?_
        refine x_iload rfl ?_
        refine x_istore rfl ?_
        exact rfl
      apply t_Qs
      apply t_Ks
      · apply t_W
        exact hlp
      · decide
set_option maxRecDepth 10000 in
theorem s11_shown_ok {d L : Nat} {I : Nat → Nat → Int} {R : Nat → Nat → Option Nat} {u : Int64} (hF : FixR R) (hB : Tbc I) (hS : Sn I) {s : Nat} (hs : s < 6) {p : Int} (hp : 0 ≤ p ∧ p ≤ 2147483647) : ∃ J, am_run am_tb (d + 6) 115 [vR 3, vI s, vI p] (LH L I R u) = some ([vI (if p < ((lin (I 4 2) (opc I s)).length : Nat) then (lin (I 4 2) (opc I s)).getD p.toNat 0 else -20001)], LH L J R u) ∧ Fc I J := by
  have h0 := hS.2
  obtain ⟨J, hb, hJ⟩ := s10_byteAt (d := d) (L := L) (u := u) hF hB.1 (op_st hF hs) (by omega) (Sn_op hS hs) h0 hp
  refine ⟨J, ?_, Fc_n (fun a ha => hJ a (fun z => ha (by unfold Sca; omega)) (fun z => ha (by unfold Sca; omega)))⟩
  rw [show cl I (10 + 2 * s) = opc I s from rfl] at hb
  generalize lin (I 4 2) (opc I s) = li at *
  refine run_of tb_X11_shown (Nat.le_of_ble_eq_true rfl) ?_
  show ∃ ls', am_ev (am_run am_tb (d + 5)) tX11_shown ([vR 3, vI s, vI p], [], LH L I R u) = _
  apply Exists.intro
  unfold tX11_shown
  apply t_Q
  · apply t_S
    refine x_iload_n rfl ?_
    refine x_S1i (by decide) (Nat.le_of_ble_eq_true rfl) (ret_t (show 0 ≤ (s : Int) ∧ (s : Int) < 6 by omega) (s11_isOperator (d := d + 4) (by omega))) ?_
    exact rfl
  apply t_Q
  · apply t_K
    apply t_Qs
    apply t_Ks
    · apply t_Q
      · apply t_B
        · exact rfl
        exact t_if_eq_f (by omega)
      apply t_B
      · refine x_iload_n rfl ?_
        exact rfl
      exact t_if_ge_t (by omega)
    · decide
  apply t_B
  · refine x_aload_n rfl ?_
    refine x_gr tg_3 rfl (fx_3_8 hF) ?_
    refine x_aload_n rfl ?_
    refine x_gr tg_3 rfl (fx_3_0 hF) ?_
    refine x_gr tg_4 rfl (fx_4_0 hF) ?_
    refine x_iload_n rfl ?_
    refine x_aald (by rw [tg_5]; decide) (ln_5 L) (by omega) (fx_op hF hs : R 5 s = some (9 + 2 * s)) ?_
    refine x_aload_n rfl ?_
    refine x_gr tg_3 rfl (fx_3_0 hF) ?_
    refine x_gi tg_4 rfl ?_
    refine x_iload_n rfl ?_
    refine x_V4i tg_297 (Nat.le_of_ble_eq_true rfl) (hb) ?_
    exact rfl
  exact t_ireq (Or.inl rfl) rfl rfl
