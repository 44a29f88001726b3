/-! The class: min, max, abs, fill; cells filled, scaled, added, counted; leads. Written by wip/whole/gen_74.py. -/
set_option maxRecDepth 10000 in
theorem sj_min {d : Nat} {h : am_H} {a b : Int} (h1 : inR a) (h2 : inR b) : am_run am_tb (d + 1) 233 [vI a, vI b] h = some ([vI (min a b)], h) := by
  refine run_of tb_J9_min_7cf53 (Nat.le_of_ble_eq_true rfl) ?_
  show ∃ ls', am_ev (am_run am_tb (d + 0)) tJ9_min_7cf53 ([vI a, vI b], [], h) = some (1, ls', [vI (min a b)], h)
  by_cases c : b < a
  · rw [show min a b = b by omega]
    apply Exists.intro
    unfold tJ9_min_7cf53
    apply t_Q
    · apply t_S
      refine x_iload_n rfl ?_
      refine x_iload_n rfl ?_
      exact rfl
    apply t_Q
    · apply t_Ks
      · apply t_Q
        · apply t_K
          apply t_Qs
          apply t_B
          · exact rfl
          exact t_ic_gt_t (by omega)
        apply t_S
        refine x_iload_n rfl ?_
        exact rfl
      · decide
    apply t_B
    · exact rfl
    exact t_ireq (Or.inl rfl) rfl rfl
  · rw [show min a b = a by omega]
    apply Exists.intro
    unfold tJ9_min_7cf53
    apply t_Q
    · apply t_S
      refine x_iload_n rfl ?_
      refine x_iload_n rfl ?_
      exact rfl
    apply t_Q
    · apply t_K
      apply t_Qs
      apply t_Ks
      · apply t_Q
        · apply t_B
          · exact rfl
          exact t_ic_gt_f (by omega)
        apply t_B
        · refine x_iload_n rfl ?_
          exact rfl
        exact t_goto
      · decide
    apply t_B
    · exact rfl
    exact t_ireq (Or.inl rfl) rfl rfl
set_option maxRecDepth 10000 in
theorem sj_max {d : Nat} {h : am_H} {a b : Int} (h1 : inR a) (h2 : inR b) : am_run am_tb (d + 1) 232 [vI a, vI b] h = some ([vI (max a b)], h) := by
  refine run_of tb_J9_max_7cf53 (Nat.le_of_ble_eq_true rfl) ?_
  show ∃ ls', am_ev (am_run am_tb (d + 0)) tJ9_max_7cf53 ([vI a, vI b], [], h) = some (1, ls', [vI (max a b)], h)
  by_cases c : a < b
  · rw [show max a b = b by omega]
    apply Exists.intro
    unfold tJ9_max_7cf53
    apply t_Q
    · apply t_S
      refine x_iload_n rfl ?_
      refine x_iload_n rfl ?_
      exact rfl
    apply t_Q
    · apply t_Ks
      · apply t_Q
        · apply t_K
          apply t_Qs
          apply t_B
          · exact rfl
          exact t_ic_lt_t (by omega)
        apply t_S
        refine x_iload_n rfl ?_
        exact rfl
      · decide
    apply t_B
    · exact rfl
    exact t_ireq (Or.inl rfl) rfl rfl
  · rw [show max a b = a by omega]
    apply Exists.intro
    unfold tJ9_max_7cf53
    apply t_Q
    · apply t_S
      refine x_iload_n rfl ?_
      refine x_iload_n rfl ?_
      exact rfl
    apply t_Q
    · apply t_K
      apply t_Qs
      apply t_Ks
      · apply t_Q
        · apply t_B
          · exact rfl
          exact t_ic_lt_f (by omega)
        apply t_B
        · refine x_iload_n rfl ?_
          exact rfl
        exact t_goto
      · decide
    apply t_B
    · exact rfl
    exact t_ireq (Or.inl rfl) rfl rfl
set_option maxRecDepth 10000 in
theorem sj_abs {d : Nat} {h : am_H} {a : Int} (h1 : inR a) : am_run am_tb (d + 1) 231 [vI a] h = some ([vI (azt a)], h) := by
  refine run_of tb_J9_abs_0f7a4 (Nat.le_of_ble_eq_true rfl) ?_
  show ∃ ls', am_ev (am_run am_tb (d + 0)) tJ9_abs_0f7a4 ([vI a], [], h) = some (1, ls', [vI (azt a)], h)
  by_cases c : a < 0
  · rw [show azt a = -a from if_pos c]
    apply Exists.intro
    unfold tJ9_abs_0f7a4
    apply t_Q
    · apply t_S
      refine x_iload_n rfl ?_
      exact rfl
    apply t_Q
    · apply t_K
      apply t_Qs
      apply t_Ks
      · apply t_Q
        · apply t_B
          · exact rfl
          exact t_if_ge_f (by omega)
        apply t_B
        · refine x_iload_n rfl ?_
          refine x_ineg ?_
          exact rfl
        exact t_goto
      · decide
    apply t_B
    · exact rfl
    exact t_ireq (Or.inl rfl) rfl rfl
  · rw [show azt a = a from if_neg c]
    apply Exists.intro
    unfold tJ9_abs_0f7a4
    apply t_Q
    · apply t_S
      refine x_iload_n rfl ?_
      exact rfl
    apply t_Q
    · apply t_Ks
      · apply t_Q
        · apply t_K
          apply t_Qs
          apply t_B
          · exact rfl
          exact t_if_ge_t (by omega)
        apply t_S
        refine x_iload_n rfl ?_
        exact rfl
      · decide
    apply t_B
    · exact rfl
    exact t_ireq (Or.inl rfl) rfl rfl
set_option maxRecDepth 10000 in
theorem s1_balanced {d : Nat} {h : am_H} {v : Int} (h1 : inR v) : am_run am_tb (d + 1) 10 [vI v] h = some ([vI (tl v)], h) := by
  refine run_of tb_X1_balanced (Nat.le_of_ble_eq_true rfl) ?_
  show ∃ ls', am_ev (am_run am_tb (d + 0)) tX1_balanced ([vI v], [], h) = some (1, ls', [vI (tl v)], h)
  by_cases c : 5003 < v
  · rw [show tl v = v - 10007 from if_pos c]
    apply Exists.intro
    unfold tX1_balanced
    apply t_Q
    · apply t_S
      refine x_iload_n rfl ?_
      refine x_sipush ?_
      exact rfl
    apply t_Q
    · apply t_K
      apply t_Qs
      apply t_Ks
      · apply t_Q
        · apply t_B
          · exact rfl
          exact t_ic_le_f (by omega)
        apply t_B
        · refine x_iload_n rfl ?_
          refine x_sipush ?_
          refine x_isub ?_
          exact rfl
        exact t_goto
      · decide
    apply t_B
    · exact rfl
    exact t_ireq (Or.inl rfl) rfl rfl
  · rw [show tl v = v from if_neg c]
    apply Exists.intro
    unfold tX1_balanced
    apply t_Q
    · apply t_S
      refine x_iload_n rfl ?_
      refine x_sipush ?_
      exact rfl
    apply t_Q
    · apply t_Ks
      · apply t_Q
        · apply t_K
          apply t_Qs
          apply t_B
          · exact rfl
          exact t_ic_le_t (by omega)
        apply t_S
        refine x_iload_n rfl ?_
        exact rfl
      · decide
    apply t_B
    · exact rfl
    exact t_ireq (Or.inl rfl) rfl rfl
set_option maxRecDepth 10000 in
theorem lp1_inverse {d L : Nat} {I : Nat → Nat → Int} {R : Nat → Nat → Option Nat} {u : Int64} (hF : FixR R) {v : Int} (h1 : 0 ≤ v ∧ v < 10007) : am_lp (am_ev (am_run am_tb (d + 1)) wX1_inverse_8) 8 am_F ([vI v, vI 1, vI v, vI 10005], [], LH L I R u) = some (44, ([vI v, vI (inv v), vI (ivB v 14), vI (ivE 14)], [], LH L I R u)) := by
  skip
  refine lp_up0 (fun k => ([vI v, vI (ivM v k), vI (ivB v k), vI (ivE k)], [], LH L I R u)) (14) rfl (ltF (by first | decide | omega)) (by show ¬ 44 = 8 + 2; decide) (fun k hk => ?_) ?_
  · have he := ivE_b k hk
    have hm := ivM_b (v := v) k
    have hb : 0 ≤ ivB v k ∧ ivB v k < 10007 := by
      cases k with
      | zero => exact h1
      | succ k => show 0 ≤ ivB v k * ivB v k % 10007 ∧ ivB v k * ivB v k % 10007 < 10007; omega
    have m1 := mul_b (a := ivM v k) (b := ivB v k) (m := 10006) (n := 10006) (by omega) (by omega)
    have m2 := mul_b (a := ivB v k) (b := ivB v k) (m := 10006) (n := 10006) (by omega) (by omega)
    by_cases c : ivE k % 2 = 1
    · unfold wX1_inverse_8
      apply t_Q
      · apply t_B
        · refine x_iload_n rfl ?_
          exact rfl
        exact t_if_le_f (by omega)
      apply t_Q
      · apply t_S
        refine x_iload_n rfl ?_
        refine x_iconst ?_
        refine x_iand (by omega) ?_
        refine x_iconst ?_
        exact rfl
      apply t_Q
      · apply t_Ks
        · apply t_Q
          · apply t_B
            · exact rfl
            exact t_ic_ne_f (by omega)
          apply t_S
          refine x_iload_n rfl ?_
          refine x_iload_n rfl ?_
          refine x_imul ?_
          refine x_sipush ?_
          refine x_irem0 (by omega) ?_
          refine x_istore_n rfl ?_
          exact rfl
        · decide
      apply t_B
      · refine x_iload_n rfl ?_
        refine x_iload_n rfl ?_
        refine x_imul ?_
        refine x_sipush ?_
        refine x_irem0 (by omega) ?_
        refine x_istore_n rfl ?_
        refine x_iload_n rfl ?_
        refine x_iconst ?_
        refine x_ishr (by omega) ?_
        rw [show ivE k / 2 ^ (1 : Int).toNat = ivE k / 2 from rfl]
        refine x_istore_n rfl ?_
        exact rfl
      exact t_goeq (s3 (congrArg (fun z => [vI v, vI z, vI (ivB v k * ivB v k % 10007), vI (ivE k / 2)]) (by show _ = (if ivE k % 2 = 1 then ivM v k * ivB v k % 10007 else ivM v k); rw [if_pos c])) rfl)
    unfold wX1_inverse_8
    apply t_Q
    · apply t_B
      · refine x_iload_n rfl ?_
        exact rfl
      exact t_if_le_f (by omega)
    apply t_Q
    · apply t_S
      refine x_iload_n rfl ?_
      refine x_iconst ?_
      refine x_iand (by omega) ?_
      refine x_iconst ?_
      exact rfl
    apply t_Q
    · apply t_K
      apply t_Qs
      apply t_B
      · exact rfl
      exact t_ic_ne_t (by omega)
    apply t_B
    · refine x_iload_n rfl ?_
      refine x_iload_n rfl ?_
      refine x_imul ?_
      refine x_sipush ?_
      refine x_irem0 (by omega) ?_
      refine x_istore_n rfl ?_
      refine x_iload_n rfl ?_
      refine x_iconst ?_
      refine x_ishr (by omega) ?_
      rw [show ivE k / 2 ^ (1 : Int).toNat = ivE k / 2 from rfl]
      refine x_istore_n rfl ?_
      exact rfl
    exact t_goeq (s3 (congrArg (fun z => [vI v, vI z, vI (ivB v k * ivB v k % 10007), vI (ivE k / 2)]) (by show _ = (if ivE k % 2 = 1 then ivM v k * ivB v k % 10007 else ivM v k); rw [if_neg c])) rfl)
  · have e14 : ivE 14 = 0 := by decide
    unfold wX1_inverse_8
    apply t_Qs
    apply t_B
    · refine x_iload_n rfl ?_
      exact rfl
    exact t_if_le_t (by omega)
set_option maxRecDepth 10000 in
theorem s1_inverse {d L : Nat} {I : Nat → Nat → Int} {R : Nat → Nat → Option Nat} {u : Int64} (hF : FixR R) {v : Int} (h1 : 0 ≤ v ∧ v < 10007) : am_run am_tb (d + 2) 11 [vI v] (LH L I R u) = some ([vI (inv v)], LH L I R u) := by
  refine run_of tb_X1_inverse (Nat.le_of_ble_eq_true rfl) ?_
  show ∃ ls', am_ev (am_run am_tb (d + 1)) tX1_inverse ([vI v, vU, vU, vU], [], (LH L I R u)) = some (1, ls', [vI (inv v)], LH L I R u)
  apply Exists.intro
  unfold tX1_inverse
  apply t_Q
  · apply t_S
    refine x_iconst ?_
    refine x_istore_n rfl ?_
    refine x_iload_n rfl ?_
    refine x_istore_n rfl ?_
    refine x_sipush ?_
    refine x_istore_n rfl ?_
    exact rfl
  apply t_Q
  · apply t_K
    apply t_W
    exact lp1_inverse (d := d) hF h1
  apply t_B
  · refine x_iload_n rfl ?_
    exact rfl
  exact t_ireq (Or.inl rfl) rfl rfl
/-- an array of n ints at an address -/
def Arx (c n : Nat) : Prop := tg c = 20 ∧ (∀ L, ln L c = n) ∧ n ≤ 10000
set_option maxRecDepth 10000 in
theorem lpj_fill {d L : Nat} {I : Nat → Nat → Int} {R : Nat → Nat → Option Nat} {u : Int64} {c n : Nat} (hc : Arx c n) {v : Int} : am_lp (am_ev (am_run am_tb d) wJ7_fill_53178_5) 5 am_F ([vR c, vI v, vI 0, vI n], [], LH L I R u) = some (22, [vR c, vI v, vI n, vI n], [], LH L (au I c (fun j => if j < n then v else I c j)) R u) := by
  have hn := hc.2.2
  refine lp_up0 (fun k => ([vR c, vI v, vI k, vI n], [], LH L (au I c (fun j => if j < k then v else I c j)) R u)) n (s3 rfl (au_id.symm.trans (au_c (by funext j; rw [if_neg (by omega)])))) (ltF (by omega)) (by show ¬ 22 = 5 + 2; decide) (fun k hk => ?_) ?_
  · unfold wJ7_fill_53178_5
    apply t_Q
    · apply t_B
      · refine x_iload_n rfl ?_
        refine x_iload_n rfl ?_
        exact rfl
      exact t_ic_ge_f (by omega)
    apply t_B
    · refine x_aload_n rfl ?_
      refine x_iload_n rfl ?_
      refine x_iload_n rfl ?_
      refine x_iast hc.1 (hc.2.1 L) (by omega) ?_
      refine x_iinc rfl rfl ?_
      exact rfl
    exact t_goeq (s3 rfl (by
        rw [au_au, au_s]
        refine au_c ?_
        funext j
        rw [au_i, Int.toNat_natCast]
        by_cases e : j = k
        · rw [if_pos e, if_pos (by omega)]
        · rw [if_neg e]
          by_cases e2 : j < k
          · rw [if_pos e2, if_pos (by omega)]
          · rw [if_neg e2, if_neg (by omega)]))
  · unfold wJ7_fill_53178_5
    apply t_Qs
    apply t_B
    · refine x_iload_n rfl ?_
      refine x_iload_n rfl ?_
      exact rfl
    exact t_ic_ge_t (by omega)
set_option maxRecDepth 10000 in
theorem sj_fill {d L : Nat} {I : Nat → Nat → Int} {R : Nat → Nat → Option Nat} {u : Int64} {c n : Nat} (hc : Arx c n) {v : Int} : am_run am_tb (d + 1) 234 [vR c, vI v] (LH L I R u) = some ([], LH L (au I c (fun j => if j < n then v else I c j)) R u) := by
  refine run_of tb_J7_fill_53178 (Nat.le_of_ble_eq_true rfl) ?_
  show ∃ ls', am_ev (am_run am_tb (d + 0)) tJ7_fill_53178 ([vR c, vI v, vU, vU], [], (LH L I R u)) = some (1, ls', [], LH L (au I c (fun j => if j < n then v else I c j)) R u)
  apply Exists.intro
  unfold tJ7_fill_53178
  apply t_Q
  · apply t_S
    refine x_iconst ?_
    refine x_istore_n rfl ?_
    refine x_aload_n rfl ?_
    refine x_alen (Or.inl hc.1) ?_
    rw [hc.2.1 L]
    refine x_istore_n rfl ?_
    exact rfl
  apply t_Q
  · apply t_K
    apply t_W
    exact lpj_fill (d := d) hc
  apply t_B
  · exact rfl
  exact rfl
theorem Opx_A {R : Nat → Nat → Option Nat} {a c : Nat} (h : Opx R a c) : Arx c 91 := ⟨h.2.2.1, h.2.2.2, by decide⟩
/-- the cells become a row -/
def stc (I : Nat → Nat → Int) (c : Nat) (f : Nat → Int) : Nat → Nat → Int := au I c (fun j => if j < 91 then f j else I c j)
theorem stc_c {I : Nat → Nat → Int} {c : Nat} {f g : Nat → Int} (h : ∀ j, j < 91 → f j = g j) : stc I c f = stc I c g := by
  unfold stc
  refine au_c ?_
  funext j
  split
  · exact h j (by omega)
  · rfl
theorem stc_s {I : Nat → Nat → Int} {c j : Nat} {f : Nat → Int} (h : j < 91) : stc I c f c j = f j := by
  unfold stc
  rw [au_s]
  exact if_pos h
set_option maxRecDepth 10000 in
theorem s6_makeZero {d L : Nat} {I : Nat → Nat → Int} {R : Nat → Nat → Option Nat} {u : Int64} {a c : Nat} (ha : Opx R a c) : am_run am_tb (d + 2) 53 [vR a] (LH L I R u) = some ([], LH L (stc I c (fun _ => 0)) R u) := by
  refine run_of tb_X6_makeZero (Nat.le_of_ble_eq_true rfl) ?_
  show ∃ ls', am_ev (am_run am_tb (d + 1)) tX6_makeZero ([vR a], [], (LH L I R u)) = some (1, ls', [], LH L (stc I c (fun _ => 0)) R u)
  apply Exists.intro
  unfold tX6_makeZero
  apply t_B
  · refine x_aload_n rfl ?_
    refine x_gr ha.1 rfl ha.2.1 ?_
    refine x_iconst ?_
    refine x_S2v (by decide) (Nat.le_of_ble_eq_true rfl) (sj_fill (d := d) (Opx_A ha)) ?_
    exact rfl
  exact rfl
set_option maxRecDepth 10000 in
theorem s6_makeNumber {d L : Nat} {I : Nat → Nat → Int} {R : Nat → Nat → Option Nat} {u : Int64} {a c : Nat} (ha : Opx R a c) {v : Int} : am_run am_tb (d + 3) 54 [vR a, vI v] (LH L I R u) = some ([], LH L (stc I c (au (fun _ => 0) 0 v)) R u) := by
  refine run_of tb_X6_makeNumber (Nat.le_of_ble_eq_true rfl) ?_
  show ∃ ls', am_ev (am_run am_tb (d + 2)) tX6_makeNumber ([vR a, vI v], [], (LH L I R u)) = some (1, ls', [], LH L (stc I c (au (fun _ => 0) 0 v)) R u)
  have e : au (stc I c (fun _ => 0)) c (au (stc I c (fun _ => 0) c) 0 v) = stc I c (au (fun _ => 0) 0 v) := by
    unfold stc
    rw [au_au, au_s]
    refine au_c ?_
    funext j
    rw [au_i, au_i]
    by_cases q : j = 0
    · rw [if_pos q, if_pos (by omega), if_pos q]
    · rw [if_neg q]
      by_cases q2 : j < 91
      · rw [if_pos q2, if_pos q2, if_neg q]
      · rw [if_neg q2, if_neg q2]
  apply Exists.intro
  unfold tX6_makeNumber
  apply t_B
  · refine x_aload_n rfl ?_
    refine x_V1v ha.1 (Nat.le_of_ble_eq_true rfl) (s6_makeZero (d := d) ha) ?_
    refine x_aload_n rfl ?_
    refine x_gr ha.1 rfl ha.2.1 ?_
    refine x_iconst ?_
    refine x_iload_n rfl ?_
    refine x_iast ha.2.2.1 (ha.2.2.2 L) (by omega) ?_
    exact rfl
  exact t_vreq (LH_c e)
set_option maxRecDepth 10000 in
theorem lp6_scale {d L : Nat} {I : Nat → Nat → Int} {R : Nat → Nat → Option Nat} {u : Int64} {a c : Nat} (ha : Opx R a c) (hc : Rsc I c) {v : Int} (hv : 0 ≤ v ∧ v < 10007) : am_lp (am_ev (am_run am_tb d) wX6_scale_2) 2 am_F ([vR a, vI v, vI 0], [], LH L I R u) = some (34, [vR a, vI v, vI 91], [], LH L (au I c (fun j => if j < 91 then I c j * v % 10007 else I c j)) R u) := by
  refine lp_up0 (fun k => ([vR a, vI v, vI k], [], LH L (au I c (fun j => if j < k then I c j * v % 10007 else I c j)) R u)) 91 (s3 rfl (au_id.symm.trans (au_c (by funext j; rw [if_neg (by omega)])))) (ltF (by omega)) (by show ¬ 34 = 2 + 2; decide) (fun k hk => ?_) ?_
  · have h1 := hc k hk
    have m1 := mul_b (a := I c k) (b := v) (m := 10006) (n := 10006) (by omega) (by omega)
    unfold wX6_scale_2
    apply t_Q
    · apply t_B
      · refine x_iload_n rfl ?_
        refine x_bipush ?_
        exact rfl
      exact t_ic_ge_f (by omega)
    apply t_B
    · refine x_aload_n rfl ?_
      refine x_gr ha.1 rfl ha.2.1 ?_
      refine x_iload_n rfl ?_
      refine x_aload_n rfl ?_
      refine x_gr ha.1 rfl ha.2.1 ?_
      refine x_iload_n rfl ?_
      refine x_ialdv (Or.inl ha.2.2.1) (ha.2.2.2 L) (by omega) (show _ = I c k from by rw [au_s, Int.toNat_natCast, if_neg (by omega)]) ?_
      refine x_iload_n rfl ?_
      refine x_imul ?_
      refine x_sipush ?_
      refine x_irem0 (by omega) ?_
      refine x_iast ha.2.2.1 (ha.2.2.2 L) (by omega) ?_
      refine x_iinc rfl rfl ?_
      exact rfl
    exact t_goeq (s3 rfl (by
        rw [au_au, au_s]
        refine au_c ?_
        funext j
        rw [au_i, Int.toNat_natCast]
        by_cases e : j = k
        · subst e; rw [if_pos rfl, if_pos (by omega)]
        · rw [if_neg e]
          by_cases e2 : j < k
          · rw [if_pos e2, if_pos (by omega)]
          · rw [if_neg e2, if_neg (by omega)]))
  · unfold wX6_scale_2
    apply t_Qs
    apply t_B
    · refine x_iload_n rfl ?_
      refine x_bipush ?_
      exact rfl
    exact t_ic_ge_t (by omega)
set_option maxRecDepth 10000 in
theorem s6_scale {d L : Nat} {I : Nat → Nat → Int} {R : Nat → Nat → Option Nat} {u : Int64} {a c : Nat} (ha : Opx R a c) (hc : Rsc I c) {v : Int} (hv : 0 ≤ v ∧ v < 10007) : am_run am_tb (d + 1) 57 [vR a, vI v] (LH L I R u) = some ([], LH L (stc I c (fun j => I c j * v % 10007)) R u) := by
  refine run_of tb_X6_scale (Nat.le_of_ble_eq_true rfl) ?_
  show ∃ ls', am_ev (am_run am_tb (d + 0)) tX6_scale ([vR a, vI v, vU], [], (LH L I R u)) = some (1, ls', [], LH L (stc I c (fun j => I c j * v % 10007)) R u)
  apply Exists.intro
  unfold tX6_scale
  apply t_Q
  · apply t_S
    refine x_iconst ?_
    refine x_istore_n rfl ?_
    exact rfl
  apply t_Q
  · apply t_K
    apply t_W
    exact lp6_scale (d := d) ha hc hv
  apply t_B
  · exact rfl
  exact rfl
set_option maxRecDepth 10000 in
theorem lp6_addM {d L : Nat} {I : Nat → Nat → Int} {R : Nat → Nat → Option Nat} {u : Int64} {a c b e : Nat} (ha : Opx R a c) (hb : Opx R b e) (hce : e ≠ c) (hc : Rsc I c) (he : Rsc I e) {v : Int} (hv : 0 ≤ v ∧ v < 10007) : am_lp (am_ev (am_run am_tb d) wX6_addMultiple_2) 2 am_F ([vR a, vR b, vI v, vI 0], [], LH L I R u) = some (41, [vR a, vR b, vI v, vI 91], [], LH L (au I c (fun j => if j < 91 then (I c j + v * I e j) % 10007 else I c j)) R u) := by
  refine lp_up0 (fun k => ([vR a, vR b, vI v, vI k], [], LH L (au I c (fun j => if j < k then (I c j + v * I e j) % 10007 else I c j)) R u)) 91 (s3 rfl (au_id.symm.trans (au_c (by funext j; rw [if_neg (by omega)])))) (ltF (by omega)) (by show ¬ 41 = 2 + 2; decide) (fun k hk => ?_) ?_
  · have h1 := hc k hk
    have h2 := he k hk
    have m1 := mul_b (a := v) (b := I e k) (m := 10006) (n := 10006) (by omega) (by omega)
    unfold wX6_addMultiple_2
    apply t_Q
    · apply t_B
      · refine x_iload_n rfl ?_
        refine x_bipush ?_
        exact rfl
      exact t_ic_ge_f (by omega)
    apply t_B
    · refine x_aload_n rfl ?_
      refine x_gr ha.1 rfl ha.2.1 ?_
      refine x_iload_n rfl ?_
      refine x_aload_n rfl ?_
      refine x_gr ha.1 rfl ha.2.1 ?_
      refine x_iload_n rfl ?_
      refine x_ialdv (Or.inl ha.2.2.1) (ha.2.2.2 L) (by omega) (show _ = I c k from by rw [au_s, Int.toNat_natCast, if_neg (by omega)]) ?_
      refine x_iload_n rfl ?_
      refine x_aload_n rfl ?_
      refine x_gr hb.1 rfl hb.2.1 ?_
      refine x_iload_n rfl ?_
      refine x_ialdv (Or.inl hb.2.2.1) (hb.2.2.2 L) (by omega) (show _ = I e k from by rw [au_n _ _ hce, Int.toNat_natCast]) ?_
      refine x_imul ?_
      refine x_iadd ?_
      refine x_sipush ?_
      refine x_irem0 (by omega) ?_
      refine x_iast ha.2.2.1 (ha.2.2.2 L) (by omega) ?_
      refine x_iinc rfl rfl ?_
      exact rfl
    exact t_goeq (s3 rfl (by
        rw [au_au, au_s]
        refine au_c ?_
        funext j
        rw [au_i, Int.toNat_natCast]
        by_cases e : j = k
        · subst e; rw [if_pos rfl, if_pos (by omega)]
        · rw [if_neg e]
          by_cases e2 : j < k
          · rw [if_pos e2, if_pos (by omega)]
          · rw [if_neg e2, if_neg (by omega)]))
  · unfold wX6_addMultiple_2
    apply t_Qs
    apply t_B
    · refine x_iload_n rfl ?_
      refine x_bipush ?_
      exact rfl
    exact t_ic_ge_t (by omega)
set_option maxRecDepth 10000 in
theorem s6_addMultiple {d L : Nat} {I : Nat → Nat → Int} {R : Nat → Nat → Option Nat} {u : Int64} {a c b e : Nat} (ha : Opx R a c) (hb : Opx R b e) (hce : e ≠ c) (hc : Rsc I c) (he : Rsc I e) {v : Int} (hv : 0 ≤ v ∧ v < 10007) : am_run am_tb (d + 1) 56 [vR a, vR b, vI v] (LH L I R u) = some ([], LH L (stc I c (fun j => (I c j + v * I e j) % 10007)) R u) := by
  refine run_of tb_X6_addMultiple (Nat.le_of_ble_eq_true rfl) ?_
  show ∃ ls', am_ev (am_run am_tb (d + 0)) tX6_addMultiple ([vR a, vR b, vI v, vU], [], (LH L I R u)) = some (1, ls', [], LH L (stc I c (fun j => (I c j + v * I e j) % 10007)) R u)
  apply Exists.intro
  unfold tX6_addMultiple
  apply t_Q
  · apply t_S
    refine x_iconst ?_
    refine x_istore_n rfl ?_
    exact rfl
  apply t_Q
  · apply t_K
    apply t_W
    exact lp6_addM (d := d) ha hb hce hc he hv
  apply t_B
  · exact rfl
  exact rfl
