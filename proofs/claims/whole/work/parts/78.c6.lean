/-! The class: what fits. Written by wip/whole/gen_78.py. -/
set_option maxRecDepth 10000 in
theorem s1_productFits {d L : Nat} {I : Nat → Nat → Int} {R : Nat → Nat → Option Nat} {u : Int64} {a c b e : Nat} (hC : Tabc I) (ha : Opx R a c) (hb : Opx R b e) (hc : Rsc I c) (he : Rsc I e) : am_run am_tb (d + 3) 12 [vR a, vR b] (LH L I R u) = some ([vI (if dgr (cl I c) < 0 ∨ dgr (cl I e) < 0 ∨ dgr (cl I c) + dgr (cl I e) ≤ 12 then 1 else 0)], LH L I R u) := by
  refine run_of tb_X1_productFits (Nat.le_of_ble_eq_true rfl) ?_
  show ∃ ls', am_ev (am_run am_tb (d + 2)) tX1_productFits ([vR a, vR b], [], (LH L I R u)) = some (1, ls', [vI (if dgr (cl I c) < 0 ∨ dgr (cl I e) < 0 ∨ dgr (cl I c) + dgr (cl I e) ≤ 12 then 1 else 0)], LH L I R u)
  have d1 := dgr_b (cl I c)
  have d2 := dgr_b (cl I e)
  by_cases ca : dgr (cl I c) < 0
  · rw [if_pos (Or.inl ca)]
    apply Exists.intro
    unfold tX1_productFits
    apply t_Q
    · apply t_S
      refine x_aload_n rfl ?_
      refine x_V1i ha.1 (Nat.le_of_ble_eq_true rfl) (ret_t ca (s6_isZero (d := d) ha hc)) ?_
      exact rfl
    apply t_Q
    · apply t_K
      apply t_Qs
      apply t_Ks
      · apply t_Q
        · apply t_K
          apply t_Qs
          apply t_B
          · exact rfl
          exact t_if_ne_t (by omega)
        apply t_B
        · refine x_iconst ?_
          exact rfl
        exact t_goto
      · decide
    apply t_B
    · exact rfl
    exact t_ireq (Or.inr (by first | exact Or.inl rfl | exact Or.inr rfl)) rfl rfl
  by_cases cb : dgr (cl I e) < 0
  · rw [if_pos (Or.inr (Or.inl cb))]
    apply Exists.intro
    unfold tX1_productFits
    apply t_Q
    · apply t_S
      refine x_aload_n rfl ?_
      refine x_V1i ha.1 (Nat.le_of_ble_eq_true rfl) (ret_f ca (s6_isZero (d := d) ha hc)) ?_
      exact rfl
    apply t_Q
    · apply t_K
      apply t_Qs
      apply t_Ks
      · apply t_Q
        · apply t_K
          apply t_Q
          · apply t_B
            · exact rfl
            exact t_if_ne_f (by omega)
          apply t_Qs
          apply t_B
          · refine x_aload_n rfl ?_
            refine x_V1i hb.1 (Nat.le_of_ble_eq_true rfl) (ret_t cb (s6_isZero (d := d) hb he)) ?_
            exact rfl
          exact t_if_ne_t (by omega)
        apply t_B
        · refine x_iconst ?_
          exact rfl
        exact t_goto
      · decide
    apply t_B
    · exact rfl
    exact t_ireq (Or.inr (by first | exact Or.inl rfl | exact Or.inr rfl)) rfl rfl
  by_cases cs : dgr (cl I c) + dgr (cl I e) ≤ 12
  · rw [if_pos (Or.inr (Or.inr cs))]
    apply Exists.intro
    unfold tX1_productFits
    apply t_Q
    · apply t_S
      refine x_aload_n rfl ?_
      refine x_V1i ha.1 (Nat.le_of_ble_eq_true rfl) (ret_f ca (s6_isZero (d := d) ha hc)) ?_
      exact rfl
    apply t_Q
    · apply t_K
      apply t_Qs
      apply t_Ks
      · apply t_Q
        · apply t_Ks
          · apply t_Q
            · apply t_B
              · exact rfl
              exact t_if_ne_f (by omega)
            apply t_Q
            · apply t_B
              · refine x_aload_n rfl ?_
                refine x_V1i hb.1 (Nat.le_of_ble_eq_true rfl) (ret_f cb (s6_isZero (d := d) hb he)) ?_
                exact rfl
              exact t_if_ne_f (by omega)
            apply t_B
            · refine x_aload_n rfl ?_
              refine x_V1i ha.1 (Nat.le_of_ble_eq_true rfl) (s6_degree (d := d) hC ha hc) ?_
              refine x_aload_n rfl ?_
              refine x_V1i hb.1 (Nat.le_of_ble_eq_true rfl) (s6_degree (d := d) hC hb he) ?_
              refine x_iadd ?_
              refine x_bipush ?_
              exact rfl
            exact t_ic_gt_f (by omega)
          · decide
        apply t_B
        · refine x_iconst ?_
          exact rfl
        exact t_goto
      · decide
    apply t_B
    · exact rfl
    exact t_ireq (Or.inr (by first | exact Or.inl rfl | exact Or.inr rfl)) rfl rfl
  · rw [if_neg (by omega)]
    apply Exists.intro
    unfold tX1_productFits
    apply t_Q
    · apply t_S
      refine x_aload_n rfl ?_
      refine x_V1i ha.1 (Nat.le_of_ble_eq_true rfl) (ret_f ca (s6_isZero (d := d) ha hc)) ?_
      exact rfl
    apply t_Q
    · apply t_Ks
      · apply t_Q
        · apply t_K
          apply t_Qs
          apply t_Ks
          · apply t_Q
            · apply t_B
              · exact rfl
              exact t_if_ne_f (by omega)
            apply t_Q
            · apply t_B
              · refine x_aload_n rfl ?_
                refine x_V1i hb.1 (Nat.le_of_ble_eq_true rfl) (ret_f cb (s6_isZero (d := d) hb he)) ?_
                exact rfl
              exact t_if_ne_f (by omega)
            apply t_B
            · refine x_aload_n rfl ?_
              refine x_V1i ha.1 (Nat.le_of_ble_eq_true rfl) (s6_degree (d := d) hC ha hc) ?_
              refine x_aload_n rfl ?_
              refine x_V1i hb.1 (Nat.le_of_ble_eq_true rfl) (s6_degree (d := d) hC hb he) ?_
              refine x_iadd ?_
              refine x_bipush ?_
              exact rfl
            exact t_ic_gt_t (by omega)
          · decide
        apply t_S
        refine x_iconst ?_
        exact rfl
      · decide
    apply t_B
    · exact rfl
    exact t_ireq (Or.inr (by first | exact Or.inl rfl | exact Or.inr rfl)) rfl rfl
set_option maxRecDepth 10000 in
theorem s1_powerFits {d L : Nat} {I : Nat → Nat → Int} {R : Nat → Nat → Option Nat} {u : Int64} {a c : Nat} (hC : Tabc I) (ha : Opx R a c) (hc : Rsc I c) {n : Nat} (hn : n ≤ 99) : am_run am_tb (d + 3) 13 [vR a, vI n] (LH L I R u) = some ([vI (if dgr (cl I c) < 0 ∨ dgr (cl I c) * (n : Int) ≤ 12 then 1 else 0)], LH L I R u) := by
  refine run_of tb_X1_powerFits (Nat.le_of_ble_eq_true rfl) ?_
  show ∃ ls', am_ev (am_run am_tb (d + 2)) tX1_powerFits ([vR a, vI n], [], (LH L I R u)) = some (1, ls', [vI (if dgr (cl I c) < 0 ∨ dgr (cl I c) * (n : Int) ≤ 12 then 1 else 0)], LH L I R u)
  have d1 := dgr_b (cl I c)
  by_cases ca : dgr (cl I c) < 0
  · rw [if_pos (Or.inl ca)]
    apply Exists.intro
    unfold tX1_powerFits
    apply t_Q
    · apply t_S
      refine x_aload_n rfl ?_
      refine x_V1i ha.1 (Nat.le_of_ble_eq_true rfl) (ret_t ca (s6_isZero (d := d) ha hc)) ?_
      exact rfl
    apply t_Q
    · apply t_K
      apply t_Qs
      apply t_Ks
      · apply t_Q
        · apply t_K
          apply t_Qs
          apply t_B
          · exact rfl
          exact t_if_ne_t (by omega)
        apply t_B
        · refine x_iconst ?_
          exact rfl
        exact t_goto
      · decide
    apply t_B
    · exact rfl
    exact t_ireq (Or.inr (by first | exact Or.inl rfl | exact Or.inr rfl)) rfl rfl
  have m1 := mul_b (a := dgr (cl I c)) (b := (n : Int)) (m := 30) (n := 99) (by omega) (by omega)
  by_cases cs : dgr (cl I c) * (n : Int) ≤ 12
  · rw [if_pos (Or.inr cs)]
    apply Exists.intro
    unfold tX1_powerFits
    apply t_Q
    · apply t_S
      refine x_aload_n rfl ?_
      refine x_V1i ha.1 (Nat.le_of_ble_eq_true rfl) (ret_f ca (s6_isZero (d := d) ha hc)) ?_
      exact rfl
    apply t_Q
    · apply t_K
      apply t_Qs
      apply t_Ks
      · apply t_Q
        · apply t_Ks
          · apply t_Q
            · apply t_B
              · exact rfl
              exact t_if_ne_f (by omega)
            apply t_B
            · refine x_aload_n rfl ?_
              refine x_V1i ha.1 (Nat.le_of_ble_eq_true rfl) (s6_degree (d := d) hC ha hc) ?_
              refine x_iload_n rfl ?_
              refine x_imul ?_
              refine x_bipush ?_
              exact rfl
            exact t_ic_gt_f (by omega)
          · decide
        apply t_B
        · refine x_iconst ?_
          exact rfl
        exact t_goto
      · decide
    apply t_B
    · exact rfl
    exact t_ireq (Or.inr (by first | exact Or.inl rfl | exact Or.inr rfl)) rfl rfl
  · rw [if_neg (fun z => by cases z with | inl z => exact ca z | inr z => exact cs z)]
    apply Exists.intro
    unfold tX1_powerFits
    apply t_Q
    · apply t_S
      refine x_aload_n rfl ?_
      refine x_V1i ha.1 (Nat.le_of_ble_eq_true rfl) (ret_f ca (s6_isZero (d := d) ha hc)) ?_
      exact rfl
    apply t_Q
    · apply t_Ks
      · apply t_Q
        · apply t_K
          apply t_Qs
          apply t_Ks
          · apply t_Q
            · apply t_B
              · exact rfl
              exact t_if_ne_f (by omega)
            apply t_B
            · refine x_aload_n rfl ?_
              refine x_V1i ha.1 (Nat.le_of_ble_eq_true rfl) (s6_degree (d := d) hC ha hc) ?_
              refine x_iload_n rfl ?_
              refine x_imul ?_
              refine x_bipush ?_
              exact rfl
            exact t_ic_gt_t (by omega)
          · decide
        apply t_S
        refine x_iconst ?_
        exact rfl
      · decide
    apply t_B
    · exact rfl
    exact t_ireq (Or.inr (by first | exact Or.inl rfl | exact Or.inr rfl)) rfl rfl
