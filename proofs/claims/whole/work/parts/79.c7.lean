/-! The class: measure. Written by wip/whole/gen_79.py. -/
def msr (w i j : Int) : Int := if w = 2 then i else if w = 3 then j else if w = 4 then j - i else i - j
set_option maxRecDepth 10000 in
theorem s6_measure {d : Nat} {h : am_H} {w i j : Int} (hw : 2 ≤ w ∧ w ≤ 5) : am_run am_tb (d + 1) 65 [vI w, vI i, vI j] h = some ([vI (msr w i j)], h) := by
  refine run_of tb_X6_measure (Nat.le_of_ble_eq_true rfl) ?_
  show ∃ ls', am_ev (am_run am_tb (d + 0)) tX6_measure ([vI w, vI i, vI j], [], h) = some (1, ls', [vI (msr w i j)], h)
  have hw' : w = 2 ∨ w = 3 ∨ w = 4 ∨ w = 5 := by omega
  rcases hw' with e | e | e | e
  · subst e
    apply Exists.intro
    unfold tX6_measure
    apply t_Q
    · apply t_S
      refine x_iload_n rfl ?_
      exact rfl
    apply t_Qs
    apply t_Ks
    · apply t_Qs
      apply t_Ks
      · apply t_Qs
        apply t_Ks
        · apply t_Q
          · apply t_K
            apply t_B
            · exact rfl
            exact t_swi (by omega) rfl
          apply t_B
          · refine x_iload_n rfl ?_
            exact rfl
          exact t_ireq (Or.inl rfl) (by unfold msr; simp only [↓reduceIte, Int.reduceEq]) rfl
        · decide
      · decide
    · decide
  · subst e
    apply Exists.intro
    unfold tX6_measure
    apply t_Q
    · apply t_S
      refine x_iload_n rfl ?_
      exact rfl
    apply t_Qs
    apply t_Ks
    · apply t_Qs
      apply t_Ks
      · apply t_Q
        · apply t_K
          apply t_Qs
          apply t_Ks
          · apply t_B
            · exact rfl
            exact t_swi (by omega) rfl
          · decide
        apply t_B
        · refine x_iload_n rfl ?_
          exact rfl
        exact t_ireq (Or.inl rfl) (by unfold msr; simp only [↓reduceIte, Int.reduceEq]) rfl
      · decide
    · decide
  · subst e
    apply Exists.intro
    unfold tX6_measure
    apply t_Q
    · apply t_S
      refine x_iload_n rfl ?_
      exact rfl
    apply t_Qs
    apply t_Ks
    · apply t_Q
      · apply t_K
        apply t_Qs
        apply t_Ks
        · apply t_Qs
          apply t_Ks
          · apply t_B
            · exact rfl
            exact t_swi (by omega) rfl
          · decide
        · decide
      apply t_B
      · refine x_iload_n rfl ?_
        refine x_iload_n rfl ?_
        refine x_isub ?_
        exact rfl
      exact t_ireq (Or.inl rfl) (by unfold msr; simp only [↓reduceIte, Int.reduceEq]) rfl
    · decide
  · subst e
    apply Exists.intro
    unfold tX6_measure
    apply t_Q
    · apply t_S
      refine x_iload_n rfl ?_
      exact rfl
    apply t_Q
    · apply t_K
      apply t_Qs
      apply t_Ks
      · apply t_Qs
        apply t_Ks
        · apply t_Qs
          apply t_Ks
          · apply t_B
            · exact rfl
            exact t_swo (by omega)
          · decide
        · decide
      · decide
    apply t_B
    · refine x_iload_n rfl ?_
      refine x_iload_n rfl ?_
      refine x_isub ?_
      exact rfl
    exact t_ireq (Or.inl rfl) (by unfold msr; simp only [↓reduceIte, Int.reduceEq]) rfl
