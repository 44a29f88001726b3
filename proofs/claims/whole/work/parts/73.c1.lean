/-! The class: words, an operator's cells. Written by wip/whole/gen_73.py. -/
/-- the class's tables of words -/
def Tabc (I : Nat → Nat → Int) : Prop := (∀ w, w < 91 → I 1 w = (xw w : Nat)) ∧ (∀ w, w < 91 → I 2 w = (dw w : Nat))
/-- an operator with its cells -/
def Opx (R : Nat → Nat → Option Nat) (a c : Nat) : Prop := tg a = 6 ∧ R a 0 = some c ∧ tg c = 20 ∧ ∀ L, ln L c = 91
/-- the cells as a row -/
def cl (I : Nat → Nat → Int) (c : Nat) : Nat → Int := fun j => if j < 91 then I c j else 0
theorem cl_s {I : Nat → Nat → Int} {c j : Nat} (h : j < 91) : cl I c j = I c j := if_pos h
theorem cl_z {I : Nat → Nat → Int} {c j : Nat} (h : 91 ≤ j) : cl I c j = 0 := if_neg (by omega)
/-- the cells are residues -/
def Rsc (I : Nat → Nat → Int) (c : Nat) : Prop := ∀ j, j < 91 → 0 ≤ I c j ∧ I c j < 10007
theorem cl_a {I : Nat → Nat → Int} {c : Nat} (h : Rsc I c) : resa (cl I c) := fun j => by
  unfold cl
  split
  · exact h j (by omega)
  · omega
theorem tri_int (n : Nat) : (n : Int) * ((n : Int) + 1) / 2 = (tri n : Nat) := by
  have h := pl_int n 0
  rw [show ((0 : Nat) : Int) = 0 from rfl, Int.add_zero, Int.add_zero] at h
  rw [h]
  rfl
theorem tri_13 : tri 13 = 91 := by decide
theorem ext_b {I : Nat → Nat → Int} {c : Nat} : 405 ≤ zt (cl I c) ∧ zt (cl I c) ≤ 496 := by
  refine ⟨Nat.not_lt.mp fun q => ?_, zt_le _⟩
  have := zt_yes (f := cl I c) (by omega)
  exact this (cl_z (by omega))
theorem ext_no {I : Nat → Nat → Int} {c j : Nat} (h1 : 496 - zt (cl I c) ≤ j) (h2 : j < 91) : I c j = 0 := by
  have hb := ext_b (I := I) (c := c)
  have := zt_no (f := cl I c) (k := 495 - j) (by omega)
  rw [show 495 - (495 - j) = j by omega, cl_s h2] at this
  exact this
theorem ext_yes {I : Nat → Nat → Int} {c : Nat} (h : zt (cl I c) ≠ 496) : I c (495 - zt (cl I c)) ≠ 0 := by
  have hb := ext_b (I := I) (c := c)
  have := zt_yes h
  rw [cl_s (by omega)] at this
  exact this
theorem cnt_cl {I : Nat → Nat → Int} {c n : Nat} (h : 91 ≤ n) : cnt (cl I c) n = cnt (cl I c) 91 := by
  induction n with
  | zero => omega
  | succ n ih =>
    by_cases e : n + 1 = 91
    · rw [e]
    · rw [← ih (by omega)]
      show cnt (cl I c) n + (if cl I c n = 0 then 0 else 1) = _
      rw [if_pos (cl_z (by omega))]
      rfl
set_option maxRecDepth 10000 in
theorem s6_isWord {d : Nat} {h : am_H} {i j : Int} (h1 : inR i) (h2 : inR j) : am_run am_tb (d + 1) 45 [vI i, vI j] h = some ([vI (if 0 ≤ i ∧ 0 ≤ j ∧ i ≤ 12 ∧ j ≤ 12 ∧ i + j ≤ 12 then 1 else 0)], h) := by
  refine run_of tb_X6_isWord (Nat.le_of_ble_eq_true rfl) ?_
  show ∃ ls', am_ev (am_run am_tb (d + 0)) tX6_isWord ([vI i, vI j], [], h) = some (1, ls', [vI (if 0 ≤ i ∧ 0 ≤ j ∧ i ≤ 12 ∧ j ≤ 12 ∧ i + j ≤ 12 then 1 else 0)], h)
  by_cases c0 : i < 0
  · rw [if_neg (by omega)]
    apply Exists.intro
    unfold tX6_isWord
    apply t_Q
    · apply t_S
      refine x_iload_n rfl ?_
      exact rfl
    apply t_Q
    · apply t_Ks
      · apply t_Q
        · apply t_K
          apply t_Qs
          apply t_B
          · exact rfl
          exact t_if_lt_t (by omega)
        apply t_S
        refine x_iconst ?_
        exact rfl
      · decide
    apply t_B
    · exact rfl
    exact t_ireq (Or.inr (by first | exact Or.inl rfl | exact Or.inr rfl)) rfl rfl
  by_cases c1 : j < 0
  · rw [if_neg (by omega)]
    apply Exists.intro
    unfold tX6_isWord
    apply t_Q
    · apply t_S
      refine x_iload_n rfl ?_
      exact rfl
    apply t_Q
    · apply t_Ks
      · apply t_Q
        · apply t_K
          apply t_Q
          · apply t_B
            · exact rfl
            exact t_if_lt_f (by omega)
          apply t_Qs
          apply t_B
          · refine x_iload_n rfl ?_
            exact rfl
          exact t_if_lt_t (by omega)
        apply t_S
        refine x_iconst ?_
        exact rfl
      · decide
    apply t_B
    · exact rfl
    exact t_ireq (Or.inr (by first | exact Or.inl rfl | exact Or.inr rfl)) rfl rfl
  by_cases c2 : 12 < i
  · rw [if_neg (by omega)]
    apply Exists.intro
    unfold tX6_isWord
    apply t_Q
    · apply t_S
      refine x_iload_n rfl ?_
      exact rfl
    apply t_Q
    · apply t_Ks
      · apply t_Q
        · apply t_K
          apply t_Q
          · apply t_B
            · exact rfl
            exact t_if_lt_f (by omega)
          apply t_Q
          · apply t_B
            · refine x_iload_n rfl ?_
              exact rfl
            exact t_if_lt_f (by omega)
          apply t_Qs
          apply t_B
          · refine x_iload_n rfl ?_
            refine x_bipush ?_
            exact rfl
          exact t_ic_gt_t (by omega)
        apply t_S
        refine x_iconst ?_
        exact rfl
      · decide
    apply t_B
    · exact rfl
    exact t_ireq (Or.inr (by first | exact Or.inl rfl | exact Or.inr rfl)) rfl rfl
  by_cases c3 : 12 < j
  · rw [if_neg (by omega)]
    apply Exists.intro
    unfold tX6_isWord
    apply t_Q
    · apply t_S
      refine x_iload_n rfl ?_
      exact rfl
    apply t_Q
    · apply t_Ks
      · apply t_Q
        · apply t_K
          apply t_Q
          · apply t_B
            · exact rfl
            exact t_if_lt_f (by omega)
          apply t_Q
          · apply t_B
            · refine x_iload_n rfl ?_
              exact rfl
            exact t_if_lt_f (by omega)
          apply t_Q
          · apply t_B
            · refine x_iload_n rfl ?_
              refine x_bipush ?_
              exact rfl
            exact t_ic_gt_f (by omega)
          apply t_Qs
          apply t_B
          · refine x_iload_n rfl ?_
            refine x_bipush ?_
            exact rfl
          exact t_ic_gt_t (by omega)
        apply t_S
        refine x_iconst ?_
        exact rfl
      · decide
    apply t_B
    · exact rfl
    exact t_ireq (Or.inr (by first | exact Or.inl rfl | exact Or.inr rfl)) rfl rfl
  by_cases c4 : 12 < i + j
  · rw [if_neg (by omega)]
    apply Exists.intro
    unfold tX6_isWord
    apply t_Q
    · apply t_S
      refine x_iload_n rfl ?_
      exact rfl
    apply t_Q
    · apply t_Ks
      · apply t_Q
        · apply t_K
          apply t_Q
          · apply t_B
            · exact rfl
            exact t_if_lt_f (by omega)
          apply t_Q
          · apply t_B
            · refine x_iload_n rfl ?_
              exact rfl
            exact t_if_lt_f (by omega)
          apply t_Q
          · apply t_B
            · refine x_iload_n rfl ?_
              refine x_bipush ?_
              exact rfl
            exact t_ic_gt_f (by omega)
          apply t_Q
          · apply t_B
            · refine x_iload_n rfl ?_
              refine x_bipush ?_
              exact rfl
            exact t_ic_gt_f (by omega)
          apply t_Qs
          apply t_B
          · refine x_iload_n rfl ?_
            refine x_iload_n rfl ?_
            refine x_iadd ?_
            refine x_bipush ?_
            exact rfl
          exact t_ic_gt_t (by omega)
        apply t_S
        refine x_iconst ?_
        exact rfl
      · decide
    apply t_B
    · exact rfl
    exact t_ireq (Or.inr (by first | exact Or.inl rfl | exact Or.inr rfl)) rfl rfl
  rw [if_pos (by omega)]
  apply Exists.intro
  unfold tX6_isWord
  apply t_Q
  · apply t_S
    refine x_iload_n rfl ?_
    exact rfl
  apply t_Q
  · apply t_K
    apply t_Qs
    apply t_Ks
    · apply t_Q
      · apply t_B
        · exact rfl
        exact t_if_lt_f (by omega)
      apply t_Q
      · apply t_B
        · refine x_iload_n rfl ?_
          exact rfl
        exact t_if_lt_f (by omega)
      apply t_Q
      · apply t_B
        · refine x_iload_n rfl ?_
          refine x_bipush ?_
          exact rfl
        exact t_ic_gt_f (by omega)
      apply t_Q
      · apply t_B
        · refine x_iload_n rfl ?_
          refine x_bipush ?_
          exact rfl
        exact t_ic_gt_f (by omega)
      apply t_Q
      · apply t_B
        · refine x_iload_n rfl ?_
          refine x_iload_n rfl ?_
          refine x_iadd ?_
          refine x_bipush ?_
          exact rfl
        exact t_ic_gt_f (by omega)
      apply t_B
      · refine x_iconst ?_
        exact rfl
      exact t_goto
    · decide
  apply t_B
  · exact rfl
  exact t_ireq (Or.inr (by first | exact Or.inl rfl | exact Or.inr rfl)) rfl rfl
set_option maxRecDepth 10000 in
theorem s6_firstPlace {d : Nat} {h : am_H} {n : Nat} (h1 : n ≤ 200) : am_run am_tb (d + 1) 46 [vI n] h = some ([vI (tri n : Nat)], h) := by
  refine run_of tb_X6_firstPlace (Nat.le_of_ble_eq_true rfl) ?_
  show ∃ ls', am_ev (am_run am_tb (d + 0)) tX6_firstPlace ([vI n], [], h) = some (1, ls', [vI (tri n : Nat)], h)
  have hm := mul_b (a := (n : Int)) (b := (n : Int) + 1) (m := 200) (n := 201) (by omega) (by omega)
  apply Exists.intro
  unfold tX6_firstPlace
  apply t_B
  · refine x_iload_n rfl ?_
    refine x_iload_n rfl ?_
    refine x_iconst ?_
    refine x_iadd ?_
    refine x_imul ?_
    refine x_iconst ?_
    refine x_idiv0 (by omega) ?_
    exact rfl
  exact t_ireq (Or.inl rfl) (tri_int n) rfl
set_option maxRecDepth 10000 in
theorem s6_placeOf {d : Nat} {h : am_H} {i j : Nat} (h1 : i + j ≤ 200) : am_run am_tb (d + 2) 47 [vI i, vI j] h = some ([vI (pl i j : Nat)], h) := by
  refine run_of tb_X6_placeOf (Nat.le_of_ble_eq_true rfl) ?_
  show ∃ ls', am_ev (am_run am_tb (d + 1)) tX6_placeOf ([vI i, vI j], [], h) = some (1, ls', [vI (pl i j : Nat)], h)
  apply Exists.intro
  unfold tX6_placeOf
  apply t_B
  · refine x_iload_n rfl ?_
    refine x_iload_n rfl ?_
    refine x_iadd ?_
    refine x_S1i (by decide) (Nat.le_of_ble_eq_true rfl) (s6_firstPlace (d := d) (n := i + j) h1) ?_
    refine x_iload_n rfl ?_
    refine x_iadd ?_
    exact rfl
  exact t_ireq (Or.inl rfl) (show ((tri (i + j) : Nat) : Int) + (j : Int) = ((tri (i + j) + j : Nat) : Int) by omega) rfl
set_option maxRecDepth 10000 in
theorem s6_degreeAt {d L : Nat} {I : Nat → Nat → Int} {R : Nat → Nat → Option Nat} {u : Int64} (hC : Tabc I) {w : Nat} (hw : w < 91) : am_run am_tb (d + 1) 48 [vI w] (LH L I R u) = some ([vI (wn w : Nat)], LH L I R u) := by
  refine run_of tb_X6_degreeAt (Nat.le_of_ble_eq_true rfl) ?_
  show ∃ ls', am_ev (am_run am_tb (d + 0)) tX6_degreeAt ([vI w], [], (LH L I R u)) = some (1, ls', [vI (wn w : Nat)], LH L I R u)
  have hx := xw_dw w
  apply Exists.intro
  unfold tX6_degreeAt
  apply t_B
  · refine x_getstatic ?_
    refine x_iload_n rfl ?_
    refine x_ialdv (Or.inr tg_1) (ln_1 L) (by omega) (show _ = ((xw w : Nat) : Int) from hC.1 _ hw) ?_
    refine x_getstatic ?_
    refine x_iload_n rfl ?_
    refine x_ialdv (Or.inr tg_2) (ln_2 L) (by omega) (show _ = ((dw w : Nat) : Int) from hC.2 _ hw) ?_
    refine x_iadd ?_
    exact rfl
  exact t_ireq (Or.inl rfl) (by omega) rfl
set_option maxRecDepth 10000 in
theorem s6_rankedPlace {d : Nat} {h : am_H} {o : Int} (h0 : o = 0 ∨ o = 1) {n k : Nat} (hn : n ≤ 100) (hk : k ≤ n) : am_run am_tb (d + 2) 49 [vI o, vI n, vI k] h = some ([vI (wb o n k : Nat)], h) := by
  refine run_of tb_X6_rankedPlace (Nat.le_of_ble_eq_true rfl) ?_
  show ∃ ls', am_ev (am_run am_tb (d + 1)) tX6_rankedPlace ([vI o, vI n, vI k], [], h) = some (1, ls', [vI (wb o n k : Nat)], h)
  by_cases c : o = 0
  · have e : ((wb o n k : Nat) : Int) = ((tri n : Nat) : Int) + ((n : Int) - (k : Int)) := by
      unfold wb
      rw [if_pos c]
      unfold pl
      rw [show k + (n - k) = n by omega]
      omega
    apply Exists.intro
    unfold tX6_rankedPlace
    apply t_Q
    · apply t_S
      refine x_iload_n rfl ?_
      refine x_S1i (by decide) (Nat.le_of_ble_eq_true rfl) (s6_firstPlace (d := d) (n := n) (by omega)) ?_
      refine x_iload_n rfl ?_
      exact rfl
    apply t_Q
    · apply t_K
      apply t_Qs
      apply t_Ks
      · apply t_Q
        · apply t_B
          · exact rfl
          exact t_if_ne_f (by omega)
        apply t_B
        · refine x_iload_n rfl ?_
          refine x_iload_n rfl ?_
          refine x_isub ?_
          exact rfl
        exact t_goto
      · decide
    apply t_B
    · refine x_iadd ?_
      exact rfl
    exact t_ireq (Or.inl rfl) e.symm rfl
  · have e : ((wb o n k : Nat) : Int) = ((tri n : Nat) : Int) + (k : Int) := by
      unfold wb
      rw [if_neg c]
      unfold pl
      rw [show n - k + k = n by omega]
      omega
    apply Exists.intro
    unfold tX6_rankedPlace
    apply t_Q
    · apply t_S
      refine x_iload_n rfl ?_
      refine x_S1i (by decide) (Nat.le_of_ble_eq_true rfl) (s6_firstPlace (d := d) (n := n) (by omega)) ?_
      refine x_iload_n rfl ?_
      exact rfl
    apply t_Q
    · apply t_Ks
      · apply t_Q
        · apply t_K
          apply t_Qs
          apply t_B
          · exact rfl
          exact t_if_ne_t (by omega)
        apply t_S
        refine x_iload_n rfl ?_
        exact rfl
      · decide
    apply t_B
    · refine x_iadd ?_
      exact rfl
    exact t_ireq (Or.inl rfl) e.symm rfl
set_option maxRecDepth 10000 in
theorem s6_height {d L : Nat} {I : Nat → Nat → Int} {R : Nat → Nat → Option Nat} {u : Int64} (hC : Tabc I) {o : Int} (h0 : o = 0 ∨ o = 1) {w : Nat} (hw : w < 91) : am_run am_tb (d + 2) 50 [vI o, vI w] (LH L I R u) = some ([vI (rk o w : Nat)], LH L I R u) := by
  refine run_of tb_X6_height (Nat.le_of_ble_eq_true rfl) ?_
  show ∃ ls', am_ev (am_run am_tb (d + 1)) tX6_height ([vI o, vI w], [], (LH L I R u)) = some (1, ls', [vI (rk o w : Nat)], LH L I R u)
  have h12 := wn_12 hw
  by_cases c : o = 0
  · have e : ((rk o w : Nat) : Int) = ((tri (wn w) : Nat) : Int) + ((dw w : Nat) : Int) := by unfold rk; rw [if_pos c]; omega
    apply Exists.intro
    unfold tX6_height
    apply t_Q
    · apply t_S
      refine x_iload_n rfl ?_
      refine x_S1i (by decide) (Nat.le_of_ble_eq_true rfl) (s6_degreeAt (d := d) hC hw) ?_
      refine x_S1i (by decide) (Nat.le_of_ble_eq_true rfl) (s6_firstPlace (d := d) (n := wn w) (by omega)) ?_
      refine x_iload_n rfl ?_
      exact rfl
    apply t_Q
    · apply t_K
      apply t_Qs
      apply t_Ks
      · apply t_Q
        · apply t_B
          · exact rfl
          exact t_if_ne_f (by omega)
        apply t_B
        · refine x_getstatic ?_
          refine x_iload_n rfl ?_
          refine x_ialdv (Or.inr tg_2) (ln_2 L) (by omega) (show _ = ((dw w : Nat) : Int) from hC.2 _ hw) ?_
          exact rfl
        exact t_goto
      · decide
    apply t_B
    · refine x_iadd ?_
      exact rfl
    exact t_ireq (Or.inl rfl) e.symm rfl
  · have e : ((rk o w : Nat) : Int) = ((tri (wn w) : Nat) : Int) + ((xw w : Nat) : Int) := by unfold rk; rw [if_neg c]; omega
    apply Exists.intro
    unfold tX6_height
    apply t_Q
    · apply t_S
      refine x_iload_n rfl ?_
      refine x_S1i (by decide) (Nat.le_of_ble_eq_true rfl) (s6_degreeAt (d := d) hC hw) ?_
      refine x_S1i (by decide) (Nat.le_of_ble_eq_true rfl) (s6_firstPlace (d := d) (n := wn w) (by omega)) ?_
      refine x_iload_n rfl ?_
      exact rfl
    apply t_Q
    · apply t_Ks
      · apply t_Q
        · apply t_K
          apply t_Qs
          apply t_B
          · exact rfl
          exact t_if_ne_t (by omega)
        apply t_S
        refine x_getstatic ?_
        refine x_iload_n rfl ?_
        refine x_ialdv (Or.inr tg_1) (ln_1 L) (by omega) (show _ = ((xw w : Nat) : Int) from hC.1 _ hw) ?_
        exact rfl
      · decide
    apply t_B
    · refine x_iadd ?_
      exact rfl
    exact t_ireq (Or.inl rfl) e.symm rfl
set_option maxRecDepth 10000 in
theorem s6_coefficient {d L : Nat} {I : Nat → Nat → Int} {R : Nat → Nat → Option Nat} {u : Int64} {a c : Nat} (ha : Opx R a c) {i j : Int} (h1 : inR i) (h2 : inR j) : am_run am_tb (d + 3) 51 [vR a, vI i, vI j] (LH L I R u) = some ([vI (if 0 ≤ i ∧ 0 ≤ j ∧ i ≤ 12 ∧ j ≤ 12 ∧ i + j ≤ 12 then I c (pl i.toNat j.toNat) else 0)], LH L I R u) := by
  refine run_of tb_X6_coefficient (Nat.le_of_ble_eq_true rfl) ?_
  show ∃ ls', am_ev (am_run am_tb (d + 2)) tX6_coefficient ([vR a, vI i, vI j], [], (LH L I R u)) = some (1, ls', [vI (if 0 ≤ i ∧ 0 ≤ j ∧ i ≤ 12 ∧ j ≤ 12 ∧ i + j ≤ 12 then I c (pl i.toNat j.toNat) else 0)], LH L I R u)
  by_cases cw : 0 ≤ i ∧ 0 ≤ j ∧ i ≤ 12 ∧ j ≤ 12 ∧ i + j ≤ 12
  · rw [if_pos cw]
    have hp : pl i.toNat j.toNat < 91 := by have := pl_lt (i := i.toNat) (j := j.toNat) (n := 12) (by omega); rw [tri_13] at this; exact this
    have hpo := s6_placeOf (d := d) (h := LH L I R u) (i := i.toNat) (j := j.toNat) (by omega)
    rw [Int.toNat_of_nonneg cw.1, Int.toNat_of_nonneg cw.2.1] at hpo
    apply Exists.intro
    unfold tX6_coefficient
    apply t_Q
    · apply t_S
      refine x_iload_n rfl ?_
      refine x_iload_n rfl ?_
      refine x_S2i (by decide) (Nat.le_of_ble_eq_true rfl) (ret_t cw (s6_isWord (d := d + 1) h1 h2)) ?_
      exact rfl
    apply t_Q
    · apply t_K
      apply t_Qs
      apply t_Ks
      · apply t_Q
        · apply t_B
          · exact rfl
          exact t_if_eq_f (by omega)
        apply t_B
        · refine x_aload_n rfl ?_
          refine x_gr ha.1 rfl ha.2.1 ?_
          refine x_iload_n rfl ?_
          refine x_iload_n rfl ?_
          refine x_S2i (by decide) (Nat.le_of_ble_eq_true rfl) (hpo) ?_
          refine x_iald (Or.inl ha.2.2.1) (ha.2.2.2 L) (by omega) ?_
          exact rfl
        exact t_goto
      · decide
    apply t_B
    · exact rfl
    exact t_ireq (Or.inl rfl) rfl rfl
  · rw [if_neg cw]
    apply Exists.intro
    unfold tX6_coefficient
    apply t_Q
    · apply t_S
      refine x_iload_n rfl ?_
      refine x_iload_n rfl ?_
      refine x_S2i (by decide) (Nat.le_of_ble_eq_true rfl) (ret_f cw (s6_isWord (d := d + 1) h1 h2)) ?_
      exact rfl
    apply t_Q
    · apply t_Ks
      · apply t_Q
        · apply t_K
          apply t_Qs
          apply t_B
          · exact rfl
          exact t_if_eq_t (by omega)
        apply t_S
        refine x_iconst ?_
        exact rfl
      · decide
    apply t_B
    · exact rfl
    exact t_ireq (Or.inl rfl) rfl rfl
set_option maxRecDepth 10000 in
theorem s6_setIn {d L : Nat} {I : Nat → Nat → Int} {R : Nat → Nat → Option Nat} {u : Int64} {a c : Nat} (ha : Opx R a c) {i j : Nat} (hij : i + j ≤ 12) {v : Int} : am_run am_tb (d + 3) 52 [vR a, vI i, vI j, vI v] (LH L I R u) = some ([], LH L (au I c (au (I c) (pl i j) v)) R u) := by
  refine run_of tb_X6_setCoefficient (Nat.le_of_ble_eq_true rfl) ?_
  show ∃ ls', am_ev (am_run am_tb (d + 2)) tX6_setCoefficient ([vR a, vI i, vI j, vI v], [], (LH L I R u)) = some (1, ls', [], LH L (au I c (au (I c) (pl i j) v)) R u)
  have h1 : inR (i : Int) := by omega
  have h2 : inR (j : Int) := by omega
  have cw : 0 ≤ (i : Int) ∧ 0 ≤ (j : Int) ∧ (i : Int) ≤ 12 ∧ (j : Int) ≤ 12 ∧ (i : Int) + (j : Int) ≤ 12 := by omega
  have hp : pl i j < 91 := by have := pl_lt (i := i) (j := j) (n := 12) hij; rw [tri_13] at this; exact this
  apply Exists.intro
  unfold tX6_setCoefficient
  apply t_Q
  · apply t_S
    refine x_iload_n rfl ?_
    refine x_iload_n rfl ?_
    refine x_S2i (by decide) (Nat.le_of_ble_eq_true rfl) (ret_t cw (s6_isWord (d := d + 1) h1 h2)) ?_
    exact rfl
  apply t_Q
  · apply t_Ks
    · apply t_Q
      · apply t_B
        · exact rfl
        exact t_if_eq_f (by omega)
      apply t_S
      refine x_aload_n rfl ?_
      refine x_gr ha.1 rfl ha.2.1 ?_
      refine x_iload_n rfl ?_
      refine x_iload_n rfl ?_
      refine x_S2i (by decide) (Nat.le_of_ble_eq_true rfl) (s6_placeOf (d := d) (i := i) (j := j) (by omega)) ?_
      refine x_iload_n rfl ?_
      refine x_iast ha.2.2.1 (ha.2.2.2 L) (by omega) ?_
      exact rfl
    · decide
  apply t_B
  · exact rfl
  exact rfl
set_option maxRecDepth 10000 in
theorem lp6_extent {d L : Nat} {I : Nat → Nat → Int} {R : Nat → Nat → Option Nat} {u : Int64} {a c : Nat} (ha : Opx R a c) (hc : Rsc I c) : am_lp (am_ev (am_run am_tb d) wX6_extent_3) 3 am_F ([vR a, vI 90], [], LH L I R u) = some (if zt (cl I c) = 496 then (28, [vR a, vI (-1)], [], LH L I R u) else (1, [vR a, vI (90 - ((91 - (496 - zt (cl I c)) : Nat) : Int))], [vI ((496 - zt (cl I c)) : Nat)], LH L I R u)) := by
  have hb := ext_b (I := I) (c := c)
  refine lp_up0 (fun k => ([vR a, vI (90 - (k : Int))], [], LH L I R u)) (91 - (496 - zt (cl I c))) rfl (ltF (by omega)) (by split <;> (first | (show ¬ 28 = 3 + 2; decide) | (show ¬ 1 = 3 + 2; decide))) (fun k hk => ?_) ?_
  · have hz := ext_no (I := I) (c := c) (j := 90 - k) (by omega) (by omega)
    unfold wX6_extent_3
    apply t_Q
    · apply t_B
      · refine x_iload_n rfl ?_
        exact rfl
      exact t_if_lt_f (by omega)
    apply t_Q
    · apply t_S
      refine x_aload_n rfl ?_
      refine x_gr ha.1 rfl ha.2.1 ?_
      refine x_iload_n rfl ?_
      refine x_ialdv (Or.inl ha.2.2.1) (ha.2.2.2 L) (by omega) (show _ = I c (90 - k) from congrArg (I c) (by omega)) ?_
      exact rfl
    apply t_Q
    · apply t_K
      apply t_Qs
      apply t_B
      · exact rfl
      exact t_if_eq_t (by omega)
    apply t_B
    · refine x_iinc rfl rfl ?_
      exact rfl
    exact t_goeq (by rw [show (90 : Int) - (k : Int) + -1 = 90 - ((k + 1 : Nat) : Int) by omega]; rfl)
  · by_cases q : zt (cl I c) = 496
    · rw [if_pos q]
      rw [show (90 : Int) - ((91 - (496 - zt (cl I c)) : Nat) : Int) = -1 by omega]
      unfold wX6_extent_3
      apply t_Qs
      apply t_B
      · refine x_iload_n rfl ?_
        exact rfl
      exact t_if_lt_t (by omega)
    · rw [if_neg q]
      have hy := ext_yes (I := I) (c := c) q
      have hr := hc (495 - zt (cl I c)) (by omega)
      unfold wX6_extent_3
      apply t_Q
      · apply t_B
        · refine x_iload_n rfl ?_
          exact rfl
        exact t_if_lt_f (by omega)
      apply t_Q
      · apply t_S
        refine x_aload_n rfl ?_
        refine x_gr ha.1 rfl ha.2.1 ?_
        refine x_iload_n rfl ?_
        refine x_ialdv (Or.inl ha.2.2.1) (ha.2.2.2 L) (by omega) (show _ = I c (495 - zt (cl I c)) from congrArg (I c) (by omega)) ?_
        exact rfl
      apply t_Qs
      apply t_Ks
      · apply t_Q
        · apply t_B
          · exact rfl
          exact t_if_eq_f (by omega)
        apply t_B
        · refine x_iload_n rfl ?_
          refine x_iconst ?_
          refine x_iadd ?_
          exact rfl
        exact t_ireq (Or.inl rfl) (by omega) rfl
      · decide
set_option maxRecDepth 10000 in
theorem s6_extent {d L : Nat} {I : Nat → Nat → Int} {R : Nat → Nat → Option Nat} {u : Int64} {a c : Nat} (ha : Opx R a c) (hc : Rsc I c) : am_run am_tb (d + 1) 59 [vR a] (LH L I R u) = some ([vI ((496 - zt (cl I c)) : Nat)], LH L I R u) := by
  refine run_of tb_X6_extent (Nat.le_of_ble_eq_true rfl) ?_
  show ∃ ls', am_ev (am_run am_tb (d + 0)) tX6_extent ([vR a, vU], [], (LH L I R u)) = some (1, ls', [vI ((496 - zt (cl I c)) : Nat)], LH L I R u)
  have hl := lp6_extent (d := d) (L := L) (u := u) ha hc
  by_cases q : zt (cl I c) = 496
  · rw [if_pos q] at hl
    rw [show ((496 - zt (cl I c) : Nat) : Int) = 0 by omega]
    apply Exists.intro
    unfold tX6_extent
    apply t_Q
    · apply t_S
      refine x_bipush ?_
      refine x_istore_n rfl ?_
      exact rfl
    apply t_Q
    · apply t_K
      apply t_W
      exact hl
    apply t_B
    · refine x_iconst ?_
      exact rfl
    exact t_ireq (Or.inl rfl) rfl rfl
  · rw [if_neg q] at hl
    apply Exists.intro
    unfold tX6_extent
    apply t_Q
    · apply t_S
      refine x_bipush ?_
      refine x_istore_n rfl ?_
      exact rfl
    apply t_Qs
    apply t_Ks
    · apply t_W
      exact hl
    · decide
set_option maxRecDepth 10000 in
theorem s6_isZero {d L : Nat} {I : Nat → Nat → Int} {R : Nat → Nat → Option Nat} {u : Int64} {a c : Nat} (ha : Opx R a c) (hc : Rsc I c) : am_run am_tb (d + 2) 60 [vR a] (LH L I R u) = some ([vI (if dgr (cl I c) < 0 then 1 else 0)], LH L I R u) := by
  refine run_of tb_X6_isZero (Nat.le_of_ble_eq_true rfl) ?_
  show ∃ ls', am_ev (am_run am_tb (d + 1)) tX6_isZero ([vR a], [], (LH L I R u)) = some (1, ls', [vI (if dgr (cl I c) < 0 then 1 else 0)], LH L I R u)
  have hb := ext_b (I := I) (c := c)
  have hd : dgr (cl I c) < 0 ↔ zt (cl I c) = 496 := by
    unfold dgr
    split <;> omega
  by_cases q : zt (cl I c) = 496
  · rw [if_pos (hd.mpr q)]
    apply Exists.intro
    unfold tX6_isZero
    apply t_Q
    · apply t_S
      refine x_aload_n rfl ?_
      refine x_V1i ha.1 (Nat.le_of_ble_eq_true rfl) (s6_extent (d := d) ha hc) ?_
      exact rfl
    apply t_Q
    · apply t_K
      apply t_Qs
      apply t_Ks
      · apply t_Q
        · apply t_B
          · exact rfl
          exact t_if_ne_f (by omega)
        apply t_B
        · refine x_iconst ?_
          exact rfl
        exact t_goto
      · decide
    apply t_B
    · exact rfl
    exact t_ireq (Or.inr (by first | exact Or.inl rfl | exact Or.inr rfl)) rfl rfl
  · rw [if_neg (fun z => q (hd.mp z))]
    apply Exists.intro
    unfold tX6_isZero
    apply t_Q
    · apply t_S
      refine x_aload_n rfl ?_
      refine x_V1i ha.1 (Nat.le_of_ble_eq_true rfl) (s6_extent (d := d) ha hc) ?_
      exact rfl
    apply t_Q
    · apply t_Ks
      · apply t_Q
        · apply t_K
          apply t_Qs
          apply t_B
          · exact rfl
          exact t_if_ne_t (by omega)
        apply t_S
        refine x_iconst ?_
        exact rfl
      · decide
    apply t_B
    · exact rfl
    exact t_ireq (Or.inr (by first | exact Or.inl rfl | exact Or.inr rfl)) rfl rfl
set_option maxRecDepth 10000 in
theorem s6_degree {d L : Nat} {I : Nat → Nat → Int} {R : Nat → Nat → Option Nat} {u : Int64} {a c : Nat} (hC : Tabc I) (ha : Opx R a c) (hc : Rsc I c) : am_run am_tb (d + 2) 61 [vR a] (LH L I R u) = some ([vI (dgr (cl I c))], LH L I R u) := by
  refine run_of tb_X6_degree (Nat.le_of_ble_eq_true rfl) ?_
  show ∃ ls', am_ev (am_run am_tb (d + 1)) tX6_degree ([vR a, vU], [], (LH L I R u)) = some (1, ls', [vI (dgr (cl I c))], LH L I R u)
  have hb := ext_b (I := I) (c := c)
  by_cases q : zt (cl I c) = 496
  · rw [show dgr (cl I c) = -1 from if_pos q]
    apply Exists.intro
    unfold tX6_degree
    apply t_Q
    · apply t_S
      refine x_aload_n rfl ?_
      refine x_V1i ha.1 (Nat.le_of_ble_eq_true rfl) (s6_extent (d := d) ha hc) ?_
      refine x_istore_n rfl ?_
      refine x_iload_n rfl ?_
      exact rfl
    apply t_Q
    · apply t_K
      apply t_Qs
      apply t_Ks
      · apply t_Q
        · apply t_B
          · exact rfl
          exact t_if_ne_f (by omega)
        apply t_B
        · refine x_iconst ?_
          exact rfl
        exact t_goto
      · decide
    apply t_B
    · exact rfl
    exact t_ireq (Or.inl rfl) rfl rfl
  · rw [show dgr (cl I c) = ((wn (495 - zt (cl I c)) : Nat) : Int) from if_neg q]
    apply Exists.intro
    unfold tX6_degree
    apply t_Q
    · apply t_S
      refine x_aload_n rfl ?_
      refine x_V1i ha.1 (Nat.le_of_ble_eq_true rfl) (s6_extent (d := d) ha hc) ?_
      refine x_istore_n rfl ?_
      refine x_iload_n rfl ?_
      exact rfl
    apply t_Q
    · apply t_Ks
      · apply t_Q
        · apply t_K
          apply t_Qs
          apply t_B
          · exact rfl
          exact t_if_ne_t (by omega)
        apply t_S
        refine x_iload_n rfl ?_
        refine x_iconst ?_
        refine x_isub ?_
        rw [show ((496 - zt (cl I c) : Nat) : Int) - 1 = ((495 - zt (cl I c) : Nat) : Int) by omega]
        refine x_S1i (by decide) (Nat.le_of_ble_eq_true rfl) (s6_degreeAt (d := d) hC (w := 495 - zt (cl I c)) (by omega)) ?_
        exact rfl
      · decide
    apply t_B
    · exact rfl
    exact t_ireq (Or.inl rfl) rfl rfl
