/-! The class: properties. Written by wip/whole/gen_84.py. -/
/-- the greatest, as the class has it -/
def grC (f : Nat → Int) (w : Int) : Nat → Int
  | 0 => -12
  | k + 1 => if f k = 0 then grC f w k else max (grC f w k) (msr w (xw k : Nat) (dw k : Nat))
theorem msr_b {w : Int} {k : Nat} (hk : k < 91) : -12 ≤ msr w (xw k : Nat) (dw k : Nat) ∧ msr w (xw k : Nat) (dw k : Nat) ≤ 12 := by
  have h1 := wn_12 hk
  have h2 := xw_dw k
  unfold msr
  split
  · omega
  · split
    · omega
    · split <;> omega
theorem grC_b {f : Nat → Int} {w : Int} {k : Nat} (hk : k ≤ 91) : -12 ≤ grC f w k ∧ grC f w k ≤ 12 := by
  induction k with
  | zero => show (-12 : Int) ≤ -12 ∧ (-12 : Int) ≤ 12; decide
  | succ k ih =>
    have i := ih (by omega)
    have m := msr_b (w := w) (k := k) (by omega)
    show -12 ≤ (if f k = 0 then grC f w k else max (grC f w k) (msr w (xw k : Nat) (dw k : Nat))) ∧ (if f k = 0 then grC f w k else max (grC f w k) (msr w (xw k : Nat) (dw k : Nat))) ≤ 12
    split <;> omega
theorem grC_F {f : Nat → Int} {w a b : Int} (hm : ∀ k, msr w (xw k : Nat) (dw k : Nat) = a * (xw k : Nat) + b * (dw k : Nat)) {k : Nat} (hk : k ≤ 91) : grC f w k = max (-12) (grF f a b k) ∧ ((∃ j, j < k ∧ f j ≠ 0) → -12 ≤ grF f a b k) := by
  induction k with
  | zero => exact ⟨rfl, fun ⟨j, h, _⟩ => by omega⟩
  | succ k ih =>
    have i := ih (by omega)
    have m := msr_b (w := w) (k := k) (by omega)
    rw [hm k] at m
    have e1 : grC f w (k + 1) = if f k = 0 then grC f w k else max (grC f w k) (a * (xw k : Nat) + b * (dw k : Nat)) := by rw [← hm k]; rfl
    have e2 : grF f a b (k + 1) = if ¬ f k = 0 ∧ grF f a b k < a * (xw k : Nat) + b * (dw k : Nat) then a * (xw k : Nat) + b * (dw k : Nat) else grF f a b k := rfl
    rw [e1, e2]
    generalize a * ((xw k : Nat) : Int) + b * ((dw k : Nat) : Int) = z at *
    by_cases c : f k = 0
    · rw [if_pos c, if_neg (fun q => q.1 c)]
      refine ⟨i.1, fun ⟨j, h, q⟩ => i.2 ⟨j, ?_, q⟩⟩
      by_cases e : j = k
      · exact absurd (e ▸ c) q
      · omega
    · rw [if_neg c]
      by_cases c2 : grF f a b k < z
      · rw [if_pos ⟨c, c2⟩]; exact ⟨by omega, fun _ => by omega⟩
      · rw [if_neg (fun q => c2 q.2)]; exact ⟨by omega, fun _ => by omega⟩
set_option maxRecDepth 10000 in
theorem lp6_gri {d L : Nat} {I : Nat → Nat → Int} {R : Nat → Nat → Option Nat} {u : Int64} {a c : Nat} (ha : Opx R a c) (hc : Rsc I c) {w : Int} (hw : 2 ≤ w ∧ w ≤ 5) {D : Nat} (hD : D ≤ 12) : am_lp (am_ev (am_run am_tb (d + 1)) wX6_greatest_14) 14 am_F ([vR a, vI w, vI (grC (cl I c) w (tri D)), vI D, vI 0], [], LH L I R u) = some (58, [vR a, vI w, vI (grC (cl I c) w (tri (D + 1))), vI D, vI ((D + 1 : Nat) : Int)], [], LH L I R u) := by
  have ht := tri_m (show D + 1 ≤ 13 by omega)
  rw [tri_13] at ht
  have hs := tri_s D
  rw [show tri (D + 1) = tri D + (D + 1) from hs]
  rw [hs] at ht
  refine lp_up0 (fun k => ([vR a, vI w, vI (grC (cl I c) w (tri D + k)), vI D, vI k], [], LH L I R u)) (D + 1) rfl (ltF (by omega)) (by show ¬ 58 = 14 + 2; decide) (fun k hk => ?_) ?_
  · have hk9 : tri D + k < 91 := by omega
    have hpk : tri D + k = pl (D - k) k := by unfold pl; rw [show D - k + k = D by omega]
    have hx : ((xw (tri D + k) : Nat) : Int) = (D : Int) - (k : Int) := by rw [hpk, xw_pl]; omega
    have hd : ((dw (tri D + k) : Nat) : Int) = (k : Int) := by rw [hpk, dw_pl]
    have hcl := cl_a hc (tri D + k)
    have gb := grC_b (f := cl I c) (w := w) (k := tri D + k) (by omega)
    have mb := msr_b (w := w) (k := tri D + k) hk9
    rw [hx, hd] at mb
    have hnx : grC (cl I c) w (tri D + (k + 1)) = if cl I c (tri D + k) = 0 then grC (cl I c) w (tri D + k) else max (grC (cl I c) w (tri D + k)) (msr w ((D : Int) - (k : Int)) (k : Int)) := by rw [← hx, ← hd]; rfl
    by_cases q : cl I c (tri D + k) = 0
    · rw [if_pos q] at hnx
      unfold wX6_greatest_14
      apply t_Q
      · apply t_B
        · refine x_iload rfl ?_
          refine x_iload_n rfl ?_
          exact rfl
        exact t_ic_gt_f (by omega)
      apply t_Q
      · apply t_S
        refine x_aload_n rfl ?_
        refine x_gr ha.1 rfl ha.2.1 ?_
        refine x_iload_n rfl ?_
        refine x_S1i (by decide) (Nat.le_of_ble_eq_true rfl) (s6_firstPlace (d := d) (n := D) (by omega)) ?_
        refine x_iload rfl ?_
        refine x_iadd ?_
        refine x_ialdv (Or.inl ha.2.2.1) (ha.2.2.2 L) (by omega) (show _ = cl I c (tri D + k) from (congrArg (I c) (by omega)).trans (cl_s hk9).symm) ?_
        exact rfl
      apply t_Q
      · apply t_K
        apply t_Qs
        apply t_B
        · exact rfl
        exact t_if_eq_t (by omega)
      apply t_B
      · refine x_iinc rfl rfl ?_
        exact rfl
      exact t_goeq (s3 (congrArg (fun z => [vR a, vI w, vI z, vI D, vI ((k + 1 : Nat) : Int)]) hnx.symm) rfl)
    · rw [if_neg q] at hnx
      unfold wX6_greatest_14
      apply t_Q
      · apply t_B
        · refine x_iload rfl ?_
          refine x_iload_n rfl ?_
          exact rfl
        exact t_ic_gt_f (by omega)
      apply t_Q
      · apply t_S
        refine x_aload_n rfl ?_
        refine x_gr ha.1 rfl ha.2.1 ?_
        refine x_iload_n rfl ?_
        refine x_S1i (by decide) (Nat.le_of_ble_eq_true rfl) (s6_firstPlace (d := d) (n := D) (by omega)) ?_
        refine x_iload rfl ?_
        refine x_iadd ?_
        refine x_ialdv (Or.inl ha.2.2.1) (ha.2.2.2 L) (by omega) (show _ = cl I c (tri D + k) from (congrArg (I c) (by omega)).trans (cl_s hk9).symm) ?_
        exact rfl
      apply t_Q
      · apply t_Ks
        · apply t_Q
          · apply t_B
            · exact rfl
            exact t_if_eq_f (by omega)
          apply t_S
          refine x_iload_n rfl ?_
          refine x_iload_n rfl ?_
          refine x_iload_n rfl ?_
          refine x_iload rfl ?_
          refine x_isub ?_
          refine x_iload rfl ?_
          refine x_S3i (by decide) (Nat.le_of_ble_eq_true rfl) (s6_measure (d := d) hw) ?_
          refine x_S2i (by decide) (Nat.le_of_ble_eq_true rfl) (sj_max (d := d) (by omega) (by omega)) ?_
          refine x_istore_n rfl ?_
          exact rfl
        · decide
      apply t_B
      · refine x_iinc rfl rfl ?_
        exact rfl
      exact t_goeq (s3 (congrArg (fun z => [vR a, vI w, vI z, vI D, vI ((k + 1 : Nat) : Int)]) hnx.symm) rfl)
  · unfold wX6_greatest_14
    apply t_Qs
    apply t_B
    · refine x_iload rfl ?_
      refine x_iload_n rfl ?_
      exact rfl
    exact t_ic_gt_t (by omega)
set_option maxRecDepth 10000 in
theorem lp6_gro {d L : Nat} {I : Nat → Nat → Int} {R : Nat → Nat → Option Nat} {u : Int64} {a c : Nat} (ha : Opx R a c) (hc : Rsc I c) {w : Int} (hw : 2 ≤ w ∧ w ≤ 5) : ∃ r, am_lp (am_ev (am_run am_tb (d + 1)) wX6_greatest_5) 5 am_F ([vR a, vI w, vI (-12), vI 0, vU], [], LH L I R u) = some r ∧ ∃ l4, r = (64, [vR a, vI w, vI (grC (cl I c) w 91), vI 13, l4], [], LH L I R u) := by
  refine lp_inv (fun D y => ∃ l4, y = ([vR a, vI w, vI (grC (cl I c) w (tri D)), vI D, l4], [], LH L I R u)) _ 13 ⟨_, rfl⟩ (ltF (by omega)) (fun D y hD hp => ?_) (fun y hp => ?_)
  · obtain ⟨l4, e0⟩ := hp
    subst e0
    have hl := lp6_gri (d := d) (L := L) (u := u) ha hc hw (D := D) (by omega)
    refine inv_e1 (ls := fun l4 => [vR a, vI w, vI (grC (cl I c) w (tri (D + 1))), vI ((D + 1 : Nat) : Int), l4]) (h := LH L I R u) ?_ (fun _ => ⟨_, rfl⟩)
    apply Exists.intro
    unfold wX6_greatest_5
    apply t_Q
    · apply t_B
      · refine x_iload_n rfl ?_
        refine x_bipush ?_
        exact rfl
      exact t_ic_gt_f (by omega)
    apply t_Q
    · apply t_S
      refine x_iconst ?_
      refine x_istore rfl ?_
      exact rfl
    apply t_Q
    · apply t_K
      apply t_W
      exact hl
    apply t_B
    · refine x_iinc rfl rfl ?_
      exact rfl
    exact t_goeq rfl
  · obtain ⟨l4, e0⟩ := hp
    subst e0
    refine ⟨(64, [vR a, vI w, vI (grC (cl I c) w (tri 13)), vI 13, l4], [], LH L I R u), ?_, by show ¬ 64 = 5 + 2; decide, ⟨l4, by rw [tri_13]⟩⟩
    unfold wX6_greatest_5
    apply t_Qs
    apply t_B
    · refine x_iload_n rfl ?_
      refine x_bipush ?_
      exact rfl
    exact t_ic_gt_t (by omega)
set_option maxRecDepth 10000 in
theorem s6_greatest {d L : Nat} {I : Nat → Nat → Int} {R : Nat → Nat → Option Nat} {u : Int64} {a c : Nat} (ha : Opx R a c) (hc : Rsc I c) {w : Int} (hw : 2 ≤ w ∧ w ≤ 5) : am_run am_tb (d + 2) 64 [vR a, vI w] (LH L I R u) = some ([vI (grC (cl I c) w 91)], LH L I R u) := by
  refine run_of tb_X6_greatest (Nat.le_of_ble_eq_true rfl) ?_
  show ∃ ls', am_ev (am_run am_tb (d + 1)) tX6_greatest ([vR a, vI w, vU, vU, vU], [], (LH L I R u)) = some (1, ls', [vI (grC (cl I c) w 91)], LH L I R u)
  obtain ⟨r, hl, l4, er⟩ := lp6_gro (d := d) (L := L) (u := u) ha hc hw
  subst er
  apply Exists.intro
  unfold tX6_greatest
  apply t_Q
  · apply t_S
    refine x_bipush ?_
    refine x_istore_n rfl ?_
    refine x_iconst ?_
    refine x_istore_n rfl ?_
    exact rfl
  apply t_Q
  · apply t_K
    apply t_W
    exact hl
  apply t_B
  · refine x_iload_n rfl ?_
    exact rfl
  exact t_ireq (Or.inl rfl) rfl rfl
set_option maxRecDepth 10000 in
theorem s6_property {d L : Nat} {I : Nat → Nat → Int} {R : Nat → Nat → Option Nat} {u : Int64} {a c : Nat} (hC : Tabc I) (ha : Opx R a c) (hc : Rsc I c) {o : Int} (h0 : o = 0 ∨ o = 1) {q : Int} (hq : 0 ≤ q ∧ q ≤ 8) : am_run am_tb (d + 4) 63 [vR a, vI q, vI o] (LH L I R u) = some ([vI (abt o (cl I c) q)], LH L I R u) := by
  refine run_of tb_X6_property (Nat.le_of_ble_eq_true rfl) ?_
  show ∃ ls', am_ev (am_run am_tb (d + 3)) tX6_property ([vR a, vI q, vI o, vU], [], (LH L I R u)) = some (1, ls', [vI (abt o (cl I c) q)], LH L I R u)
  by_cases q0 : q = 0
  · have e : abt o (cl I c) q = ((cnt (cl I c) 496 : Nat) : Int) := by unfold abt; rw [if_pos (Or.inl q0), if_pos (Or.inl q0)]
    rw [e]
    apply Exists.intro
    unfold tX6_property
    apply t_Q
    · apply t_S
      refine x_iload_n rfl ?_
      exact rfl
    apply t_Qs
    apply t_Ks
    · apply t_Q
      · apply t_B
        · exact rfl
        exact t_if_ne_f (by omega)
      apply t_B
      · refine x_aload_n rfl ?_
        refine x_V1i ha.1 (Nat.le_of_ble_eq_true rfl) (s6_countTerms (d := d + 2) ha hc) ?_
        exact rfl
      exact t_ireq (Or.inl rfl) rfl rfl
    · decide
  by_cases z : led o (cl I c) < 0
  · have hz := led_neg.mp z
    have hl1 : led o (cl I c) = -1 := by have := led_ge o (cl I c); omega
    have hc0 : cnt (cl I c) 496 = 0 := by
      refine Decidable.byContradiction fun k => ?_
      have h2 := cnt_zt k
      exact zt_yes h2 (hz _ (by omega))
    have hld := s6_leadPlace (d := d) hC ha hc h0 (L := L) (u := u)
    rw [hl1] at hld
    by_cases q8 : q = 8
    · have e : abt o (cl I c) q = 0 := by unfold abt; rw [if_pos (Or.inr hc0), if_pos (Or.inr q8), hc0]; rfl
      rw [e]
      apply Exists.intro
      unfold tX6_property
      apply t_Q
      · apply t_S
        refine x_iload_n rfl ?_
        exact rfl
      apply t_Q
      · apply t_K
        apply t_Qs
        apply t_B
        · exact rfl
        exact t_if_ne_t (by omega)
      apply t_Q
      · apply t_S
        refine x_aload_n rfl ?_
        refine x_iload_n rfl ?_
        refine x_V2i ha.1 (Nat.le_of_ble_eq_true rfl) (hld) ?_
        refine x_istore_n rfl ?_
        refine x_iload_n rfl ?_
        exact rfl
      apply t_Qs
      apply t_Ks
      · apply t_Q
        · apply t_B
          · exact rfl
          exact t_if_ge_f (by omega)
        apply t_Q
        · apply t_S
          refine x_iload_n rfl ?_
          refine x_bipush ?_
          exact rfl
        apply t_Q
        · apply t_K
          apply t_Qs
          apply t_Ks
          · apply t_Q
            · apply t_B
              · exact rfl
              exact t_ic_ne_f (by omega)
            apply t_B
            · refine x_iconst ?_
              exact rfl
            exact t_goto
          · decide
        apply t_B
        · exact rfl
        exact t_ireq (Or.inl rfl) rfl rfl
      · decide
    · have e : abt o (cl I c) q = -20001 := by unfold abt; rw [if_pos (Or.inr hc0), if_neg (by omega)]
      rw [e]
      apply Exists.intro
      unfold tX6_property
      apply t_Q
      · apply t_S
        refine x_iload_n rfl ?_
        exact rfl
      apply t_Q
      · apply t_K
        apply t_Qs
        apply t_B
        · exact rfl
        exact t_if_ne_t (by omega)
      apply t_Q
      · apply t_S
        refine x_aload_n rfl ?_
        refine x_iload_n rfl ?_
        refine x_V2i ha.1 (Nat.le_of_ble_eq_true rfl) (hld) ?_
        refine x_istore_n rfl ?_
        refine x_iload_n rfl ?_
        exact rfl
      apply t_Qs
      apply t_Ks
      · apply t_Q
        · apply t_B
          · exact rfl
          exact t_if_ge_f (by omega)
        apply t_Q
        · apply t_S
          refine x_iload_n rfl ?_
          refine x_bipush ?_
          exact rfl
        apply t_Q
        · apply t_Ks
          · apply t_Q
            · apply t_K
              apply t_Qs
              apply t_B
              · exact rfl
              exact t_ic_ne_t (by omega)
            apply t_S
            refine x_sipush ?_
            exact rfl
          · decide
        apply t_B
        · exact rfl
        exact t_ireq (Or.inl rfl) rfl rfl
      · decide
  obtain ⟨w, hw, hl, hne, hmax⟩ := led_get z
  have hw9 : w < 91 := by
    refine Nat.not_le.mp fun k => hne (cl_z k)
  have hcn : cnt (cl I c) 496 ≠ 0 := fun k => hne (cnt_0 k w hw)
  have hld := s6_leadPlace (d := d) hC ha hc h0 (L := L) (u := u)
  rw [hl] at hld
  have hdg := dgr_led hw hne hmax
  have hab : abt o (cl I c) q = if q = 1 then dgr (cl I c) else if q = 2 then grF (cl I c) 1 0 91 else if q = 3 then grF (cl I c) 0 1 91 else if q = 4 then grF (cl I c) (-1) 1 91 else if q = 5 then - grF (cl I c) 1 (-1) 91 else ofl (cl I c) w q := by
    unfold abt
    rw [if_neg (by omega), hl]
    rfl
  have hwr := cl_a hc w
  rcases (show q = 1 ∨ q = 2 ∨ q = 3 ∨ q = 4 ∨ q = 5 ∨ q = 6 ∨ q = 7 ∨ q = 8 by omega) with rfl | rfl | rfl | rfl | rfl | rfl | rfl | rfl
  · rw [hab, if_pos rfl, hdg]
    apply Exists.intro
    unfold tX6_property
    apply t_Q
    · apply t_S
      refine x_iload_n rfl ?_
      exact rfl
    apply t_Q
    · apply t_K
      apply t_Qs
      apply t_B
      · exact rfl
      exact t_if_ne_t (by omega)
    apply t_Q
    · apply t_S
      refine x_aload_n rfl ?_
      refine x_iload_n rfl ?_
      refine x_V2i ha.1 (Nat.le_of_ble_eq_true rfl) (hld) ?_
      refine x_istore_n rfl ?_
      refine x_iload_n rfl ?_
      exact rfl
    apply t_Q
    · apply t_K
      apply t_Qs
      apply t_B
      · exact rfl
      exact t_if_ge_t (by omega)
    apply t_Q
    · apply t_S
      refine x_iload_n rfl ?_
      exact rfl
    apply t_Qs
    apply t_Ks
    · apply t_Qs
      apply t_Ks
      · apply t_Qs
        apply t_Ks
        · apply t_Qs
          apply t_Ks
          · apply t_Q
            · apply t_K
              apply t_B
              · exact rfl
              exact t_swi (by omega) rfl
            apply t_B
            · refine x_iload_n rfl ?_
              refine x_S1i (by decide) (Nat.le_of_ble_eq_true rfl) (s6_degreeAt (d := d + 2) hC hw9) ?_
              exact rfl
            exact t_ireq (Or.inl rfl) rfl rfl
          · decide
        · decide
      · decide
    · decide
  · have hg := grC_F (f := cl I c) (w := 2) (a := 1) (b := 0) (fun k => by unfold msr; simp only [Int.reduceEq, ↓reduceIte]; omega) (k := 91) (by omega)
    have hge := hg.2 ⟨w, hw9, hne⟩
    have e : abt o (cl I c) 2 = grC (cl I c) 2 91 := by
      rw [hab]
      simp only [Int.reduceEq, ↓reduceIte]
      omega
    rw [e]
    apply Exists.intro
    unfold tX6_property
    apply t_Q
    · apply t_S
      refine x_iload_n rfl ?_
      exact rfl
    apply t_Q
    · apply t_K
      apply t_Qs
      apply t_B
      · exact rfl
      exact t_if_ne_t (by omega)
    apply t_Q
    · apply t_S
      refine x_aload_n rfl ?_
      refine x_iload_n rfl ?_
      refine x_V2i ha.1 (Nat.le_of_ble_eq_true rfl) (hld) ?_
      refine x_istore_n rfl ?_
      refine x_iload_n rfl ?_
      exact rfl
    apply t_Q
    · apply t_K
      apply t_Qs
      apply t_B
      · exact rfl
      exact t_if_ge_t (by omega)
    apply t_Q
    · apply t_S
      refine x_iload_n rfl ?_
      exact rfl
    apply t_Q
    · apply t_K
      apply t_Qs
      apply t_Ks
      · apply t_Qs
        apply t_Ks
        · apply t_Qs
          apply t_Ks
          · apply t_Qs
            apply t_Ks
            · apply t_B
              · exact rfl
              exact t_swi (by omega) rfl
            · decide
          · decide
        · decide
      · decide
    apply t_Q
    · apply t_S
      refine x_iload_n rfl ?_
      refine x_iconst ?_
      exact rfl
    apply t_Q
    · apply t_Ks
      · apply t_Q
        · apply t_K
          apply t_Qs
          apply t_B
          · exact rfl
          exact t_ic_ne_t (by omega)
        apply t_S
        refine x_aload_n rfl ?_
        refine x_iload_n rfl ?_
        refine x_V2i ha.1 (Nat.le_of_ble_eq_true rfl) (s6_greatest (d := d + 1) ha hc (w := 2) (by omega)) ?_
        exact rfl
      · decide
    apply t_B
    · exact rfl
    exact t_ireq (Or.inl rfl) rfl rfl
  · have hg := grC_F (f := cl I c) (w := 3) (a := 0) (b := 1) (fun k => by unfold msr; simp only [Int.reduceEq, ↓reduceIte]; omega) (k := 91) (by omega)
    have hge := hg.2 ⟨w, hw9, hne⟩
    have e : abt o (cl I c) 3 = grC (cl I c) 3 91 := by
      rw [hab]
      simp only [Int.reduceEq, ↓reduceIte]
      omega
    rw [e]
    apply Exists.intro
    unfold tX6_property
    apply t_Q
    · apply t_S
      refine x_iload_n rfl ?_
      exact rfl
    apply t_Q
    · apply t_K
      apply t_Qs
      apply t_B
      · exact rfl
      exact t_if_ne_t (by omega)
    apply t_Q
    · apply t_S
      refine x_aload_n rfl ?_
      refine x_iload_n rfl ?_
      refine x_V2i ha.1 (Nat.le_of_ble_eq_true rfl) (hld) ?_
      refine x_istore_n rfl ?_
      refine x_iload_n rfl ?_
      exact rfl
    apply t_Q
    · apply t_K
      apply t_Qs
      apply t_B
      · exact rfl
      exact t_if_ge_t (by omega)
    apply t_Q
    · apply t_S
      refine x_iload_n rfl ?_
      exact rfl
    apply t_Q
    · apply t_K
      apply t_Qs
      apply t_Ks
      · apply t_Qs
        apply t_Ks
        · apply t_Qs
          apply t_Ks
          · apply t_Qs
            apply t_Ks
            · apply t_B
              · exact rfl
              exact t_swi (by omega) rfl
            · decide
          · decide
        · decide
      · decide
    apply t_Q
    · apply t_S
      refine x_iload_n rfl ?_
      refine x_iconst ?_
      exact rfl
    apply t_Q
    · apply t_Ks
      · apply t_Q
        · apply t_K
          apply t_Qs
          apply t_B
          · exact rfl
          exact t_ic_ne_t (by omega)
        apply t_S
        refine x_aload_n rfl ?_
        refine x_iload_n rfl ?_
        refine x_V2i ha.1 (Nat.le_of_ble_eq_true rfl) (s6_greatest (d := d + 1) ha hc (w := 3) (by omega)) ?_
        exact rfl
      · decide
    apply t_B
    · exact rfl
    exact t_ireq (Or.inl rfl) rfl rfl
  · have hg := grC_F (f := cl I c) (w := 4) (a := (-1)) (b := 1) (fun k => by unfold msr; simp only [Int.reduceEq, ↓reduceIte]; omega) (k := 91) (by omega)
    have hge := hg.2 ⟨w, hw9, hne⟩
    have e : abt o (cl I c) 4 = grC (cl I c) 4 91 := by
      rw [hab]
      simp only [Int.reduceEq, ↓reduceIte]
      omega
    rw [e]
    apply Exists.intro
    unfold tX6_property
    apply t_Q
    · apply t_S
      refine x_iload_n rfl ?_
      exact rfl
    apply t_Q
    · apply t_K
      apply t_Qs
      apply t_B
      · exact rfl
      exact t_if_ne_t (by omega)
    apply t_Q
    · apply t_S
      refine x_aload_n rfl ?_
      refine x_iload_n rfl ?_
      refine x_V2i ha.1 (Nat.le_of_ble_eq_true rfl) (hld) ?_
      refine x_istore_n rfl ?_
      refine x_iload_n rfl ?_
      exact rfl
    apply t_Q
    · apply t_K
      apply t_Qs
      apply t_B
      · exact rfl
      exact t_if_ge_t (by omega)
    apply t_Q
    · apply t_S
      refine x_iload_n rfl ?_
      exact rfl
    apply t_Q
    · apply t_K
      apply t_Qs
      apply t_Ks
      · apply t_Qs
        apply t_Ks
        · apply t_Qs
          apply t_Ks
          · apply t_Qs
            apply t_Ks
            · apply t_B
              · exact rfl
              exact t_swi (by omega) rfl
            · decide
          · decide
        · decide
      · decide
    apply t_Q
    · apply t_S
      refine x_iload_n rfl ?_
      refine x_iconst ?_
      exact rfl
    apply t_Q
    · apply t_Ks
      · apply t_Q
        · apply t_K
          apply t_Qs
          apply t_B
          · exact rfl
          exact t_ic_ne_t (by omega)
        apply t_S
        refine x_aload_n rfl ?_
        refine x_iload_n rfl ?_
        refine x_V2i ha.1 (Nat.le_of_ble_eq_true rfl) (s6_greatest (d := d + 1) ha hc (w := 4) (by omega)) ?_
        exact rfl
      · decide
    apply t_B
    · exact rfl
    exact t_ireq (Or.inl rfl) rfl rfl
  · have hg := grC_F (f := cl I c) (w := 5) (a := 1) (b := -1) (fun k => by unfold msr; simp only [Int.reduceEq, ↓reduceIte]; omega) (k := 91) (by omega)
    have hge := hg.2 ⟨w, hw9, hne⟩
    have e : abt o (cl I c) 5 = - grC (cl I c) 5 91 := by
      rw [hab]
      simp only [Int.reduceEq, ↓reduceIte]
      omega
    rw [e]
    apply Exists.intro
    unfold tX6_property
    apply t_Q
    · apply t_S
      refine x_iload_n rfl ?_
      exact rfl
    apply t_Q
    · apply t_K
      apply t_Qs
      apply t_B
      · exact rfl
      exact t_if_ne_t (by omega)
    apply t_Q
    · apply t_S
      refine x_aload_n rfl ?_
      refine x_iload_n rfl ?_
      refine x_V2i ha.1 (Nat.le_of_ble_eq_true rfl) (hld) ?_
      refine x_istore_n rfl ?_
      refine x_iload_n rfl ?_
      exact rfl
    apply t_Q
    · apply t_K
      apply t_Qs
      apply t_B
      · exact rfl
      exact t_if_ge_t (by omega)
    apply t_Q
    · apply t_S
      refine x_iload_n rfl ?_
      exact rfl
    apply t_Q
    · apply t_K
      apply t_Qs
      apply t_Ks
      · apply t_Qs
        apply t_Ks
        · apply t_Qs
          apply t_Ks
          · apply t_Qs
            apply t_Ks
            · apply t_B
              · exact rfl
              exact t_swi (by omega) rfl
            · decide
          · decide
        · decide
      · decide
    apply t_Q
    · apply t_S
      refine x_iload_n rfl ?_
      refine x_iconst ?_
      exact rfl
    apply t_Q
    · apply t_K
      apply t_Qs
      apply t_Ks
      · apply t_Q
        · apply t_B
          · exact rfl
          exact t_ic_ne_f (by omega)
        apply t_B
        · refine x_aload_n rfl ?_
          refine x_iconst ?_
          refine x_V2i ha.1 (Nat.le_of_ble_eq_true rfl) (s6_greatest (d := d + 1) ha hc (w := 5) (by omega)) ?_
          refine x_ineg ?_
          exact rfl
        exact t_goto
      · decide
    apply t_B
    · exact rfl
    exact t_ireq (Or.inl rfl) rfl rfl
  · have e : abt o (cl I c) 6 = ((xw w : Nat) : Int) := by rw [hab]; unfold ofl; simp only [Int.reduceEq, ↓reduceIte]
    rw [e]
    apply Exists.intro
    unfold tX6_property
    apply t_Q
    · apply t_S
      refine x_iload_n rfl ?_
      exact rfl
    apply t_Q
    · apply t_K
      apply t_Qs
      apply t_B
      · exact rfl
      exact t_if_ne_t (by omega)
    apply t_Q
    · apply t_S
      refine x_aload_n rfl ?_
      refine x_iload_n rfl ?_
      refine x_V2i ha.1 (Nat.le_of_ble_eq_true rfl) (hld) ?_
      refine x_istore_n rfl ?_
      refine x_iload_n rfl ?_
      exact rfl
    apply t_Q
    · apply t_K
      apply t_Qs
      apply t_B
      · exact rfl
      exact t_if_ge_t (by omega)
    apply t_Q
    · apply t_S
      refine x_iload_n rfl ?_
      exact rfl
    apply t_Qs
    apply t_Ks
    · apply t_Qs
      apply t_Ks
      · apply t_Qs
        apply t_Ks
        · apply t_Q
          · apply t_K
            apply t_Qs
            apply t_Ks
            · apply t_B
              · exact rfl
              exact t_swi (by omega) rfl
            · decide
          apply t_B
          · refine x_getstatic ?_
            refine x_iload_n rfl ?_
            refine x_ialdv (Or.inr tg_1) (ln_1 L) (by omega) (show _ = ((xw w : Nat) : Int) from hC.1 _ hw9) ?_
            exact rfl
          exact t_ireq (Or.inl rfl) rfl rfl
        · decide
      · decide
    · decide
  · have e : abt o (cl I c) 7 = ((dw w : Nat) : Int) := by rw [hab]; unfold ofl; simp only [Int.reduceEq, ↓reduceIte]
    rw [e]
    apply Exists.intro
    unfold tX6_property
    apply t_Q
    · apply t_S
      refine x_iload_n rfl ?_
      exact rfl
    apply t_Q
    · apply t_K
      apply t_Qs
      apply t_B
      · exact rfl
      exact t_if_ne_t (by omega)
    apply t_Q
    · apply t_S
      refine x_aload_n rfl ?_
      refine x_iload_n rfl ?_
      refine x_V2i ha.1 (Nat.le_of_ble_eq_true rfl) (hld) ?_
      refine x_istore_n rfl ?_
      refine x_iload_n rfl ?_
      exact rfl
    apply t_Q
    · apply t_K
      apply t_Qs
      apply t_B
      · exact rfl
      exact t_if_ge_t (by omega)
    apply t_Q
    · apply t_S
      refine x_iload_n rfl ?_
      exact rfl
    apply t_Qs
    apply t_Ks
    · apply t_Qs
      apply t_Ks
      · apply t_Q
        · apply t_K
          apply t_Qs
          apply t_Ks
          · apply t_Qs
            apply t_Ks
            · apply t_B
              · exact rfl
              exact t_swi (by omega) rfl
            · decide
          · decide
        apply t_B
        · refine x_getstatic ?_
          refine x_iload_n rfl ?_
          refine x_ialdv (Or.inr tg_2) (ln_2 L) (by omega) (show _ = ((dw w : Nat) : Int) from hC.2 _ hw9) ?_
          exact rfl
        exact t_ireq (Or.inl rfl) rfl rfl
      · decide
    · decide
  · have e : abt o (cl I c) 8 = tl (cl I c w) := by rw [hab]; unfold ofl; simp only [Int.reduceEq, ↓reduceIte]
    rw [e]
    apply Exists.intro
    unfold tX6_property
    apply t_Q
    · apply t_S
      refine x_iload_n rfl ?_
      exact rfl
    apply t_Q
    · apply t_K
      apply t_Qs
      apply t_B
      · exact rfl
      exact t_if_ne_t (by omega)
    apply t_Q
    · apply t_S
      refine x_aload_n rfl ?_
      refine x_iload_n rfl ?_
      refine x_V2i ha.1 (Nat.le_of_ble_eq_true rfl) (hld) ?_
      refine x_istore_n rfl ?_
      refine x_iload_n rfl ?_
      exact rfl
    apply t_Q
    · apply t_K
      apply t_Qs
      apply t_B
      · exact rfl
      exact t_if_ge_t (by omega)
    apply t_Q
    · apply t_S
      refine x_iload_n rfl ?_
      exact rfl
    apply t_Qs
    apply t_Ks
    · apply t_Q
      · apply t_K
        apply t_Qs
        apply t_Ks
        · apply t_Qs
          apply t_Ks
          · apply t_Qs
            apply t_Ks
            · apply t_B
              · exact rfl
              exact t_swi (by omega) rfl
            · decide
          · decide
        · decide
      apply t_B
      · refine x_aload_n rfl ?_
        refine x_gr ha.1 rfl ha.2.1 ?_
        refine x_iload_n rfl ?_
        refine x_ialdv (Or.inl ha.2.2.1) (ha.2.2.2 L) (by omega) (show _ = cl I c w from (cl_s hw9).symm) ?_
        refine x_S1i (by decide) (Nat.le_of_ble_eq_true rfl) (s1_balanced (d := d + 2) (by omega)) ?_
        exact rfl
      exact t_ireq (Or.inl rfl) rfl rfl
    · decide
