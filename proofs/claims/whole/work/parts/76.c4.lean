/-! The class: the lead of cells. Written by wip/whole/gen_76.py. -/
set_option maxRecDepth 10000 in
theorem lp6_lead0 {d L : Nat} {I : Nat → Nat → Int} {R : Nat → Nat → Option Nat} {u : Int64} {a : Nat} {o : Int} : am_lp (am_ev (am_run am_tb (d + 2)) wX6_leadPlace_7) 7 am_F ([vR a, vI o, vI (-1), vI 0, vU], [], LH L I R u) = some (41, [vR a, vI o, vI (-1), vI 0, vU], [], LH L I R u) := by
  refine lp_up0 (fun k => ([vR a, vI o, vI (-1), vI k, vU], [], LH L I R u)) 0 rfl (ltF (by omega)) (by show ¬ 41 = 7 + 2; decide) (fun k hk => absurd hk (Nat.not_lt_zero _)) ?_
  unfold wX6_leadPlace_7
  apply t_Qs
  apply t_B
  · refine x_iload_n rfl ?_
    refine x_iload_n rfl ?_
    exact rfl
  exact t_ic_gt_t (by omega)
set_option maxRecDepth 10000 in
theorem lp6_lead {d L : Nat} {I : Nat → Nat → Int} {R : Nat → Nat → Option Nat} {u : Int64} {a c : Nat} (ha : Opx R a c) (hc : Rsc I c) {o : Int} (h0 : o = 0 ∨ o = 1) {n : Nat} (hn : n ≤ 12) (hl : lfn o (cl I c) n < n + 1) : am_lp (am_ev (am_run am_tb (d + 2)) wX6_leadPlace_7) 7 am_F ([vR a, vI o, vI n, vI 0, vU], [], LH L I R u) = some (1, [vR a, vI o, vI n, vI (lfn o (cl I c) n : Nat), vI (wb o n (lfn o (cl I c) n) : Nat)], [vI (wb o n (lfn o (cl I c) n) : Nat)], LH L I R u) := by
  refine lp_up0 (fun k => ([vR a, vI o, vI n, vI k, lwv o n k], [], LH L I R u)) (lfn o (cl I c) n) rfl (ltF (by omega)) (by show ¬ 1 = 7 + 2; decide) (fun k hk => ?_) ?_
  · have hw := wb_91 (o := o) hn (show k ≤ n by omega)
    have hz := lfn_no hk
    unfold wX6_leadPlace_7
    apply t_Q
    · apply t_B
      · refine x_iload_n rfl ?_
        refine x_iload_n rfl ?_
        exact rfl
      exact t_ic_gt_f (by omega)
    apply t_Q
    · apply t_S
      refine x_iload_n rfl ?_
      refine x_iload_n rfl ?_
      refine x_iload_n rfl ?_
      refine x_S3i (by decide) (Nat.le_of_ble_eq_true rfl) (s6_rankedPlace (d := d) h0 (n := n) (k := k) (by omega) (by omega)) ?_
      refine x_istore rfl ?_
      refine x_aload_n rfl ?_
      refine x_gr ha.1 rfl ha.2.1 ?_
      refine x_iload rfl ?_
      refine x_ialdv (Or.inl ha.2.2.1) (ha.2.2.2 L) (by omega) (show _ = cl I c (wb o n (k)) from (cl_s hw).symm) ?_
      exact rfl
    apply t_Q
    · apply t_K
      apply t_Qs
      apply t_B
      · exact rfl
      exact t_if_eq_t (by omega)
    apply t_B
    · refine x_iinc rfl rfl ?_
      exact rfl
    exact t_goeq rfl
  · have hw := wb_91 (o := o) hn (show lfn o (cl I c) n ≤ n by omega)
    have hz := lfn_yes hl
    have hr := cl_a hc (wb o n (lfn o (cl I c) n))
    unfold wX6_leadPlace_7
    apply t_Q
    · apply t_B
      · refine x_iload_n rfl ?_
        refine x_iload_n rfl ?_
        exact rfl
      exact t_ic_gt_f (by omega)
    apply t_Q
    · apply t_S
      refine x_iload_n rfl ?_
      refine x_iload_n rfl ?_
      refine x_iload_n rfl ?_
      refine x_S3i (by decide) (Nat.le_of_ble_eq_true rfl) (s6_rankedPlace (d := d) h0 (n := n) (k := lfn o (cl I c) n) (by omega) (by omega)) ?_
      refine x_istore rfl ?_
      refine x_aload_n rfl ?_
      refine x_gr ha.1 rfl ha.2.1 ?_
      refine x_iload rfl ?_
      refine x_ialdv (Or.inl ha.2.2.1) (ha.2.2.2 L) (by omega) (show _ = cl I c (wb o n (lfn o (cl I c) n)) from (cl_s hw).symm) ?_
      exact rfl
    apply t_Qs
    apply t_Ks
    · apply t_Q
      · apply t_B
        · exact rfl
        exact t_if_eq_f (by omega)
      apply t_B
      · refine x_iload rfl ?_
        exact rfl
      exact t_ireq (Or.inl rfl) rfl rfl
    · decide
set_option maxRecDepth 10000 in
theorem s6_leadPlace {d L : Nat} {I : Nat → Nat → Int} {R : Nat → Nat → Option Nat} {u : Int64} {a c : Nat} (hC : Tabc I) (ha : Opx R a c) (hc : Rsc I c) {o : Int} (h0 : o = 0 ∨ o = 1) : am_run am_tb (d + 3) 62 [vR a, vI o] (LH L I R u) = some ([vI (led o (cl I c))], LH L I R u) := by
  refine run_of tb_X6_leadPlace (Nat.le_of_ble_eq_true rfl) ?_
  show ∃ ls', am_ev (am_run am_tb (d + 2)) tX6_leadPlace ([vR a, vI o, vU, vU, vU], [], (LH L I R u)) = some (1, ls', [vI (led o (cl I c))], LH L I R u)
  have hdg := s6_degree (d := d) (L := L) (u := u) hC ha hc
  by_cases q : zt (cl I c) = 496
  · rw [show dgr (cl I c) = -1 from if_pos q] at hdg
    rw [show led o (cl I c) = -1 from if_pos q]
    apply Exists.intro
    unfold tX6_leadPlace
    apply t_Q
    · apply t_S
      refine x_aload_n rfl ?_
      refine x_V1i ha.1 (Nat.le_of_ble_eq_true rfl) (hdg) ?_
      refine x_istore_n rfl ?_
      refine x_iconst ?_
      refine x_istore_n rfl ?_
      exact rfl
    apply t_Q
    · apply t_K
      apply t_W
      exact lp6_lead0 (d := d)
    apply t_B
    · refine x_iconst ?_
      exact rfl
    exact t_ireq (Or.inl rfl) rfl rfl
  · have hb := ext_b (I := I) (c := c)
    rw [show dgr (cl I c) = ((wn (495 - zt (cl I c)) : Nat) : Int) from if_neg q] at hdg
    have h12 := wn_12 (show 495 - zt (cl I c) < 91 by omega)
    obtain ⟨w, hw, hl, _⟩ := led_some (o := o) q
    have hle := lfn_le (o := o) (f := cl I c) (n := wn (495 - zt (cl I c)))
    have hne : ¬ lfn o (cl I c) (wn (495 - zt (cl I c))) = wn (495 - zt (cl I c)) + 1 := by
      intro z
      rw [led_eq q, if_pos z] at hl
      omega
    rw [led_eq q, if_neg hne]
    apply Exists.intro
    unfold tX6_leadPlace
    apply t_Q
    · apply t_S
      refine x_aload_n rfl ?_
      refine x_V1i ha.1 (Nat.le_of_ble_eq_true rfl) (hdg) ?_
      refine x_istore_n rfl ?_
      refine x_iconst ?_
      refine x_istore_n rfl ?_
      exact rfl
    apply t_Qs
    apply t_Ks
    · apply t_W
      exact lp6_lead (d := d) ha hc h0 h12 (by omega)
    · decide
