/-! The class: hasBasis, basis, based, stairs. Written by wip/whole/gen_9p.py. -/
/-- the first n operators of the set have a basis -/
def Hsb (I : Nat → Nat → Int) (q : Int) (n : Nat) : Prop := ∀ k, k < n → shf q k % 2 = 1 → dgr (opc I k) ≤ 3
set_option maxRecDepth 10000 in
theorem lp11_has {d L : Nat} {I : Nat → Nat → Int} {R : Nat → Nat → Option Nat} {u : Int64} (hF : FixR R) (hB : Tbc I) (hS : Sn I) {q : Int} (hq : 0 < q ∧ q < 64) : ∃ r, am_lp (am_ev (am_run am_tb (d + 2)) wX11_hasBasis_2) 2 am_F ([vR 3, vI q, vI (0 : Nat)], [], LH L I R u) = some r ∧ ((r = (42, [vR 3, vI q, vI (6 : Nat)], [], LH L I R u) ∧ Hsb I q 6) ∨ (¬ Hsb I q 6 ∧ ∃ ls, r = (1, ls, [vI 0], LH L I R u))) := by
  refine lp_meas (fun N y => ∃ (k : Nat), N = 6 - k ∧ k ≤ 6 ∧ y = ([vR 3, vI q, vI (k : Nat)], [], LH L I R u) ∧ Hsb I q k) _ (fun N y hy => ?_) am_F 6 _ (ltF (by omega)) ⟨0, rfl, by omega, rfl, fun m hm => absurd hm (Nat.not_lt_zero _)⟩
  obtain ⟨k, eN, hk6, ey, hE⟩ := hy
  subst ey
  by_cases c6 : k = 6
  · subst c6
    refine ⟨(42, [vR 3, vI q, vI (6 : Nat)], [], LH L I R u), ?_, Or.inr ⟨by show ¬ 42 = 2 + 2; decide, Or.inl ⟨rfl, hE⟩⟩⟩
    unfold wX11_hasBasis_2
    apply t_Qs
    apply t_B
    · refine x_iload_n rfl ?_
      refine x_bipush ?_
      exact rfl
    exact t_ic_ge_t (by omega)
  · have hk : k < 6 := by omega
    by_cases c1 : shf q k % 2 = 1
    · by_cases c2 : dgr (opc I k) ≤ 3
      · have c3 : dgr (cl I (10 + 2 * k)) ≤ 3 := c2
        have c4 := dgr_b (cl I (10 + 2 * k))
        refine ⟨(2 + 2, [vR 3, vI q, vI (k + 1 : Nat)], [], LH L I R u), ?_, Or.inl ⟨rfl, 6 - (k + 1), by omega, k + 1, rfl, by omega, rfl, fun m hm => ?_⟩⟩
        · unfold wX11_hasBasis_2
          apply t_Q
          · apply t_B
            · refine x_iload_n rfl ?_
              refine x_bipush ?_
              exact rfl
            exact t_ic_ge_f (by omega)
          apply t_Q
          · apply t_S
            refine x_iload_n rfl ?_
            refine x_iload_n rfl ?_
            refine x_S2i (by decide) (Nat.le_of_ble_eq_true rfl) (ret_t c1 (s11_isInSet (d := d + 1) (q := q) (by omega) (k := k) (by omega))) ?_
            exact rfl
          apply t_Q
          · apply t_K
            apply t_Q
            · apply t_B
              · exact rfl
              exact t_if_eq_f (by omega)
            apply t_Qs
            apply t_B
            · refine x_aload_n rfl ?_
              refine x_gr tg_3 rfl (fx_3_0 hF) ?_
              refine x_gr tg_4 rfl (fx_4_0 hF) ?_
              refine x_iload_n rfl ?_
              refine x_aald (by rw [tg_5]; decide) (ln_5 L) (by omega) (fx_op hF hk : R 5 k = some (9 + 2 * k)) ?_
              refine x_V1i (op_st hF hk).1 (Nat.le_of_ble_eq_true rfl) (s6_degree (d := d) (L := L) (u := u) hB.1 (op_st hF hk) (Sn_op hS hk)) ?_
              refine x_iconst ?_
              exact rfl
            exact t_ic_le_t (by omega)
          apply t_B
          · refine x_iinc rfl rfl ?_
            exact rfl
          exact t_goeq rfl
        · by_cases e : m = k
          · rw [e]; exact fun _ => c2
          · exact hE m (by omega)
      · have c3 : ¬ dgr (cl I (10 + 2 * k)) ≤ 3 := c2
        have c4 := dgr_b (cl I (10 + 2 * k))
        have key : ∃ ls, am_ev (am_run am_tb (d + 2)) wX11_hasBasis_2 ([vR 3, vI q, vI (k : Nat)], [], LH L I R u) = some (1, ls, [vI 0], LH L I R u) := by
          apply Exists.intro
          unfold wX11_hasBasis_2
          apply t_Q
          · apply t_B
            · refine x_iload_n rfl ?_
              refine x_bipush ?_
              exact rfl
            exact t_ic_ge_f (by omega)
          apply t_Q
          · apply t_S
            refine x_iload_n rfl ?_
            refine x_iload_n rfl ?_
            refine x_S2i (by decide) (Nat.le_of_ble_eq_true rfl) (ret_t c1 (s11_isInSet (d := d + 1) (q := q) (by omega) (k := k) (by omega))) ?_
            exact rfl
          apply t_Qs
          apply t_Ks
          · apply t_Q
            · apply t_B
              · exact rfl
              exact t_if_eq_f (by omega)
            apply t_Q
            · apply t_B
              · refine x_aload_n rfl ?_
                refine x_gr tg_3 rfl (fx_3_0 hF) ?_
                refine x_gr tg_4 rfl (fx_4_0 hF) ?_
                refine x_iload_n rfl ?_
                refine x_aald (by rw [tg_5]; decide) (ln_5 L) (by omega) (fx_op hF hk : R 5 k = some (9 + 2 * k)) ?_
                refine x_V1i (op_st hF hk).1 (Nat.le_of_ble_eq_true rfl) (s6_degree (d := d) (L := L) (u := u) hB.1 (op_st hF hk) (Sn_op hS hk)) ?_
                refine x_iconst ?_
                exact rfl
              exact t_ic_le_f (by omega)
            apply t_B
            · refine x_iconst ?_
              exact rfl
            exact t_ireq (Or.inr (by first | exact Or.inl rfl | exact Or.inr rfl)) rfl rfl
          · decide
        obtain ⟨ls, key⟩ := key
        exact ⟨_, key, Or.inr ⟨by show ¬ 1 = 2 + 2; decide, Or.inr ⟨fun h => c2 (h k hk c1), ls, rfl⟩⟩⟩
    · refine ⟨(2 + 2, [vR 3, vI q, vI (k + 1 : Nat)], [], LH L I R u), ?_, Or.inl ⟨rfl, 6 - (k + 1), by omega, k + 1, rfl, by omega, rfl, fun m hm => ?_⟩⟩
      · unfold wX11_hasBasis_2
        apply t_Q
        · apply t_B
          · refine x_iload_n rfl ?_
            refine x_bipush ?_
            exact rfl
          exact t_ic_ge_f (by omega)
        apply t_Q
        · apply t_S
          refine x_iload_n rfl ?_
          refine x_iload_n rfl ?_
          refine x_S2i (by decide) (Nat.le_of_ble_eq_true rfl) (ret_f c1 (s11_isInSet (d := d + 1) (q := q) (by omega) (k := k) (by omega))) ?_
          exact rfl
        apply t_Q
        · apply t_K
          apply t_Qs
          apply t_B
          · exact rfl
          exact t_if_eq_t (by omega)
        apply t_B
        · refine x_iinc rfl rfl ?_
          exact rfl
        exact t_goeq rfl
      · by_cases e : m = k
        · rw [e]; exact fun h => absurd h c1
        · exact hE m (by omega)
set_option maxRecDepth 10000 in
theorem s11_has_y {d L : Nat} {I : Nat → Nat → Int} {R : Nat → Nat → Option Nat} {u : Int64} (hF : FixR R) (hB : Tbc I) (hS : Sn I) {q : Int} (hq : 0 < q ∧ q < 64) (hH : Hsb I q 6) : am_run am_tb (d + 3) 124 [vR 3, vI q] (LH L I R u) = some ([vI 1], LH L I R u) := by
  obtain ⟨r, hl, h⟩ := lp11_has (d := d) (L := L) (u := u) hF hB hS hq
  rcases h with ⟨er, _⟩ | ⟨h, _⟩
  · subst er
    refine run_of tb_X11_hasBasis (Nat.le_of_ble_eq_true rfl) ?_
    show ∃ ls', am_ev (am_run am_tb (d + 2)) tX11_hasBasis ([vR 3, vI q, vU], [], LH L I R u) = _
    apply Exists.intro
    unfold tX11_hasBasis
    apply t_Q
    · apply t_S
      refine x_iconst ?_
      refine x_istore_n rfl ?_
      exact rfl
    apply t_Q
    · apply t_K
      apply t_W
      exact hl
    apply t_B
    · refine x_iconst ?_
      exact rfl
    exact t_ireq (Or.inr (by first | exact Or.inl rfl | exact Or.inr rfl)) rfl rfl
  · exact absurd hH h
set_option maxRecDepth 10000 in
theorem s11_has_n {d L : Nat} {I : Nat → Nat → Int} {R : Nat → Nat → Option Nat} {u : Int64} (hF : FixR R) (hB : Tbc I) (hS : Sn I) {q : Int} (hq : 0 < q ∧ q < 64) (hH : ¬ Hsb I q 6) : am_run am_tb (d + 3) 124 [vR 3, vI q] (LH L I R u) = some ([vI 0], LH L I R u) := by
  obtain ⟨r, hl, h⟩ := lp11_has (d := d) (L := L) (u := u) hF hB hS hq
  rcases h with ⟨_, h⟩ | ⟨_, ls, er⟩
  · exact absurd h hH
  · subst er
    refine run_of tb_X11_hasBasis (Nat.le_of_ble_eq_true rfl) ?_
    show ∃ ls', am_ev (am_run am_tb (d + 2)) tX11_hasBasis ([vR 3, vI q, vU], [], LH L I R u) = _
    apply Exists.intro
    unfold tX11_hasBasis
    apply t_Q
    · apply t_S
      refine x_iconst ?_
      refine x_istore_n rfl ?_
      exact rfl
    apply t_Qs
    apply t_Ks
    · apply t_W
      exact hl
    · decide
set_option maxRecDepth 10000 in
theorem s11_basis_no {d L : Nat} {I : Nat → Nat → Int} {R : Nat → Nat → Option Nat} {u : Int64} (hF : FixR R) (hB : Tbc I) (hS : Sn I) {q : Int} (hq : 0 < q ∧ q < 64) (hH : ¬ Hsb I q 6) : am_run am_tb (d + 4) 108 [vR 3, vI q] (LH L I R u) = some ([vI (-20003)], LH L (rc I 1) R u) := by
  refine run_of tb_X11_basis (Nat.le_of_ble_eq_true rfl) ?_
  show ∃ ls', am_ev (am_run am_tb (d + 3)) tX11_basis ([vR 3, vI q], [], (LH L I R u)) = some (1, ls', [vI (-20003)], LH L (rc I 1) R u)
  apply Exists.intro
  unfold tX11_basis
  apply t_Q
  · apply t_S
    refine x_iload_n rfl ?_
    refine x_S1i (by decide) (Nat.le_of_ble_eq_true rfl) (ret_t (show 0 < (q : Int) ∧ (q : Int) < 64 by omega) (s11_isSet (d := d + 2) (by omega))) ?_
    exact rfl
  apply t_Q
  · apply t_K
    apply t_Qs
    apply t_B
    · exact rfl
    exact t_if_ne_t (by omega)
  apply t_Q
  · apply t_S
    refine x_aload_n rfl ?_
    refine x_iload_n rfl ?_
    refine x_V2i tg_3 (Nat.le_of_ble_eq_true rfl) (s11_has_n (d := d) hF hB hS hq hH) ?_
    exact rfl
  apply t_Qs
  apply t_Ks
  · apply t_Q
    · apply t_B
      · exact rfl
      exact t_if_ne_f (by omega)
    apply t_B
    · refine x_aload_n rfl ?_
      refine x_V1i tg_3 (Nat.le_of_ble_eq_true rfl) (s11_no (d := d + 2) hF) ?_
      exact rfl
    exact t_ireq (Or.inl rfl) rfl rfl
  · decide
set_option maxRecDepth 10000 in
theorem s11_basis_ok {d L : Nat} {I : Nat → Nat → Int} {R : Nat → Nat → Option Nat} {u : Int64} (hF : FixR R) (hB : Tbc I) (hS : Sn I) {q : Int} (hq : 0 < q ∧ q < 64) (hH : Hsb I q 6) {a : Nat} {J : Nat → Nat → Int} {R' : Nat → Nat → Option Nat} (hf : am_run am_tb (d + 8) 25 [vR 165, vR 4, vI q] (LH L I R u) = some ([vR a], LH L J R' u)) (ha : Bax R' a) {n : Nat} {lw' : Nat → Nat} {G : Nat → Nat → Int} (hA : Bac J a n lw' G) : am_run am_tb (d + 9) 108 [vR 3, vI q] (LH L I R u) = some ([vI (n : Nat)], LH L J R' u) := by
  refine run_of tb_X11_basis (Nat.le_of_ble_eq_true rfl) ?_
  show ∃ ls', am_ev (am_run am_tb (d + 8)) tX11_basis ([vR 3, vI q], [], (LH L I R u)) = some (1, ls', [vI (n : Nat)], LH L J R' u)
  apply Exists.intro
  unfold tX11_basis
  apply t_Q
  · apply t_S
    refine x_iload_n rfl ?_
    refine x_S1i (by decide) (Nat.le_of_ble_eq_true rfl) (ret_t (show 0 < (q : Int) ∧ (q : Int) < 64 by omega) (s11_isSet (d := d + 7) (by omega))) ?_
    exact rfl
  apply t_Q
  · apply t_K
    apply t_Qs
    apply t_B
    · exact rfl
    exact t_if_ne_t (by omega)
  apply t_Q
  · apply t_S
    refine x_aload_n rfl ?_
    refine x_iload_n rfl ?_
    refine x_V2i tg_3 (Nat.le_of_ble_eq_true rfl) (s11_has_y (d := d + 5) hF hB hS hq hH) ?_
    exact rfl
  apply t_Q
  · apply t_K
    apply t_Qs
    apply t_B
    · exact rfl
    exact t_if_ne_t (by omega)
  apply t_B
  · refine x_aload_n rfl ?_
    refine x_gr tg_3 rfl (fx_3_5 hF) ?_
    refine x_aload_n rfl ?_
    refine x_gr tg_3 rfl (fx_3_0 hF) ?_
    refine x_iload_n rfl ?_
    refine x_V3i tg_165 (Nat.le_of_ble_eq_true rfl) (hf) ?_
    refine x_giv ha.2.1 rfl (show _ = ((n : Nat) : Int) from hA.1) ?_
    exact rfl
  exact t_ireq (Or.inl rfl) rfl rfl
set_option maxRecDepth 10000 in
theorem s11_stairs_no {d L : Nat} {I : Nat → Nat → Int} {R : Nat → Nat → Option Nat} {u : Int64} (hF : FixR R) (hB : Tbc I) (hS : Sn I) {q : Int} (hq : 0 < q ∧ q < 64) (hH : ¬ Hsb I q 6) {m : Nat} (hm : m ≤ 20) : am_run am_tb (d + 4) 110 [vR 3, vI q, vI (m : Nat)] (LH L I R u) = some ([vI (-20003)], LH L (rc I 1) R u) := by
  refine run_of tb_X11_stairs (Nat.le_of_ble_eq_true rfl) ?_
  show ∃ ls', am_ev (am_run am_tb (d + 3)) tX11_stairs ([vR 3, vI q, vI (m : Nat), vU, vU, vU], [], (LH L I R u)) = some (1, ls', [vI (-20003)], LH L (rc I 1) R u)
  apply Exists.intro
  unfold tX11_stairs
  apply t_Q
  · apply t_S
    refine x_iload_n rfl ?_
    refine x_S1i (by decide) (Nat.le_of_ble_eq_true rfl) (ret_t (show 0 < (q : Int) ∧ (q : Int) < 64 by omega) (s11_isSet (d := d + 2) (by omega))) ?_
    exact rfl
  apply t_Q
  · apply t_K
    apply t_Qs
    apply t_Ks
    · apply t_Q
      · apply t_B
        · exact rfl
        exact t_if_eq_f (by omega)
      apply t_Q
      · apply t_B
        · refine x_iload_n rfl ?_
          exact rfl
        exact t_if_lt_f (by omega)
      apply t_B
      · refine x_iload_n rfl ?_
        refine x_bipush ?_
        exact rfl
      exact t_ic_le_t (by omega)
    · decide
  apply t_Q
  · apply t_S
    refine x_aload_n rfl ?_
    refine x_iload_n rfl ?_
    refine x_V2i tg_3 (Nat.le_of_ble_eq_true rfl) (s11_has_n (d := d) hF hB hS hq hH) ?_
    exact rfl
  apply t_Qs
  apply t_Ks
  · apply t_Q
    · apply t_B
      · exact rfl
      exact t_if_ne_f (by omega)
    apply t_B
    · refine x_aload_n rfl ?_
      refine x_V1i tg_3 (Nat.le_of_ble_eq_true rfl) (s11_no (d := d + 2) hF) ?_
      exact rfl
    exact t_ireq (Or.inl rfl) rfl rfl
  · decide
theorem fbl_b {ld : Nat → Nat} {b w : Nat} : fbl ld b w ≤ b := fnd_le _ _
set_option maxRecDepth 10000 in
theorem lp11_st {d L : Nat} {I : Nat → Nat → Int} {R : Nat → Nat → Option Nat} {u : Int64} {a : Nat} (ha : Bax R a) {n : Nat} {lw' : Nat → Nat} {G : Nat → Nat → Int} (hA : Bac I a n lw' G) {q : Int} {m : Nat} (hm : m ≤ 20) : am_lp (am_ev (am_run am_tb (d + 1)) wX11_stairs_54) 54 am_F ([vR 3, vI q, vI (m : Nat), vR a, vI (stF lw' n m 0 : Nat), vI (0 : Nat)], [], LH L I R u) = some (84, [vR 3, vI q, vI (m : Nat), vR a, vI (stF lw' n m (m + 1) : Nat), vI ((m + 1) : Nat)], [], LH L I R u) := by
  refine lp_up0 (fun k => ([vR 3, vI q, vI (m : Nat), vR a, vI (stF lw' n m k : Nat), vI (k : Nat)], [], LH L I R u)) (m + 1) rfl (ltF (by omega)) (by show ¬ 84 = 54 + 2; decide) (fun k hk => ?_) ?_
  · by_cases c : fbl lw' n (pl (m - k) k) < n
    · have e : stF lw' n m (k + 1) = stF lw' n m k := if_neg (by omega)
      have hc := ret_t c (s2_covers (d := d) (L := L) (u := u) ha hA (i := m - k) (j := k) (by omega))
      unfold wX11_stairs_54
      apply t_Q
      · apply t_B
        · refine x_iload rfl ?_
          refine x_iload_n rfl ?_
          exact rfl
        exact t_ic_gt_f (by omega)
      apply t_Q
      · apply t_S
        refine x_aload_n rfl ?_
        refine x_iload_n rfl ?_
        refine x_iload rfl ?_
        refine x_isub ?_
        rw [show ((m : Nat) : Int) - ((k : Nat) : Int) = ((m - k : Nat) : Int) by omega]
        refine x_iload rfl ?_
        refine x_V3i ha.2.1 (Nat.le_of_ble_eq_true rfl) (hc) ?_
        exact rfl
      apply t_Q
      · apply t_K
        apply t_Qs
        apply t_B
        · exact rfl
        exact t_if_ne_t (by omega)
      apply t_B
      · refine x_iinc rfl rfl ?_
        exact rfl
      exact t_goeq (s3 (by rw [e]; rfl) rfl)
    · have e : stF lw' n m (k + 1) = stF lw' n m k + 1 := if_pos (by have := fbl_b (ld := lw') (b := n) (w := pl (m - k) k); omega)
      have hc := ret_f c (s2_covers (d := d) (L := L) (u := u) ha hA (i := m - k) (j := k) (by omega))
      unfold wX11_stairs_54
      apply t_Q
      · apply t_B
        · refine x_iload rfl ?_
          refine x_iload_n rfl ?_
          exact rfl
        exact t_ic_gt_f (by omega)
      apply t_Q
      · apply t_S
        refine x_aload_n rfl ?_
        refine x_iload_n rfl ?_
        refine x_iload rfl ?_
        refine x_isub ?_
        rw [show ((m : Nat) : Int) - ((k : Nat) : Int) = ((m - k : Nat) : Int) by omega]
        refine x_iload rfl ?_
        refine x_V3i ha.2.1 (Nat.le_of_ble_eq_true rfl) (hc) ?_
        exact rfl
      apply t_Q
      · apply t_Ks
        · apply t_Q
          · apply t_B
            · exact rfl
            exact t_if_ne_f (by omega)
          apply t_S
          refine x_iinc rfl rfl ?_
          exact rfl
        · decide
      apply t_B
      · refine x_iinc rfl rfl ?_
        exact rfl
      exact t_goeq (s3 (by rw [e]; rfl) rfl)
  · unfold wX11_stairs_54
    apply t_Qs
    apply t_B
    · refine x_iload rfl ?_
      refine x_iload_n rfl ?_
      exact rfl
    exact t_ic_gt_t (by omega)
set_option maxRecDepth 10000 in
theorem s11_stairs_ok {d L : Nat} {I : Nat → Nat → Int} {R : Nat → Nat → Option Nat} {u : Int64} (hF : FixR R) (hB : Tbc I) (hS : Sn I) {q : Int} (hq : 0 < q ∧ q < 64) (hH : Hsb I q 6) {a : Nat} {J : Nat → Nat → Int} {R' : Nat → Nat → Option Nat} (hf : am_run am_tb (d + 8) 25 [vR 165, vR 4, vI q] (LH L I R u) = some ([vR a], LH L J R' u)) (ha : Bax R' a) {n : Nat} {lw' : Nat → Nat} {G : Nat → Nat → Int} (hA : Bac J a n lw' G) {m : Nat} (hm : m ≤ 20) : am_run am_tb (d + 9) 110 [vR 3, vI q, vI (m : Nat)] (LH L I R u) = some ([vI (stF lw' n m (m + 1) : Nat)], LH L J R' u) := by
  refine run_of tb_X11_stairs (Nat.le_of_ble_eq_true rfl) ?_
  show ∃ ls', am_ev (am_run am_tb (d + 8)) tX11_stairs ([vR 3, vI q, vI (m : Nat), vU, vU, vU], [], (LH L I R u)) = some (1, ls', [vI (stF lw' n m (m + 1) : Nat)], LH L J R' u)
  have hl := lp11_st (d := d + 7) (L := L) (u := u) ha hA (q := q) hm
  apply Exists.intro
  unfold tX11_stairs
  apply t_Q
  · apply t_S
    refine x_iload_n rfl ?_
    refine x_S1i (by decide) (Nat.le_of_ble_eq_true rfl) (ret_t (show 0 < (q : Int) ∧ (q : Int) < 64 by omega) (s11_isSet (d := d + 7) (by omega))) ?_
    exact rfl
  apply t_Q
  · apply t_K
    apply t_Qs
    apply t_Ks
    · apply t_Q
      · apply t_B
        · exact rfl
        exact t_if_eq_f (by omega)
      apply t_Q
      · apply t_B
        · refine x_iload_n rfl ?_
          exact rfl
        exact t_if_lt_f (by omega)
      apply t_B
      · refine x_iload_n rfl ?_
        refine x_bipush ?_
        exact rfl
      exact t_ic_le_t (by omega)
    · decide
  apply t_Q
  · apply t_S
    refine x_aload_n rfl ?_
    refine x_iload_n rfl ?_
    refine x_V2i tg_3 (Nat.le_of_ble_eq_true rfl) (s11_has_y (d := d + 5) hF hB hS hq hH) ?_
    exact rfl
  apply t_Q
  · apply t_K
    apply t_Qs
    apply t_B
    · exact rfl
    exact t_if_ne_t (by omega)
  apply t_Q
  · apply t_S
    refine x_aload_n rfl ?_
    refine x_gr tg_3 rfl (fx_3_5 hF) ?_
    refine x_aload_n rfl ?_
    refine x_gr tg_3 rfl (fx_3_0 hF) ?_
    refine x_iload_n rfl ?_
    refine x_V3i tg_165 (Nat.le_of_ble_eq_true rfl) (hf) ?_
    refine x_astore_n rfl ?_
    refine x_iconst ?_
    refine x_istore rfl ?_
    refine x_iconst ?_
    refine x_istore rfl ?_
    exact rfl
  apply t_Q
  · apply t_K
    apply t_W
    exact hl
  apply t_B
  · refine x_iload rfl ?_
    exact rfl
  exact t_ireq (Or.inl rfl) rfl rfl
set_option maxRecDepth 10000 in
theorem s11_based_bad {d L : Nat} {I : Nat → Nat → Int} {R : Nat → Nat → Option Nat} {u : Int64} (hF : FixR R) {q k i j : Int} (hq0 : inR q) (hk0 : inR k) (hi0 : inR i) (hj0 : inR j) (hb : ¬ ((0 < q ∧ q < 64) ∧ 0 ≤ k ∧ 0 ≤ i ∧ i ≤ 15 ∧ 0 ≤ j ∧ j ≤ 15)) : am_run am_tb (d + 2) 109 [vR 3, vI q, vI k, vI i, vI j] (LH L I R u) = some ([vI (-20002)], LH L (rc I 0) R u) := by
  refine run_of tb_X11_based (Nat.le_of_ble_eq_true rfl) ?_
  show ∃ ls', am_ev (am_run am_tb (d + 1)) tX11_based ([vR 3, vI q, vI k, vI i, vI j, vU, vU], [], (LH L I R u)) = some (1, ls', [vI (-20002)], LH L (rc I 0) R u)
  by_cases c1 : 0 ≤ i ∧ i ≤ 15 ∧ 0 ≤ j ∧ j ≤ 15
  · by_cases c2 : 0 < q ∧ q < 64
    · have c3 : ¬ 0 ≤ k := by omega
      apply Exists.intro
      unfold tX11_based
      apply t_Q
      · apply t_S
        refine x_iload_n rfl ?_
        exact rfl
      apply t_Q
      · apply t_K
        apply t_Qs
        apply t_Ks
        · apply t_Q
          · apply t_B
            · exact rfl
            exact t_if_lt_f (by omega)
          apply t_Q
          · apply t_B
            · refine x_iload_n rfl ?_
              refine x_bipush ?_
              exact rfl
            exact t_ic_gt_f (by omega)
          apply t_Q
          · apply t_B
            · refine x_iload rfl ?_
              exact rfl
            exact t_if_lt_f (by omega)
          apply t_Q
          · apply t_B
            · refine x_iload rfl ?_
              refine x_bipush ?_
              exact rfl
            exact t_ic_gt_f (by omega)
          apply t_B
          · refine x_iconst ?_
            exact rfl
          exact t_goto
        · decide
      apply t_Q
      · apply t_S
        refine x_istore rfl ?_
        refine x_iload_n rfl ?_
        refine x_S1i (by decide) (Nat.le_of_ble_eq_true rfl) (ret_t (show 0 < (q : Int) ∧ (q : Int) < 64 by omega) (s11_isSet (d := d) (by omega))) ?_
        exact rfl
      apply t_Qs
      apply t_Ks
      · apply t_Q
        · apply t_K
          apply t_Q
          · apply t_B
            · exact rfl
            exact t_if_eq_f (by omega)
          apply t_Qs
          apply t_B
          · refine x_iload_n rfl ?_
            exact rfl
          exact t_if_lt_t (by omega)
        apply t_B
        · refine x_aload_n rfl ?_
          refine x_V1i tg_3 (Nat.le_of_ble_eq_true rfl) (s11_bad (d := d) hF) ?_
          exact rfl
        exact t_ireq (Or.inl rfl) rfl rfl
      · decide
    · skip
      apply Exists.intro
      unfold tX11_based
      apply t_Q
      · apply t_S
        refine x_iload_n rfl ?_
        exact rfl
      apply t_Q
      · apply t_K
        apply t_Qs
        apply t_Ks
        · apply t_Q
          · apply t_B
            · exact rfl
            exact t_if_lt_f (by omega)
          apply t_Q
          · apply t_B
            · refine x_iload_n rfl ?_
              refine x_bipush ?_
              exact rfl
            exact t_ic_gt_f (by omega)
          apply t_Q
          · apply t_B
            · refine x_iload rfl ?_
              exact rfl
            exact t_if_lt_f (by omega)
          apply t_Q
          · apply t_B
            · refine x_iload rfl ?_
              refine x_bipush ?_
              exact rfl
            exact t_ic_gt_f (by omega)
          apply t_B
          · refine x_iconst ?_
            exact rfl
          exact t_goto
        · decide
      apply t_Q
      · apply t_S
        refine x_istore rfl ?_
        refine x_iload_n rfl ?_
        refine x_S1i (by decide) (Nat.le_of_ble_eq_true rfl) (ret_f c2 (s11_isSet (d := d) (by omega))) ?_
        exact rfl
      apply t_Qs
      apply t_Ks
      · apply t_Q
        · apply t_K
          apply t_Qs
          apply t_B
          · exact rfl
          exact t_if_eq_t (by omega)
        apply t_B
        · refine x_aload_n rfl ?_
          refine x_V1i tg_3 (Nat.le_of_ble_eq_true rfl) (s11_bad (d := d) hF) ?_
          exact rfl
        exact t_ireq (Or.inl rfl) rfl rfl
      · decide
  · by_cases c2 : 0 < q ∧ q < 64
    case neg =>
      by_cases w1 : 0 ≤ i
      · by_cases w2 : i ≤ 15
        · by_cases w3 : 0 ≤ j
          · have w4 : ¬ j ≤ 15 := by omega
            apply Exists.intro
            unfold tX11_based
            apply t_Q
            · apply t_S
              refine x_iload_n rfl ?_
              exact rfl
            apply t_Q
            · apply t_Ks
              · apply t_Q
                · apply t_K
                  apply t_Q
                  · apply t_B
                    · exact rfl
                    exact t_if_lt_f (by omega)
                  apply t_Q
                  · apply t_B
                    · refine x_iload_n rfl ?_
                      refine x_bipush ?_
                      exact rfl
                    exact t_ic_gt_f (by omega)
                  apply t_Q
                  · apply t_B
                    · refine x_iload rfl ?_
                      exact rfl
                    exact t_if_lt_f (by omega)
                  apply t_Qs
                  apply t_B
                  · refine x_iload rfl ?_
                    refine x_bipush ?_
                    exact rfl
                  exact t_ic_gt_t (by omega)
                apply t_S
                refine x_iconst ?_
                exact rfl
              · decide
            apply t_Q
            · apply t_S
              refine x_istore rfl ?_
              refine x_iload_n rfl ?_
              refine x_S1i (by decide) (Nat.le_of_ble_eq_true rfl) (ret_f c2 (s11_isSet (d := d) (by omega))) ?_
              exact rfl
            apply t_Qs
            apply t_Ks
            · apply t_Q
              · apply t_K
                apply t_Qs
                apply t_B
                · exact rfl
                exact t_if_eq_t (by omega)
              apply t_B
              · refine x_aload_n rfl ?_
                refine x_V1i tg_3 (Nat.le_of_ble_eq_true rfl) (s11_bad (d := d) hF) ?_
                exact rfl
              exact t_ireq (Or.inl rfl) rfl rfl
            · decide
          · skip
            apply Exists.intro
            unfold tX11_based
            apply t_Q
            · apply t_S
              refine x_iload_n rfl ?_
              exact rfl
            apply t_Q
            · apply t_Ks
              · apply t_Q
                · apply t_K
                  apply t_Q
                  · apply t_B
                    · exact rfl
                    exact t_if_lt_f (by omega)
                  apply t_Q
                  · apply t_B
                    · refine x_iload_n rfl ?_
                      refine x_bipush ?_
                      exact rfl
                    exact t_ic_gt_f (by omega)
                  apply t_Qs
                  apply t_B
                  · refine x_iload rfl ?_
                    exact rfl
                  exact t_if_lt_t (by omega)
                apply t_S
                refine x_iconst ?_
                exact rfl
              · decide
            apply t_Q
            · apply t_S
              refine x_istore rfl ?_
              refine x_iload_n rfl ?_
              refine x_S1i (by decide) (Nat.le_of_ble_eq_true rfl) (ret_f c2 (s11_isSet (d := d) (by omega))) ?_
              exact rfl
            apply t_Qs
            apply t_Ks
            · apply t_Q
              · apply t_K
                apply t_Qs
                apply t_B
                · exact rfl
                exact t_if_eq_t (by omega)
              apply t_B
              · refine x_aload_n rfl ?_
                refine x_V1i tg_3 (Nat.le_of_ble_eq_true rfl) (s11_bad (d := d) hF) ?_
                exact rfl
              exact t_ireq (Or.inl rfl) rfl rfl
            · decide
        · skip
          apply Exists.intro
          unfold tX11_based
          apply t_Q
          · apply t_S
            refine x_iload_n rfl ?_
            exact rfl
          apply t_Q
          · apply t_Ks
            · apply t_Q
              · apply t_K
                apply t_Q
                · apply t_B
                  · exact rfl
                  exact t_if_lt_f (by omega)
                apply t_Qs
                apply t_B
                · refine x_iload_n rfl ?_
                  refine x_bipush ?_
                  exact rfl
                exact t_ic_gt_t (by omega)
              apply t_S
              refine x_iconst ?_
              exact rfl
            · decide
          apply t_Q
          · apply t_S
            refine x_istore rfl ?_
            refine x_iload_n rfl ?_
            refine x_S1i (by decide) (Nat.le_of_ble_eq_true rfl) (ret_f c2 (s11_isSet (d := d) (by omega))) ?_
            exact rfl
          apply t_Qs
          apply t_Ks
          · apply t_Q
            · apply t_K
              apply t_Qs
              apply t_B
              · exact rfl
              exact t_if_eq_t (by omega)
            apply t_B
            · refine x_aload_n rfl ?_
              refine x_V1i tg_3 (Nat.le_of_ble_eq_true rfl) (s11_bad (d := d) hF) ?_
              exact rfl
            exact t_ireq (Or.inl rfl) rfl rfl
          · decide
      · skip
        apply Exists.intro
        unfold tX11_based
        apply t_Q
        · apply t_S
          refine x_iload_n rfl ?_
          exact rfl
        apply t_Q
        · apply t_Ks
          · apply t_Q
            · apply t_K
              apply t_Qs
              apply t_B
              · exact rfl
              exact t_if_lt_t (by omega)
            apply t_S
            refine x_iconst ?_
            exact rfl
          · decide
        apply t_Q
        · apply t_S
          refine x_istore rfl ?_
          refine x_iload_n rfl ?_
          refine x_S1i (by decide) (Nat.le_of_ble_eq_true rfl) (ret_f c2 (s11_isSet (d := d) (by omega))) ?_
          exact rfl
        apply t_Qs
        apply t_Ks
        · apply t_Q
          · apply t_K
            apply t_Qs
            apply t_B
            · exact rfl
            exact t_if_eq_t (by omega)
          apply t_B
          · refine x_aload_n rfl ?_
            refine x_V1i tg_3 (Nat.le_of_ble_eq_true rfl) (s11_bad (d := d) hF) ?_
            exact rfl
          exact t_ireq (Or.inl rfl) rfl rfl
        · decide
    case pos =>
      by_cases c3 : 0 ≤ k
      case neg =>
        by_cases w1 : 0 ≤ i
        · by_cases w2 : i ≤ 15
          · by_cases w3 : 0 ≤ j
            · have w4 : ¬ j ≤ 15 := by omega
              apply Exists.intro
              unfold tX11_based
              apply t_Q
              · apply t_S
                refine x_iload_n rfl ?_
                exact rfl
              apply t_Q
              · apply t_Ks
                · apply t_Q
                  · apply t_K
                    apply t_Q
                    · apply t_B
                      · exact rfl
                      exact t_if_lt_f (by omega)
                    apply t_Q
                    · apply t_B
                      · refine x_iload_n rfl ?_
                        refine x_bipush ?_
                        exact rfl
                      exact t_ic_gt_f (by omega)
                    apply t_Q
                    · apply t_B
                      · refine x_iload rfl ?_
                        exact rfl
                      exact t_if_lt_f (by omega)
                    apply t_Qs
                    apply t_B
                    · refine x_iload rfl ?_
                      refine x_bipush ?_
                      exact rfl
                    exact t_ic_gt_t (by omega)
                  apply t_S
                  refine x_iconst ?_
                  exact rfl
                · decide
              apply t_Q
              · apply t_S
                refine x_istore rfl ?_
                refine x_iload_n rfl ?_
                refine x_S1i (by decide) (Nat.le_of_ble_eq_true rfl) (ret_t (show 0 < (q : Int) ∧ (q : Int) < 64 by omega) (s11_isSet (d := d) (by omega))) ?_
                exact rfl
              apply t_Qs
              apply t_Ks
              · apply t_Q
                · apply t_K
                  apply t_Q
                  · apply t_B
                    · exact rfl
                    exact t_if_eq_f (by omega)
                  apply t_Qs
                  apply t_B
                  · refine x_iload_n rfl ?_
                    exact rfl
                  exact t_if_lt_t (by omega)
                apply t_B
                · refine x_aload_n rfl ?_
                  refine x_V1i tg_3 (Nat.le_of_ble_eq_true rfl) (s11_bad (d := d) hF) ?_
                  exact rfl
                exact t_ireq (Or.inl rfl) rfl rfl
              · decide
            · skip
              apply Exists.intro
              unfold tX11_based
              apply t_Q
              · apply t_S
                refine x_iload_n rfl ?_
                exact rfl
              apply t_Q
              · apply t_Ks
                · apply t_Q
                  · apply t_K
                    apply t_Q
                    · apply t_B
                      · exact rfl
                      exact t_if_lt_f (by omega)
                    apply t_Q
                    · apply t_B
                      · refine x_iload_n rfl ?_
                        refine x_bipush ?_
                        exact rfl
                      exact t_ic_gt_f (by omega)
                    apply t_Qs
                    apply t_B
                    · refine x_iload rfl ?_
                      exact rfl
                    exact t_if_lt_t (by omega)
                  apply t_S
                  refine x_iconst ?_
                  exact rfl
                · decide
              apply t_Q
              · apply t_S
                refine x_istore rfl ?_
                refine x_iload_n rfl ?_
                refine x_S1i (by decide) (Nat.le_of_ble_eq_true rfl) (ret_t (show 0 < (q : Int) ∧ (q : Int) < 64 by omega) (s11_isSet (d := d) (by omega))) ?_
                exact rfl
              apply t_Qs
              apply t_Ks
              · apply t_Q
                · apply t_K
                  apply t_Q
                  · apply t_B
                    · exact rfl
                    exact t_if_eq_f (by omega)
                  apply t_Qs
                  apply t_B
                  · refine x_iload_n rfl ?_
                    exact rfl
                  exact t_if_lt_t (by omega)
                apply t_B
                · refine x_aload_n rfl ?_
                  refine x_V1i tg_3 (Nat.le_of_ble_eq_true rfl) (s11_bad (d := d) hF) ?_
                  exact rfl
                exact t_ireq (Or.inl rfl) rfl rfl
              · decide
          · skip
            apply Exists.intro
            unfold tX11_based
            apply t_Q
            · apply t_S
              refine x_iload_n rfl ?_
              exact rfl
            apply t_Q
            · apply t_Ks
              · apply t_Q
                · apply t_K
                  apply t_Q
                  · apply t_B
                    · exact rfl
                    exact t_if_lt_f (by omega)
                  apply t_Qs
                  apply t_B
                  · refine x_iload_n rfl ?_
                    refine x_bipush ?_
                    exact rfl
                  exact t_ic_gt_t (by omega)
                apply t_S
                refine x_iconst ?_
                exact rfl
              · decide
            apply t_Q
            · apply t_S
              refine x_istore rfl ?_
              refine x_iload_n rfl ?_
              refine x_S1i (by decide) (Nat.le_of_ble_eq_true rfl) (ret_t (show 0 < (q : Int) ∧ (q : Int) < 64 by omega) (s11_isSet (d := d) (by omega))) ?_
              exact rfl
            apply t_Qs
            apply t_Ks
            · apply t_Q
              · apply t_K
                apply t_Q
                · apply t_B
                  · exact rfl
                  exact t_if_eq_f (by omega)
                apply t_Qs
                apply t_B
                · refine x_iload_n rfl ?_
                  exact rfl
                exact t_if_lt_t (by omega)
              apply t_B
              · refine x_aload_n rfl ?_
                refine x_V1i tg_3 (Nat.le_of_ble_eq_true rfl) (s11_bad (d := d) hF) ?_
                exact rfl
              exact t_ireq (Or.inl rfl) rfl rfl
            · decide
        · skip
          apply Exists.intro
          unfold tX11_based
          apply t_Q
          · apply t_S
            refine x_iload_n rfl ?_
            exact rfl
          apply t_Q
          · apply t_Ks
            · apply t_Q
              · apply t_K
                apply t_Qs
                apply t_B
                · exact rfl
                exact t_if_lt_t (by omega)
              apply t_S
              refine x_iconst ?_
              exact rfl
            · decide
          apply t_Q
          · apply t_S
            refine x_istore rfl ?_
            refine x_iload_n rfl ?_
            refine x_S1i (by decide) (Nat.le_of_ble_eq_true rfl) (ret_t (show 0 < (q : Int) ∧ (q : Int) < 64 by omega) (s11_isSet (d := d) (by omega))) ?_
            exact rfl
          apply t_Qs
          apply t_Ks
          · apply t_Q
            · apply t_K
              apply t_Q
              · apply t_B
                · exact rfl
                exact t_if_eq_f (by omega)
              apply t_Qs
              apply t_B
              · refine x_iload_n rfl ?_
                exact rfl
              exact t_if_lt_t (by omega)
            apply t_B
            · refine x_aload_n rfl ?_
              refine x_V1i tg_3 (Nat.le_of_ble_eq_true rfl) (s11_bad (d := d) hF) ?_
              exact rfl
            exact t_ireq (Or.inl rfl) rfl rfl
          · decide
      by_cases w1 : 0 ≤ i
      · by_cases w2 : i ≤ 15
        · by_cases w3 : 0 ≤ j
          · have w4 : ¬ j ≤ 15 := by omega
            apply Exists.intro
            unfold tX11_based
            apply t_Q
            · apply t_S
              refine x_iload_n rfl ?_
              exact rfl
            apply t_Q
            · apply t_Ks
              · apply t_Q
                · apply t_K
                  apply t_Q
                  · apply t_B
                    · exact rfl
                    exact t_if_lt_f (by omega)
                  apply t_Q
                  · apply t_B
                    · refine x_iload_n rfl ?_
                      refine x_bipush ?_
                      exact rfl
                    exact t_ic_gt_f (by omega)
                  apply t_Q
                  · apply t_B
                    · refine x_iload rfl ?_
                      exact rfl
                    exact t_if_lt_f (by omega)
                  apply t_Qs
                  apply t_B
                  · refine x_iload rfl ?_
                    refine x_bipush ?_
                    exact rfl
                  exact t_ic_gt_t (by omega)
                apply t_S
                refine x_iconst ?_
                exact rfl
              · decide
            apply t_Q
            · apply t_S
              refine x_istore rfl ?_
              refine x_iload_n rfl ?_
              refine x_S1i (by decide) (Nat.le_of_ble_eq_true rfl) (ret_t (show 0 < (q : Int) ∧ (q : Int) < 64 by omega) (s11_isSet (d := d) (by omega))) ?_
              exact rfl
            apply t_Qs
            apply t_Ks
            · apply t_Q
              · apply t_Ks
                · apply t_Q
                  · apply t_B
                    · exact rfl
                    exact t_if_eq_f (by omega)
                  apply t_Q
                  · apply t_B
                    · refine x_iload_n rfl ?_
                      exact rfl
                    exact t_if_lt_f (by omega)
                  apply t_B
                  · refine x_iload rfl ?_
                    exact rfl
                  exact t_if_ne_f (by omega)
                · decide
              apply t_B
              · refine x_aload_n rfl ?_
                refine x_V1i tg_3 (Nat.le_of_ble_eq_true rfl) (s11_bad (d := d) hF) ?_
                exact rfl
              exact t_ireq (Or.inl rfl) rfl rfl
            · decide
          · skip
            apply Exists.intro
            unfold tX11_based
            apply t_Q
            · apply t_S
              refine x_iload_n rfl ?_
              exact rfl
            apply t_Q
            · apply t_Ks
              · apply t_Q
                · apply t_K
                  apply t_Q
                  · apply t_B
                    · exact rfl
                    exact t_if_lt_f (by omega)
                  apply t_Q
                  · apply t_B
                    · refine x_iload_n rfl ?_
                      refine x_bipush ?_
                      exact rfl
                    exact t_ic_gt_f (by omega)
                  apply t_Qs
                  apply t_B
                  · refine x_iload rfl ?_
                    exact rfl
                  exact t_if_lt_t (by omega)
                apply t_S
                refine x_iconst ?_
                exact rfl
              · decide
            apply t_Q
            · apply t_S
              refine x_istore rfl ?_
              refine x_iload_n rfl ?_
              refine x_S1i (by decide) (Nat.le_of_ble_eq_true rfl) (ret_t (show 0 < (q : Int) ∧ (q : Int) < 64 by omega) (s11_isSet (d := d) (by omega))) ?_
              exact rfl
            apply t_Qs
            apply t_Ks
            · apply t_Q
              · apply t_Ks
                · apply t_Q
                  · apply t_B
                    · exact rfl
                    exact t_if_eq_f (by omega)
                  apply t_Q
                  · apply t_B
                    · refine x_iload_n rfl ?_
                      exact rfl
                    exact t_if_lt_f (by omega)
                  apply t_B
                  · refine x_iload rfl ?_
                    exact rfl
                  exact t_if_ne_f (by omega)
                · decide
              apply t_B
              · refine x_aload_n rfl ?_
                refine x_V1i tg_3 (Nat.le_of_ble_eq_true rfl) (s11_bad (d := d) hF) ?_
                exact rfl
              exact t_ireq (Or.inl rfl) rfl rfl
            · decide
        · skip
          apply Exists.intro
          unfold tX11_based
          apply t_Q
          · apply t_S
            refine x_iload_n rfl ?_
            exact rfl
          apply t_Q
          · apply t_Ks
            · apply t_Q
              · apply t_K
                apply t_Q
                · apply t_B
                  · exact rfl
                  exact t_if_lt_f (by omega)
                apply t_Qs
                apply t_B
                · refine x_iload_n rfl ?_
                  refine x_bipush ?_
                  exact rfl
                exact t_ic_gt_t (by omega)
              apply t_S
              refine x_iconst ?_
              exact rfl
            · decide
          apply t_Q
          · apply t_S
            refine x_istore rfl ?_
            refine x_iload_n rfl ?_
            refine x_S1i (by decide) (Nat.le_of_ble_eq_true rfl) (ret_t (show 0 < (q : Int) ∧ (q : Int) < 64 by omega) (s11_isSet (d := d) (by omega))) ?_
            exact rfl
          apply t_Qs
          apply t_Ks
          · apply t_Q
            · apply t_Ks
              · apply t_Q
                · apply t_B
                  · exact rfl
                  exact t_if_eq_f (by omega)
                apply t_Q
                · apply t_B
                  · refine x_iload_n rfl ?_
                    exact rfl
                  exact t_if_lt_f (by omega)
                apply t_B
                · refine x_iload rfl ?_
                  exact rfl
                exact t_if_ne_f (by omega)
              · decide
            apply t_B
            · refine x_aload_n rfl ?_
              refine x_V1i tg_3 (Nat.le_of_ble_eq_true rfl) (s11_bad (d := d) hF) ?_
              exact rfl
            exact t_ireq (Or.inl rfl) rfl rfl
          · decide
      · skip
        apply Exists.intro
        unfold tX11_based
        apply t_Q
        · apply t_S
          refine x_iload_n rfl ?_
          exact rfl
        apply t_Q
        · apply t_Ks
          · apply t_Q
            · apply t_K
              apply t_Qs
              apply t_B
              · exact rfl
              exact t_if_lt_t (by omega)
            apply t_S
            refine x_iconst ?_
            exact rfl
          · decide
        apply t_Q
        · apply t_S
          refine x_istore rfl ?_
          refine x_iload_n rfl ?_
          refine x_S1i (by decide) (Nat.le_of_ble_eq_true rfl) (ret_t (show 0 < (q : Int) ∧ (q : Int) < 64 by omega) (s11_isSet (d := d) (by omega))) ?_
          exact rfl
        apply t_Qs
        apply t_Ks
        · apply t_Q
          · apply t_Ks
            · apply t_Q
              · apply t_B
                · exact rfl
                exact t_if_eq_f (by omega)
              apply t_Q
              · apply t_B
                · refine x_iload_n rfl ?_
                  exact rfl
                exact t_if_lt_f (by omega)
              apply t_B
              · refine x_iload rfl ?_
                exact rfl
              exact t_if_ne_f (by omega)
            · decide
          apply t_B
          · refine x_aload_n rfl ?_
            refine x_V1i tg_3 (Nat.le_of_ble_eq_true rfl) (s11_bad (d := d) hF) ?_
            exact rfl
          exact t_ireq (Or.inl rfl) rfl rfl
        · decide
set_option maxRecDepth 10000 in
theorem s11_based_no {d L : Nat} {I : Nat → Nat → Int} {R : Nat → Nat → Option Nat} {u : Int64} (hF : FixR R) (hB : Tbc I) (hS : Sn I) {q : Int} (hq : 0 < q ∧ q < 64) (hH : ¬ Hsb I q 6) {k i j : Int} (hk : 0 ≤ k ∧ inR k) (hw : 0 ≤ i ∧ i ≤ 15 ∧ 0 ≤ j ∧ j ≤ 15) : am_run am_tb (d + 4) 109 [vR 3, vI q, vI k, vI i, vI j] (LH L I R u) = some ([vI (-20003)], LH L (rc I 1) R u) := by
  refine run_of tb_X11_based (Nat.le_of_ble_eq_true rfl) ?_
  show ∃ ls', am_ev (am_run am_tb (d + 3)) tX11_based ([vR 3, vI q, vI k, vI i, vI j, vU, vU], [], (LH L I R u)) = some (1, ls', [vI (-20003)], LH L (rc I 1) R u)
  apply Exists.intro
  unfold tX11_based
  apply t_Q
  · apply t_S
    refine x_iload_n rfl ?_
    exact rfl
  apply t_Q
  · apply t_K
    apply t_Qs
    apply t_Ks
    · apply t_Q
      · apply t_B
        · exact rfl
        exact t_if_lt_f (by omega)
      apply t_Q
      · apply t_B
        · refine x_iload_n rfl ?_
          refine x_bipush ?_
          exact rfl
        exact t_ic_gt_f (by omega)
      apply t_Q
      · apply t_B
        · refine x_iload rfl ?_
          exact rfl
        exact t_if_lt_f (by omega)
      apply t_Q
      · apply t_B
        · refine x_iload rfl ?_
          refine x_bipush ?_
          exact rfl
        exact t_ic_gt_f (by omega)
      apply t_B
      · refine x_iconst ?_
        exact rfl
      exact t_goto
    · decide
  apply t_Q
  · apply t_S
    refine x_istore rfl ?_
    refine x_iload_n rfl ?_
    refine x_S1i (by decide) (Nat.le_of_ble_eq_true rfl) (ret_t (show 0 < (q : Int) ∧ (q : Int) < 64 by omega) (s11_isSet (d := d + 2) (by omega))) ?_
    exact rfl
  apply t_Q
  · apply t_K
    apply t_Qs
    apply t_Ks
    · apply t_Q
      · apply t_B
        · exact rfl
        exact t_if_eq_f (by omega)
      apply t_Q
      · apply t_B
        · refine x_iload_n rfl ?_
          exact rfl
        exact t_if_lt_f (by omega)
      apply t_B
      · refine x_iload rfl ?_
        exact rfl
      exact t_if_ne_t (by omega)
    · decide
  apply t_Q
  · apply t_S
    refine x_aload_n rfl ?_
    refine x_iload_n rfl ?_
    refine x_V2i tg_3 (Nat.le_of_ble_eq_true rfl) (s11_has_n (d := d) hF hB hS hq hH) ?_
    exact rfl
  apply t_Qs
  apply t_Ks
  · apply t_Q
    · apply t_B
      · exact rfl
      exact t_if_ne_f (by omega)
    apply t_B
    · refine x_aload_n rfl ?_
      refine x_V1i tg_3 (Nat.le_of_ble_eq_true rfl) (s11_no (d := d + 2) hF) ?_
      exact rfl
    exact t_ireq (Or.inl rfl) rfl rfl
  · decide
set_option maxRecDepth 10000 in
theorem s11_based_ok {d L : Nat} {I : Nat → Nat → Int} {R : Nat → Nat → Option Nat} {u : Int64} (hF : FixR R) (hB : Tbc I) (hS : Sn I) {q : Int} (hq : 0 < q ∧ q < 64) (hH : Hsb I q 6) {a : Nat} {J : Nat → Nat → Int} {R' : Nat → Nat → Option Nat} (hf : am_run am_tb (d + 8) 25 [vR 165, vR 4, vI q] (LH L I R u) = some ([vR a], LH L J R' u)) (ha : Bax R' a) {n : Nat} {lw' : Nat → Nat} {G : Nat → Nat → Int} (hA : Bac J a n lw' G) {k i j : Int} (hk0 : 0 ≤ k ∧ inR k) (hw : 0 ≤ i ∧ i ≤ 15 ∧ 0 ≤ j ∧ j ≤ 15) : am_run am_tb (d + 9) 109 [vR 3, vI q, vI k, vI i, vI j] (LH L I R u) = some ([vI (if k < n then tl (if 0 ≤ i ∧ 0 ≤ j ∧ i ≤ 12 ∧ j ≤ 12 ∧ i + j ≤ 12 then G k.toNat (pl i.toNat j.toNat) else 0) else 0)], LH L J R' u) := by
  refine run_of tb_X11_based (Nat.le_of_ble_eq_true rfl) ?_
  show ∃ ls', am_ev (am_run am_tb (d + 8)) tX11_based ([vR 3, vI q, vI k, vI i, vI j, vU, vU], [], (LH L I R u)) = some (1, ls', [vI (if k < n then tl (if 0 ≤ i ∧ 0 ≤ j ∧ i ≤ 12 ∧ j ≤ 12 ∧ i + j ≤ 12 then G k.toNat (pl i.toNat j.toNat) else 0) else 0)], LH L J R' u)
  have hn4 := hA.2.1
  by_cases c : k < n
  · obtain ⟨e, ek⟩ : ∃ e : Nat, k = (e : Nat) := ⟨k.toNat, by omega⟩
    subst ek
    have hk : e < 4 := by have := hA.2.1; omega
    have hop := ha.2.2.2.2.2.2.2.2.2.2 e hk
    have hG := hA.2.2 e (by omega)
    have hcf := s6_coefficient (d := d + 5) (L := L) (I := J) (R := R') (u := u) hop.2 (i := i) (j := j) (by omega) (by omega)
    have eq : (if 0 ≤ i ∧ 0 ≤ j ∧ i ≤ 12 ∧ j ≤ 12 ∧ i + j ≤ 12 then J (a + 6 + 2 * e) (pl i.toNat j.toNat) else 0) = if 0 ≤ i ∧ 0 ≤ j ∧ i ≤ 12 ∧ j ≤ 12 ∧ i + j ≤ 12 then G e (pl i.toNat j.toNat) else 0 := by
      split
      · exact hG.2.2.2.2 _ (pl_91 (by omega))
      · rfl
    rw [eq] at hcf
    have hb : inR (if 0 ≤ i ∧ 0 ≤ j ∧ i ≤ 12 ∧ j ≤ 12 ∧ i + j ≤ 12 then G e (pl i.toNat j.toNat) else 0) := by
      split
      · have := hG.2.2.2.1.1 (pl i.toNat j.toNat) (by have := pl_91 (i := i.toNat) (j := j.toNat) (by omega); omega)
        omega
      · omega
    rw [if_pos c, show (((e : Nat) : Int)).toNat = e from Int.toNat_natCast e]
    apply Exists.intro
    unfold tX11_based
    apply t_Q
    · apply t_S
      refine x_iload_n rfl ?_
      exact rfl
    apply t_Q
    · apply t_K
      apply t_Qs
      apply t_Ks
      · apply t_Q
        · apply t_B
          · exact rfl
          exact t_if_lt_f (by omega)
        apply t_Q
        · apply t_B
          · refine x_iload_n rfl ?_
            refine x_bipush ?_
            exact rfl
          exact t_ic_gt_f (by omega)
        apply t_Q
        · apply t_B
          · refine x_iload rfl ?_
            exact rfl
          exact t_if_lt_f (by omega)
        apply t_Q
        · apply t_B
          · refine x_iload rfl ?_
            refine x_bipush ?_
            exact rfl
          exact t_ic_gt_f (by omega)
        apply t_B
        · refine x_iconst ?_
          exact rfl
        exact t_goto
      · decide
    apply t_Q
    · apply t_S
      refine x_istore rfl ?_
      refine x_iload_n rfl ?_
      refine x_S1i (by decide) (Nat.le_of_ble_eq_true rfl) (ret_t (show 0 < (q : Int) ∧ (q : Int) < 64 by omega) (s11_isSet (d := d + 7) (by omega))) ?_
      exact rfl
    apply t_Q
    · apply t_K
      apply t_Qs
      apply t_Ks
      · apply t_Q
        · apply t_B
          · exact rfl
          exact t_if_eq_f (by omega)
        apply t_Q
        · apply t_B
          · refine x_iload_n rfl ?_
            exact rfl
          exact t_if_lt_f (by omega)
        apply t_B
        · refine x_iload rfl ?_
          exact rfl
        exact t_if_ne_t (by omega)
      · decide
    apply t_Q
    · apply t_S
      refine x_aload_n rfl ?_
      refine x_iload_n rfl ?_
      refine x_V2i tg_3 (Nat.le_of_ble_eq_true rfl) (s11_has_y (d := d + 5) hF hB hS hq hH) ?_
      exact rfl
    apply t_Q
    · apply t_K
      apply t_Qs
      apply t_B
      · exact rfl
      exact t_if_ne_t (by omega)
    apply t_Q
    · apply t_S
      refine x_aload_n rfl ?_
      refine x_gr tg_3 rfl (fx_3_5 hF) ?_
      refine x_aload_n rfl ?_
      refine x_gr tg_3 rfl (fx_3_0 hF) ?_
      refine x_iload_n rfl ?_
      refine x_V3i tg_165 (Nat.le_of_ble_eq_true rfl) (hf) ?_
      refine x_astore rfl ?_
      refine x_iload_n rfl ?_
      refine x_aload rfl ?_
      refine x_giv ha.2.1 rfl (show _ = ((n : Nat) : Int) from hA.1) ?_
      exact rfl
    apply t_Q
    · apply t_K
      apply t_Qs
      apply t_Ks
      · apply t_Q
        · apply t_B
          · exact rfl
          exact t_ic_ge_f (by omega)
        apply t_B
        · refine x_aload rfl ?_
          refine x_gr ha.2.1 rfl ha.2.2.2.2.2.2.1 ?_
          refine x_iload_n rfl ?_
          refine x_aald (by rw [ha.2.2.1.1]; decide) (ha.2.2.1.2 L) (by omega) hop.1 ?_
          refine x_iload_n rfl ?_
          refine x_iload rfl ?_
          refine x_V3i hop.2.1 (Nat.le_of_ble_eq_true rfl) (hcf) ?_
          refine x_S1i (by decide) (Nat.le_of_ble_eq_true rfl) (s1_balanced (d := d + 7) hb) ?_
          exact rfl
        exact t_goto
      · decide
    apply t_B
    · exact rfl
    exact t_ireq (Or.inl rfl) rfl rfl
  · rw [if_neg c]
    apply Exists.intro
    unfold tX11_based
    apply t_Q
    · apply t_S
      refine x_iload_n rfl ?_
      exact rfl
    apply t_Q
    · apply t_K
      apply t_Qs
      apply t_Ks
      · apply t_Q
        · apply t_B
          · exact rfl
          exact t_if_lt_f (by omega)
        apply t_Q
        · apply t_B
          · refine x_iload_n rfl ?_
            refine x_bipush ?_
            exact rfl
          exact t_ic_gt_f (by omega)
        apply t_Q
        · apply t_B
          · refine x_iload rfl ?_
            exact rfl
          exact t_if_lt_f (by omega)
        apply t_Q
        · apply t_B
          · refine x_iload rfl ?_
            refine x_bipush ?_
            exact rfl
          exact t_ic_gt_f (by omega)
        apply t_B
        · refine x_iconst ?_
          exact rfl
        exact t_goto
      · decide
    apply t_Q
    · apply t_S
      refine x_istore rfl ?_
      refine x_iload_n rfl ?_
      refine x_S1i (by decide) (Nat.le_of_ble_eq_true rfl) (ret_t (show 0 < (q : Int) ∧ (q : Int) < 64 by omega) (s11_isSet (d := d + 7) (by omega))) ?_
      exact rfl
    apply t_Q
    · apply t_K
      apply t_Qs
      apply t_Ks
      · apply t_Q
        · apply t_B
          · exact rfl
          exact t_if_eq_f (by omega)
        apply t_Q
        · apply t_B
          · refine x_iload_n rfl ?_
            exact rfl
          exact t_if_lt_f (by omega)
        apply t_B
        · refine x_iload rfl ?_
          exact rfl
        exact t_if_ne_t (by omega)
      · decide
    apply t_Q
    · apply t_S
      refine x_aload_n rfl ?_
      refine x_iload_n rfl ?_
      refine x_V2i tg_3 (Nat.le_of_ble_eq_true rfl) (s11_has_y (d := d + 5) hF hB hS hq hH) ?_
      exact rfl
    apply t_Q
    · apply t_K
      apply t_Qs
      apply t_B
      · exact rfl
      exact t_if_ne_t (by omega)
    apply t_Q
    · apply t_S
      refine x_aload_n rfl ?_
      refine x_gr tg_3 rfl (fx_3_5 hF) ?_
      refine x_aload_n rfl ?_
      refine x_gr tg_3 rfl (fx_3_0 hF) ?_
      refine x_iload_n rfl ?_
      refine x_V3i tg_165 (Nat.le_of_ble_eq_true rfl) (hf) ?_
      refine x_astore rfl ?_
      refine x_iload_n rfl ?_
      refine x_aload rfl ?_
      refine x_giv ha.2.1 rfl (show _ = ((n : Nat) : Int) from hA.1) ?_
      exact rfl
    apply t_Q
    · apply t_Ks
      · apply t_Q
        · apply t_K
          apply t_Qs
          apply t_B
          · exact rfl
          exact t_ic_ge_t (by omega)
        apply t_S
        refine x_iconst ?_
        exact rfl
      · decide
    apply t_B
    · exact rfl
    exact t_ireq (Or.inl rfl) rfl rfl
